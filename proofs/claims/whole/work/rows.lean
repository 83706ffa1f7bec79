section
-- ===== PART A: goes FIRST, ahead of the names: the tables' words, and 'selects' of the private methods out of them =====
/-- a private method of a class that the tables say can be made, by its rows of tables_1 -/
def lw_okq (q : MethodName × Nat) : Prop := (q.1.cls ≠ "java/lang/invoke/MethodHandle" ∧ q.1.cls ≠ "java/lang/invoke/VarHandle") ∧ Cond.instantiable q.1.cls q.2 ∈ tables_1 ∧ Cond.privateMethod q.1 ∈ tables_1 ∧ Cond.instanceMethod q.1 ∈ tables_1
theorem lw_p0 : lw_okq (⟨"PeriodSlots$Text", "byteAt", "(I)I"⟩, 2) := ⟨⟨by decide +kernel, by decide +kernel⟩, List.mem_of_getElem? (i := 22) (by decide +kernel), List.mem_of_getElem? (i := 230) (by decide +kernel), List.mem_of_getElem? (i := 231) (by decide +kernel)⟩
theorem lw_p1 : lw_okq (⟨"PeriodSlots$Text", "readStation", "(ILPeriodSlots$Mesh;)I"⟩, 2) := ⟨⟨by decide +kernel, by decide +kernel⟩, List.mem_of_getElem? (i := 22) (by decide +kernel), List.mem_of_getElem? (i := 234) (by decide +kernel), List.mem_of_getElem? (i := 235) (by decide +kernel)⟩
theorem lw_p2 : lw_okq (⟨"PeriodSlots$Mesh", "neighboursOf", "(I)I"⟩, 14) := ⟨⟨by decide +kernel, by decide +kernel⟩, List.mem_of_getElem? (i := 37) (by decide +kernel), List.mem_of_getElem? (i := 265) (by decide +kernel), List.mem_of_getElem? (i := 266) (by decide +kernel)⟩
theorem lw_p3 : lw_okq (⟨"PeriodSlots$Mesh", "rank", "()V"⟩, 14) := ⟨⟨by decide +kernel, by decide +kernel⟩, List.mem_of_getElem? (i := 37) (by decide +kernel), List.mem_of_getElem? (i := 272) (by decide +kernel), List.mem_of_getElem? (i := 273) (by decide +kernel)⟩
theorem lw_p4 : lw_okq (⟨"PeriodSlots$Mesh", "priority", "(I)I"⟩, 14) := ⟨⟨by decide +kernel, by decide +kernel⟩, List.mem_of_getElem? (i := 37) (by decide +kernel), List.mem_of_getElem? (i := 276) (by decide +kernel), List.mem_of_getElem? (i := 277) (by decide +kernel)⟩
theorem lw_p5 : lw_okq (⟨"PeriodSlots$Mesh", "stationsAbove", "(I)I"⟩, 14) := ⟨⟨by decide +kernel, by decide +kernel⟩, List.mem_of_getElem? (i := 37) (by decide +kernel), List.mem_of_getElem? (i := 284) (by decide +kernel), List.mem_of_getElem? (i := 285) (by decide +kernel)⟩
theorem lw_p6 : lw_okq (⟨"PeriodSlots$Text", "readLink", "(ILPeriodSlots$Mesh;)I"⟩, 2) := ⟨⟨by decide +kernel, by decide +kernel⟩, List.mem_of_getElem? (i := 22) (by decide +kernel), List.mem_of_getElem? (i := 302) (by decide +kernel), List.mem_of_getElem? (i := 303) (by decide +kernel)⟩
theorem lw_p7 : lw_okq (⟨"PeriodSlots$Mesh", "occupiedByAny", "(I)I"⟩, 14) := ⟨⟨by decide +kernel, by decide +kernel⟩, List.mem_of_getElem? (i := 37) (by decide +kernel), List.mem_of_getElem? (i := 354) (by decide +kernel), List.mem_of_getElem? (i := 355) (by decide +kernel)⟩
theorem lw_p8 : lw_okq (⟨"PeriodSlots$Mesh", "moveToNext", "(I)I"⟩, 14) := ⟨⟨by decide +kernel, by decide +kernel⟩, List.mem_of_getElem? (i := 37) (by decide +kernel), List.mem_of_getElem? (i := 424) (by decide +kernel), List.mem_of_getElem? (i := 425) (by decide +kernel)⟩
theorem lw_p9 : lw_okq (⟨"PeriodSlots", "bestDistance", "(I)I"⟩, 10) := ⟨⟨by decide +kernel, by decide +kernel⟩, List.mem_of_getElem? (i := 14) (by decide +kernel), List.mem_of_getElem? (i := 472) (by decide +kernel), List.mem_of_getElem? (i := 473) (by decide +kernel)⟩
theorem lw_p10 : lw_okq (⟨"PeriodSlots", "conflictsAfter", "(II)I"⟩, 10) := ⟨⟨by decide +kernel, by decide +kernel⟩, List.mem_of_getElem? (i := 14) (by decide +kernel), List.mem_of_getElem? (i := 476) (by decide +kernel), List.mem_of_getElem? (i := 477) (by decide +kernel)⟩
theorem lw_p11 : lw_okq (⟨"PeriodSlots$Mesh", "heardBy", "(II)I"⟩, 14) := ⟨⟨by decide +kernel, by decide +kernel⟩, List.mem_of_getElem? (i := 37) (by decide +kernel), List.mem_of_getElem? (i := 563) (by decide +kernel), List.mem_of_getElem? (i := 564) (by decide +kernel)⟩
theorem lw_p12 : lw_okq (⟨"PeriodSlots", "isTrue", "(I)Z"⟩, 10) := ⟨⟨by decide +kernel, by decide +kernel⟩, List.mem_of_getElem? (i := 14) (by decide +kernel), List.mem_of_getElem? (i := 584) (by decide +kernel), List.mem_of_getElem? (i := 585) (by decide +kernel)⟩
theorem lw_p13 : lw_okq (⟨"PeriodSlots", "turnsDraft", "(II)Z"⟩, 10) := ⟨⟨by decide +kernel, by decide +kernel⟩, List.mem_of_getElem? (i := 14) (by decide +kernel), List.mem_of_getElem? (i := 588) (by decide +kernel), List.mem_of_getElem? (i := 589) (by decide +kernel)⟩
theorem lw_p14 : lw_okq (⟨"PeriodSlots", "laysDraft", "(II)Z"⟩, 10) := ⟨⟨by decide +kernel, by decide +kernel⟩, List.mem_of_getElem? (i := 14) (by decide +kernel), List.mem_of_getElem? (i := 592) (by decide +kernel), List.mem_of_getElem? (i := 593) (by decide +kernel)⟩
theorem lw_p15 : lw_okq (⟨"PeriodSlots", "shiftsDraft", "(II)Z"⟩, 10) := ⟨⟨by decide +kernel, by decide +kernel⟩, List.mem_of_getElem? (i := 14) (by decide +kernel), List.mem_of_getElem? (i := 596) (by decide +kernel), List.mem_of_getElem? (i := 597) (by decide +kernel)⟩
def lw_privs_1 : List (MethodName × Nat) := [(⟨"PeriodSlots$Text", "byteAt", "(I)I"⟩, 2), (⟨"PeriodSlots$Text", "readStation", "(ILPeriodSlots$Mesh;)I"⟩, 2), (⟨"PeriodSlots$Mesh", "neighboursOf", "(I)I"⟩, 14), (⟨"PeriodSlots$Mesh", "rank", "()V"⟩, 14), (⟨"PeriodSlots$Mesh", "priority", "(I)I"⟩, 14), (⟨"PeriodSlots$Mesh", "stationsAbove", "(I)I"⟩, 14), (⟨"PeriodSlots$Text", "readLink", "(ILPeriodSlots$Mesh;)I"⟩, 2), (⟨"PeriodSlots$Mesh", "occupiedByAny", "(I)I"⟩, 14), (⟨"PeriodSlots$Mesh", "moveToNext", "(I)I"⟩, 14), (⟨"PeriodSlots", "bestDistance", "(I)I"⟩, 10), (⟨"PeriodSlots", "conflictsAfter", "(II)I"⟩, 10), (⟨"PeriodSlots$Mesh", "heardBy", "(II)I"⟩, 14), (⟨"PeriodSlots", "isTrue", "(I)Z"⟩, 10), (⟨"PeriodSlots", "turnsDraft", "(II)Z"⟩, 10), (⟨"PeriodSlots", "laysDraft", "(II)Z"⟩, 10), (⟨"PeriodSlots", "shiftsDraft", "(II)Z"⟩, 10)]
theorem lw_r1 : ∀ q ∈ lw_privs_1, lw_okq q := List.forall_mem_cons.mpr ⟨lw_p0, List.forall_mem_cons.mpr ⟨lw_p1, List.forall_mem_cons.mpr ⟨lw_p2, List.forall_mem_cons.mpr ⟨lw_p3, List.forall_mem_cons.mpr ⟨lw_p4, List.forall_mem_cons.mpr ⟨lw_p5, List.forall_mem_cons.mpr ⟨lw_p6, List.forall_mem_cons.mpr ⟨lw_p7, List.forall_mem_cons.mpr ⟨lw_p8, List.forall_mem_cons.mpr ⟨lw_p9, List.forall_mem_cons.mpr ⟨lw_p10, List.forall_mem_cons.mpr ⟨lw_p11, List.forall_mem_cons.mpr ⟨lw_p12, List.forall_mem_cons.mpr ⟨lw_p13, List.forall_mem_cons.mpr ⟨lw_p14, List.forall_mem_cons.mpr ⟨lw_p15, fun _ h => absurd h List.not_mem_nil⟩⟩⟩⟩⟩⟩⟩⟩⟩⟩⟩⟩⟩⟩⟩⟩
theorem lw_p16 : lw_okq (⟨"PeriodSlots", "advancesDraft", "()Z"⟩, 10) := ⟨⟨by decide +kernel, by decide +kernel⟩, List.mem_of_getElem? (i := 14) (by decide +kernel), List.mem_of_getElem? (i := 600) (by decide +kernel), List.mem_of_getElem? (i := 601) (by decide +kernel)⟩
theorem lw_p17 : lw_okq (⟨"PeriodSlots", "ordersCounting", "(II)I"⟩, 10) := ⟨⟨by decide +kernel, by decide +kernel⟩, List.mem_of_getElem? (i := 14) (by decide +kernel), List.mem_of_getElem? (i := 635) (by decide +kernel), List.mem_of_getElem? (i := 636) (by decide +kernel)⟩
theorem lw_p18 : lw_okq (⟨"PeriodSlots", "placedIfOnly", "(I)I"⟩, 10) := ⟨⟨by decide +kernel, by decide +kernel⟩, List.mem_of_getElem? (i := 14) (by decide +kernel), List.mem_of_getElem? (i := 642) (by decide +kernel), List.mem_of_getElem? (i := 643) (by decide +kernel)⟩
theorem lw_p19 : lw_okq (⟨"PeriodSlots", "drawOffsets", "()V"⟩, 10) := ⟨⟨by decide +kernel, by decide +kernel⟩, List.mem_of_getElem? (i := 14) (by decide +kernel), List.mem_of_getElem? (i := 674) (by decide +kernel), List.mem_of_getElem? (i := 675) (by decide +kernel)⟩
theorem lw_p20 : lw_okq (⟨"PeriodSlotsModel", "readText", "()I"⟩, 32) := ⟨⟨by decide +kernel, by decide +kernel⟩, List.mem_of_getElem? (i := 692) (by decide +kernel), List.mem_of_getElem? (i := 815) (by decide +kernel), List.mem_of_getElem? (i := 816) (by decide +kernel)⟩
theorem lw_p21 : lw_okq (⟨"PeriodSlotsModel", "takeSign", "(I)Z"⟩, 32) := ⟨⟨by decide +kernel, by decide +kernel⟩, List.mem_of_getElem? (i := 692) (by decide +kernel), List.mem_of_getElem? (i := 819) (by decide +kernel), List.mem_of_getElem? (i := 820) (by decide +kernel)⟩
theorem lw_p22 : lw_okq (⟨"PeriodSlotsModel", "hasRoom", "(I)Z"⟩, 32) := ⟨⟨by decide +kernel, by decide +kernel⟩, List.mem_of_getElem? (i := 692) (by decide +kernel), List.mem_of_getElem? (i := 823) (by decide +kernel), List.mem_of_getElem? (i := 824) (by decide +kernel)⟩
theorem lw_p23 : lw_okq (⟨"PeriodSlotsModel", "takeOfStation", "(I)Z"⟩, 32) := ⟨⟨by decide +kernel, by decide +kernel⟩, List.mem_of_getElem? (i := 692) (by decide +kernel), List.mem_of_getElem? (i := 827) (by decide +kernel), List.mem_of_getElem? (i := 828) (by decide +kernel)⟩
theorem lw_p24 : lw_okq (⟨"PeriodSlotsModel", "takeOfLink", "(I)Z"⟩, 32) := ⟨⟨by decide +kernel, by decide +kernel⟩, List.mem_of_getElem? (i := 692) (by decide +kernel), List.mem_of_getElem? (i := 834) (by decide +kernel), List.mem_of_getElem? (i := 835) (by decide +kernel)⟩
theorem lw_p25 : lw_okq (⟨"PeriodSlotsModel", "all", "()I"⟩, 32) := ⟨⟨by decide +kernel, by decide +kernel⟩, List.mem_of_getElem? (i := 692) (by decide +kernel), List.mem_of_getElem? (i := 849) (by decide +kernel), List.mem_of_getElem? (i := 850) (by decide +kernel)⟩
theorem lw_p26 : lw_okq (⟨"PeriodSlotsModel", "layNear", "([II)V"⟩, 32) := ⟨⟨by decide +kernel, by decide +kernel⟩, List.mem_of_getElem? (i := 692) (by decide +kernel), List.mem_of_getElem? (i := 853) (by decide +kernel), List.mem_of_getElem? (i := 854) (by decide +kernel)⟩
theorem lw_p27 : lw_okq (⟨"PeriodSlotsModel", "neighbours", "([II)I"⟩, 32) := ⟨⟨by decide +kernel, by decide +kernel⟩, List.mem_of_getElem? (i := 692) (by decide +kernel), List.mem_of_getElem? (i := 857) (by decide +kernel), List.mem_of_getElem? (i := 858) (by decide +kernel)⟩
theorem lw_p28 : lw_okq (⟨"PeriodSlotsModel", "links", "()I"⟩, 32) := ⟨⟨by decide +kernel, by decide +kernel⟩, List.mem_of_getElem? (i := 692) (by decide +kernel), List.mem_of_getElem? (i := 861) (by decide +kernel), List.mem_of_getElem? (i := 862) (by decide +kernel)⟩
theorem lw_p29 : lw_okq (⟨"PeriodSlotsModel", "clashes", "([I)I"⟩, 32) := ⟨⟨by decide +kernel, by decide +kernel⟩, List.mem_of_getElem? (i := 692) (by decide +kernel), List.mem_of_getElem? (i := 868) (by decide +kernel), List.mem_of_getElem? (i := 869) (by decide +kernel)⟩
theorem lw_p30 : lw_okq (⟨"PeriodSlotsModel", "ticks", "([II)I"⟩, 32) := ⟨⟨by decide +kernel, by decide +kernel⟩, List.mem_of_getElem? (i := 692) (by decide +kernel), List.mem_of_getElem? (i := 872) (by decide +kernel), List.mem_of_getElem? (i := 873) (by decide +kernel)⟩
theorem lw_p31 : lw_okq (⟨"PeriodSlotsModel", "unsettled", "([I)I"⟩, 32) := ⟨⟨by decide +kernel, by decide +kernel⟩, List.mem_of_getElem? (i := 692) (by decide +kernel), List.mem_of_getElem? (i := 879) (by decide +kernel), List.mem_of_getElem? (i := 880) (by decide +kernel)⟩
def lw_privs_2 : List (MethodName × Nat) := [(⟨"PeriodSlots", "advancesDraft", "()Z"⟩, 10), (⟨"PeriodSlots", "ordersCounting", "(II)I"⟩, 10), (⟨"PeriodSlots", "placedIfOnly", "(I)I"⟩, 10), (⟨"PeriodSlots", "drawOffsets", "()V"⟩, 10), (⟨"PeriodSlotsModel", "readText", "()I"⟩, 32), (⟨"PeriodSlotsModel", "takeSign", "(I)Z"⟩, 32), (⟨"PeriodSlotsModel", "hasRoom", "(I)Z"⟩, 32), (⟨"PeriodSlotsModel", "takeOfStation", "(I)Z"⟩, 32), (⟨"PeriodSlotsModel", "takeOfLink", "(I)Z"⟩, 32), (⟨"PeriodSlotsModel", "all", "()I"⟩, 32), (⟨"PeriodSlotsModel", "layNear", "([II)V"⟩, 32), (⟨"PeriodSlotsModel", "neighbours", "([II)I"⟩, 32), (⟨"PeriodSlotsModel", "links", "()I"⟩, 32), (⟨"PeriodSlotsModel", "clashes", "([I)I"⟩, 32), (⟨"PeriodSlotsModel", "ticks", "([II)I"⟩, 32), (⟨"PeriodSlotsModel", "unsettled", "([I)I"⟩, 32)]
theorem lw_r2 : ∀ q ∈ lw_privs_2, lw_okq q := List.forall_mem_cons.mpr ⟨lw_p16, List.forall_mem_cons.mpr ⟨lw_p17, List.forall_mem_cons.mpr ⟨lw_p18, List.forall_mem_cons.mpr ⟨lw_p19, List.forall_mem_cons.mpr ⟨lw_p20, List.forall_mem_cons.mpr ⟨lw_p21, List.forall_mem_cons.mpr ⟨lw_p22, List.forall_mem_cons.mpr ⟨lw_p23, List.forall_mem_cons.mpr ⟨lw_p24, List.forall_mem_cons.mpr ⟨lw_p25, List.forall_mem_cons.mpr ⟨lw_p26, List.forall_mem_cons.mpr ⟨lw_p27, List.forall_mem_cons.mpr ⟨lw_p28, List.forall_mem_cons.mpr ⟨lw_p29, List.forall_mem_cons.mpr ⟨lw_p30, List.forall_mem_cons.mpr ⟨lw_p31, fun _ h => absurd h List.not_mem_nil⟩⟩⟩⟩⟩⟩⟩⟩⟩⟩⟩⟩⟩⟩⟩⟩
theorem lw_p32 : lw_okq (⟨"PeriodSlotsModel", "isUnsettled", "([II)Z"⟩, 32) := ⟨⟨by decide +kernel, by decide +kernel⟩, List.mem_of_getElem? (i := 692) (by decide +kernel), List.mem_of_getElem? (i := 883) (by decide +kernel), List.mem_of_getElem? (i := 884) (by decide +kernel)⟩
theorem lw_p33 : lw_okq (⟨"PeriodSlotsModel", "heldNear", "([IIZ)I"⟩, 32) := ⟨⟨by decide +kernel, by decide +kernel⟩, List.mem_of_getElem? (i := 692) (by decide +kernel), List.mem_of_getElem? (i := 887) (by decide +kernel), List.mem_of_getElem? (i := 888) (by decide +kernel)⟩
theorem lw_p34 : lw_okq (⟨"PeriodSlotsModel", "held", "([II)I"⟩, 32) := ⟨⟨by decide +kernel, by decide +kernel⟩, List.mem_of_getElem? (i := 692) (by decide +kernel), List.mem_of_getElem? (i := 897) (by decide +kernel), List.mem_of_getElem? (i := 898) (by decide +kernel)⟩
theorem lw_p35 : lw_okq (⟨"PeriodSlotsModel", "withOffset", "([I)I"⟩, 32) := ⟨⟨by decide +kernel, by decide +kernel⟩, List.mem_of_getElem? (i := 692) (by decide +kernel), List.mem_of_getElem? (i := 901) (by decide +kernel), List.mem_of_getElem? (i := 902) (by decide +kernel)⟩
theorem lw_p36 : lw_okq (⟨"PeriodSlotsModel", "isQuiet", "([I)Z"⟩, 32) := ⟨⟨by decide +kernel, by decide +kernel⟩, List.mem_of_getElem? (i := 692) (by decide +kernel), List.mem_of_getElem? (i := 905) (by decide +kernel), List.mem_of_getElem? (i := 906) (by decide +kernel)⟩
theorem lw_p37 : lw_okq (⟨"PeriodSlotsModel", "free", "([II)I"⟩, 32) := ⟨⟨by decide +kernel, by decide +kernel⟩, List.mem_of_getElem? (i := 692) (by decide +kernel), List.mem_of_getElem? (i := 909) (by decide +kernel), List.mem_of_getElem? (i := 910) (by decide +kernel)⟩
theorem lw_p38 : lw_okq (⟨"PeriodSlotsModel", "nets", "()I"⟩, 32) := ⟨⟨by decide +kernel, by decide +kernel⟩, List.mem_of_getElem? (i := 692) (by decide +kernel), List.mem_of_getElem? (i := 913) (by decide +kernel), List.mem_of_getElem? (i := 914) (by decide +kernel)⟩
theorem lw_p39 : lw_okq (⟨"PeriodSlotsModel", "netOf", "([II)I"⟩, 32) := ⟨⟨by decide +kernel, by decide +kernel⟩, List.mem_of_getElem? (i := 692) (by decide +kernel), List.mem_of_getElem? (i := 917) (by decide +kernel), List.mem_of_getElem? (i := 918) (by decide +kernel)⟩
theorem lw_p40 : lw_okq (⟨"PeriodSlotsModel", "isStation", "(I)Z"⟩, 32) := ⟨⟨by decide +kernel, by decide +kernel⟩, List.mem_of_getElem? (i := 692) (by decide +kernel), List.mem_of_getElem? (i := 928) (by decide +kernel), List.mem_of_getElem? (i := 929) (by decide +kernel)⟩
theorem lw_p41 : lw_okq (⟨"PeriodSlotsModel", "note", "()V"⟩, 32) := ⟨⟨by decide +kernel, by decide +kernel⟩, List.mem_of_getElem? (i := 692) (by decide +kernel), List.mem_of_getElem? (i := 936) (by decide +kernel), List.mem_of_getElem? (i := 937) (by decide +kernel)⟩
theorem lw_p42 : lw_okq (⟨"PeriodSlotsModel", "roundOf", "([I)I"⟩, 32) := ⟨⟨by decide +kernel, by decide +kernel⟩, List.mem_of_getElem? (i := 692) (by decide +kernel), List.mem_of_getElem? (i := 940) (by decide +kernel), List.mem_of_getElem? (i := 941) (by decide +kernel)⟩
theorem lw_p43 : lw_okq (⟨"PeriodSlotsModel", "isOffset", "(II)Z"⟩, 32) := ⟨⟨by decide +kernel, by decide +kernel⟩, List.mem_of_getElem? (i := 692) (by decide +kernel), List.mem_of_getElem? (i := 958) (by decide +kernel), List.mem_of_getElem? (i := 959) (by decide +kernel)⟩
theorem lw_p44 : lw_okq (⟨"PeriodSlotsModel", "shiftOf", "([III)V"⟩, 32) := ⟨⟨by decide +kernel, by decide +kernel⟩, List.mem_of_getElem? (i := 692) (by decide +kernel), List.mem_of_getElem? (i := 967) (by decide +kernel), List.mem_of_getElem? (i := 968) (by decide +kernel)⟩
theorem lw_p45 : lw_okq (⟨"PeriodSlotsModel", "runOf", "([I)I"⟩, 32) := ⟨⟨by decide +kernel, by decide +kernel⟩, List.mem_of_getElem? (i := 692) (by decide +kernel), List.mem_of_getElem? (i := 982) (by decide +kernel), List.mem_of_getElem? (i := 983) (by decide +kernel)⟩
theorem lw_p46 : lw_okq (⟨"PeriodSlotsModel", "layPlan", "()Z"⟩, 32) := ⟨⟨by decide +kernel, by decide +kernel⟩, List.mem_of_getElem? (i := 692) (by decide +kernel), List.mem_of_getElem? (i := 999) (by decide +kernel), List.mem_of_getElem? (i := 1000) (by decide +kernel)⟩
theorem lw_p47 : lw_okq (⟨"PeriodSlotsModel", "fits", "(I)Z"⟩, 32) := ⟨⟨by decide +kernel, by decide +kernel⟩, List.mem_of_getElem? (i := 692) (by decide +kernel), List.mem_of_getElem? (i := 1003) (by decide +kernel), List.mem_of_getElem? (i := 1004) (by decide +kernel)⟩
def lw_privs_3 : List (MethodName × Nat) := [(⟨"PeriodSlotsModel", "isUnsettled", "([II)Z"⟩, 32), (⟨"PeriodSlotsModel", "heldNear", "([IIZ)I"⟩, 32), (⟨"PeriodSlotsModel", "held", "([II)I"⟩, 32), (⟨"PeriodSlotsModel", "withOffset", "([I)I"⟩, 32), (⟨"PeriodSlotsModel", "isQuiet", "([I)Z"⟩, 32), (⟨"PeriodSlotsModel", "free", "([II)I"⟩, 32), (⟨"PeriodSlotsModel", "nets", "()I"⟩, 32), (⟨"PeriodSlotsModel", "netOf", "([II)I"⟩, 32), (⟨"PeriodSlotsModel", "isStation", "(I)Z"⟩, 32), (⟨"PeriodSlotsModel", "note", "()V"⟩, 32), (⟨"PeriodSlotsModel", "roundOf", "([I)I"⟩, 32), (⟨"PeriodSlotsModel", "isOffset", "(II)Z"⟩, 32), (⟨"PeriodSlotsModel", "shiftOf", "([III)V"⟩, 32), (⟨"PeriodSlotsModel", "runOf", "([I)I"⟩, 32), (⟨"PeriodSlotsModel", "layPlan", "()Z"⟩, 32), (⟨"PeriodSlotsModel", "fits", "(I)Z"⟩, 32)]
theorem lw_r3 : ∀ q ∈ lw_privs_3, lw_okq q := List.forall_mem_cons.mpr ⟨lw_p32, List.forall_mem_cons.mpr ⟨lw_p33, List.forall_mem_cons.mpr ⟨lw_p34, List.forall_mem_cons.mpr ⟨lw_p35, List.forall_mem_cons.mpr ⟨lw_p36, List.forall_mem_cons.mpr ⟨lw_p37, List.forall_mem_cons.mpr ⟨lw_p38, List.forall_mem_cons.mpr ⟨lw_p39, List.forall_mem_cons.mpr ⟨lw_p40, List.forall_mem_cons.mpr ⟨lw_p41, List.forall_mem_cons.mpr ⟨lw_p42, List.forall_mem_cons.mpr ⟨lw_p43, List.forall_mem_cons.mpr ⟨lw_p44, List.forall_mem_cons.mpr ⟨lw_p45, List.forall_mem_cons.mpr ⟨lw_p46, List.forall_mem_cons.mpr ⟨lw_p47, fun _ h => absurd h List.not_mem_nil⟩⟩⟩⟩⟩⟩⟩⟩⟩⟩⟩⟩⟩⟩⟩⟩
theorem lw_p48 : lw_okq (⟨"PeriodSlotsModel", "awakeTicks", "(I)I"⟩, 32) := ⟨⟨by decide +kernel, by decide +kernel⟩, List.mem_of_getElem? (i := 692) (by decide +kernel), List.mem_of_getElem? (i := 1015) (by decide +kernel), List.mem_of_getElem? (i := 1016) (by decide +kernel)⟩
theorem lw_p49 : lw_okq (⟨"PeriodSlotsModel", "heardAt", "(II)I"⟩, 32) := ⟨⟨by decide +kernel, by decide +kernel⟩, List.mem_of_getElem? (i := 692) (by decide +kernel), List.mem_of_getElem? (i := 1019) (by decide +kernel), List.mem_of_getElem? (i := 1020) (by decide +kernel)⟩
theorem lw_p50 : lw_okq (⟨"PeriodSlotsModel", "senders", "([III)I"⟩, 32) := ⟨⟨by decide +kernel, by decide +kernel⟩, List.mem_of_getElem? (i := 692) (by decide +kernel), List.mem_of_getElem? (i := 1023) (by decide +kernel), List.mem_of_getElem? (i := 1024) (by decide +kernel)⟩
theorem lw_p51 : lw_okq (⟨"PeriodSlotsModel", "judged", "(IIII)Z"⟩, 32) := ⟨⟨by decide +kernel, by decide +kernel⟩, List.mem_of_getElem? (i := 692) (by decide +kernel), List.mem_of_getElem? (i := 1040) (by decide +kernel), List.mem_of_getElem? (i := 1041) (by decide +kernel)⟩
theorem lw_p52 : lw_okq (⟨"PeriodSlotsModel", "runWith", "(I)I"⟩, 32) := ⟨⟨by decide +kernel, by decide +kernel⟩, List.mem_of_getElem? (i := 692) (by decide +kernel), List.mem_of_getElem? (i := 1061) (by decide +kernel), List.mem_of_getElem? (i := 1062) (by decide +kernel)⟩
def lw_privs_4 : List (MethodName × Nat) := [(⟨"PeriodSlotsModel", "awakeTicks", "(I)I"⟩, 32), (⟨"PeriodSlotsModel", "heardAt", "(II)I"⟩, 32), (⟨"PeriodSlotsModel", "senders", "([III)I"⟩, 32), (⟨"PeriodSlotsModel", "judged", "(IIII)Z"⟩, 32), (⟨"PeriodSlotsModel", "runWith", "(I)I"⟩, 32)]
theorem lw_r4 : ∀ q ∈ lw_privs_4, lw_okq q := List.forall_mem_cons.mpr ⟨lw_p48, List.forall_mem_cons.mpr ⟨lw_p49, List.forall_mem_cons.mpr ⟨lw_p50, List.forall_mem_cons.mpr ⟨lw_p51, List.forall_mem_cons.mpr ⟨lw_p52, fun _ h => absurd h List.not_mem_nil⟩⟩⟩⟩⟩
def lw_privs : List (MethodName × Nat) := lw_privs_1 ++ (lw_privs_2 ++ (lw_privs_3 ++ (lw_privs_4)))
def lw_tbl : List Cond := k2_sels lw_privs ++ tables_1
theorem lw_privs_ok : ∀ q ∈ lw_privs, lw_okq q := by
  show ∀ q ∈ lw_privs_1 ++ (lw_privs_2 ++ (lw_privs_3 ++ (lw_privs_4))), lw_okq q
  exact List.forall_mem_append.mpr ⟨lw_r1, List.forall_mem_append.mpr ⟨lw_r2, List.forall_mem_append.mpr ⟨lw_r3, lw_r4⟩⟩⟩
-- ===== end of PART A; then your names; then what follows =====
end
section
/-! The fixed world: 71 cells at addresses that are variables, their numbers in two functions: h (ints, by cell and place), g (longs). -/
abbrev zHp : Type := Nat → Nat → Int32
abbrev zLg : Type := Nat → Int64
/-- launch, classes and slots as the tables have them, the classes of int[] and boolean[], the addresses -/
abbrev zXT : Type := Launch × va_G × ClassId × ClassId × (Nat → Nat)
/-- program, env, room, state at the entry, method, arguments, below, method, code, cells and slots made so far -/
abbrev zGT : Type := Program × Env × Room × State × MethodId × Array Value × List Frame × Method × Code × Nat × Nat
abbrev zR (X : zXT) (c : Nat) : Value := .ref (X.2.2.2.2 c)
def zkind : Nat → Nat := fun c => ([6, 5, 8, 1, 8, 8, 8, 8, 8, 8, 8, 8, 8, 8, 8, 1, 8, 8, 8, 8, 8, 8, 8, 8, 8, 8, 8, 1, 8, 8, 8, 8, 8, 8, 8, 8, 8, 8, 8, 3, 8, 0, 4, 8, 4, 8, 2, 8, 8, 8, 8, 7, 8, 8, 8, 8, 8, 8, 8, 9, 8, 8, 8, 8, 8, 8, 8, 8, 8, 8, 8] : List Nat).getD c 10
def zlen : Nat → Nat := fun c => ([0, 0, 110, 0, 8, 8, 8, 8, 8, 8, 8, 8, 8, 8, 8, 0, 8, 8, 8, 8, 8, 8, 8, 8, 8, 8, 8, 0, 8, 8, 8, 8, 8, 8, 8, 8, 8, 8, 8, 0, 8, 0, 0, 350, 0, 50, 0, 6, 6, 6, 4, 0, 110, 8, 25, 25, 25, 350, 50, 2, 6, 6, 6, 8, 8, 8, 8, 8, 8, 8, 256] : List Nat).getD c 0
def zF_Acts (X : zXT) (c : Nat) (r : Nat → Int32) : List Value := [zR X (c + 1), .int (r 0), .int (r 1)]
def zF_Mesh (X : zXT) (c : Nat) (r : Nat → Int32) : List Value := [.int (r 0), .int (r 1), .int (r 2), zR X (c + 1), zR X (c + 2), zR X (c + 3), zR X (c + 4), zR X (c + 5), zR X (c + 6), zR X (c + 7), zR X (c + 8), zR X (c + 9), zR X (c + 10), zR X (c + 11)]
def zF_Obs (X : zXT) (c : Nat) (r : Nat → Int32) : List Value := [zR X (c + 1), zR X (c + 2), zR X (c + 3), .int (r 0)]
def zF_Planner (X : zXT) (c : Nat) : List Value := [zR X (c + 1)]
def zF_Shelf (X : zXT) (c : Nat) (r : Nat → Int32) : List Value := [.int (r 0), zR X (c + 1), .int (r 1)]
def zF_Text (X : zXT) (c : Nat) (r : Nat → Int32) : List Value := [zR X (c + 1), .int (r 0)]
def zF_Slots (X : zXT) (g : zLg) : List Value := [zR X 1, zR X 3, zR X 15, zR X 27, zR X 39, zR X 41, zR X 44, zR X 46, zR X 50, .long (g 0)]
def zF_Model (X : zXT) (g : zLg) (r : Nat → Int32) : List Value := [zR X 52, .int (r 0), .int (r 1), zR X 53, zR X 54, zR X 55, zR X 56, zR X 57, .int (r 2), .int (r 3), zR X 58, zR X 59, zR X 60, zR X 61, zR X 62, .int (r 4), .long (g 1), .int (r 5), zR X 63, zR X 64, zR X 65, .int (r 6), .int (r 7), .int (r 8), .int (r 9), zR X 66, zR X 67, zR X 68, .int (r 10), .int (r 11), zR X 69, zR X 70]
def zC (X : zXT) (g : zLg) (c : Nat) (r : Nat → Int32) : va_E := match zkind c with
  | 0 => .inr (0, zF_Acts X c r)
  | 1 => .inr (1, zF_Mesh X c r)
  | 2 => .inr (2, zF_Obs X c r)
  | 3 => .inr (3, zF_Planner X c)
  | 4 => .inr (4, zF_Shelf X c r)
  | 5 => .inr (5, zF_Text X c r)
  | 6 => .inr (6, zF_Slots X g)
  | 7 => .inr (7, zF_Model X g r)
  | 8 => .inl (X.2.2.1, zlen c, .inl r)
  | _ => .inl (X.2.2.2.1, zlen c, .inl r)
def zw (X : zXT) (h : zHp) (g : zLg) : va_W := (List.range 71).map fun c => (X.2.2.2.2 c, zC X g c (h c))
theorem zw_at (X : zXT) (h : zHp) (g : zLg) {c : Nat} (hc : c < 71) : (zw X h g)[c]? = some (X.2.2.2.2 c, zC X g c (h c)) := by
  simp [zw, hc]
/-- one place of one cell -/
def zup (h : zHp) (c k : Nat) (x : Int32) : zHp := fun c2 => if c2 = c then upd (h c) k x else h c2
def zupg (g : zLg) (k : Nat) (x : Int64) : zLg := fun j => if j = k then x else g j
/-- a row copied into another -/
def zcp (h : zHp) (c d sp dp n : Nat) : zHp := fun c2 => if c2 = d then va_cpy (h c) (h d) sp dp n else h c2
theorem zw_set (X : zXT) (h h2 : zHp) (g g2 : zLg) {c : Nat} {e : va_E} (he : zC X g2 c (h2 c) = e) (ho : ∀ d, d ≠ c → zC X g2 d (h2 d) = zC X g d (h d)) : (zw X h g).set c (X.2.2.2.2 c, e) = zw X h2 g2 := by
  apply List.ext_getElem?
  intro i
  by_cases hi : i = c
  · subst hi
    by_cases hl : i < 71
    · rw [List.getElem?_set_self (by simp [zw]; omega), zw_at X h2 g2 hl, he]
    · rw [List.getElem?_eq_none (by simp [zw]; omega), List.getElem?_eq_none (by simp [zw]; omega)]
  · rw [List.getElem?_set_ne (Ne.symm hi)]
    by_cases hl : i < 71
    · rw [zw_at X h g hl, zw_at X h2 g2 hl, ho i hi]
    · rw [List.getElem?_eq_none (by simp [zw]; omega), List.getElem?_eq_none (by simp [zw]; omega)]
theorem zup_ne {h : zHp} {c d k : Nat} {x : Int32} (hd : d ≠ c) : zup h c k x d = h d := if_neg hd
theorem zup_eq {h : zHp} {c k : Nat} {x : Int32} : zup h c k x c = upd (h c) k x := if_pos rfl
theorem zcp_ne {h : zHp} {c d e sp dp n : Nat} (hd : e ≠ d) : zcp h c d sp dp n e = h e := if_neg hd
theorem zcp_eq {h : zHp} {c d sp dp n : Nat} : zcp h c d sp dp n d = va_cpy (h c) (h d) sp dp n := if_pos rfl
theorem zw_up (X : zXT) (h : zHp) (g : zLg) {c k : Nat} {x : Int32} {e : va_E} (he : zC X g c (upd (h c) k x) = e) : (zw X h g).set c (X.2.2.2.2 c, e) = zw X (zup h c k x) g :=
  zw_set X h _ g g (by rw [zup_eq]; exact he) (fun d hd => by rw [zup_ne hd])
theorem zw_upg (X : zXT) (h : zHp) (g : zLg) {c k : Nat} {x : Int64} {e : va_E} (he : zC X (zupg g k x) c (h c) = e) (ho : ∀ d, d ≠ c → zC X (zupg g k x) d (h d) = zC X g d (h d)) : (zw X h g).set c (X.2.2.2.2 c, e) = zw X h (zupg g k x) :=
  zw_set X h _ g _ he ho
/-- the addresses are apart -/
def zInj (X : zXT) : Prop := ∀ i j, i < 71 → j < 71 → X.2.2.2.2 i = X.2.2.2.2 j → i = j
def zA (X : zXT) : Nat → Prop := fun q => ∃ c, c < 71 ∧ q = X.2.2.2.2 c
theorem zw_D {X : zXT} (hI : zInj X) (h : zHp) (g : zLg) : va_D (zA X) (zw X h g) := by
  have key : ∀ (i : Nat) (p : Nat × va_E), (zw X h g)[i]? = some p → i < 71 ∧ p.1 = X.2.2.2.2 i := by
    intro i p hp
    have hl : i < 71 := by
      have := (List.getElem?_eq_some_iff.mp hp).1
      simpa [zw] using this
    rw [zw_at X h g hl] at hp
    cases hp
    exact ⟨hl, rfl⟩
  refine ⟨fun i j p q hi hj hpq => ?_, fun k q hk => ?_⟩
  · obtain ⟨h1, e1⟩ := key i p hi
    obtain ⟨h2, e2⟩ := key j q hj
    exact hI i j h1 h2 (by rw [← e1, ← e2]; exact hpq)
  · obtain ⟨h1, e1⟩ := key k q hk
    exact ⟨k, h1, e1⟩
-- the classes
def zN_Acts : String := "PeriodSlots$Acts"
def zN_Mesh : String := "PeriodSlots$Mesh"
def zN_Obs : String := "PeriodSlots$Observations"
def zN_Planner : String := "PeriodSlots$Planner"
def zN_Shelf : String := "PeriodSlots$Shelf"
def zN_Text : String := "PeriodSlots$Text"
def zN_Slots : String := "PeriodSlots"
def zN_Model : String := "PeriodSlotsModel"
def zT_Acts : u_T := fun k => match k with
  | 0 => ("PeriodSlots$Acts", "before", "LPeriodSlots$Shelf;", true)
  | 1 => ("PeriodSlots$Acts", "newest", "I", false)
  | _ => ("PeriodSlots$Acts", "size", "I", false)
def zY_Acts : Nat → FieldType := fun k => match k with
  | 0 => .object "PeriodSlots$Shelf"
  | 1 => .int
  | _ => .int
theorem zY_Acts_ok : ∀ k, k < 3 → parseFieldDescriptor (zT_Acts k).2.2.1 = some (zY_Acts k) := by decide +kernel
theorem zT_Acts_nm : ∀ a, a < 3 → ∀ b, b < 3 → a ≠ b → (zT_Acts a).2.1 ≠ (zT_Acts b).2.1 := by decide +kernel
def zT_Mesh : u_T := fun k => match k with
  | 0 => ("PeriodSlots$Mesh", "count", "I", false)
  | 1 => ("PeriodSlots$Mesh", "roundNumber", "I", false)
  | 2 => ("PeriodSlots$Mesh", "gainfulRounds", "I", false)
  | 3 => ("PeriodSlots$Mesh", "periods", "[I", true)
  | 4 => ("PeriodSlots$Mesh", "links", "[I", true)
  | 5 => ("PeriodSlots$Mesh", "offsets", "[I", true)
  | 6 => ("PeriodSlots$Mesh", "olds", "[I", true)
  | 7 => ("PeriodSlots$Mesh", "patterns", "[I", true)
  | 8 => ("PeriodSlots$Mesh", "near", "[I", true)
  | 9 => ("PeriodSlots$Mesh", "priorities", "[I", true)
  | 10 => ("PeriodSlots$Mesh", "nearAbove", "[I", true)
  | 11 => ("PeriodSlots$Mesh", "ticks", "[I", true)
  | 12 => ("PeriodSlots$Mesh", "occupied", "[I", true)
  | _ => ("PeriodSlots$Mesh", "next", "[I", true)
def zY_Mesh : Nat → FieldType := fun k => match k with
  | 0 => .int
  | 1 => .int
  | 2 => .int
  | 3 => .array .int
  | 4 => .array .int
  | 5 => .array .int
  | 6 => .array .int
  | 7 => .array .int
  | 8 => .array .int
  | 9 => .array .int
  | 10 => .array .int
  | 11 => .array .int
  | 12 => .array .int
  | _ => .array .int
theorem zY_Mesh_ok : ∀ k, k < 14 → parseFieldDescriptor (zT_Mesh k).2.2.1 = some (zY_Mesh k) := by decide +kernel
theorem zT_Mesh_nm : ∀ a, a < 14 → ∀ b, b < 14 → a ≠ b → (zT_Mesh a).2.1 ≠ (zT_Mesh b).2.1 := by decide +kernel
def zT_Obs : u_T := fun k => match k with
  | 0 => ("PeriodSlots$Observations", "stations", "[I", true)
  | 1 => ("PeriodSlots$Observations", "ticks", "[I", true)
  | 2 => ("PeriodSlots$Observations", "sights", "[I", true)
  | _ => ("PeriodSlots$Observations", "size", "I", false)
def zY_Obs : Nat → FieldType := fun k => match k with
  | 0 => .array .int
  | 1 => .array .int
  | 2 => .array .int
  | _ => .int
theorem zY_Obs_ok : ∀ k, k < 4 → parseFieldDescriptor (zT_Obs k).2.2.1 = some (zY_Obs k) := by decide +kernel
theorem zT_Obs_nm : ∀ a, a < 4 → ∀ b, b < 4 → a ≠ b → (zT_Obs a).2.1 ≠ (zT_Obs b).2.1 := by decide +kernel
def zT_Planner : u_T := fun k => match k with
  | _ => ("PeriodSlots$Planner", "offsets", "[I", true)
def zY_Planner : Nat → FieldType := fun k => match k with
  | _ => .array .int
theorem zY_Planner_ok : ∀ k, k < 1 → parseFieldDescriptor (zT_Planner k).2.2.1 = some (zY_Planner k) := by decide +kernel
theorem zT_Planner_nm : ∀ a, a < 1 → ∀ b, b < 1 → a ≠ b → (zT_Planner a).2.1 ≠ (zT_Planner b).2.1 := by decide +kernel
def zT_Shelf : u_T := fun k => match k with
  | 0 => ("PeriodSlots$Shelf", "rows", "I", true)
  | 1 => ("PeriodSlots$Shelf", "cells", "[I", true)
  | _ => ("PeriodSlots$Shelf", "filled", "I", false)
def zY_Shelf : Nat → FieldType := fun k => match k with
  | 0 => .int
  | 1 => .array .int
  | _ => .int
theorem zY_Shelf_ok : ∀ k, k < 3 → parseFieldDescriptor (zT_Shelf k).2.2.1 = some (zY_Shelf k) := by decide +kernel
theorem zT_Shelf_nm : ∀ a, a < 3 → ∀ b, b < 3 → a ≠ b → (zT_Shelf a).2.1 ≠ (zT_Shelf b).2.1 := by decide +kernel
def zT_Text : u_T := fun k => match k with
  | 0 => ("PeriodSlots$Text", "bytes", "[I", true)
  | _ => ("PeriodSlots$Text", "length", "I", false)
def zY_Text : Nat → FieldType := fun k => match k with
  | 0 => .array .int
  | _ => .int
theorem zY_Text_ok : ∀ k, k < 2 → parseFieldDescriptor (zT_Text k).2.2.1 = some (zY_Text k) := by decide +kernel
theorem zT_Text_nm : ∀ a, a < 2 → ∀ b, b < 2 → a ≠ b → (zT_Text a).2.1 ≠ (zT_Text b).2.1 := by decide +kernel
def zT_Slots : u_T := fun k => match k with
  | 0 => ("PeriodSlots", "text", "LPeriodSlots$Text;", true)
  | 1 => ("PeriodSlots", "mesh", "LPeriodSlots$Mesh;", true)
  | 2 => ("PeriodSlots", "draft", "LPeriodSlots$Mesh;", true)
  | 3 => ("PeriodSlots", "trial", "LPeriodSlots$Mesh;", true)
  | 4 => ("PeriodSlots", "planner", "LPeriodSlots$Planner;", true)
  | 5 => ("PeriodSlots", "acts", "LPeriodSlots$Acts;", true)
  | 6 => ("PeriodSlots", "slots", "LPeriodSlots$Shelf;", true)
  | 7 => ("PeriodSlots", "observations", "LPeriodSlots$Observations;", true)
  | 8 => ("PeriodSlots", "statements", "[I", true)
  | _ => ("PeriodSlots", "chance", "J", false)
def zY_Slots : Nat → FieldType := fun k => match k with
  | 0 => .object "PeriodSlots$Text"
  | 1 => .object "PeriodSlots$Mesh"
  | 2 => .object "PeriodSlots$Mesh"
  | 3 => .object "PeriodSlots$Mesh"
  | 4 => .object "PeriodSlots$Planner"
  | 5 => .object "PeriodSlots$Acts"
  | 6 => .object "PeriodSlots$Shelf"
  | 7 => .object "PeriodSlots$Observations"
  | 8 => .array .int
  | _ => .long
theorem zY_Slots_ok : ∀ k, k < 10 → parseFieldDescriptor (zT_Slots k).2.2.1 = some (zY_Slots k) := by decide +kernel
theorem zT_Slots_nm : ∀ a, a < 10 → ∀ b, b < 10 → a ≠ b → (zT_Slots a).2.1 ≠ (zT_Slots b).2.1 := by decide +kernel
def zT_Model : u_T := fun k => match k with
  | 0 => ("PeriodSlotsModel", "text", "[I", true)
  | 1 => ("PeriodSlotsModel", "length", "I", false)
  | 2 => ("PeriodSlotsModel", "stations", "I", false)
  | 3 => ("PeriodSlotsModel", "period", "[I", true)
  | 4 => ("PeriodSlotsModel", "now", "[I", true)
  | 5 => ("PeriodSlotsModel", "trial", "[I", true)
  | 6 => ("PeriodSlotsModel", "spare", "[I", true)
  | 7 => ("PeriodSlotsModel", "diary", "[I", true)
  | 8 => ("PeriodSlotsModel", "doings", "I", false)
  | 9 => ("PeriodSlotsModel", "next", "I", false)
  | 10 => ("PeriodSlotsModel", "kept", "[I", true)
  | 11 => ("PeriodSlotsModel", "isKept", "[Z", true)
  | 12 => ("PeriodSlotsModel", "seenBy", "[I", true)
  | 13 => ("PeriodSlotsModel", "seenTick", "[I", true)
  | 14 => ("PeriodSlotsModel", "seenWas", "[I", true)
  | 15 => ("PeriodSlotsModel", "seen", "I", false)
  | 16 => ("PeriodSlotsModel", "seed", "J", false)
  | 17 => ("PeriodSlotsModel", "readStations", "I", false)
  | 18 => ("PeriodSlotsModel", "readPeriod", "[I", true)
  | 19 => ("PeriodSlotsModel", "readOffset", "[I", true)
  | 20 => ("PeriodSlotsModel", "readLinks", "[I", true)
  | 21 => ("PeriodSlotsModel", "part", "I", false)
  | 22 => ("PeriodSlotsModel", "place", "I", false)
  | 23 => ("PeriodSlotsModel", "readFirst", "I", false)
  | 24 => ("PeriodSlotsModel", "on", "I", false)
  | 25 => ("PeriodSlotsModel", "near", "[I", true)
  | 26 => ("PeriodSlotsModel", "moved", "[I", true)
  | 27 => ("PeriodSlotsModel", "movedOld", "[I", true)
  | 28 => ("PeriodSlotsModel", "moves", "Z", false)
  | 29 => ("PeriodSlotsModel", "movingRounds", "I", false)
  | 30 => ("PeriodSlotsModel", "planned", "[I", true)
  | _ => ("PeriodSlotsModel", "worth", "[I", true)
def zY_Model : Nat → FieldType := fun k => match k with
  | 0 => .array .int
  | 1 => .int
  | 2 => .int
  | 3 => .array .int
  | 4 => .array .int
  | 5 => .array .int
  | 6 => .array .int
  | 7 => .array .int
  | 8 => .int
  | 9 => .int
  | 10 => .array .int
  | 11 => .array .boolean
  | 12 => .array .int
  | 13 => .array .int
  | 14 => .array .int
  | 15 => .int
  | 16 => .long
  | 17 => .int
  | 18 => .array .int
  | 19 => .array .int
  | 20 => .array .int
  | 21 => .int
  | 22 => .int
  | 23 => .int
  | 24 => .int
  | 25 => .array .int
  | 26 => .array .int
  | 27 => .array .int
  | 28 => .boolean
  | 29 => .int
  | 30 => .array .int
  | _ => .array .int
theorem zY_Model_ok : ∀ k, k < 32 → parseFieldDescriptor (zT_Model k).2.2.1 = some (zY_Model k) := by decide +kernel
theorem zT_Model_nm : ∀ a, a < 32 → ∀ b, b < 32 → a ≠ b → (zT_Model a).2.1 ≠ (zT_Model b).2.1 := by decide +kernel
abbrev zcl : List vw_C := [(zN_Acts, zT_Acts, 3), (zN_Mesh, zT_Mesh, 14), (zN_Obs, zT_Obs, 4), (zN_Planner, zT_Planner, 1), (zN_Shelf, zT_Shelf, 3), (zN_Text, zT_Text, 2), (zN_Slots, zT_Slots, 10), (zN_Model, zT_Model, 32)]
/-- the words that every method may use -/
def zU : List Cond := lw_tbl.filter goodWord
theorem zU_in {i : Nat} {w : Cond} (hi : lw_tbl[i]? = some w) (hw : goodWord w = true) : w ∈ zU := List.mem_filter.mpr ⟨List.mem_of_getElem? hi, hw⟩
theorem zU_good (c : Cond) (hc : c ∈ zU) (d : Cond) : GoodIn (d :: zU) (c :: zU) := by
  intro w hw
  have h1 : w ∈ zU := by
    rcases List.mem_cons.mp hw with rfl | h
    · exact hc
    · exact h
  exact ⟨List.mem_cons_of_mem _ h1, good_of_word (List.mem_filter.mp h1).2⟩
theorem zU_good' (c : Cond) (hc : c ∈ zU) : GoodIn zU (c :: zU) := by
  intro w hw
  have h1 : w ∈ zU := by
    rcases List.mem_cons.mp hw with rfl | h
    · exact hc
    · exact h
  exact ⟨h1, good_of_word (List.mem_filter.mp h1).2⟩
/-- calls of a private method of a nest mate -/
def zNest : List Cond := [Cond.methodLinkNest "PeriodSlots" (9 : Nat) ({ cls := "PeriodSlots$Text", name := "<init>", desc := "()V" } : Jvm.MethodName) "PeriodSlots", Cond.methodLinkNest "PeriodSlots" (18 : Nat) ({ cls := "PeriodSlots$Mesh", name := "<init>", desc := "()V" } : Jvm.MethodName) "PeriodSlots", Cond.methodLinkNest "PeriodSlots" (31 : Nat) ({ cls := "PeriodSlots$Planner", name := "<init>", desc := "()V" } : Jvm.MethodName) "PeriodSlots", Cond.methodLinkNest "PeriodSlots" (38 : Nat) ({ cls := "PeriodSlots$Acts", name := "<init>", desc := "()V" } : Jvm.MethodName) "PeriodSlots", Cond.methodLinkNest "PeriodSlots" (54 : Nat) ({ cls := "PeriodSlots$Observations", name := "<init>", desc := "()V" } : Jvm.MethodName) "PeriodSlots", Cond.methodLinkNest "PeriodSlots$Mesh" (89 : Nat) ({ cls := "PeriodSlots", name := "has", desc := "(II)Z" } : Jvm.MethodName) "PeriodSlots", Cond.methodLinkNest "PeriodSlots$Text" (56 : Nat) ({ cls := "PeriodSlots", name := "has", desc := "(II)Z" } : Jvm.MethodName) "PeriodSlots", Cond.methodLinkNest "PeriodSlots$Mesh" (143 : Nat) ({ cls := "PeriodSlots", name := "lowestOrNone", desc := "(I)I" } : Jvm.MethodName) "PeriodSlots", Cond.methodLinkNest "PeriodSlots$Shelf" (28 : Nat) ({ cls := "PeriodSlots", name := "has", desc := "(II)Z" } : Jvm.MethodName) "PeriodSlots", Cond.methodLinkNest "PeriodSlots$Planner" (42 : Nat) ({ cls := "PeriodSlots", name := "has", desc := "(II)Z" } : Jvm.MethodName) "PeriodSlots"]
theorem zNest_warm {s U : State} (hW : s.WarmedH U.vm) (h : ∀ w ∈ zNest, va_Nw w s) : ∀ w ∈ zNest, va_Nw w U := by
  intro w hw
  have h1 := h w hw
  simp only [zNest, List.mem_cons, List.not_mem_nil, or_false] at hw
  rcases hw with rfl | rfl | rfl | rfl | rfl | rfl | rfl | rfl | rfl | rfl <;> exact va_Nw.warmM hW h1
theorem zNest_same {u U : State} (hv : u.vm = U.vm) (h : ∀ w ∈ zNest, va_Nw w u) : ∀ w ∈ zNest, va_Nw w U := by
  intro w hw
  have h1 := h w hw
  simp only [zNest, List.mem_cons, List.not_mem_nil, or_false] at hw
  rcases hw with rfl | rfl | rfl | rfl | rfl | rfl | rfl | rfl | rfl | rfl <;> exact va_Nw.same rfl hv h1
abbrev ztys (X : zXT) : List (ClassId × FieldType) := [(X.2.2.1, .int), (X.2.2.2.1, .boolean)]
/-- the picture of a state -/
def zSt (X : zXT) (h : zHp) (g : zLg) (U : State) : Prop := va_P X.2.1 zcl (zw X h g) U.heap
/-- what the tables say, and stays -/
def zKn (X : zXT) (U : State) : Prop := va_K X.2.1 zcl (ztys X) U ∧ zInj X ∧ ∀ w ∈ zNest, va_Nw w U
theorem zKn_warm {X : zXT} {s U : State} (hW : s.WarmedH U.vm) (h : zKn X s) : zKn X U := ⟨va_K.moved hW.alike h.1, h.2.1, zNest_warm hW h.2.2⟩
/-- a method: its name, bytes, locals, what it returns -/
abbrev zMT : Type := MethodName × ByteArray × Nat × Option FieldType
def zrm (d : Nat) : Room := { frames := d, cells := 0, slots := 0, locals := 64 * d }
abbrev zws (M : zMT) : List Cond := Cond.code M.1 M.2.1 M.2.2.1 M.2.2.2 :: zU
def zQD (X : zXT) (o : Option Value) (h : zHp) (g : zLg) : Array Value → State → Outcome → State → Prop := fun _ st oc t => (oc = .returned o ∧ zSt X h g t) ∧ va_F (zA X) st t
/-- the contract: from the numbers h, g, with these arguments, the method returns o, and the numbers are h2, g2 -/
def zDi (X : zXT) (M : zMT) (d : Nat) (av : List Value) (h : zHp) (g : zLg) (o : Option Value) (h2 : zHp) (g2 : zLg) : Prop :=
  Met X.1 M.1 (zws M) (zrm d) (va_Pc av (fun U => zSt X h g U ∧ zKn X U)) (zQD X o h2 g2) 0 0 (zA X)
-- the places of the context
abbrev zGp (Γ : zGT) : Program := Γ.1
abbrev zGe (Γ : zGT) : Env := Γ.2.1
abbrev zGR (Γ : zGT) : Room := Γ.2.2.1
abbrev zGs (Γ : zGT) : State := Γ.2.2.2.1
abbrev zGm (Γ : zGT) : MethodId := Γ.2.2.2.2.1
abbrev zGa (Γ : zGT) : Array Value := Γ.2.2.2.2.2.1
abbrev zGb (Γ : zGT) : List Frame := Γ.2.2.2.2.2.2.1
abbrev zGM (Γ : zGT) : Method := Γ.2.2.2.2.2.2.2.1
abbrev zGc (Γ : zGT) : Code := Γ.2.2.2.2.2.2.2.2.1
abbrev zGkc (Γ : zGT) : Nat := Γ.2.2.2.2.2.2.2.2.2.1
abbrev zGks (Γ : zGT) : Nat := Γ.2.2.2.2.2.2.2.2.2.2
def zasc : Nat → List (Option Value) → List (Nat × Value)
  | _, [] => []
  | k, none :: l => zasc (k + 1) l
  | k, some v :: l => (k, v) :: zasc (k + 1) l
abbrev zI (x : Int32) : Option Value := some (.int x)
abbrev zL (x : Int64) : Option Value := some (.long x)
abbrev zO (X : zXT) (c : Nat) : Option Value := some (zR X c)
/-- the machine in this method at pc, with these locals and stack, with the numbers h, g -/
def zV (X : zXT) (Γ : zGT) (Q : State → Prop) (pc : Nat) (lv : List (Option Value)) (st : List Value) (h : zHp) (g : zLg) : Prop :=
  ∀ (H : Heap) (locs : List Loc) (ls : Array Slot), va_P X.2.1 zcl (zw X h g) H → va_S (zA X) (zGs Γ).heap H locs → lv_has ls lv.length (zasc 0 lv) →
    W (zGp Γ) X.1 (zGe Γ) (zGR Γ) (zGs Γ) (zGm Γ) (zGa Γ) (zGb Γ) (zGM Γ) (zGc Γ) H locs (zGkc Γ) (zGks Γ) Q (F0 (zGm Γ) pc ls st)
/-- what stands fast in a method -/
def zOk (X : zXT) (Γ : zGT) (cc : ByteArray) (own : String) (nL d : Nat) (rt : Option FieldType) : Prop :=
  (zGp Γ).tables.exec = Jvm.exec ∧ (zGc Γ).code = cc ∧ (zGc Γ).maxLocals = nL ∧ (zGs Γ).vm.findClass own = some (zGm Γ).cls ∧ (∀ w ∈ zU, w.before (zGa Γ) (zGs Γ) = true) ∧ zKn X (zGs Γ) ∧ (d ≤ (zGR Γ).frames ∧ 64 * d ≤ (zGR Γ).locals ∧ zGkc Γ ≤ (zGR Γ).cells ∧ zGks Γ ≤ (zGR Γ).slots) ∧ (zGM Γ).sig.returnType = rt ∧ (zGM Γ).locks = false
def zTQ (X : zXT) (Γ : zGT) (o : Option Value) (h : zHp) (g : zLg) : State → Prop := MQ (zGb Γ) (zQD X o h g) (zGa Γ) (zGs Γ) (zGkc Γ) (zGks Γ) (zA X)
end
section
/-! The kit's rows over the fixed world. -/
theorem zasc_mem (lv : List (Option Value)) : ∀ (k i : Nat) (v : Value), lv[i]? = some (some v) → (k + i, v) ∈ zasc k lv := by
  induction lv with
  | nil => intro k i v h; simp at h
  | cons a l ih =>
    intro k i v h
    cases i with
    | zero =>
      simp at h
      subst h
      exact List.mem_cons_self
    | succ i =>
      rw [List.getElem?_cons_succ] at h
      have h2 := ih (k + 1) i v h
      rw [show k + 1 + i = k + (i + 1) by omega] at h2
      cases a with
      | none => exact h2
      | some w => exact List.mem_cons_of_mem _ h2
theorem zasc_of (lv : List (Option Value)) : ∀ (k : Nat) (q : Nat × Value), q ∈ zasc k lv → k ≤ q.1 ∧ lv[q.1 - k]? = some (some q.2) := by
  induction lv with
  | nil => intro k q h; cases h
  | cons a l ih =>
    intro k q h
    have step : q ∈ zasc (k + 1) l → k ≤ q.1 ∧ (a :: l)[q.1 - k]? = some (some q.2) := by
      intro h
      obtain ⟨h1, h2⟩ := ih (k + 1) q h
      refine ⟨by omega, ?_⟩
      rw [show q.1 - k = (q.1 - (k + 1)) + 1 by omega, List.getElem?_cons_succ]
      exact h2
    cases a with
    | none => exact step h
    | some w =>
      rcases List.mem_cons.mp h with rfl | h
      · refine ⟨Nat.le_refl _, ?_⟩
        simp
      · exact step h
theorem zasc_has {ls : Array Slot} {lv : List (Option Value)} {n : Nat} (h : lv_has ls n (zasc 0 lv)) {i : Nat} {v : Value} (hi : lv[i]? = some (some v)) : ls[i]? = some (.val v) := by
  have := h.2.2 _ (zasc_mem lv 0 i v hi)
  simpa using this
/-- fewer locals, or the same in other words -/
theorem zasc_sub {ls : Array Slot} {lv lv2 : List (Option Value)} {n : Nat} (h : lv_has ls n (zasc 0 lv)) (hs : ∀ (i : Nat) (v : Value), lv2[i]? = some (some v) → lv[i]? = some (some v)) : lv_has ls n (zasc 0 lv2) := by
  refine ⟨h.1, h.2.1, fun q hq => ?_⟩
  obtain ⟨-, h2⟩ := zasc_of lv2 0 q hq
  exact zasc_has h (hs _ _ h2)
/-- may the place i be written (no long reaches into it) -/
def zfree (lv : List (Option Value)) : Nat → Bool
  | 0 => true
  | i + 1 => match lv[i]? with
    | some (some v) => v.category == 1
    | _ => true
theorem zasc_store1 {ls : Array Slot} {lv : List (Option Value)} {n i : Nat} {w : Value} (h : lv_has ls n ((i, w) :: (zasc 0 lv).filter (fun q => !(q.1 == i) && !(q.1 + 1 == i && q.2.category == 2)))) (hf : zfree lv i = true) : lv_has ls n (zasc 0 (lv.set i (some w))) := by
  refine ⟨h.1, h.2.1, fun q hq => ?_⟩
  obtain ⟨-, h2⟩ := zasc_of _ 0 q hq
  obtain ⟨j, v⟩ := q
  simp only [Nat.sub_zero] at h2
  by_cases hj : j = i
  · subst hj
    have hl : j < lv.length := by
      have := (List.getElem?_eq_some_iff.mp h2).1
      simpa using this
    rw [List.getElem?_set_self hl] at h2
    cases h2
    exact h.2.2 _ List.mem_cons_self
  · rw [List.getElem?_set_ne (Ne.symm hj)] at h2
    refine h.2.2 _ (List.mem_cons_of_mem _ (List.mem_filter.mpr ⟨by simpa using zasc_mem lv 0 j v h2, ?_⟩))
    have hne : (j == i) = false := by simpa using hj
    simp only [hne, Bool.not_false, Bool.true_and]
    by_cases hs : j + 1 = i
    · subst hs
      simp only [zfree, h2] at hf
      have : v.category = 1 := by simpa using hf
      simp [this]
    · simp [hs]
theorem zasc_store2 {ls : Array Slot} {lv : List (Option Value)} {n i : Nat} {w : Value} (h : lv_has ls n ((i, w) :: (zasc 0 lv).filter (fun q => !(q.1 == i) && (!(q.1 == i + 1) && !(q.1 + 1 == i && q.2.category == 2))))) (hf : zfree lv i = true) : lv_has ls n (zasc 0 ((lv.set i (some w)).set (i + 1) none)) := by
  refine ⟨h.1, h.2.1, fun q hq => ?_⟩
  obtain ⟨-, h2⟩ := zasc_of _ 0 q hq
  obtain ⟨j, v⟩ := q
  simp only [Nat.sub_zero] at h2
  by_cases hj1 : j = i + 1
  · subst hj1
    have hl : i + 1 < (lv.set i (some w)).length := by
      have := (List.getElem?_eq_some_iff.mp h2).1
      simpa using this
    rw [List.getElem?_set_self hl] at h2
    cases h2
  · rw [List.getElem?_set_ne (Ne.symm hj1)] at h2
    by_cases hj : j = i
    · subst hj
      have hl : j < lv.length := by
        have := (List.getElem?_eq_some_iff.mp h2).1
        simpa using this
      rw [List.getElem?_set_self hl] at h2
      cases h2
      exact h.2.2 _ List.mem_cons_self
    · rw [List.getElem?_set_ne (Ne.symm hj)] at h2
      refine h.2.2 _ (List.mem_cons_of_mem _ (List.mem_filter.mpr ⟨by simpa using zasc_mem lv 0 j v h2, ?_⟩))
      have hne : (j == i) = false := by simpa using hj
      have hne1 : (j == i + 1) = false := by simpa using hj1
      simp only [hne, hne1, Bool.not_false, Bool.true_and]
      by_cases hs : j + 1 = i
      · subst hs
        simp only [zfree, h2] at hf
        have : v.category = 1 := by simpa using hf
        simp [this]
      · simp [hs]
/-- the first has the second's locals, or nothing -/
def zle : List (Option Value) → List (Option Value) → Prop
  | [], [] => True
  | none :: a, _ :: b => zle a b
  | some v :: a, some w :: b => v = w ∧ zle a b
  | _, _ => False
theorem zle_of : ∀ (a b : List (Option Value)), zle a b → a.length = b.length ∧ ∀ (i : Nat) (v : Value), a[i]? = some (some v) → b[i]? = some (some v)
  | [], [], _ => ⟨rfl, fun i v h => by simp at h⟩
  | none :: a, _ :: b, h => by
    obtain ⟨h1, h2⟩ := zle_of a b h
    refine ⟨by simp [h1], fun i v hi => ?_⟩
    cases i with
    | zero => simp at hi
    | succ i => exact h2 i v (by simpa using hi)
  | some v0 :: a, some w :: b, h => by
    obtain ⟨h1, h2⟩ := zle_of a b h.2
    refine ⟨by simp [h1], fun i v hi => ?_⟩
    cases i with
    | zero => rw [← h.1]; exact hi
    | succ i => exact h2 i v (by simpa using hi)
  | [], _ :: _, h => h.elim
  | some _ :: _, none :: _, h => h.elim
  | none :: _, [], h => h.elim
  | some _ :: _, [], h => h.elim
def zrem (x y : Int32) : Int32 := x - x / y * y
def zlrem (x y : Int64) : Int64 := x - x / y * y
def zshl (x y : Int32) : Int32 := x <<< (y &&& 31)
def zsar (x y : Int32) : Int32 := x >>> (y &&& 31)
def zshr (x y : Int32) : Int32 := (x.toUInt32 >>> (y.toUInt32 &&& Int32.toUInt32 31)).toInt32
def zlshr (x : Int64) (y : Int32) : Int64 := (x.toUInt64 >>> (y.toInt64.toUInt64 &&& Int64.toUInt64 63)).toInt64
section ZR
variable {X : zXT} {Γ : zGT} {Q : State → Prop} {cc : ByteArray} {own : String} {nL d : Nat} {rt : Option FieldType} {pc : Nat} {lv lv2 : List (Option Value)} {st : List Value} {h : zHp} {g : zLg}
theorem zr_iconst (C : zOk X Γ cc own nL d rt) {n : Int} {v : Int32} (hd : decode cc pc = .ok (.iconst n, 1)) (hv : Int32.ofInt n = v) (k : zV X Γ Q (pc + 1) lv (.int v :: st) h g) : zV X Γ Q pc lv st h g :=
  fun H L ls a b c => lv_iconst C.1 C.2.1 hd hv (k H L ls a b c)
theorem zr_bipush (C : zOk X Γ cc own nL d rt) {n : Int} {v : Int32} (hd : decode cc pc = .ok (.bipush n, 2)) (hv : (Int8.ofInt n).toInt32 = v) (k : zV X Γ Q (pc + 2) lv (.int v :: st) h g) : zV X Γ Q pc lv st h g :=
  fun H L ls a b c => lv_bipush C.1 C.2.1 hd hv (k H L ls a b c)
theorem zr_sipush (C : zOk X Γ cc own nL d rt) {n : Int} {v : Int32} (hd : decode cc pc = .ok (.sipush n, 3)) (hv : (Int16.ofInt n).toInt32 = v) (k : zV X Γ Q (pc + 3) lv (.int v :: st) h g) : zV X Γ Q pc lv st h g :=
  fun H L ls a b c => lv_sipush C.1 C.2.1 hd hv (k H L ls a b c)
theorem zr_lconst (C : zOk X Γ cc own nL d rt) {n : Fin 2} {v : Int64} (hd : decode cc pc = .ok (.lconst n, 1)) (hv : Int64.ofNat (n : Nat) = v) (k : zV X Γ Q (pc + 1) lv (.long v :: st) h g) : zV X Γ Q pc lv st h g :=
  fun H L ls a b c => lv_lconst C.1 C.2.1 hd hv (k H L ls a b c)
theorem zr_ldcw (C : zOk X Γ cc own nL d rt) {v : Int32} {idx : Nat} (hw : Cond.constant own idx v ∈ zU) (hd : decode cc pc = .ok (.ldc_w idx, 3)) (k : zV X Γ Q (pc + 3) lv (.int v :: st) h g) : zV X Γ Q pc lv st h g :=
  fun H L ls a b c => lv_ldcw C.1 C.2.1 C.2.2.2.1 (C.2.2.2.2.1 _ hw) hd (k H L ls a b c)
theorem zr_ldc2 (C : zOk X Γ cc own nL d rt) {v : Int64} {idx : Nat} (hw : Cond.constantLong own idx v ∈ zU) (hd : decode cc pc = .ok (.ldc2_w idx, 3)) (k : zV X Γ Q (pc + 3) lv (.long v :: st) h g) : zV X Γ Q pc lv st h g :=
  fun H L ls a b c => lv_ldc2 C.1 C.2.1 C.2.2.2.1 (C.2.2.2.2.1 _ hw) hd (k H L ls a b c)
theorem zr_iload_n (C : zOk X Γ cc own nL d rt) {k : Fin 4} {x : Int32} (hd : decode cc pc = .ok (.iload_n k, 1)) (hl : lv[(k : Nat)]? = some (zI x)) (kk : zV X Γ Q (pc + 1) lv (.int x :: st) h g) : zV X Γ Q pc lv st h g :=
  fun H L ls a b c => lv_iload_n C.1 C.2.1 hd rfl (zasc_has c hl) (kk H L ls a b c)
theorem zr_iload (C : zOk X Γ cc own nL d rt) {i : Nat} {x : Int32} (hd : decode cc pc = .ok (.iload i, 2)) (hl : lv[i]? = some (zI x)) (kk : zV X Γ Q (pc + 2) lv (.int x :: st) h g) : zV X Γ Q pc lv st h g :=
  fun H L ls a b c => lv_iload C.1 C.2.1 hd (zasc_has c hl) (kk H L ls a b c)
theorem zr_lload_n (C : zOk X Γ cc own nL d rt) {k : Fin 4} {x : Int64} (hd : decode cc pc = .ok (.lload_n k, 1)) (hl : lv[(k : Nat)]? = some (zL x)) (kk : zV X Γ Q (pc + 1) lv (.long x :: st) h g) : zV X Γ Q pc lv st h g :=
  fun H L ls a b c => lv_lload_n C.1 C.2.1 hd rfl (zasc_has c hl) (kk H L ls a b c)
theorem zr_lload (C : zOk X Γ cc own nL d rt) {i : Nat} {x : Int64} (hd : decode cc pc = .ok (.lload i, 2)) (hl : lv[i]? = some (zL x)) (kk : zV X Γ Q (pc + 2) lv (.long x :: st) h g) : zV X Γ Q pc lv st h g :=
  fun H L ls a b c => lv_lload C.1 C.2.1 hd (zasc_has c hl) (kk H L ls a b c)
theorem zr_aload_n (C : zOk X Γ cc own nL d rt) {k : Fin 4} {a0 : Nat} (hd : decode cc pc = .ok (.aload_n k, 1)) (hl : lv[(k : Nat)]? = some (some (.ref a0))) (kk : zV X Γ Q (pc + 1) lv (.ref a0 :: st) h g) : zV X Γ Q pc lv st h g :=
  fun H L ls a b c => lv_aload_n C.1 C.2.1 hd rfl (zasc_has c hl) (kk H L ls a b c)
theorem zr_aload (C : zOk X Γ cc own nL d rt) {i : Nat} {a0 : Nat} (hd : decode cc pc = .ok (.aload i, 2)) (hl : lv[i]? = some (some (.ref a0))) (kk : zV X Γ Q (pc + 2) lv (.ref a0 :: st) h g) : zV X Γ Q pc lv st h g :=
  fun H L ls a b c => lv_aload C.1 C.2.1 hd (zasc_has c hl) (kk H L ls a b c)
theorem zr_istore_n (C : zOk X Γ cc own nL d rt) (lv2 : List (Option Value)) {k : Fin 4} {x : Int32} (hd : decode cc pc = .ok (.istore_n k, 1)) (hn : (k : Nat) < lv.length) (hf : zfree lv k = true) (hl : lv.set k (zI x) = lv2) (kk : zV X Γ Q (pc + 1) lv2 st h g) : zV X Γ Q pc lv (.int x :: st) h g := by
  subst hl
  exact fun H L ls a b c => lv_istore_n C.1 C.2.1 hd rfl c hn rfl (fun ls' h' => kk H L ls' a b (by rw [List.length_set]; exact zasc_store1 h' hf))
theorem zr_istore (C : zOk X Γ cc own nL d rt) (lv2 : List (Option Value)) {i : Nat} {x : Int32} (hd : decode cc pc = .ok (.istore i, 2)) (hn : i < lv.length) (hf : zfree lv i = true) (hl : lv.set i (zI x) = lv2) (kk : zV X Γ Q (pc + 2) lv2 st h g) : zV X Γ Q pc lv (.int x :: st) h g := by
  subst hl
  exact fun H L ls a b c => lv_istore C.1 C.2.1 hd c hn rfl (fun ls' h' => kk H L ls' a b (by rw [List.length_set]; exact zasc_store1 h' hf))
theorem zr_astore_n (C : zOk X Γ cc own nL d rt) (lv2 : List (Option Value)) {k : Fin 4} {x : Nat} (hd : decode cc pc = .ok (.astore_n k, 1)) (hn : (k : Nat) < lv.length) (hf : zfree lv k = true) (hl : lv.set k (some (.ref x)) = lv2) (kk : zV X Γ Q (pc + 1) lv2 st h g) : zV X Γ Q pc lv (.ref x :: st) h g := by
  subst hl
  exact fun H L ls a b c => lv_astore_n C.1 C.2.1 hd rfl c hn rfl (fun ls' h' => kk H L ls' a b (by rw [List.length_set]; exact zasc_store1 h' hf))
theorem zr_lstore_n (C : zOk X Γ cc own nL d rt) (lv2 : List (Option Value)) {k : Fin 4} {x : Int64} (hd : decode cc pc = .ok (.lstore_n k, 1)) (hn : (k : Nat) + 1 < lv.length) (hf : zfree lv k = true) (hl : (lv.set k (zL x)).set (k + 1) none = lv2) (kk : zV X Γ Q (pc + 1) lv2 st h g) : zV X Γ Q pc lv (.long x :: st) h g := by
  subst hl
  exact fun H L ls a b c => lv_lstore_n C.1 C.2.1 hd rfl c hn rfl (fun ls' h' => kk H L ls' a b (by rw [List.length_set, List.length_set]; exact zasc_store2 h' hf))
theorem zr_lstore (C : zOk X Γ cc own nL d rt) (lv2 : List (Option Value)) {i : Nat} {x : Int64} (hd : decode cc pc = .ok (.lstore i, 2)) (hn : i + 1 < lv.length) (hf : zfree lv i = true) (hl : (lv.set i (zL x)).set (i + 1) none = lv2) (kk : zV X Γ Q (pc + 2) lv2 st h g) : zV X Γ Q pc lv (.long x :: st) h g := by
  subst hl
  exact fun H L ls a b c => lv_lstore C.1 C.2.1 hd c hn rfl (fun ls' h' => kk H L ls' a b (by rw [List.length_set, List.length_set]; exact zasc_store2 h' hf))
theorem zr_iinc (C : zOk X Γ cc own nL d rt) (lv2 : List (Option Value)) {i : Nat} {n : Int} {x v : Int32} (hd : decode cc pc = .ok (.iinc i n, 3)) (hx : lv[i]? = some (zI x)) (hv : x + Int32.ofInt n = v) (hn : i < lv.length) (hf : zfree lv i = true) (hl : lv.set i (zI v) = lv2) (kk : zV X Γ Q (pc + 3) lv2 st h g) : zV X Γ Q pc lv st h g := by
  subst hl
  intro H L ls a b c
  obtain ⟨k, hk⟩ : ∃ k : Nat, (zasc 0 lv)[k]? = some (i, .int x) := by
    have := zasc_mem lv 0 i _ hx
    rw [Nat.zero_add] at this
    exact List.getElem?_of_mem this
  exact lv_iinc C.1 C.2.1 hd c hk hv hn rfl (fun ls' h' => kk H L ls' a b (by rw [List.length_set]; exact zasc_store1 h' hf))
/-- the locals in other words, fewer of them -/
theorem zr_lv (lv2 : List (Option Value)) (hs : zle lv2 lv) (kk : zV X Γ Q pc lv2 st h g) : zV X Γ Q pc lv st h g :=
  fun H L ls a b c => kk H L ls a b (by rw [(zle_of lv2 lv hs).1]; exact zasc_sub c (zle_of lv2 lv hs).2)
theorem zr_iadd (C : zOk X Γ cc own nL d rt) {x y : Int32} (hd : decode cc pc = .ok (.iadd, 1)) (k : zV X Γ Q (pc + 1) lv (.int (x + y) :: st) h g) : zV X Γ Q pc lv (.int y :: .int x :: st) h g :=
  fun H L ls a b c => lv_iadd C.1 C.2.1 hd (k H L ls a b c)
theorem zr_isub (C : zOk X Γ cc own nL d rt) {x y : Int32} (hd : decode cc pc = .ok (.isub, 1)) (k : zV X Γ Q (pc + 1) lv (.int (x - y) :: st) h g) : zV X Γ Q pc lv (.int y :: .int x :: st) h g :=
  fun H L ls a b c => lv_isub C.1 C.2.1 hd (k H L ls a b c)
theorem zr_imul (C : zOk X Γ cc own nL d rt) {x y : Int32} (hd : decode cc pc = .ok (.imul, 1)) (k : zV X Γ Q (pc + 1) lv (.int (x * y) :: st) h g) : zV X Γ Q pc lv (.int y :: .int x :: st) h g :=
  fun H L ls a b c => lv_imul C.1 C.2.1 hd (k H L ls a b c)
theorem zr_iand (C : zOk X Γ cc own nL d rt) {x y : Int32} (hd : decode cc pc = .ok (.iand, 1)) (k : zV X Γ Q (pc + 1) lv (.int (x &&& y) :: st) h g) : zV X Γ Q pc lv (.int y :: .int x :: st) h g :=
  fun H L ls a b c => lv_iand C.1 C.2.1 hd (k H L ls a b c)
theorem zr_ior (C : zOk X Γ cc own nL d rt) {x y : Int32} (hd : decode cc pc = .ok (.ior, 1)) (k : zV X Γ Q (pc + 1) lv (.int (x ||| y) :: st) h g) : zV X Γ Q pc lv (.int y :: .int x :: st) h g :=
  fun H L ls a b c => lv_ior C.1 C.2.1 hd (k H L ls a b c)
theorem zr_ixor (C : zOk X Γ cc own nL d rt) {x y : Int32} (hd : decode cc pc = .ok (.ixor, 1)) (k : zV X Γ Q (pc + 1) lv (.int (x ^^^ y) :: st) h g) : zV X Γ Q pc lv (.int y :: .int x :: st) h g :=
  fun H L ls a b c => lv_ixor C.1 C.2.1 hd (k H L ls a b c)
theorem zr_ladd (C : zOk X Γ cc own nL d rt) {x y : Int64} (hd : decode cc pc = .ok (.ladd, 1)) (k : zV X Γ Q (pc + 1) lv (.long (x + y) :: st) h g) : zV X Γ Q pc lv (.long y :: .long x :: st) h g :=
  fun H L ls a b c => lv_ladd C.1 C.2.1 hd (k H L ls a b c)
theorem zr_lsub (C : zOk X Γ cc own nL d rt) {x y : Int64} (hd : decode cc pc = .ok (.lsub, 1)) (k : zV X Γ Q (pc + 1) lv (.long (x - y) :: st) h g) : zV X Γ Q pc lv (.long y :: .long x :: st) h g :=
  fun H L ls a b c => lv_lsub C.1 C.2.1 hd (k H L ls a b c)
theorem zr_lmul (C : zOk X Γ cc own nL d rt) {x y : Int64} (hd : decode cc pc = .ok (.lmul, 1)) (k : zV X Γ Q (pc + 1) lv (.long (x * y) :: st) h g) : zV X Γ Q pc lv (.long y :: .long x :: st) h g :=
  fun H L ls a b c => lv_lmul C.1 C.2.1 hd (k H L ls a b c)
theorem zr_land (C : zOk X Γ cc own nL d rt) {x y : Int64} (hd : decode cc pc = .ok (.land, 1)) (k : zV X Γ Q (pc + 1) lv (.long (x &&& y) :: st) h g) : zV X Γ Q pc lv (.long y :: .long x :: st) h g :=
  fun H L ls a b c => lv_land C.1 C.2.1 hd (k H L ls a b c)
theorem zr_lor (C : zOk X Γ cc own nL d rt) {x y : Int64} (hd : decode cc pc = .ok (.lor, 1)) (k : zV X Γ Q (pc + 1) lv (.long (x ||| y) :: st) h g) : zV X Γ Q pc lv (.long y :: .long x :: st) h g :=
  fun H L ls a b c => lv_lor C.1 C.2.1 hd (k H L ls a b c)
theorem zr_idiv (C : zOk X Γ cc own nL d rt) {x y : Int32} (hd : decode cc pc = .ok (.idiv, 1)) (hne : ¬ y = 0) (k : zV X Γ Q (pc + 1) lv (.int (x / y) :: st) h g) : zV X Γ Q pc lv (.int y :: .int x :: st) h g :=
  fun H L ls a b c => lv_idiv C.1 C.2.1 hd hne (k H L ls a b c)
theorem zr_irem (C : zOk X Γ cc own nL d rt) {x y : Int32} (hd : decode cc pc = .ok (.irem, 1)) (hne : ¬ y = 0) (k : zV X Γ Q (pc + 1) lv (.int (zrem x y) :: st) h g) : zV X Γ Q pc lv (.int y :: .int x :: st) h g :=
  fun H L ls a b c => lv_irem C.1 C.2.1 hd hne (k H L ls a b c)
theorem zr_ldiv (C : zOk X Γ cc own nL d rt) {x y : Int64} (hd : decode cc pc = .ok (.ldiv, 1)) (hne : ¬ y = 0) (k : zV X Γ Q (pc + 1) lv (.long (x / y) :: st) h g) : zV X Γ Q pc lv (.long y :: .long x :: st) h g :=
  fun H L ls a b c => lv_ldiv C.1 C.2.1 hd hne (k H L ls a b c)
theorem zr_lrem (C : zOk X Γ cc own nL d rt) {x y : Int64} (hd : decode cc pc = .ok (.lrem, 1)) (hne : ¬ y = 0) (k : zV X Γ Q (pc + 1) lv (.long (zlrem x y) :: st) h g) : zV X Γ Q pc lv (.long y :: .long x :: st) h g :=
  fun H L ls a b c => lv_lrem C.1 C.2.1 hd hne (k H L ls a b c)
theorem zr_ineg (C : zOk X Γ cc own nL d rt) {x : Int32} (hd : decode cc pc = .ok (.ineg, 1)) (k : zV X Γ Q (pc + 1) lv (.int (0 - x) :: st) h g) : zV X Γ Q pc lv (.int x :: st) h g :=
  fun H L ls a b c => lv_ineg C.1 C.2.1 hd (k H L ls a b c)
theorem zr_ishl (C : zOk X Γ cc own nL d rt) {x y : Int32} (hd : decode cc pc = .ok (.ishl, 1)) (k : zV X Γ Q (pc + 1) lv (.int (zshl x y) :: st) h g) : zV X Γ Q pc lv (.int y :: .int x :: st) h g :=
  fun H L ls a b c => lv_ishl C.1 C.2.1 hd (k H L ls a b c)
theorem zr_ishr (C : zOk X Γ cc own nL d rt) {x y : Int32} (hd : decode cc pc = .ok (.ishr, 1)) (k : zV X Γ Q (pc + 1) lv (.int (zsar x y) :: st) h g) : zV X Γ Q pc lv (.int y :: .int x :: st) h g :=
  fun H L ls a b c => lv_ishr C.1 C.2.1 hd (k H L ls a b c)
theorem zr_iushr (C : zOk X Γ cc own nL d rt) {x y : Int32} (hd : decode cc pc = .ok (.iushr, 1)) (k : zV X Γ Q (pc + 1) lv (.int (zshr x y) :: st) h g) : zV X Γ Q pc lv (.int y :: .int x :: st) h g :=
  fun H L ls a b c => lv_iushr C.1 C.2.1 hd rfl (k H L ls a b c)
theorem zr_lshl (C : zOk X Γ cc own nL d rt) {x : Int64} {y : Int32} (hd : decode cc pc = .ok (.lshl, 1)) (k : zV X Γ Q (pc + 1) lv (.long (x <<< (y.toInt64 &&& 63)) :: st) h g) : zV X Γ Q pc lv (.int y :: .long x :: st) h g :=
  fun H L ls a b c => lv_lshl C.1 C.2.1 hd rfl (k H L ls a b c)
theorem zr_lushr (C : zOk X Γ cc own nL d rt) {x : Int64} {y : Int32} (hd : decode cc pc = .ok (.lushr, 1)) (k : zV X Γ Q (pc + 1) lv (.long (zlshr x y) :: st) h g) : zV X Γ Q pc lv (.int y :: .long x :: st) h g :=
  fun H L ls a b c => lv_lushr C.1 C.2.1 hd rfl (k H L ls a b c)
theorem zr_i2l (C : zOk X Γ cc own nL d rt) {x : Int32} (hd : decode cc pc = .ok (.i2l, 1)) (k : zV X Γ Q (pc + 1) lv (.long x.toInt64 :: st) h g) : zV X Γ Q pc lv (.int x :: st) h g :=
  fun H L ls a b c => lv_i2l C.1 C.2.1 hd rfl (k H L ls a b c)
theorem zr_l2i (C : zOk X Γ cc own nL d rt) {x : Int64} (hd : decode cc pc = .ok (.l2i, 1)) (k : zV X Γ Q (pc + 1) lv (.int x.toInt32 :: st) h g) : zV X Γ Q pc lv (.long x :: st) h g :=
  fun H L ls a b c => lv_l2i C.1 C.2.1 hd rfl (k H L ls a b c)
theorem zr_lcmp (C : zOk X Γ cc own nL d rt) {x y : Int64} (hd : decode cc pc = .ok (.lcmp, 1)) (k : zV X Γ Q (pc + 1) lv (.int (lg_cmp x y) :: st) h g) : zV X Γ Q pc lv (.long y :: .long x :: st) h g :=
  fun H L ls a b c => W.lcmp C.1 C.2.1 hd (k H L ls a b c)
theorem zr_dup (C : zOk X Γ cc own nL d rt) {va : Value} (hd : decode cc pc = .ok (.dup, 1)) (hva : va.category = 1) (k : zV X Γ Q (pc + 1) lv (va :: va :: st) h g) : zV X Γ Q pc lv (va :: st) h g :=
  fun H L ls a b c => lv_dup C.1 C.2.1 hd hva (k H L ls a b c)
theorem zr_pop (C : zOk X Γ cc own nL d rt) {va : Value} (hd : decode cc pc = .ok (.pop, 1)) (hva : va.category = 1) (k : zV X Γ Q (pc + 1) lv st h g) : zV X Γ Q pc lv (va :: st) h g :=
  fun H L ls a b c => lv_pop C.1 C.2.1 hd hva (k H L ls a b c)
theorem zr_dup2 (C : zOk X Γ cc own nL d rt) {va vb : Value} (hd : decode cc pc = .ok (.dup2, 1)) (hva : va.category = 1) (hvb : vb.category = 1) (k : zV X Γ Q (pc + 1) lv (va :: vb :: va :: vb :: st) h g) : zV X Γ Q pc lv (va :: vb :: st) h g :=
  fun H L ls a b c => lv_dup2_11 C.1 C.2.1 hd hva hvb (k H L ls a b c)
theorem zr_icmp_eq (C : zOk X Γ cc own nL d rt) {x y : Int32} {off : Int} (tgt : Nat) (hd : decode cc pc = .ok (.if_icmp .eq off, 3)) (ht : (pc : Int) + off = (tgt : Int)) (kt : x = y → zV X Γ Q tgt lv st h g) (kf : ¬ x = y → zV X Γ Q (pc + 3) lv st h g) : zV X Γ Q pc lv (.int y :: .int x :: st) h g :=
  fun H L ls a b c => lv_icmp_eq C.1 C.2.1 hd ht (fun e => kt e H L ls a b c) (fun e => kf e H L ls a b c)
theorem zr_if_eq (C : zOk X Γ cc own nL d rt) {x : Int32} {off : Int} (tgt : Nat) (hd : decode cc pc = .ok (.ifCond .eq off, 3)) (ht : (pc : Int) + off = (tgt : Int)) (kt : x = 0 → zV X Γ Q tgt lv st h g) (kf : ¬ x = 0 → zV X Γ Q (pc + 3) lv st h g) : zV X Γ Q pc lv (.int x :: st) h g :=
  fun H L ls a b c => lv_if_eq C.1 C.2.1 hd ht (fun e => kt e H L ls a b c) (fun e => kf e H L ls a b c)
theorem zr_icmp_ne (C : zOk X Γ cc own nL d rt) {x y : Int32} {off : Int} (tgt : Nat) (hd : decode cc pc = .ok (.if_icmp .ne off, 3)) (ht : (pc : Int) + off = (tgt : Int)) (kt : ¬ x = y → zV X Γ Q tgt lv st h g) (kf : x = y → zV X Γ Q (pc + 3) lv st h g) : zV X Γ Q pc lv (.int y :: .int x :: st) h g :=
  fun H L ls a b c => lv_icmp_ne C.1 C.2.1 hd ht (fun e => kt e H L ls a b c) (fun e => kf e H L ls a b c)
theorem zr_if_ne (C : zOk X Γ cc own nL d rt) {x : Int32} {off : Int} (tgt : Nat) (hd : decode cc pc = .ok (.ifCond .ne off, 3)) (ht : (pc : Int) + off = (tgt : Int)) (kt : ¬ x = 0 → zV X Γ Q tgt lv st h g) (kf : x = 0 → zV X Γ Q (pc + 3) lv st h g) : zV X Γ Q pc lv (.int x :: st) h g :=
  fun H L ls a b c => lv_if_ne C.1 C.2.1 hd ht (fun e => kt e H L ls a b c) (fun e => kf e H L ls a b c)
theorem zr_icmp_lt (C : zOk X Γ cc own nL d rt) {x y : Int32} {off : Int} (tgt : Nat) (hd : decode cc pc = .ok (.if_icmp .lt off, 3)) (ht : (pc : Int) + off = (tgt : Int)) (kt : x < y → zV X Γ Q tgt lv st h g) (kf : ¬ x < y → zV X Γ Q (pc + 3) lv st h g) : zV X Γ Q pc lv (.int y :: .int x :: st) h g :=
  fun H L ls a b c => lv_icmp_lt C.1 C.2.1 hd ht (fun e => kt e H L ls a b c) (fun e => kf e H L ls a b c)
theorem zr_if_lt (C : zOk X Γ cc own nL d rt) {x : Int32} {off : Int} (tgt : Nat) (hd : decode cc pc = .ok (.ifCond .lt off, 3)) (ht : (pc : Int) + off = (tgt : Int)) (kt : x < 0 → zV X Γ Q tgt lv st h g) (kf : ¬ x < 0 → zV X Γ Q (pc + 3) lv st h g) : zV X Γ Q pc lv (.int x :: st) h g :=
  fun H L ls a b c => lv_if_lt C.1 C.2.1 hd ht (fun e => kt e H L ls a b c) (fun e => kf e H L ls a b c)
theorem zr_icmp_ge (C : zOk X Γ cc own nL d rt) {x y : Int32} {off : Int} (tgt : Nat) (hd : decode cc pc = .ok (.if_icmp .ge off, 3)) (ht : (pc : Int) + off = (tgt : Int)) (kt : y ≤ x → zV X Γ Q tgt lv st h g) (kf : ¬ y ≤ x → zV X Γ Q (pc + 3) lv st h g) : zV X Γ Q pc lv (.int y :: .int x :: st) h g :=
  fun H L ls a b c => lv_icmp_ge C.1 C.2.1 hd ht (fun e => kt e H L ls a b c) (fun e => kf e H L ls a b c)
theorem zr_if_ge (C : zOk X Γ cc own nL d rt) {x : Int32} {off : Int} (tgt : Nat) (hd : decode cc pc = .ok (.ifCond .ge off, 3)) (ht : (pc : Int) + off = (tgt : Int)) (kt : 0 ≤ x → zV X Γ Q tgt lv st h g) (kf : ¬ 0 ≤ x → zV X Γ Q (pc + 3) lv st h g) : zV X Γ Q pc lv (.int x :: st) h g :=
  fun H L ls a b c => lv_if_ge C.1 C.2.1 hd ht (fun e => kt e H L ls a b c) (fun e => kf e H L ls a b c)
theorem zr_icmp_gt (C : zOk X Γ cc own nL d rt) {x y : Int32} {off : Int} (tgt : Nat) (hd : decode cc pc = .ok (.if_icmp .gt off, 3)) (ht : (pc : Int) + off = (tgt : Int)) (kt : y < x → zV X Γ Q tgt lv st h g) (kf : ¬ y < x → zV X Γ Q (pc + 3) lv st h g) : zV X Γ Q pc lv (.int y :: .int x :: st) h g :=
  fun H L ls a b c => lv_icmp_gt C.1 C.2.1 hd ht (fun e => kt e H L ls a b c) (fun e => kf e H L ls a b c)
theorem zr_if_gt (C : zOk X Γ cc own nL d rt) {x : Int32} {off : Int} (tgt : Nat) (hd : decode cc pc = .ok (.ifCond .gt off, 3)) (ht : (pc : Int) + off = (tgt : Int)) (kt : 0 < x → zV X Γ Q tgt lv st h g) (kf : ¬ 0 < x → zV X Γ Q (pc + 3) lv st h g) : zV X Γ Q pc lv (.int x :: st) h g :=
  fun H L ls a b c => lv_if_gt C.1 C.2.1 hd ht (fun e => kt e H L ls a b c) (fun e => kf e H L ls a b c)
theorem zr_icmp_le (C : zOk X Γ cc own nL d rt) {x y : Int32} {off : Int} (tgt : Nat) (hd : decode cc pc = .ok (.if_icmp .le off, 3)) (ht : (pc : Int) + off = (tgt : Int)) (kt : x ≤ y → zV X Γ Q tgt lv st h g) (kf : ¬ x ≤ y → zV X Γ Q (pc + 3) lv st h g) : zV X Γ Q pc lv (.int y :: .int x :: st) h g :=
  fun H L ls a b c => lv_icmp_le C.1 C.2.1 hd ht (fun e => kt e H L ls a b c) (fun e => kf e H L ls a b c)
theorem zr_if_le (C : zOk X Γ cc own nL d rt) {x : Int32} {off : Int} (tgt : Nat) (hd : decode cc pc = .ok (.ifCond .le off, 3)) (ht : (pc : Int) + off = (tgt : Int)) (kt : x ≤ 0 → zV X Γ Q tgt lv st h g) (kf : ¬ x ≤ 0 → zV X Γ Q (pc + 3) lv st h g) : zV X Γ Q pc lv (.int x :: st) h g :=
  fun H L ls a b c => lv_if_le C.1 C.2.1 hd ht (fun e => kt e H L ls a b c) (fun e => kf e H L ls a b c)
theorem zr_goto (C : zOk X Γ cc own nL d rt) {off : Int} (tgt : Nat) (hd : decode cc pc = .ok (.goto off, 3)) (ht : (pc : Int) + off = (tgt : Int)) (k : zV X Γ Q tgt lv st h g) : zV X Γ Q pc lv st h g :=
  fun H L ls a b c => lv_goto C.1 C.2.1 hd ht (k H L ls a b c)
theorem zr_tabOut (C : zOk X Γ cc own nL d rt) {dflt lo hi : Int} {offs : Array Int} {len : Nat} {x : Int32} (tgt : Nat) (hd : decode cc pc = .ok (.tableswitch dflt lo hi offs, len)) (hx : x.toInt < lo ∨ hi < x.toInt) (ht : (pc : Int) + dflt = (tgt : Int)) (k : zV X Γ Q tgt lv st h g) : zV X Γ Q pc lv (.int x :: st) h g :=
  fun H L ls a b c => lv_tableOut C.1 C.2.1 hd hx ht (k H L ls a b c)
theorem zr_tabIn (C : zOk X Γ cc own nL d rt) {dflt lo hi : Int} {offs : Array Int} {len : Nat} {x : Int32} {off : Int} (tgt : Nat) (hd : decode cc pc = .ok (.tableswitch dflt lo hi offs, len)) (h1 : ¬ x.toInt < lo) (h2 : ¬ hi < x.toInt) (ho : offs[(x.toInt - lo).toNat]? = some off) (ht : (pc : Int) + off = (tgt : Int)) (k : zV X Γ Q tgt lv st h g) : zV X Γ Q pc lv (.int x :: st) h g :=
  fun H L ls a b c => lv_tableIn C.1 C.2.1 hd h1 h2 ho ht (k H L ls a b c)
/-- the top of the stack in other words -/
theorem zr_top {x y : Int32} (e : x = y) (k : zV X Γ Q pc lv (.int y :: st) h g) : zV X Γ Q pc lv (.int x :: st) h g := e ▸ k
end ZR
end
section
/-! Fields, rows, calls, returns over the fixed world. -/
section ZS
variable {X : zXT} {Γ : zGT} {Q : State → Prop} {cc : ByteArray} {own : String} {nL d : Nat} {rt : Option FieldType} {pc : Nat} {lv : List (Option Value)} {st : List Value} {h : zHp} {g : zLg}
theorem zr_get {c ci N idx : Nat} {C : String} {T : u_T} {fs : List Value} (K : zOk X Γ cc own nL d rt) (hc : c < 71) (he : zC X g c (h c) = .inr (ci, fs)) (hcl : zcl[ci]? = some (C, T, N)) (hin : ∀ w ∈ u_ws C T N, w ∈ zU) (k : Nat) (hk : k < N) (hw : Cond.fieldLink own idx (T k).1 (T k).2.1 (T k).2.2.1 ∈ zU) {v : Value} (hv : fs[k]? = some v) (hd : decode cc pc = .ok (.getfield idx, 3)) (kk : zV X Γ Q (pc + 3) lv (v :: st) h g) : zV X Γ Q pc lv (zR X c :: st) h g :=
  fun H L ls a b e => va_get (D := X.2.1) (cl := zcl) (ws := zw X h g) (tys := ztys X) K.1 K.2.1 K.2.2.2.2.1 hin K.2.2.2.1 K.2.2.2.2.2.1.1 a c (fs := fs) (by rw [zw_at X h g hc, he]) hcl k hk (K.2.2.2.2.1 _ hw) (fun x hx => hx) hv hd (kk H L ls a b e)
theorem zr_put {c ci N idx : Nat} {C : String} {T : u_T} {fs : List Value} {h2 : zHp} {g2 : zLg} (K : zOk X Γ cc own nL d rt) (hc : c < 71) (he : zC X g c (h c) = .inr (ci, fs)) (hcl : zcl[ci]? = some (C, T, N)) (hin : ∀ w ∈ u_ws C T N, w ∈ zU) (ty0 : Nat → FieldType) (hty : ∀ k, k < N → parseFieldDescriptor (T k).2.2.1 = some (ty0 k)) (hnm : ∀ a, a < N → ∀ b, b < N → a ≠ b → (T a).2.1 ≠ (T b).2.1) (k : Nat) (hk : k < N) (hw : Cond.fieldLink own idx (T k).1 (T k).2.1 (T k).2.2.1 ∈ zU) (hfin : (T k).2.2.2 = false) {v : Value} (hn : narrow (ty0 k) v = v) (hfit : fits (ty0 k) v = true) (hl : k < fs.length) (he2 : (zw X h g).set c (X.2.2.2.2 c, .inr (ci, fs.set k v)) = zw X h2 g2) (hd : decode cc pc = .ok (.putfield idx, 3)) (kk : zV X Γ Q (pc + 3) lv st h2 g2) : zV X Γ Q pc lv (v :: zR X c :: st) h g := by
  intro H L ls a b e
  refine va_put (D := X.2.1) (cl := zcl) (ws := zw X h g) (tys := ztys X) K.1 K.2.1 K.2.2.2.2.1 hin ty0 hty hnm K.2.2.2.1 K.2.2.2.2.2.1.1 a (zw_D K.2.2.2.2.2.1.2.1 h g) b c (fs := fs) (by rw [zw_at X h g hc, he]) hcl k hk (K.2.2.2.2.1 _ hw) (fun x hx => hx) hfin (hty k hk) hn hfit hl hd (fun H1 L1 hP hD hS => ?_)
  rw [he2] at hP
  exact kk H1 L1 ls hP hS e
/-- c is an int[] of n places -/
def zar (c n : Nat) : Prop := c < 71 ∧ zkind c = 8 ∧ zlen c = n
theorem zC_ar {c n : Nat} (ha : zar c n) (X : zXT) (g : zLg) (r : Nat → Int32) : zC X g c r = .inl (X.2.2.1, n, .inl r) := by
  unfold zC
  rw [ha.2.1, ha.2.2]
  rfl
theorem zr_iald {c n : Nat} (K : zOk X Γ cc own nL d rt) (ha : zar c n) (i : Nat) {x : Int32} (hx : x = nI i) (hi : i < n) (hn : n < 2 ^ 31 := by decide) (hd : decode cc pc = .ok (.iaload, 1)) (kk : zV X Γ Q (pc + 1) lv (.int (h c i) :: st) h g) : zV X Γ Q pc lv (.int x :: zR X c :: st) h g := by
  subst hx
  intro H L ls a b e
  refine va_iald (D := X.2.1) (cl := zcl) (ws := zw X h g) (tys := ztys X) K.1 K.2.1 K.2.2.2.2.2.1.1 a c 0 (cA := X.2.2.1) (n := n) (f := h c) (by rw [zw_at X h g ha.1, zC_ar ha]) rfl (vp_in_nI hi hn) hd ?_
  rw [nI_clamp (by omega)]
  exact kk H L ls a b e
theorem zr_iast {c n : Nat} (K : zOk X Γ cc own nL d rt) (ha : zar c n) (i : Nat) {x v : Int32} (hx : x = nI i) (hi : i < n) (hn : n < 2 ^ 31 := by decide) (hd : decode cc pc = .ok (.iastore, 1)) (kk : zV X Γ Q (pc + 1) lv st (zup h c i v) g) : zV X Γ Q pc lv (.int v :: .int x :: zR X c :: st) h g := by
  subst hx
  intro H L ls a b e
  refine va_iast (D := X.2.1) (cl := zcl) (ws := zw X h g) (tys := ztys X) K.1 K.2.1 K.2.2.2.2.2.1.1 a (zw_D K.2.2.2.2.2.1.2.1 h g) b c 0 (cA := X.2.2.1) (n := n) (f := h c) (by rw [zw_at X h g ha.1, zC_ar ha]) rfl (vp_in_nI hi hn) hd (fun H1 L1 hP hD hS => ?_)
  rw [nI_clamp (by omega), zw_up X h g (zC_ar ha X g _)] at hP
  exact kk H1 L1 ls hP hS e
theorem zr_alen {c n : Nat} (K : zOk X Γ cc own nL d rt) (ha : zar c n) (hd : decode cc pc = .ok (.arraylength, 1)) (kk : zV X Γ Q (pc + 1) lv (.int (nI n) :: st) h g) : zV X Γ Q pc lv (zR X c :: st) h g := by
  intro H L ls a b e
  exact va_alen (D := X.2.1) (cl := zcl) (ws := zw X h g) (tys := ztys X) K.1 K.2.1 K.2.2.2.2.2.1.1 a c 0 (cA := X.2.2.1) (x := (n, .inl (h c))) (by rw [zw_at X h g ha.1, zC_ar ha]) (ty := .int) rfl rfl hd (kk H L ls a b e)
theorem zr_zald (K : zOk X Γ cc own nL d rt) (i : Nat) {x : Int32} (hx : x = nI i) (hi : i < 2) (hd : decode cc pc = .ok (.baload, 1)) (kk : zV X Γ Q (pc + 1) lv (.int (h 59 i) :: st) h g) : zV X Γ Q pc lv (.int x :: zR X 59 :: st) h g := by
  subst hx
  intro H L ls a b e
  refine va_zald (D := X.2.1) (cl := zcl) (ws := zw X h g) (tys := ztys X) K.1 K.2.1 K.2.2.2.2.2.1.1 a 59 1 (cA := X.2.2.2.1) (n := 2) (f := h 59) (by rw [zw_at X h g (by decide)]; rfl) rfl (vp_in_nI hi (by decide)) hd ?_
  rw [nI_clamp (by omega)]
  exact kk H L ls a b e
theorem zr_zast (K : zOk X Γ cc own nL d rt) (i : Nat) {x v : Int32} (hx : x = nI i) (hi : i < 2) (hv : v = 0 ∨ v = 1) (hd : decode cc pc = .ok (.bastore, 1)) (kk : zV X Γ Q (pc + 1) lv st (zup h 59 i v) g) : zV X Γ Q pc lv (.int v :: .int x :: zR X 59 :: st) h g := by
  subst hx
  intro H L ls a b e
  refine va_zast (D := X.2.1) (cl := zcl) (ws := zw X h g) (tys := ztys X) K.1 K.2.1 K.2.2.2.2.2.1.1 a (zw_D K.2.2.2.2.2.1.2.1 h g) b 59 1 (cA := X.2.2.2.1) (n := 2) (f := h 59) (by rw [zw_at X h g (by decide)]; rfl) rfl (vp_in_nI hi (by decide)) hd (fun H1 L1 hP hD hS => ?_)
  rw [nI_clamp (by omega), show vp_nar .boolean v = v from (by rcases hv with rfl | rfl <;> rfl), zw_up X h g (c := 59) (k := i) (x := v) (e := .inl (X.2.2.2.1, 2, .inl (upd (h 59) i v))) rfl] at hP
  exact kk H1 L1 ls hP hS e
/-- System.arraycopy between int[]s -/
theorem zr_copy {c c2 n n2 idx : Nat} (K : zOk X Γ cc own nL d rt) (ha : zar c n) (ha2 : zar c2 n2) (hw : Cond.methodLink own idx arraycopyName ∈ zU) (i j k : Nat) {x y z : Int32} (hx : x = nI i) (hy : y = nI j) (hz : z = nI k) (h1 : i + k ≤ n) (h2 : j + k ≤ n2) (hn : n < 2 ^ 31 := by decide) (hn2 : n2 < 2 ^ 31 := by decide) (hnL : lv.length = nL) (hst : (st.map fun v => v.category).sum ≤ 8 := by decide) (hd1 : 1 ≤ d := by decide) (hd : decode cc pc = .ok (.invokestatic idx, 3)) (kk : zV X Γ Q (pc + 3) lv st (zcp h c c2 i j k) g) : zV X Γ Q pc lv (.int z :: .int y :: zR X c2 :: .int x :: zR X c :: st) h g := by
  subst hx hy hz
  intro H L ls a b e
  have q0 : ∀ t : Nat, t < 2 ^ 31 → ¬ nI t < 0 := fun t ht => nI_pos ht
  have h3 : nativeFrameWords "java/lang/System" "arraycopy" 5 + 11 ≤ 56 := by decide +kernel
  have h4 := K.2.2.2.2.2.2.1.1
  have h5 := K.2.2.2.2.2.2.1.2.1
  have hfr : 1 ≤ (zGR Γ).frames := by omega
  have hlo : (st.map fun v => v.category).sum + (nativeFrameWords "java/lang/System" "arraycopy" 5 + 11) ≤ (zGR Γ).locals := by omega
  refine va_copyi (D := X.2.1) (cl := zcl) (ws := zw X h g) (tys := ztys X) K.1 K.2.1 (by rw [K.2.2.1, e.1, hnL]) K.2.2.2.1 (K.2.2.2.2.1 _ hw) (K.2.2.2.2.1 _ (zU_in (i := 384) (by decide +kernel) rfl)) (K.2.2.2.2.1 _ (zU_in (i := 383) (by decide +kernel) rfl)) (K.2.2.2.2.1 _ (zU_in (i := 65) (by decide +kernel) rfl)) K.2.2.2.2.2.1.1 a (zw_D K.2.2.2.2.2.1.2.1 h g) b c c2 0 0 (c0 := X.2.2.1) (c1 := X.2.2.1) (n0 := n) (n1 := n2) (f := h c) (g := h c2) (ty := .int) (by rw [zw_at X h g ha.1, zC_ar ha]) (by rw [zw_at X h g ha2.1, zC_ar ha2]) rfl rfl rfl (q0 i (by omega)) (q0 j (by omega)) (q0 k (by omega)) (by rw [nI_clamp (by omega), nI_clamp (by omega)]; exact h1) (by rw [nI_clamp (by omega), nI_clamp (by omega)]; exact h2) (fun _ _ => rfl) hfr hlo hd (fun H1 L1 hP hD hS => ?_)
  rw [nI_clamp (by omega), nI_clamp (by omega), nI_clamp (by omega), zw_set X h (zcp h c c2 i j k) g g (by rw [zcp_eq]; exact zC_ar ha2 X g _) (fun e he => by rw [zcp_ne he])] at hP
  exact kk H1 L1 ls hP hS e
theorem zr_mmax {idx : Nat} {x y : Int32} (K : zOk X Γ cc own nL d rt) (hw : Cond.methodLink own idx Lib.Math.max.name ∈ zU) (hnL : lv.length = nL) (hst : (st.map fun v => v.category).sum ≤ 8 := by decide) (hd1 : 1 ≤ d := by decide) (hd : decode cc pc = .ok (.invokestatic idx, 3)) (kk : zV X Γ Q (pc + 3) lv (.int (if x < y then y else x) :: st) h g) : zV X Γ Q pc lv (.int y :: .int x :: st) h g :=
  fun H L ls a b e => va_mmax K.1 K.2.1 (by rw [K.2.2.1, e.1, hnL]) K.2.2.2.1 (K.2.2.2.2.1 _ hw) (K.2.2.2.2.1 _ (zU_in (i := 182) (by decide +kernel) rfl)) (K.2.2.2.2.1 _ (zU_in (i := 60) (by decide +kernel) rfl)) (K.2.2.2.2.1 _ (zU_in (i := 183) (by decide +kernel) rfl)) (by have := K.2.2.2.2.2.2.1.1; omega) (by have := K.2.2.2.2.2.2.1.2.1; omega) K.2.2.2.2.2.2.1.2.2.1 K.2.2.2.2.2.2.1.2.2.2 hd (kk H L ls a b e)
theorem zr_mmin {idx : Nat} {x y : Int32} (K : zOk X Γ cc own nL d rt) (hw : Cond.methodLink own idx Lib.Math.min.name ∈ zU) (hnL : lv.length = nL) (hst : (st.map fun v => v.category).sum ≤ 8 := by decide) (hd1 : 1 ≤ d := by decide) (hd : decode cc pc = .ok (.invokestatic idx, 3)) (kk : zV X Γ Q (pc + 3) lv (.int (if y < x then y else x) :: st) h g) : zV X Γ Q pc lv (.int y :: .int x :: st) h g :=
  fun H L ls a b e => va_mmin K.1 K.2.1 (by rw [K.2.2.1, e.1, hnL]) K.2.2.2.1 (K.2.2.2.2.1 _ hw) (K.2.2.2.2.1 _ (zU_in (i := 463) (by decide +kernel) rfl)) (K.2.2.2.2.1 _ (zU_in (i := 60) (by decide +kernel) rfl)) (K.2.2.2.2.1 _ (zU_in (i := 464) (by decide +kernel) rfl)) (by have := K.2.2.2.2.2.2.1.1; omega) (by have := K.2.2.2.2.2.2.1.2.1; omega) K.2.2.2.2.2.2.1.2.2.1 K.2.2.2.2.2.2.1.2.2.2 hd (kk H L ls a b e)
theorem zr_mabs {idx : Nat} {x : Int32} (K : zOk X Γ cc own nL d rt) (hw : Cond.methodLink own idx Lib.Math.abs.name ∈ zU) (hnL : lv.length = nL) (hst : (st.map fun v => v.category).sum ≤ 8 := by decide) (hd1 : 1 ≤ d := by decide) (hd : decode cc pc = .ok (.invokestatic idx, 3)) (kk : zV X Γ Q (pc + 3) lv (.int (if 0 ≤ x then x else 0 - x) :: st) h g) : zV X Γ Q pc lv (.int x :: st) h g :=
  fun H L ls a b e => va_mabs K.1 K.2.1 (by rw [K.2.2.1, e.1, hnL]) K.2.2.2.1 (K.2.2.2.2.1 _ hw) (K.2.2.2.2.1 _ (zU_in (i := 706) (by decide +kernel) rfl)) (K.2.2.2.2.1 _ (zU_in (i := 60) (by decide +kernel) rfl)) (K.2.2.2.2.1 _ (zU_in (i := 707) (by decide +kernel) rfl)) (by have := K.2.2.2.2.2.2.1.1; omega) (by have := K.2.2.2.2.2.2.1.2.1; omega) K.2.2.2.2.2.2.1.2.2.1 K.2.2.2.2.2.2.1.2.2.2 hd (kk H L ls a b e)
-- returns
theorem zr_end {H : Heap} {locs : List Loc} {o : Option Value} (K : zOk X Γ cc own nL d rt) (hP : va_P X.2.1 zcl (zw X h g) H) (hS : va_S (zA X) (zGs Γ).heap H locs) (t : State) (ht : t.heap = H) : zQD X o h g (zGa Γ) (zGs Γ) (.returned o) t :=
  ⟨⟨rfl, by unfold zSt; rw [ht]; exact hP⟩, hS.F ht⟩
theorem zr_ireti {x : Int32} (K : zOk X Γ cc own nL d (some .int)) (hd : decode cc pc = .ok (.ireturn, 1)) : zV X Γ (zTQ X Γ (zI x) h g) pc lv [.int x] h g :=
  fun H L ls a b e => W.iret K.1 K.2.1 K.2.2.2.2.2.2.2.1 (fun t ht _ => zr_end K a b t ht) b.2.2 hd K.2.2.2.2.2.2.2.2
theorem zr_iretz {x : Int32} (K : zOk X Γ cc own nL d (some .boolean)) (hx : x = 0 ∨ x = 1) (hd : decode cc pc = .ok (.ireturn, 1)) : zV X Γ (zTQ X Γ (zI x) h g) pc lv [.int x] h g :=
  fun H L ls a b e => W.zret K.1 K.2.1 K.2.2.2.2.2.2.2.1 (by rcases hx with rfl | rfl <;> rfl) (fun t ht _ => zr_end K a b t ht) b.2.2 hd K.2.2.2.2.2.2.2.2
theorem zr_lret {x : Int64} (K : zOk X Γ cc own nL d (some .long)) (hd : decode cc pc = .ok (.lreturn, 1)) : zV X Γ (zTQ X Γ (zL x) h g) pc lv [.long x] h g :=
  fun H L ls a b e => W.lret K.1 K.2.1 K.2.2.2.2.2.2.2.1 (fun t ht _ => zr_end K a b t ht) b.2.2 hd K.2.2.2.2.2.2.2.2
theorem zr_vret (K : zOk X Γ cc own nL d none) (hd : decode cc pc = .ok (.return_, 1)) : zV X Γ (zTQ X Γ none h g) pc lv [] h g :=
  fun H L ls a b e => W.vret K.1 K.2.1 K.2.2.2.2.2.2.2.1 (fun t ht _ => zr_end K a b t ht) b.2.2 hd K.2.2.2.2.2.2.2.2
/-- the numbers and the answer in other words -/
theorem zTQ_eq {o o2 : Option Value} {h2 h3 : zHp} {g2 g3 : zLg} (e1 : o = o2) (e2 : h2 = h3) (e3 : g2 = g3) (k : zV X Γ (zTQ X Γ o h2 g2) pc lv st h g) : zV X Γ (zTQ X Γ o2 h3 g3) pc lv st h g := by
  subst e1; subst e2; subst e3; exact k
-- calls
theorem zr_after {M : zMT} {dy : Nat} {av rest st0 : List Value} {o : Option Value} {h2 : zHp} {g2 : zLg} {H : Heap} {locs : List Loc} {ls : Array Slot} (K : zOk X Γ cc own nL d rt) (hr : va_Run (zGp Γ) X.1 (zGe Γ) (zGR Γ) (zGs Γ) (zGm Γ) (zGa Γ) (zGb Γ) (zGM Γ) (zGc Γ) H locs (zGkc Γ) (zGks Γ) 0 0 (F0 (zGm Γ) pc ls st0) rest (zQD X o h2 g2 av.toArray) (zA X)) (hS : va_S (zA X) (zGs Γ).heap H locs) (e : lv_has ls lv.length (zasc 0 lv)) (kk : zV X Γ Q (pc + 3) lv (o.toList ++ rest) h2 g2) : W (zGp Γ) X.1 (zGe Γ) (zGR Γ) (zGs Γ) (zGm Γ) (zGa Γ) (zGb Γ) (zGM Γ) (zGc Γ) H locs (zGkc Γ) (zGks Γ) Q (F0 (zGm Γ) pc ls st0) := by
  intro T hT Y
  obtain ⟨v, st₀, t, T', L, h0, Y', hL, e1, e2, ⟨⟨hv, hb⟩, hz, hk⟩, stp⟩ := hr T hT Y
  cases hv
  rw [h0] at hz hk
  have hP : va_P X.2.1 zcl (zw X h2 g2) T'.heap := by rw [e1]; exact hb
  have hS2 : va_S (zA X) (zGs Γ).heap T'.heap (locs ++ L) := ⟨Nat.le_trans hS.1 (by rw [e1]; exact hz), fun q q1 q2 => by rw [e1, hk q (Nat.lt_of_lt_of_le q1 hS.1) q2]; exact hS.2.1 q q1 q2, fun q hq => by
      rcases List.mem_append.mp hq with h | h
      · exact hS.2.2 q h
      · exact hL q h⟩
  obtain ⟨t2, a1, b1⟩ := kk T'.heap (locs ++ L) ls hP hS2 e T' rfl Y'
  exact ⟨t2, stp t2 a1, b1⟩
theorem zr_fix (K : zOk X Γ cc own nL d rt) : CallFix (zGp Γ) (zGm Γ) (zGc Γ) cc nL (zGs Γ) (zGa Γ) zU own := ⟨K.1, K.2.1, K.2.2.1, K.2.2.2.1, K.2.2.2.2.1⟩
theorem zr_blind (X : zXT) (av : List Value) (h : zHp) (g : zLg) : FrameBlind (va_Pc av (fun U => zSt X h g U ∧ zKn X U)) :=
  fun a U g mk q => ⟨q.1, q.2.1, va_K.moved (u := U) (U := U.calling g mk a) (Vm.Alike.refl U.vm) q.2.2.1, q.2.2.2.1, zNest_same (u := U) (U := U.calling g mk a) rfl q.2.2.2.2⟩
theorem zr_pre {H : Heap} (K : zOk X Γ cc own nL d rt) (av : List Value) (hP : va_P X.2.1 zcl (zw X h g) H) : ∀ U : State, U.heap = H → (zGs Γ).WarmedH U.vm → va_Pc av (fun U => zSt X h g U ∧ zKn X U) av.toArray U :=
  fun U hU hW => ⟨rfl, by unfold zSt; rw [hU]; exact hP, zKn_warm hW K.2.2.2.2.2.1⟩
theorem zr_room (K : zOk X Γ cc own nL d rt) {dy maxL : Nat} (h1 : dy + 1 ≤ d) (h2 : maxL ≤ 40) : (zrm dy).frames + 1 ≤ (zGR Γ).frames ∧ 8 + (maxL + 11) + (zrm dy).locals ≤ (zGR Γ).locals := by
  have := K.2.2.2.2.2.2.1.1
  have := K.2.2.2.2.2.2.1.2.1
  unfold zrm
  constructor
  · show dy + 1 ≤ _; omega
  · show 8 + (maxL + 11) + 64 * dy ≤ _; omega
/-- what a call of M needs of the tables (n: how many parameters) -/
def zcall (M : zMT) (n : Nat) : Prop := Cond.code M.1 M.2.1 M.2.2.1 M.2.2.2 ∈ zU ∧ Cond.initialized M.1.cls ∈ zU ∧ (M.1.cls ≠ "java/lang/invoke/MethodHandle" ∧ M.1.cls ≠ "java/lang/invoke/VarHandle" ∧ (parseMethodDescriptor M.1.desc).map (fun d => d.parameters.length) = some n) ∧ M.2.2.1 ≤ 40
/-- an object's method, public or private, by its own link -/
theorem zr_callV {M : zMT} {dy n idx c ci N : Nat} {C : String} {T : u_T} {fs As : List Value} {o : Option Value} {h2 : zHp} {g2 : zLg} (K : zOk X Γ cc own nL d rt) (hM : zDi X M dy (zR X c :: As) h g o h2 g2) (hm : zcall M n) (hl : Cond.methodLink own idx M.1 ∈ zU) (hi : Cond.instanceMethod M.1 ∈ zU) (hs : Cond.selects C M.1 M.1 ∈ zU) (hc : c < 71) (he : zC X g c (h c) = .inr (ci, fs)) (hcl : zcl[ci]? = some (C, T, N)) (hn : As.length = n) (hdy : dy + 1 ≤ d) (hnL : lv.length = nL) (hst : (st.map fun v => v.category).sum ≤ 8) (hd : decode cc pc = .ok (.invokevirtual idx, 3)) (kk : zV X Γ Q (pc + 3) lv (o.toList ++ st) h2 g2) : zV X Γ Q pc lv (As.reverse ++ zR X c :: st) h g := by
  intro H L ls a b e
  refine zr_after (M := M) (dy := dy) (av := zR X c :: As) K (va_runV (As := As) (rest := st) (zr_fix K) hM (C := C) ⟨callB_of n K.2.2.2.2.1 (zU_good' _ hm.1) rfl rfl rfl (K.2.2.2.2.1 _ hm.2.1) (K.2.2.2.2.1 _ hl) hm.2.2.1 (zr_room K hdy hm.2.2.2), K.2.2.2.2.1 _ hi, K.2.2.2.2.1 _ hs⟩ ⟨zr_blind X _ h g, va_recv (tys := ztys X) K.2.2.2.2.2.1.1 a hcl (q0 := c) (by rw [zw_at X h g hc, he]), zr_pre K _ a⟩ rfl hn (by rw [← hnL]; exact e.1) rfl (lv_room hst) hd ⟨K.2.2.2.2.2.2.1.2.2.1, K.2.2.2.2.2.2.1.2.2.2⟩) b e kk
/-- a static method by its own link -/
theorem zr_callS {M : zMT} {dy n idx : Nat} {As : List Value} {o : Option Value} {h2 : zHp} {g2 : zLg} (K : zOk X Γ cc own nL d rt) (hM : zDi X M dy As h g o h2 g2) (hm : zcall M n) (hl : Cond.methodLink own idx M.1 ∈ zU) (hi : Cond.static M.1 ∈ zU) (hn : As.length = n) (hdy : dy + 1 ≤ d) (hnL : lv.length = nL) (hst : (st.map fun v => v.category).sum ≤ 8) (hd : decode cc pc = .ok (.invokestatic idx, 3)) (kk : zV X Γ Q (pc + 3) lv (o.toList ++ st) h2 g2) : zV X Γ Q pc lv (As.reverse ++ st) h g := by
  intro H L ls a b e
  refine zr_after (M := M) (dy := dy) (av := As) K (va_runS (As := As) (rest := st) (zr_fix K) hM ⟨callB_of n K.2.2.2.2.1 (zU_good' _ hm.1) rfl rfl rfl (K.2.2.2.2.1 _ hm.2.1) (K.2.2.2.2.1 _ hl) hm.2.2.1 (zr_room K hdy hm.2.2.2), K.2.2.2.2.1 _ hi⟩ ⟨zr_blind X _ h g, zr_pre K _ a⟩ rfl hn (by rw [← hnL]; exact e.1) rfl (lv_room hst) hd ⟨K.2.2.2.2.2.2.1.2.2.1, K.2.2.2.2.2.2.1.2.2.2⟩) b e kk
/-- a private static method of the nest's host -/
theorem zr_callN {M : zMT} {dy n idx : Nat} {host : String} {As : List Value} {o : Option Value} {h2 : zHp} {g2 : zLg} (K : zOk X Γ cc own nL d rt) (hM : zDi X M dy As h g o h2 g2) (hm : zcall M n) (hl : Cond.methodLinkNest own idx M.1 host ∈ zNest) (hi : Cond.static M.1 ∈ zU) (hn : As.length = n) (hdy : dy + 1 ≤ d) (hnL : lv.length = nL) (hst : (st.map fun v => v.category).sum ≤ 8) (hd : decode cc pc = .ok (.invokestatic idx, 3)) (kk : zV X Γ Q (pc + 3) lv (o.toList ++ st) h2 g2) : zV X Γ Q pc lv (As.reverse ++ st) h g := by
  intro H L ls a b e
  refine zr_after (M := M) (dy := dy) (av := As) K (va_runSN (As := As) (rest := st) (zr_fix K) hM ⟨va_cnB n K.2.2.2.2.1 (zU_good' _ hm.1) rfl rfl rfl (K.2.2.2.2.2.1.2.2 _ hl) (K.2.2.2.2.1 _ hm.2.1) hm.2.2.1 (zr_room K hdy hm.2.2.2), K.2.2.2.2.1 _ hi, trivial⟩ ⟨zr_blind X _ h g, zr_pre K _ a⟩ rfl hn (by rw [← hnL]; exact e.1) rfl (lv_room hst) hd ⟨K.2.2.2.2.2.2.1.2.2.1, K.2.2.2.2.2.2.1.2.2.2⟩) b e kk
end ZS
/-- a method's contract out of its walk -/
theorem zDi_of {X : zXT} {M : zMT} {d : Nat} {av : List Value} {h : zHp} {g : zLg} {o : Option Value} {h2 : zHp} {g2 : zLg} (own : String) (cc : ByteArray) (nL : Nat) (rt : Option FieldType) (hM : M = (⟨own, M.1.name, M.1.desc⟩, cc, nL, rt)) (hy : plainName M.1.cls = true) (lv : List (Option Value)) (hlv : lv.length = nL) (hle : ∀ q ∈ zasc 0 lv, q ∈ lv_args 0 av) (hav : (lg_sl av).length ≤ nL)
    (body : ∀ (Γ : zGT) (Q : State → Prop), zOk X Γ cc own nL d rt → Q = zTQ X Γ o h2 g2 → zV X Γ Q 0 lv [] h g) : zDi X M d av h g o h2 g2 := by
  obtain ⟨y, cc', nL', rt'⟩ := M
  simp only [Prod.mk.injEq] at hM
  obtain ⟨hy0, rfl, rfl, rfl⟩ := hM
  unfold zDi
  refine Met.ofW (cc := cc') (maxL := nL') (ret := rt') hy rfl ?_
  intro p e s m args below meth c s₁ B hml hv
  obtain ⟨rfl, hP, hK⟩ := hv
  have hts := atoms_spec (ws := zws (y, cc', nL', rt')) B.pre
  have hown : s.vm.findClass own = some m.cls := by
    have := findClass_of_methodNamed B.named
    rw [hy0] at this
    exact this
  have C : zOk X (p, e, (headSpec (zws (y, cc', nL', rt')) (zrm d)).room, s, m, av.toArray, below, meth, c, 0, 0) cc' own nL' d rt' := ⟨B.exec, B.bytes, hml, hown, fun w hw => hts w (List.mem_cons_of_mem _ hw), hK, ⟨Nat.le_refl _, Nat.le_refl _, Nat.zero_le _, Nat.zero_le _⟩, B.returns, B.notSynchronized⟩
  have hl := lv_entry av (n := nL') hav
  rw [lg_entry_eq]
  have hl2 : lv_has (lg_sl av ++ List.replicate (nL' - (lg_sl av).length) Slot.unset).toArray lv.length (zasc 0 lv) := ⟨by rw [hlv]; exact hl.1, hl.2.1, fun q hq => hl.2.2 q (hle q hq)⟩
  exact body _ _ C rfl s.heap [] _ hP va_S.rf hl2
end
section
/-! Loops. -/
/-- a row of steps, from 0 up -/
def zrep {σ : Type} (f : Nat → σ → σ) (a : σ) : Nat → σ
  | 0 => a
  | n + 1 => f n (zrep f a n)
/-- a row of steps that may end early -/
def zrex {σ ρ : Type} (f : Nat → σ → σ ⊕ ρ) (a : σ) : Nat → σ ⊕ ρ
  | 0 => .inl a
  | n + 1 => match zrex f a n with
    | .inl s => f n s
    | .inr r => .inr r
theorem zrep_inv {σ : Type} {f : Nat → σ → σ} {a : σ} (I : Nat → σ → Prop) (n : Nat) (h0 : I 0 a) (hs : ∀ i s, i < n → I i s → I (i + 1) (f i s)) : I n (zrep f a n) := by
  have hI : ∀ i, i ≤ n → I i (zrep f a i) := by
    intro i
    induction i with
    | zero => exact fun _ => h0
    | succ i ih => exact fun h => hs i _ (by omega) (ih (by omega))
  exact hI n (Nat.le_refl _)
theorem zfor {σ : Type} {f : Nat → σ → σ} {a : σ} (P : Nat → σ → Prop) (I : Nat → σ → Prop) (n : Nat) (h0 : I 0 a) (hs : ∀ i s, i < n → I i s → (I (i + 1) (f i s) ∧ ((∀ s2, f i s = s2 → P (i + 1) s2) → P i s))) (he : ∀ r, zrep f a n = r → I n r → P n r) : P 0 a := by
  have hI : ∀ i, i ≤ n → I i (zrep f a i) := fun i hi => zrep_inv I i h0 (fun j s hj h => (hs j s (by omega) h).1)
  have hP : ∀ k i, i + k = n → P i (zrep f a i) := by
    intro k
    induction k with
    | zero =>
      intro i h
      obtain rfl : i = n := by omega
      exact he _ rfl (hI _ (Nat.le_refl _))
    | succ k ih =>
      intro i h
      exact (hs i _ (by omega) (hI i (by omega))).2 (fun s2 e => by rw [← e]; exact ih (i + 1) (by omega))
  exact hP n 0 (by omega)
theorem zrex_inv {σ ρ : Type} {f : Nat → σ → σ ⊕ ρ} {a : σ} (I : Nat → σ → Prop) (J : ρ → Prop) (n : Nat) (h0 : I 0 a) (hs : ∀ i s, i < n → I i s → (∀ s2, f i s = .inl s2 → I (i + 1) s2) ∧ ∀ r, f i s = .inr r → J r) : (∀ s, zrex f a n = .inl s → I n s) ∧ ∀ r, zrex f a n = .inr r → J r := by
  have hI : ∀ i, i ≤ n → (∀ s, zrex f a i = .inl s → I i s) ∧ ∀ r, zrex f a i = .inr r → J r := by
    intro i
    induction i with
    | zero =>
      intro _
      exact ⟨fun s h => (by cases h; exact h0), fun r h => (by cases h)⟩
    | succ i ih =>
      intro hi
      have ih := ih (by omega)
      simp only [zrex]
      cases hx : zrex f a i with
      | inl s1 => exact hs i s1 (by omega) (ih.1 s1 hx)
      | inr r1 => exact ⟨fun s h => (by cases h), fun r h => (by cases h; exact ih.2 _ hx)⟩
  exact hI n (Nat.le_refl _)
theorem zforx {σ ρ : Type} {f : Nat → σ → σ ⊕ ρ} {a : σ} (P : Nat → σ → Prop) (I : Nat → σ → Prop) (n : Nat) (h0 : I 0 a) (hs : ∀ i s, i < n → I i s → (∀ s2, f i s = .inl s2 → I (i + 1) s2) ∧ ((∀ s2, f i s = .inl s2 → P (i + 1) s2) → (∀ r, f i s = .inr r → zrex f a n = .inr r) → P i s)) (he : ∀ s, zrex f a n = .inl s → I n s → P n s) : P 0 a := by
  have hI : ∀ i s, i ≤ n → zrex f a i = .inl s → I i s := by
    intro i
    induction i with
    | zero =>
      intro s _ h
      cases h
      exact h0
    | succ i ih =>
      intro s hi h
      simp only [zrex] at h
      cases hx : zrex f a i with
      | inl s1 =>
        rw [hx] at h
        exact (hs i s1 (by omega) (ih s1 (by omega) hx)).1 s h
      | inr r =>
        rw [hx] at h
        cases h
  have hR : ∀ k i r, i + k = n → zrex f a i = .inr r → zrex f a n = .inr r := by
    intro k
    induction k with
    | zero =>
      intro i r h hx
      obtain rfl : i = n := by omega
      exact hx
    | succ k ih =>
      intro i r h hx
      exact ih (i + 1) r (by omega) (by simp only [zrex, hx])
  have hP : ∀ k i s, i + k = n → zrex f a i = .inl s → P i s := by
    intro k
    induction k with
    | zero =>
      intro i s h hx
      obtain rfl : i = n := by omega
      exact he s hx (hI _ s (Nat.le_refl _) hx)
    | succ k ih =>
      intro i s h hx
      refine (hs i s (by omega) (hI i s (by omega) hx)).2 (fun s2 h2 => ih (i + 1) s2 (by omega) ?_) (fun r hr => hR k (i + 1) r (by omega) ?_)
      · simp only [zrex, hx]; exact h2
      · simp only [zrex, hx]; exact hr
  exact hP n 0 a (by omega) rfl
/-- how often 'for (v = 0; v < x; v++)' goes round -/
def zcn (x : Int32) : Nat := x.toNatClampNeg
theorem zcn_lt {x : Int32} {i : Nat} (h : i < zcn x) : ¬ x ≤ nI i := by
  have h1 : zcn x = x.toInt.toNat := rfl
  have h2 := x.toInt_lt
  rw [Int32.le_iff_toInt_le, nI_toInt (by omega)]
  omega
theorem zcn_ge {x : Int32} : x ≤ nI (zcn x) := by
  have h1 : zcn x = x.toInt.toNat := rfl
  have h2 := x.toInt_lt
  rw [Int32.le_iff_toInt_le, nI_toInt (by omega)]
  omega
theorem zcn_small (x : Int32) : zcn x < 2 ^ 31 := by
  have h1 : zcn x = x.toInt.toNat := rfl
  have h2 := x.toInt_lt
  omega
theorem zcn_nI {n : Nat} (h : n < 2 ^ 31) : zcn (nI n) = n := nI_clamp h
theorem znI_cn {x : Int32} (h : 0 ≤ x) : nI (zcn x) = x := by
  have h1 : zcn x = x.toInt.toNat := rfl
  have h2 := x.toInt_lt
  have h3 : 0 ≤ x.toInt := by simpa using Int32.le_iff_toInt_le.mp h
  apply Int32.toInt_inj.mp
  rw [nI_toInt (by omega)]
  omega
/-- booleans as numbers -/
def zb (b : Bool) : Int32 := if b = true then 1 else 0
theorem zb_01 (b : Bool) : zb b = 0 ∨ zb b = 1 := by cases b <;> simp [zb]
theorem zb_0 {b : Bool} : zb b = 0 ↔ b = false := by cases b <;> simp [zb]
theorem zb_n0 {b : Bool} : ¬ zb b = 0 ↔ b = true := by cases b <;> simp [zb]
theorem zb_t {b : Bool} (h : b = true) : zb b = 1 := by rw [h]; rfl
theorem zb_f {b : Bool} (h : b = false) : zb b = 0 := by rw [h]; rfl
end
section
/-! Words of the fields, the cells' shapes, small facts: by program. -/
theorem zup_fr {h : zHp} {c k c2 k2 : Nat} {x : Int32} (hn : c2 ≠ c ∨ k2 ≠ k) : zup h c k x c2 k2 = h c2 k2 := by
  by_cases hc : c2 = c
  · subst hc
    rw [zup_eq]
    exact if_neg (by omega)
  · rw [zup_ne hc]
theorem zup_at {h : zHp} {c k : Nat} {x : Int32} : zup h c k x c k = x := by
  rw [zup_eq]
  exact if_pos rfl
theorem zcp_fr {h : zHp} {c d sp dp n c2 k2 : Nat} (hn : c2 ≠ d) : zcp h c d sp dp n c2 k2 = h c2 k2 := by rw [zcp_ne hn]
theorem zite_fr {P : Prop} [Decidable P] {A B : zHp} {c k : Nat} {r : Int32} (ha : P → A c k = r) (hb : ¬ P → B c k = r) : (if P then A else B) c k = r := by
  by_cases hP : P
  · rw [if_pos hP]; exact ha hP
  · rw [if_neg hP]; exact hb hP
theorem zrex_P {σ ρ τ : Type} {f : Nat → σ → σ ⊕ ρ} {a : σ} {n : Nat} {L : σ → τ} {R : ρ → τ} (I : Nat → σ → Prop) (P : τ → Prop) (h0 : I 0 a) (hs : ∀ i s, i < n → I i s → (∀ s2, f i s = .inl s2 → I (i + 1) s2) ∧ ∀ r, f i s = .inr r → P (R r)) (hL : ∀ s, I n s → P (L s)) : P (Sum.elim L R (zrex f a n)) := by
  have hX := zrex_inv I (fun r => P (R r)) n h0 hs
  cases hz : zrex f a n with
  | inl s => exact hL s (hX.1 s hz)
  | inr r => exact hX.2 r hz
theorem zite_l {σ ρ : Type} {P : Prop} [Decidable P] {a s2 : σ} {b : ρ} (e : (if P then (.inl a : σ ⊕ ρ) else .inr b) = .inl s2) : s2 = a := by
  by_cases hP : P
  · rw [if_pos hP] at e; cases e; rfl
  · rw [if_neg hP] at e; cases e
theorem zite_r {σ ρ : Type} {P : Prop} [Decidable P] {a : σ} {b r : ρ} (e : (if P then (.inl a : σ ⊕ ρ) else .inr b) = .inr r) : r = b := by
  by_cases hP : P
  · rw [if_pos hP] at e; cases e
  · rw [if_neg hP] at e; cases e; rfl
/-- a field holds a number of at most N -/
def zfit (h : zHp) (c k N : Nat) : Prop := zcn (h c k) ≤ N ∧ h c k = nI (zcn (h c k))
theorem zfit_fr {h h2 : zHp} {c k N : Nat} (e : h2 c k = h c k) (f : zfit h c k N) : zfit h2 c k N := by
  unfold zfit
  rw [e]
  exact f
theorem zfit_le {h : zHp} {c k N N2 : Nat} (f : zfit h c k N) (hN : N ≤ N2) : zfit h c k N2 := ⟨Nat.le_trans f.1 hN, f.2⟩
theorem zfit_of {h : zHp} {c k N m : Nat} (e : h c k = nI m) (hm : m ≤ N) (hN : N < 2 ^ 31) : zfit h c k N := by
  unfold zfit
  rw [e, zcn_nI (by omega)]
  exact ⟨hm, rfl⟩
theorem zn_add {x y : Int32} {a b : Nat} (hx : x = nI a) (hy : y = nI b) : x + y = nI (a + b) := by rw [hx, hy, nI_add]
theorem zn_cast {x : Int32} {a b : Nat} (h : x = nI a) (e : a = b) : x = nI b := e ▸ h
theorem zn_mul {x y : Int32} {a b : Nat} (hx : x = nI a) (hy : y = nI b) : x * y = nI (a * b) := by rw [hx, hy, pk_mul]
theorem zn_sub {x y : Int32} {a b : Nat} (hx : x = nI a) (hy : y = nI b) (h : b ≤ a) : x - y = nI (a - b) := by rw [hx, hy, pk_sub h]
theorem zn_rem {x y : Int32} {a b : Nat} (hx : x = nI a) (hy : y = nI b) (ha : a < 2 ^ 31) (h0 : 0 < b) (hb : b < 2 ^ 31) : zrem x y = nI (a % b) := by rw [hx, hy]; exact pk_rem ha h0 hb
theorem zn_div {x y : Int32} {a b : Nat} (hx : x = nI a) (hy : y = nI b) (ha : a < 2 ^ 31) (h0 : 0 < b) (hb : b < 2 ^ 31) : x / y = nI (a / b) := by rw [hx, hy]; exact pk_div ha h0 hb
theorem zn_min {x y : Int32} {a b : Nat} (hx : x = nI a) (hy : y = nI b) (ha : a < 2 ^ 31) (hb : b < 2 ^ 31) : (if y < x then y else x) = nI (min a b) := by
  rw [hx, hy]
  by_cases h : b < a
  · rw [if_pos (nI_lt h ha), Nat.min_eq_right (by omega)]
  · rw [if_neg (nI_nlt (by omega) hb), Nat.min_eq_left (by omega)]
theorem zn_lt {x y : Int32} {a b : Nat} (hx : x = nI a) (hy : y = nI b) (c : x < y) (ha : a < 2 ^ 31) (hb : b < 2 ^ 31) : a < b := by rw [hx, hy] at c; exact (nI_ltI ha hb).mp c
theorem zn_nlt {x y : Int32} {a b : Nat} (hx : x = nI a) (hy : y = nI b) (c : ¬ x < y) (ha : a < 2 ^ 31) (hb : b < 2 ^ 31) : b ≤ a := by rw [hx, hy] at c; exact Nat.not_lt.mp (fun q => c ((nI_ltI ha hb).mpr q))
theorem zn_ge {x y : Int32} {a b : Nat} (hx : x = nI a) (hy : y = nI b) (c : y ≤ x) (ha : a < 2 ^ 31) (hb : b < 2 ^ 31) : b ≤ a := by rw [hx, hy] at c; exact (nI_leI hb ha).mp c
theorem zn_nge {x y : Int32} {a b : Nat} (hx : x = nI a) (hy : y = nI b) (c : ¬ y ≤ x) (ha : a < 2 ^ 31) (hb : b < 2 ^ 31) : a < b := by rw [hx, hy] at c; exact Nat.not_le.mp (fun q => c ((nI_leI hb ha).mpr q))
theorem zn_gt {x y : Int32} {a b : Nat} (hx : x = nI a) (hy : y = nI b) (c : y < x) (ha : a < 2 ^ 31) (hb : b < 2 ^ 31) : b < a := zn_lt hy hx c hb ha
theorem zn_ngt {x y : Int32} {a b : Nat} (hx : x = nI a) (hy : y = nI b) (c : ¬ y < x) (ha : a < 2 ^ 31) (hb : b < 2 ^ 31) : a ≤ b := zn_nlt hy hx c hb ha
theorem zn_le {x y : Int32} {a b : Nat} (hx : x = nI a) (hy : y = nI b) (c : x ≤ y) (ha : a < 2 ^ 31) (hb : b < 2 ^ 31) : a ≤ b := zn_ge hy hx c hb ha
theorem zn_nle {x y : Int32} {a b : Nat} (hx : x = nI a) (hy : y = nI b) (c : ¬ x ≤ y) (ha : a < 2 ^ 31) (hb : b < 2 ^ 31) : b < a := zn_nge hy hx c hb ha
theorem zn_eq {x y : Int32} {a b : Nat} (hx : x = nI a) (hy : y = nI b) (c : x = y) (ha : a < 2 ^ 31) (hb : b < 2 ^ 31) : a = b := by rw [hx, hy] at c; exact (nI_eq ha hb).mp c
theorem zn_neq {x y : Int32} {a b : Nat} (hx : x = nI a) (hy : y = nI b) (c : ¬ x = y) (_ : a < 2 ^ 31) (_ : b < 2 ^ 31) : a ≠ b := fun e => c (by rw [hx, hy, e])
theorem zn_ne {x y : Int32} {a b : Nat} (hx : x = nI a) (hy : y = nI b) (c : ¬ x = y) (ha : a < 2 ^ 31) (hb : b < 2 ^ 31) : a ≠ b := zn_neq hx hy c ha hb
theorem zn_nne {x y : Int32} {a b : Nat} (hx : x = nI a) (hy : y = nI b) (c : x = y) (ha : a < 2 ^ 31) (hb : b < 2 ^ 31) : a = b := zn_eq hx hy c ha hb
theorem zge_no {y y0 : Int32} {m : Nat} (e : y = y0) (h : m < zcn y0) : ¬ y ≤ nI m := by rw [e]; exact zcn_lt h
theorem zge_yes {y y0 : Int32} {m : Nat} (e : y = y0) (h : zcn y0 ≤ m) (hm : m < 2 ^ 31) : y ≤ nI m := by
  rw [e]
  have h1 := zcn_ge (x := y0)
  have h2 := nI_le h hm
  rw [Int32.le_iff_toInt_le] at *
  omega
theorem zge_noN {y : Int32} {m B : Nat} (e : y = nI B) (h : m < B) (hB : B < 2 ^ 31) : ¬ y ≤ nI m := by rw [e]; exact nI_ge h hB
theorem zge_yesN {y : Int32} {m B : Nat} (e : y = nI B) (h : B ≤ m) (hm : m < 2 ^ 31) : y ≤ nI m := by rw [e]; exact nI_le h hm
theorem zgt_noN {y : Int32} {m B : Nat} (e : y = nI B) (h : m ≤ B) (hB : B < 2 ^ 31) : ¬ y < nI m := by rw [e]; exact nI_nlt h hB
theorem zgt_yesN {y : Int32} {m B : Nat} (e : y = nI B) (h : B < m) (hm : m < 2 ^ 31) : y < nI m := by rw [e]; exact nI_lt h hm
theorem zgt_no {y y0 : Int32} {m : Nat} (e : y = y0) (h : m ≤ zcn y0) (h0 : 1 ≤ m) : ¬ y < nI m := by
  rw [e]
  have h1 : zcn y0 = y0.toInt.toNat := rfl
  have h2 := y0.toInt_lt
  rw [Int32.lt_iff_toInt_lt, nI_toInt (by omega)]
  omega
theorem zgt_yes {y y0 : Int32} {m : Nat} (e : y = y0) (h : zcn y0 < m) (hm : m < 2 ^ 31) : y < nI m := by
  rw [e]
  have h1 : zcn y0 = y0.toInt.toNat := rfl
  rw [Int32.lt_iff_toInt_lt, nI_toInt (by omega)]
  omega
theorem zdn_no {a i : Nat} (h : i ≤ a) (ha : a < 2 ^ 31) : ¬ nI a - nI i < 0 := by
  rw [pk_sub h]
  exact nI_pos (by omega)
theorem zdn_yes {a i : Nat} (h : i = a + 1) : nI a - nI i < 0 := by
  subst h
  have e : nI a - nI (a + 1) = -1 := by
    rw [nI_succ, Int32.sub_eq_add_neg, Int32.neg_add, Int32.sub_eq_add_neg, ← Int32.add_assoc, Int32.add_right_neg, Int32.zero_add]
  rw [e]
  decide
theorem zdn_step (a i : Nat) : nI a - nI i + Int32.ofInt (-1) = nI a - nI (i + 1) := by
  rw [nI_succ, show Int32.ofInt (-1) = -1 from rfl, Int32.sub_eq_add_neg, Int32.sub_eq_add_neg, Int32.neg_add, Int32.sub_eq_add_neg, Int32.add_assoc]
theorem zdn_0 {x : Int32} {a : Nat} (e : x = nI a) : x = nI a - nI 0 := by
  rw [e, nI_0, Int32.sub_zero]
theorem zge1 {x : Int32} (c : ¬ x < 1) : ¬ x < 0 ∧ 1 ≤ zcn x := by
  have h1 : zcn x = x.toInt.toNat := rfl
  rw [Int32.lt_iff_toInt_lt] at c
  have h2 : (1 : Int32).toInt = 1 := rfl
  have h3 : (0 : Int32).toInt = 0 := rfl
  refine ⟨?_, ?_⟩
  · rw [Int32.lt_iff_toInt_lt]; omega
  · omega
theorem zbf {b : Bool} (h : b = false) : ¬ b = true := by rw [h]; exact fun h => by cases h
theorem zne_lt1 {x : Int32} (h : ¬ x < 1) : ¬ x = 0 := fun e => h (by rw [e]; decide)
theorem zne_1le {x : Int32} (h : 1 ≤ x) : ¬ x = 0 := fun e => absurd (e ▸ h) (by decide)
theorem zne_toInt {x y : Int32} {k : Int} (h : ¬ x = y) (hk : y.toInt = k) : x.toInt ≠ k := fun e => h (Int32.toInt_inj.mp (e.trans hk.symm))
theorem zix {x : Int32} (h : ¬ x < 0) : x = nI (zcn x) := (znI_cn (Int32.not_lt.mp h)).symm
theorem zix' {x : Int32} (h : 0 ≤ x) : x = nI (zcn x) := (znI_cn h).symm
theorem zcn_ltN {x y : Int32} {n : Nat} (h : ¬ y ≤ x) (hx : ¬ x < 0) (e : y = nI n) (hn : n < 2 ^ 31) : zcn x < n := by
  rw [e, zix hx] at h
  have := zcn_small x
  rcases Nat.lt_or_ge (zcn x) n with q | q
  · exact q
  · exact absurd (nI_le q (zcn_small x)) h
section ZT
variable {X : zXT} {Γ : zGT} {Q : State → Prop} {cc : ByteArray} {own : String} {nL d : Nat} {rt : Option FieldType} {pc : Nat} {lv : List (Option Value)} {st : List Value} {h : zHp} {g : zLg}
theorem zr_loc (lv2 : List (Option Value)) (i : Nat) {x y : Int32} (e : x = y) (hx : lv[i]? = some (zI x)) (hl : lv.set i (zI y) = lv2) (k : zV X Γ Q pc lv2 st h g) : zV X Γ Q pc lv st h g := by
  subst e
  have : lv.set i (zI x) = lv := by
    apply List.ext_getElem?
    intro j
    by_cases hj : j = i
    · subst hj
      rw [List.getElem?_set_self (List.getElem?_eq_some_iff.mp hx).1, hx]
    · rw [List.getElem?_set_ne (Ne.symm hj)]
  rw [this] at hl
  rw [hl]
  exact k
theorem zTQ_Ih {o : Int32 × zHp} {v : Int32} {h2 : zHp} (e : o = (v, h2)) (k : zV X Γ (zTQ X Γ (zI v) h2 g) pc lv st h g) : zV X Γ (zTQ X Γ (zI o.1) o.2 g) pc lv st h g := by rw [e]; exact k
theorem zTQ_Zh {o : Bool × zHp} {v : Bool} {h2 : zHp} (e : o = (v, h2)) (k : zV X Γ (zTQ X Γ (zI (zb v)) h2 g) pc lv st h g) : zV X Γ (zTQ X Γ (zI (zb o.1)) o.2 g) pc lv st h g := by rw [e]; exact k
theorem zTQ_Ihg {o : Int32 × zHp × zLg} {v : Int32} {h2 : zHp} {g2 : zLg} (e : o = (v, h2, g2)) (k : zV X Γ (zTQ X Γ (zI v) h2 g2) pc lv st h g) : zV X Γ (zTQ X Γ (zI o.1) o.2.1 o.2.2) pc lv st h g := by rw [e]; exact k
theorem zTQ_Vhg {o : zHp × zLg} {h2 : zHp} {g2 : zLg} (e : o = (h2, g2)) (k : zV X Γ (zTQ X Γ none h2 g2) pc lv st h g) : zV X Γ (zTQ X Γ none o.1 o.2) pc lv st h g := by rw [e]; exact k
theorem zTQ_Jg {o : Int64 × zLg} {v : Int64} {g2 : zLg} (e : o = (v, g2)) (k : zV X Γ (zTQ X Γ (zL v) h g2) pc lv st h g) : zV X Γ (zTQ X Γ (zL o.1) h o.2) pc lv st h g := by rw [e]; exact k
theorem zr_vi {x : Int32} (k : ∀ y : Int32, x = y → zV X Γ Q pc lv (.int y :: st) h g) : zV X Γ Q pc lv (.int x :: st) h g := k x rfl
theorem zr_vz {x : Bool} (k : ∀ y : Bool, x = y → zV X Γ Q pc lv (.int (zb y) :: st) h g) : zV X Γ Q pc lv (.int (zb x) :: st) h g := k x rfl
theorem zr_h (k : ∀ h2 : zHp, h = h2 → zV X Γ Q pc lv st h2 g) : zV X Γ Q pc lv st h g := k h rfl
theorem zr_g (k : ∀ g2 : zLg, g = g2 → zV X Γ Q pc lv st h g2) : zV X Γ Q pc lv st h g := k g rfl
theorem zr_ifz_eq (C : zOk X Γ cc own nL d rt) {x : Bool} {off : Int} (tgt : Nat) (hd : decode cc pc = .ok (.ifCond .eq off, 3)) (ht : (pc : Int) + off = (tgt : Int)) (kt : x = false → zV X Γ Q tgt lv st h g) (kf : x = true → zV X Γ Q (pc + 3) lv st h g) : zV X Γ Q pc lv (.int (zb x) :: st) h g :=
  zr_if_eq C tgt hd ht (fun c => kt (zb_0.mp c)) (fun c => kf (zb_n0.mp c))
theorem zr_ifz_ne (C : zOk X Γ cc own nL d rt) {x : Bool} {off : Int} (tgt : Nat) (hd : decode cc pc = .ok (.ifCond .ne off, 3)) (ht : (pc : Int) + off = (tgt : Int)) (kt : x = true → zV X Γ Q tgt lv st h g) (kf : x = false → zV X Γ Q (pc + 3) lv st h g) : zV X Γ Q pc lv (.int (zb x) :: st) h g :=
  zr_if_ne C tgt hd ht (fun c => kt (zb_n0.mp c)) (fun c => kf (zb_0.mp c))
theorem zr_callVi {M : zMT} {dy n idx c ci N : Nat} {C : String} {T : u_T} {fs As : List Value} {r : Int32} {h2 : zHp} {g2 : zLg} (K : zOk X Γ cc own nL d rt) (hM : zDi X M dy (zR X c :: As) h g (zI r) h2 g2) (hm : zcall M n) (hl : Cond.methodLink own idx M.1 ∈ zU) (hi : Cond.instanceMethod M.1 ∈ zU) (hs : Cond.selects C M.1 M.1 ∈ zU) (hc : c < 71) (he : zC X g c (h c) = .inr (ci, fs)) (hcl : zcl[ci]? = some (C, T, N)) (hn : As.length = n) (hdy : dy + 1 ≤ d) (hnL : lv.length = nL) (hst : (st.map fun v => v.category).sum ≤ 8) (hd : decode cc pc = .ok (.invokevirtual idx, 3)) (kk : zV X Γ Q (pc + 3) lv (.int r :: st) h2 g2) : zV X Γ Q pc lv (As.reverse ++ zR X c :: st) h g :=
  zr_callV K hM hm hl hi hs hc he hcl hn hdy hnL hst hd kk
theorem zr_callSi {M : zMT} {dy n idx : Nat} {As : List Value} {r : Int32} {h2 : zHp} {g2 : zLg} (K : zOk X Γ cc own nL d rt) (hM : zDi X M dy As h g (zI r) h2 g2) (hm : zcall M n) (hl : Cond.methodLink own idx M.1 ∈ zU) (hi : Cond.static M.1 ∈ zU) (hn : As.length = n) (hdy : dy + 1 ≤ d) (hnL : lv.length = nL) (hst : (st.map fun v => v.category).sum ≤ 8) (hd : decode cc pc = .ok (.invokestatic idx, 3)) (kk : zV X Γ Q (pc + 3) lv (.int r :: st) h2 g2) : zV X Γ Q pc lv (As.reverse ++ st) h g :=
  zr_callS K hM hm hl hi hn hdy hnL hst hd kk
theorem zr_callNi {M : zMT} {dy n idx : Nat} {As : List Value} {r : Int32} {h2 : zHp} {g2 : zLg} (K : zOk X Γ cc own nL d rt) (hM : zDi X M dy As h g (zI r) h2 g2) (hm : zcall M n) (hl : Cond.methodLinkNest own idx M.1 "PeriodSlots" ∈ zNest) (hi : Cond.static M.1 ∈ zU) (hn : As.length = n) (hdy : dy + 1 ≤ d) (hnL : lv.length = nL) (hst : (st.map fun v => v.category).sum ≤ 8) (hd : decode cc pc = .ok (.invokestatic idx, 3)) (kk : zV X Γ Q (pc + 3) lv (.int r :: st) h2 g2) : zV X Γ Q pc lv (As.reverse ++ st) h g :=
  zr_callN K hM hm hl hi hn hdy hnL hst hd kk
theorem zr_callVz {M : zMT} {dy n idx c ci N : Nat} {C : String} {T : u_T} {fs As : List Value} {r : Bool} {h2 : zHp} {g2 : zLg} (K : zOk X Γ cc own nL d rt) (hM : zDi X M dy (zR X c :: As) h g (zI (zb r)) h2 g2) (hm : zcall M n) (hl : Cond.methodLink own idx M.1 ∈ zU) (hi : Cond.instanceMethod M.1 ∈ zU) (hs : Cond.selects C M.1 M.1 ∈ zU) (hc : c < 71) (he : zC X g c (h c) = .inr (ci, fs)) (hcl : zcl[ci]? = some (C, T, N)) (hn : As.length = n) (hdy : dy + 1 ≤ d) (hnL : lv.length = nL) (hst : (st.map fun v => v.category).sum ≤ 8) (hd : decode cc pc = .ok (.invokevirtual idx, 3)) (kk : zV X Γ Q (pc + 3) lv (.int (zb r) :: st) h2 g2) : zV X Γ Q pc lv (As.reverse ++ zR X c :: st) h g :=
  zr_callV K hM hm hl hi hs hc he hcl hn hdy hnL hst hd kk
theorem zr_callSz {M : zMT} {dy n idx : Nat} {As : List Value} {r : Bool} {h2 : zHp} {g2 : zLg} (K : zOk X Γ cc own nL d rt) (hM : zDi X M dy As h g (zI (zb r)) h2 g2) (hm : zcall M n) (hl : Cond.methodLink own idx M.1 ∈ zU) (hi : Cond.static M.1 ∈ zU) (hn : As.length = n) (hdy : dy + 1 ≤ d) (hnL : lv.length = nL) (hst : (st.map fun v => v.category).sum ≤ 8) (hd : decode cc pc = .ok (.invokestatic idx, 3)) (kk : zV X Γ Q (pc + 3) lv (.int (zb r) :: st) h2 g2) : zV X Γ Q pc lv (As.reverse ++ st) h g :=
  zr_callS K hM hm hl hi hn hdy hnL hst hd kk
theorem zr_callNz {M : zMT} {dy n idx : Nat} {As : List Value} {r : Bool} {h2 : zHp} {g2 : zLg} (K : zOk X Γ cc own nL d rt) (hM : zDi X M dy As h g (zI (zb r)) h2 g2) (hm : zcall M n) (hl : Cond.methodLinkNest own idx M.1 "PeriodSlots" ∈ zNest) (hi : Cond.static M.1 ∈ zU) (hn : As.length = n) (hdy : dy + 1 ≤ d) (hnL : lv.length = nL) (hst : (st.map fun v => v.category).sum ≤ 8) (hd : decode cc pc = .ok (.invokestatic idx, 3)) (kk : zV X Γ Q (pc + 3) lv (.int (zb r) :: st) h2 g2) : zV X Γ Q pc lv (As.reverse ++ st) h g :=
  zr_callN K hM hm hl hi hn hdy hnL hst hd kk
theorem zr_callVl {M : zMT} {dy n idx c ci N : Nat} {C : String} {T : u_T} {fs As : List Value} {r : Int64} {h2 : zHp} {g2 : zLg} (K : zOk X Γ cc own nL d rt) (hM : zDi X M dy (zR X c :: As) h g (zL r) h2 g2) (hm : zcall M n) (hl : Cond.methodLink own idx M.1 ∈ zU) (hi : Cond.instanceMethod M.1 ∈ zU) (hs : Cond.selects C M.1 M.1 ∈ zU) (hc : c < 71) (he : zC X g c (h c) = .inr (ci, fs)) (hcl : zcl[ci]? = some (C, T, N)) (hn : As.length = n) (hdy : dy + 1 ≤ d) (hnL : lv.length = nL) (hst : (st.map fun v => v.category).sum ≤ 8) (hd : decode cc pc = .ok (.invokevirtual idx, 3)) (kk : zV X Γ Q (pc + 3) lv (.long r :: st) h2 g2) : zV X Γ Q pc lv (As.reverse ++ zR X c :: st) h g :=
  zr_callV K hM hm hl hi hs hc he hcl hn hdy hnL hst hd kk
theorem zr_callSl {M : zMT} {dy n idx : Nat} {As : List Value} {r : Int64} {h2 : zHp} {g2 : zLg} (K : zOk X Γ cc own nL d rt) (hM : zDi X M dy As h g (zL r) h2 g2) (hm : zcall M n) (hl : Cond.methodLink own idx M.1 ∈ zU) (hi : Cond.static M.1 ∈ zU) (hn : As.length = n) (hdy : dy + 1 ≤ d) (hnL : lv.length = nL) (hst : (st.map fun v => v.category).sum ≤ 8) (hd : decode cc pc = .ok (.invokestatic idx, 3)) (kk : zV X Γ Q (pc + 3) lv (.long r :: st) h2 g2) : zV X Γ Q pc lv (As.reverse ++ st) h g :=
  zr_callS K hM hm hl hi hn hdy hnL hst hd kk
theorem zr_callNl {M : zMT} {dy n idx : Nat} {As : List Value} {r : Int64} {h2 : zHp} {g2 : zLg} (K : zOk X Γ cc own nL d rt) (hM : zDi X M dy As h g (zL r) h2 g2) (hm : zcall M n) (hl : Cond.methodLinkNest own idx M.1 "PeriodSlots" ∈ zNest) (hi : Cond.static M.1 ∈ zU) (hn : As.length = n) (hdy : dy + 1 ≤ d) (hnL : lv.length = nL) (hst : (st.map fun v => v.category).sum ≤ 8) (hd : decode cc pc = .ok (.invokestatic idx, 3)) (kk : zV X Γ Q (pc + 3) lv (.long r :: st) h2 g2) : zV X Γ Q pc lv (As.reverse ++ st) h g :=
  zr_callN K hM hm hl hi hn hdy hnL hst hd kk
theorem zr_callVv {M : zMT} {dy n idx c ci N : Nat} {C : String} {T : u_T} {fs As : List Value} {h2 : zHp} {g2 : zLg} (K : zOk X Γ cc own nL d rt) (hM : zDi X M dy (zR X c :: As) h g none h2 g2) (hm : zcall M n) (hl : Cond.methodLink own idx M.1 ∈ zU) (hi : Cond.instanceMethod M.1 ∈ zU) (hs : Cond.selects C M.1 M.1 ∈ zU) (hc : c < 71) (he : zC X g c (h c) = .inr (ci, fs)) (hcl : zcl[ci]? = some (C, T, N)) (hn : As.length = n) (hdy : dy + 1 ≤ d) (hnL : lv.length = nL) (hst : (st.map fun v => v.category).sum ≤ 8) (hd : decode cc pc = .ok (.invokevirtual idx, 3)) (kk : zV X Γ Q (pc + 3) lv (st) h2 g2) : zV X Γ Q pc lv (As.reverse ++ zR X c :: st) h g :=
  zr_callV K hM hm hl hi hs hc he hcl hn hdy hnL hst hd kk
theorem zr_callSv {M : zMT} {dy n idx : Nat} {As : List Value} {h2 : zHp} {g2 : zLg} (K : zOk X Γ cc own nL d rt) (hM : zDi X M dy As h g none h2 g2) (hm : zcall M n) (hl : Cond.methodLink own idx M.1 ∈ zU) (hi : Cond.static M.1 ∈ zU) (hn : As.length = n) (hdy : dy + 1 ≤ d) (hnL : lv.length = nL) (hst : (st.map fun v => v.category).sum ≤ 8) (hd : decode cc pc = .ok (.invokestatic idx, 3)) (kk : zV X Γ Q (pc + 3) lv (st) h2 g2) : zV X Γ Q pc lv (As.reverse ++ st) h g :=
  zr_callS K hM hm hl hi hn hdy hnL hst hd kk
theorem zr_callNv {M : zMT} {dy n idx : Nat} {As : List Value} {h2 : zHp} {g2 : zLg} (K : zOk X Γ cc own nL d rt) (hM : zDi X M dy As h g none h2 g2) (hm : zcall M n) (hl : Cond.methodLinkNest own idx M.1 "PeriodSlots" ∈ zNest) (hi : Cond.static M.1 ∈ zU) (hn : As.length = n) (hdy : dy + 1 ≤ d) (hnL : lv.length = nL) (hst : (st.map fun v => v.category).sum ≤ 8) (hd : decode cc pc = .ok (.invokestatic idx, 3)) (kk : zV X Γ Q (pc + 3) lv (st) h2 g2) : zV X Γ Q pc lv (As.reverse ++ st) h g :=
  zr_callN K hM hm hl hi hn hdy hnL hst hd kk
end ZT
theorem zC_Acts (X : zXT) (g : zLg) (r : Nat → Int32) : zC X g 41 r = .inr (0, zF_Acts X 41 r) := rfl
theorem zi_Acts : ∀ w ∈ u_ws zN_Acts zT_Acts 3, w ∈ zU := by
  intro w hw
  obtain ⟨k, hk, rfl⟩ := List.mem_map.mp hw
  have hk : k < 3 := List.mem_range.mp hk
  match k, hk with
  | 0, _ => exact zU_in (i := 198) (by decide +kernel) rfl
  | 1, _ => exact zU_in (i := 200) (by decide +kernel) rfl
  | 2, _ => exact zU_in (i := 202) (by decide +kernel) rfl
  | k + 3, hk => exact absurd hk (by omega)
theorem zC_Mesh {b : Nat} (hb : b = 3 ∨ b = 15 ∨ b = 27) (X : zXT) (g : zLg) (r : Nat → Int32) : zC X g b r = .inr (1, zF_Mesh X b r) := by
  rcases hb with rfl | rfl | rfl <;> rfl
theorem zi_Mesh : ∀ w ∈ u_ws zN_Mesh zT_Mesh 14, w ∈ zU := by
  intro w hw
  obtain ⟨k, hk, rfl⟩ := List.mem_map.mp hw
  have hk : k < 14 := List.mem_range.mp hk
  match k, hk with
  | 0, _ => exact zU_in (i := 129) (by decide +kernel) rfl
  | 1, _ => exact zU_in (i := 131) (by decide +kernel) rfl
  | 2, _ => exact zU_in (i := 133) (by decide +kernel) rfl
  | 3, _ => exact zU_in (i := 135) (by decide +kernel) rfl
  | 4, _ => exact zU_in (i := 137) (by decide +kernel) rfl
  | 5, _ => exact zU_in (i := 139) (by decide +kernel) rfl
  | 6, _ => exact zU_in (i := 141) (by decide +kernel) rfl
  | 7, _ => exact zU_in (i := 143) (by decide +kernel) rfl
  | 8, _ => exact zU_in (i := 145) (by decide +kernel) rfl
  | 9, _ => exact zU_in (i := 147) (by decide +kernel) rfl
  | 10, _ => exact zU_in (i := 149) (by decide +kernel) rfl
  | 11, _ => exact zU_in (i := 151) (by decide +kernel) rfl
  | 12, _ => exact zU_in (i := 153) (by decide +kernel) rfl
  | 13, _ => exact zU_in (i := 155) (by decide +kernel) rfl
  | k + 14, hk => exact absurd hk (by omega)
theorem zC_Obs (X : zXT) (g : zLg) (r : Nat → Int32) : zC X g 46 r = .inr (2, zF_Obs X 46 r) := rfl
theorem zi_Obs : ∀ w ∈ u_ws zN_Obs zT_Obs 4, w ∈ zU := by
  intro w hw
  obtain ⟨k, hk, rfl⟩ := List.mem_map.mp hw
  have hk : k < 4 := List.mem_range.mp hk
  match k, hk with
  | 0, _ => exact zU_in (i := 218) (by decide +kernel) rfl
  | 1, _ => exact zU_in (i := 220) (by decide +kernel) rfl
  | 2, _ => exact zU_in (i := 222) (by decide +kernel) rfl
  | 3, _ => exact zU_in (i := 224) (by decide +kernel) rfl
  | k + 4, hk => exact absurd hk (by omega)
theorem zC_Planner (X : zXT) (g : zLg) (r : Nat → Int32) : zC X g 39 r = .inr (3, zF_Planner X 39) := rfl
theorem zi_Planner : ∀ w ∈ u_ws zN_Planner zT_Planner 1, w ∈ zU := by
  intro w hw
  obtain ⟨k, hk, rfl⟩ := List.mem_map.mp hw
  have hk : k < 1 := List.mem_range.mp hk
  match k, hk with
  | 0, _ => exact zU_in (i := 166) (by decide +kernel) rfl
  | k + 1, hk => exact absurd hk (by omega)
theorem zC_Shelf {b : Nat} (hb : b = 42 ∨ b = 44) (X : zXT) (g : zLg) (r : Nat → Int32) : zC X g b r = .inr (4, zF_Shelf X b r) := by
  rcases hb with rfl | rfl <;> rfl
theorem zi_Shelf : ∀ w ∈ u_ws zN_Shelf zT_Shelf 3, w ∈ zU := by
  intro w hw
  obtain ⟨k, hk, rfl⟩ := List.mem_map.mp hw
  have hk : k < 3 := List.mem_range.mp hk
  match k, hk with
  | 0, _ => exact zU_in (i := 187) (by decide +kernel) rfl
  | 1, _ => exact zU_in (i := 189) (by decide +kernel) rfl
  | 2, _ => exact zU_in (i := 191) (by decide +kernel) rfl
  | k + 3, hk => exact absurd hk (by omega)
theorem zC_Text (X : zXT) (g : zLg) (r : Nat → Int32) : zC X g 1 r = .inr (5, zF_Text X 1 r) := rfl
theorem zi_Text : ∀ w ∈ u_ws zN_Text zT_Text 2, w ∈ zU := by
  intro w hw
  obtain ⟨k, hk, rfl⟩ := List.mem_map.mp hw
  have hk : k < 2 := List.mem_range.mp hk
  match k, hk with
  | 0, _ => exact zU_in (i := 83) (by decide +kernel) rfl
  | 1, _ => exact zU_in (i := 85) (by decide +kernel) rfl
  | k + 2, hk => exact absurd hk (by omega)
theorem zC_Slots (X : zXT) (g : zLg) (r : Nat → Int32) : zC X g 0 r = .inr (6, zF_Slots X g) := rfl
theorem zi_Slots : ∀ w ∈ u_ws zN_Slots zT_Slots 10, w ∈ zU := by
  intro w hw
  obtain ⟨k, hk, rfl⟩ := List.mem_map.mp hw
  have hk : k < 10 := List.mem_range.mp hk
  match k, hk with
  | 0, _ => exact zU_in (i := 237) (by decide +kernel) rfl
  | 1, _ => exact zU_in (i := 239) (by decide +kernel) rfl
  | 2, _ => exact zU_in (i := 241) (by decide +kernel) rfl
  | 3, _ => exact zU_in (i := 243) (by decide +kernel) rfl
  | 4, _ => exact zU_in (i := 245) (by decide +kernel) rfl
  | 5, _ => exact zU_in (i := 247) (by decide +kernel) rfl
  | 6, _ => exact zU_in (i := 249) (by decide +kernel) rfl
  | 7, _ => exact zU_in (i := 251) (by decide +kernel) rfl
  | 8, _ => exact zU_in (i := 253) (by decide +kernel) rfl
  | 9, _ => exact zU_in (i := 255) (by decide +kernel) rfl
  | k + 10, hk => exact absurd hk (by omega)
theorem zC_Model (X : zXT) (g : zLg) (r : Nat → Int32) : zC X g 51 r = .inr (7, zF_Model X g r) := rfl
theorem zi_Model : ∀ w ∈ u_ws zN_Model zT_Model 32, w ∈ zU := by
  intro w hw
  obtain ⟨k, hk, rfl⟩ := List.mem_map.mp hw
  have hk : k < 32 := List.mem_range.mp hk
  match k, hk with
  | 0, _ => exact zU_in (i := 785) (by decide +kernel) rfl
  | 1, _ => exact zU_in (i := 787) (by decide +kernel) rfl
  | 2, _ => exact zU_in (i := 789) (by decide +kernel) rfl
  | 3, _ => exact zU_in (i := 791) (by decide +kernel) rfl
  | 4, _ => exact zU_in (i := 793) (by decide +kernel) rfl
  | 5, _ => exact zU_in (i := 795) (by decide +kernel) rfl
  | 6, _ => exact zU_in (i := 797) (by decide +kernel) rfl
  | 7, _ => exact zU_in (i := 799) (by decide +kernel) rfl
  | 8, _ => exact zU_in (i := 801) (by decide +kernel) rfl
  | 9, _ => exact zU_in (i := 803) (by decide +kernel) rfl
  | 10, _ => exact zU_in (i := 805) (by decide +kernel) rfl
  | 11, _ => exact zU_in (i := 807) (by decide +kernel) rfl
  | 12, _ => exact zU_in (i := 809) (by decide +kernel) rfl
  | 13, _ => exact zU_in (i := 811) (by decide +kernel) rfl
  | 14, _ => exact zU_in (i := 813) (by decide +kernel) rfl
  | 15, _ => exact zU_in (i := 815) (by decide +kernel) rfl
  | 16, _ => exact zU_in (i := 817) (by decide +kernel) rfl
  | 17, _ => exact zU_in (i := 819) (by decide +kernel) rfl
  | 18, _ => exact zU_in (i := 821) (by decide +kernel) rfl
  | 19, _ => exact zU_in (i := 823) (by decide +kernel) rfl
  | 20, _ => exact zU_in (i := 825) (by decide +kernel) rfl
  | 21, _ => exact zU_in (i := 827) (by decide +kernel) rfl
  | 22, _ => exact zU_in (i := 829) (by decide +kernel) rfl
  | 23, _ => exact zU_in (i := 831) (by decide +kernel) rfl
  | 24, _ => exact zU_in (i := 833) (by decide +kernel) rfl
  | 25, _ => exact zU_in (i := 835) (by decide +kernel) rfl
  | 26, _ => exact zU_in (i := 837) (by decide +kernel) rfl
  | 27, _ => exact zU_in (i := 839) (by decide +kernel) rfl
  | 28, _ => exact zU_in (i := 841) (by decide +kernel) rfl
  | 29, _ => exact zU_in (i := 843) (by decide +kernel) rfl
  | 30, _ => exact zU_in (i := 845) (by decide +kernel) rfl
  | 31, _ => exact zU_in (i := 847) (by decide +kernel) rfl
  | k + 32, hk => exact absurd hk (by omega)
theorem za_2 : zar 2 110 := ⟨by decide, rfl, rfl⟩
theorem za_4 : zar 4 8 := ⟨by decide, rfl, rfl⟩
theorem za_5 : zar 5 8 := ⟨by decide, rfl, rfl⟩
theorem za_6 : zar 6 8 := ⟨by decide, rfl, rfl⟩
theorem za_7 : zar 7 8 := ⟨by decide, rfl, rfl⟩
theorem za_8 : zar 8 8 := ⟨by decide, rfl, rfl⟩
theorem za_9 : zar 9 8 := ⟨by decide, rfl, rfl⟩
theorem za_10 : zar 10 8 := ⟨by decide, rfl, rfl⟩
theorem za_11 : zar 11 8 := ⟨by decide, rfl, rfl⟩
theorem za_12 : zar 12 8 := ⟨by decide, rfl, rfl⟩
theorem za_13 : zar 13 8 := ⟨by decide, rfl, rfl⟩
theorem za_14 : zar 14 8 := ⟨by decide, rfl, rfl⟩
theorem za_16 : zar 16 8 := ⟨by decide, rfl, rfl⟩
theorem za_17 : zar 17 8 := ⟨by decide, rfl, rfl⟩
theorem za_18 : zar 18 8 := ⟨by decide, rfl, rfl⟩
theorem za_19 : zar 19 8 := ⟨by decide, rfl, rfl⟩
theorem za_20 : zar 20 8 := ⟨by decide, rfl, rfl⟩
theorem za_21 : zar 21 8 := ⟨by decide, rfl, rfl⟩
theorem za_22 : zar 22 8 := ⟨by decide, rfl, rfl⟩
theorem za_23 : zar 23 8 := ⟨by decide, rfl, rfl⟩
theorem za_24 : zar 24 8 := ⟨by decide, rfl, rfl⟩
theorem za_25 : zar 25 8 := ⟨by decide, rfl, rfl⟩
theorem za_26 : zar 26 8 := ⟨by decide, rfl, rfl⟩
theorem za_28 : zar 28 8 := ⟨by decide, rfl, rfl⟩
theorem za_29 : zar 29 8 := ⟨by decide, rfl, rfl⟩
theorem za_30 : zar 30 8 := ⟨by decide, rfl, rfl⟩
theorem za_31 : zar 31 8 := ⟨by decide, rfl, rfl⟩
theorem za_32 : zar 32 8 := ⟨by decide, rfl, rfl⟩
theorem za_33 : zar 33 8 := ⟨by decide, rfl, rfl⟩
theorem za_34 : zar 34 8 := ⟨by decide, rfl, rfl⟩
theorem za_35 : zar 35 8 := ⟨by decide, rfl, rfl⟩
theorem za_36 : zar 36 8 := ⟨by decide, rfl, rfl⟩
theorem za_37 : zar 37 8 := ⟨by decide, rfl, rfl⟩
theorem za_38 : zar 38 8 := ⟨by decide, rfl, rfl⟩
theorem za_40 : zar 40 8 := ⟨by decide, rfl, rfl⟩
theorem za_43 : zar 43 350 := ⟨by decide, rfl, rfl⟩
theorem za_45 : zar 45 50 := ⟨by decide, rfl, rfl⟩
theorem za_47 : zar 47 6 := ⟨by decide, rfl, rfl⟩
theorem za_48 : zar 48 6 := ⟨by decide, rfl, rfl⟩
theorem za_49 : zar 49 6 := ⟨by decide, rfl, rfl⟩
theorem za_50 : zar 50 4 := ⟨by decide, rfl, rfl⟩
theorem za_52 : zar 52 110 := ⟨by decide, rfl, rfl⟩
theorem za_53 : zar 53 8 := ⟨by decide, rfl, rfl⟩
theorem za_54 : zar 54 25 := ⟨by decide, rfl, rfl⟩
theorem za_55 : zar 55 25 := ⟨by decide, rfl, rfl⟩
theorem za_56 : zar 56 25 := ⟨by decide, rfl, rfl⟩
theorem za_57 : zar 57 350 := ⟨by decide, rfl, rfl⟩
theorem za_58 : zar 58 50 := ⟨by decide, rfl, rfl⟩
theorem za_60 : zar 60 6 := ⟨by decide, rfl, rfl⟩
theorem za_61 : zar 61 6 := ⟨by decide, rfl, rfl⟩
theorem za_62 : zar 62 6 := ⟨by decide, rfl, rfl⟩
theorem za_63 : zar 63 8 := ⟨by decide, rfl, rfl⟩
theorem za_64 : zar 64 8 := ⟨by decide, rfl, rfl⟩
theorem za_65 : zar 65 8 := ⟨by decide, rfl, rfl⟩
theorem za_66 : zar 66 8 := ⟨by decide, rfl, rfl⟩
theorem za_67 : zar 67 8 := ⟨by decide, rfl, rfl⟩
theorem za_68 : zar 68 8 := ⟨by decide, rfl, rfl⟩
theorem za_69 : zar 69 8 := ⟨by decide, rfl, rfl⟩
theorem za_70 : zar 70 256 := ⟨by decide, rfl, rfl⟩
theorem za_mesh_1 {b : Nat} (hb : b = 3 ∨ b = 15 ∨ b = 27) : zar (b + 1) 8 := by
  rcases hb with rfl | rfl | rfl <;> exact ⟨by decide, rfl, rfl⟩
theorem za_mesh_2 {b : Nat} (hb : b = 3 ∨ b = 15 ∨ b = 27) : zar (b + 2) 8 := by
  rcases hb with rfl | rfl | rfl <;> exact ⟨by decide, rfl, rfl⟩
theorem za_mesh_3 {b : Nat} (hb : b = 3 ∨ b = 15 ∨ b = 27) : zar (b + 3) 8 := by
  rcases hb with rfl | rfl | rfl <;> exact ⟨by decide, rfl, rfl⟩
theorem za_mesh_4 {b : Nat} (hb : b = 3 ∨ b = 15 ∨ b = 27) : zar (b + 4) 8 := by
  rcases hb with rfl | rfl | rfl <;> exact ⟨by decide, rfl, rfl⟩
theorem za_mesh_5 {b : Nat} (hb : b = 3 ∨ b = 15 ∨ b = 27) : zar (b + 5) 8 := by
  rcases hb with rfl | rfl | rfl <;> exact ⟨by decide, rfl, rfl⟩
theorem za_mesh_6 {b : Nat} (hb : b = 3 ∨ b = 15 ∨ b = 27) : zar (b + 6) 8 := by
  rcases hb with rfl | rfl | rfl <;> exact ⟨by decide, rfl, rfl⟩
theorem za_mesh_7 {b : Nat} (hb : b = 3 ∨ b = 15 ∨ b = 27) : zar (b + 7) 8 := by
  rcases hb with rfl | rfl | rfl <;> exact ⟨by decide, rfl, rfl⟩
theorem za_mesh_8 {b : Nat} (hb : b = 3 ∨ b = 15 ∨ b = 27) : zar (b + 8) 8 := by
  rcases hb with rfl | rfl | rfl <;> exact ⟨by decide, rfl, rfl⟩
theorem za_mesh_9 {b : Nat} (hb : b = 3 ∨ b = 15 ∨ b = 27) : zar (b + 9) 8 := by
  rcases hb with rfl | rfl | rfl <;> exact ⟨by decide, rfl, rfl⟩
theorem za_mesh_10 {b : Nat} (hb : b = 3 ∨ b = 15 ∨ b = 27) : zar (b + 10) 8 := by
  rcases hb with rfl | rfl | rfl <;> exact ⟨by decide, rfl, rfl⟩
theorem za_mesh_11 {b : Nat} (hb : b = 3 ∨ b = 15 ∨ b = 27) : zar (b + 11) 8 := by
  rcases hb with rfl | rfl | rfl <;> exact ⟨by decide, rfl, rfl⟩
theorem za_row {r : Nat} (hr : r = 54 ∨ r = 55 ∨ r = 56) : zar r 25 := by
  rcases hr with rfl | rfl | rfl <;> exact ⟨by decide, rfl, rfl⟩
theorem zC_g {c : Nat} (h0 : c ≠ 0) (h1 : c ≠ 51) (X : zXT) (g g2 : zLg) (r : Nat → Int32) : zC X g c r = zC X g2 c r := by
  by_cases hc : c < 71
  · have key : zkind c ≠ 6 ∧ zkind c ≠ 7 := by
      have : ∀ c, c < 71 → c ≠ 0 → c ≠ 51 → zkind c ≠ 6 ∧ zkind c ≠ 7 := by decide +kernel
      exact this c hc h0 h1
    unfold zC
    split <;> first | rfl | (exfalso; omega)
  · have key : zkind c = 10 := by
      have hl : 71 ≤ c := by omega
      unfold zkind
      rw [List.getD_eq_getElem?_getD, List.getElem?_eq_none (by simpa using hl)]
      rfl
    unfold zC
    rw [key]
    rfl
theorem zg_other_Slots (X : zXT) (h : zHp) (g : zLg) (x : Int64) : ∀ d, d ≠ 0 → zC X (zupg g 0 x) d (h d) = zC X g d (h d) := by
  intro d hd
  by_cases h1 : d = 51
  · subst h1; rfl
  · exact zC_g hd h1 X _ _ _
theorem zg_other_Model (X : zXT) (h : zHp) (g : zLg) (x : Int64) : ∀ d, d ≠ 51 → zC X (zupg g 1 x) d (h d) = zC X g d (h d) := by
  intro d hd
  by_cases h1 : d = 0
  · subst h1; rfl
  · exact zC_g h1 hd X _ _ _
section ZG
variable {X : zXT} {Γ : zGT} {Q : State → Prop} {cc : ByteArray} {own : String} {nL d : Nat} {rt : Option FieldType} {pc : Nat} {lv : List (Option Value)} {st : List Value} {h : zHp} {g : zLg}
theorem gf_Acts_0  (K : zOk X Γ cc own nL d rt) {idx : Nat} (hw : Cond.fieldLink own idx "PeriodSlots$Acts" "before" "LPeriodSlots$Shelf;" ∈ zU) (hd : decode cc pc = .ok (.getfield idx, 3)) (kk : zV X Γ Q (pc + 3) lv (zR X 42 :: st) h g) : zV X Γ Q pc lv (zR X 41 :: st) h g :=
  zr_get K (by decide) (zC_Acts X g _) rfl zi_Acts 0 (by decide) hw rfl hd kk
theorem gf_Acts_1  (K : zOk X Γ cc own nL d rt) {idx : Nat} (hw : Cond.fieldLink own idx "PeriodSlots$Acts" "newest" "I" ∈ zU) (hd : decode cc pc = .ok (.getfield idx, 3)) (kk : zV X Γ Q (pc + 3) lv (.int (h 41 0) :: st) h g) : zV X Γ Q pc lv (zR X 41 :: st) h g :=
  zr_get K (by decide) (zC_Acts X g _) rfl zi_Acts 1 (by decide) hw rfl hd kk
theorem pf_Acts_1  {x : Int32} (K : zOk X Γ cc own nL d rt) {idx : Nat} (hw : Cond.fieldLink own idx "PeriodSlots$Acts" "newest" "I" ∈ zU) (hd : decode cc pc = .ok (.putfield idx, 3)) (kk : zV X Γ Q (pc + 3) lv st (zup h 41 0 x) g) : zV X Γ Q pc lv (.int x :: zR X 41 :: st) h g :=
  zr_put K (by decide) (zC_Acts X g _) rfl zi_Acts zY_Acts zY_Acts_ok zT_Acts_nm 1 (by decide) hw rfl rfl rfl (Nat.le_of_ble_eq_true rfl) (zw_up X h g (by rw [zC_Acts X g _]; rfl)) hd kk
theorem gf_Acts_2  (K : zOk X Γ cc own nL d rt) {idx : Nat} (hw : Cond.fieldLink own idx "PeriodSlots$Acts" "size" "I" ∈ zU) (hd : decode cc pc = .ok (.getfield idx, 3)) (kk : zV X Γ Q (pc + 3) lv (.int (h 41 1) :: st) h g) : zV X Γ Q pc lv (zR X 41 :: st) h g :=
  zr_get K (by decide) (zC_Acts X g _) rfl zi_Acts 2 (by decide) hw rfl hd kk
theorem pf_Acts_2  {x : Int32} (K : zOk X Γ cc own nL d rt) {idx : Nat} (hw : Cond.fieldLink own idx "PeriodSlots$Acts" "size" "I" ∈ zU) (hd : decode cc pc = .ok (.putfield idx, 3)) (kk : zV X Γ Q (pc + 3) lv st (zup h 41 1 x) g) : zV X Γ Q pc lv (.int x :: zR X 41 :: st) h g :=
  zr_put K (by decide) (zC_Acts X g _) rfl zi_Acts zY_Acts zY_Acts_ok zT_Acts_nm 2 (by decide) hw rfl rfl rfl (Nat.le_of_ble_eq_true rfl) (zw_up X h g (by rw [zC_Acts X g _]; rfl)) hd kk
theorem gf_Mesh_0 {b : Nat} (K : zOk X Γ cc own nL d rt) (hb : b = 3 ∨ b = 15 ∨ b = 27) {idx : Nat} (hw : Cond.fieldLink own idx "PeriodSlots$Mesh" "count" "I" ∈ zU) (hd : decode cc pc = .ok (.getfield idx, 3)) (kk : zV X Γ Q (pc + 3) lv (.int (h b 0) :: st) h g) : zV X Γ Q pc lv (zR X b :: st) h g :=
  zr_get K (by omega) (zC_Mesh hb X g _) rfl zi_Mesh 0 (by decide) hw rfl hd kk
theorem pf_Mesh_0 {b : Nat} {x : Int32} (K : zOk X Γ cc own nL d rt) (hb : b = 3 ∨ b = 15 ∨ b = 27) {idx : Nat} (hw : Cond.fieldLink own idx "PeriodSlots$Mesh" "count" "I" ∈ zU) (hd : decode cc pc = .ok (.putfield idx, 3)) (kk : zV X Γ Q (pc + 3) lv st (zup h b 0 x) g) : zV X Γ Q pc lv (.int x :: zR X b :: st) h g :=
  zr_put K (by omega) (zC_Mesh hb X g _) rfl zi_Mesh zY_Mesh zY_Mesh_ok zT_Mesh_nm 0 (by decide) hw rfl rfl rfl (Nat.le_of_ble_eq_true rfl) (zw_up X h g (by rw [zC_Mesh hb X g _]; rfl)) hd kk
theorem gf_Mesh_1 {b : Nat} (K : zOk X Γ cc own nL d rt) (hb : b = 3 ∨ b = 15 ∨ b = 27) {idx : Nat} (hw : Cond.fieldLink own idx "PeriodSlots$Mesh" "roundNumber" "I" ∈ zU) (hd : decode cc pc = .ok (.getfield idx, 3)) (kk : zV X Γ Q (pc + 3) lv (.int (h b 1) :: st) h g) : zV X Γ Q pc lv (zR X b :: st) h g :=
  zr_get K (by omega) (zC_Mesh hb X g _) rfl zi_Mesh 1 (by decide) hw rfl hd kk
theorem pf_Mesh_1 {b : Nat} {x : Int32} (K : zOk X Γ cc own nL d rt) (hb : b = 3 ∨ b = 15 ∨ b = 27) {idx : Nat} (hw : Cond.fieldLink own idx "PeriodSlots$Mesh" "roundNumber" "I" ∈ zU) (hd : decode cc pc = .ok (.putfield idx, 3)) (kk : zV X Γ Q (pc + 3) lv st (zup h b 1 x) g) : zV X Γ Q pc lv (.int x :: zR X b :: st) h g :=
  zr_put K (by omega) (zC_Mesh hb X g _) rfl zi_Mesh zY_Mesh zY_Mesh_ok zT_Mesh_nm 1 (by decide) hw rfl rfl rfl (Nat.le_of_ble_eq_true rfl) (zw_up X h g (by rw [zC_Mesh hb X g _]; rfl)) hd kk
theorem gf_Mesh_2 {b : Nat} (K : zOk X Γ cc own nL d rt) (hb : b = 3 ∨ b = 15 ∨ b = 27) {idx : Nat} (hw : Cond.fieldLink own idx "PeriodSlots$Mesh" "gainfulRounds" "I" ∈ zU) (hd : decode cc pc = .ok (.getfield idx, 3)) (kk : zV X Γ Q (pc + 3) lv (.int (h b 2) :: st) h g) : zV X Γ Q pc lv (zR X b :: st) h g :=
  zr_get K (by omega) (zC_Mesh hb X g _) rfl zi_Mesh 2 (by decide) hw rfl hd kk
theorem pf_Mesh_2 {b : Nat} {x : Int32} (K : zOk X Γ cc own nL d rt) (hb : b = 3 ∨ b = 15 ∨ b = 27) {idx : Nat} (hw : Cond.fieldLink own idx "PeriodSlots$Mesh" "gainfulRounds" "I" ∈ zU) (hd : decode cc pc = .ok (.putfield idx, 3)) (kk : zV X Γ Q (pc + 3) lv st (zup h b 2 x) g) : zV X Γ Q pc lv (.int x :: zR X b :: st) h g :=
  zr_put K (by omega) (zC_Mesh hb X g _) rfl zi_Mesh zY_Mesh zY_Mesh_ok zT_Mesh_nm 2 (by decide) hw rfl rfl rfl (Nat.le_of_ble_eq_true rfl) (zw_up X h g (by rw [zC_Mesh hb X g _]; rfl)) hd kk
theorem gf_Mesh_3 {b : Nat} (K : zOk X Γ cc own nL d rt) (hb : b = 3 ∨ b = 15 ∨ b = 27) {idx : Nat} (hw : Cond.fieldLink own idx "PeriodSlots$Mesh" "periods" "[I" ∈ zU) (hd : decode cc pc = .ok (.getfield idx, 3)) (kk : zV X Γ Q (pc + 3) lv (zR X (b + 1) :: st) h g) : zV X Γ Q pc lv (zR X b :: st) h g :=
  zr_get K (by omega) (zC_Mesh hb X g _) rfl zi_Mesh 3 (by decide) hw rfl hd kk
theorem gf_Mesh_4 {b : Nat} (K : zOk X Γ cc own nL d rt) (hb : b = 3 ∨ b = 15 ∨ b = 27) {idx : Nat} (hw : Cond.fieldLink own idx "PeriodSlots$Mesh" "links" "[I" ∈ zU) (hd : decode cc pc = .ok (.getfield idx, 3)) (kk : zV X Γ Q (pc + 3) lv (zR X (b + 2) :: st) h g) : zV X Γ Q pc lv (zR X b :: st) h g :=
  zr_get K (by omega) (zC_Mesh hb X g _) rfl zi_Mesh 4 (by decide) hw rfl hd kk
theorem gf_Mesh_5 {b : Nat} (K : zOk X Γ cc own nL d rt) (hb : b = 3 ∨ b = 15 ∨ b = 27) {idx : Nat} (hw : Cond.fieldLink own idx "PeriodSlots$Mesh" "offsets" "[I" ∈ zU) (hd : decode cc pc = .ok (.getfield idx, 3)) (kk : zV X Γ Q (pc + 3) lv (zR X (b + 3) :: st) h g) : zV X Γ Q pc lv (zR X b :: st) h g :=
  zr_get K (by omega) (zC_Mesh hb X g _) rfl zi_Mesh 5 (by decide) hw rfl hd kk
theorem gf_Mesh_6 {b : Nat} (K : zOk X Γ cc own nL d rt) (hb : b = 3 ∨ b = 15 ∨ b = 27) {idx : Nat} (hw : Cond.fieldLink own idx "PeriodSlots$Mesh" "olds" "[I" ∈ zU) (hd : decode cc pc = .ok (.getfield idx, 3)) (kk : zV X Γ Q (pc + 3) lv (zR X (b + 4) :: st) h g) : zV X Γ Q pc lv (zR X b :: st) h g :=
  zr_get K (by omega) (zC_Mesh hb X g _) rfl zi_Mesh 6 (by decide) hw rfl hd kk
theorem gf_Mesh_7 {b : Nat} (K : zOk X Γ cc own nL d rt) (hb : b = 3 ∨ b = 15 ∨ b = 27) {idx : Nat} (hw : Cond.fieldLink own idx "PeriodSlots$Mesh" "patterns" "[I" ∈ zU) (hd : decode cc pc = .ok (.getfield idx, 3)) (kk : zV X Γ Q (pc + 3) lv (zR X (b + 5) :: st) h g) : zV X Γ Q pc lv (zR X b :: st) h g :=
  zr_get K (by omega) (zC_Mesh hb X g _) rfl zi_Mesh 7 (by decide) hw rfl hd kk
theorem gf_Mesh_8 {b : Nat} (K : zOk X Γ cc own nL d rt) (hb : b = 3 ∨ b = 15 ∨ b = 27) {idx : Nat} (hw : Cond.fieldLink own idx "PeriodSlots$Mesh" "near" "[I" ∈ zU) (hd : decode cc pc = .ok (.getfield idx, 3)) (kk : zV X Γ Q (pc + 3) lv (zR X (b + 6) :: st) h g) : zV X Γ Q pc lv (zR X b :: st) h g :=
  zr_get K (by omega) (zC_Mesh hb X g _) rfl zi_Mesh 8 (by decide) hw rfl hd kk
theorem gf_Mesh_9 {b : Nat} (K : zOk X Γ cc own nL d rt) (hb : b = 3 ∨ b = 15 ∨ b = 27) {idx : Nat} (hw : Cond.fieldLink own idx "PeriodSlots$Mesh" "priorities" "[I" ∈ zU) (hd : decode cc pc = .ok (.getfield idx, 3)) (kk : zV X Γ Q (pc + 3) lv (zR X (b + 7) :: st) h g) : zV X Γ Q pc lv (zR X b :: st) h g :=
  zr_get K (by omega) (zC_Mesh hb X g _) rfl zi_Mesh 9 (by decide) hw rfl hd kk
theorem gf_Mesh_10 {b : Nat} (K : zOk X Γ cc own nL d rt) (hb : b = 3 ∨ b = 15 ∨ b = 27) {idx : Nat} (hw : Cond.fieldLink own idx "PeriodSlots$Mesh" "nearAbove" "[I" ∈ zU) (hd : decode cc pc = .ok (.getfield idx, 3)) (kk : zV X Γ Q (pc + 3) lv (zR X (b + 8) :: st) h g) : zV X Γ Q pc lv (zR X b :: st) h g :=
  zr_get K (by omega) (zC_Mesh hb X g _) rfl zi_Mesh 10 (by decide) hw rfl hd kk
theorem gf_Mesh_11 {b : Nat} (K : zOk X Γ cc own nL d rt) (hb : b = 3 ∨ b = 15 ∨ b = 27) {idx : Nat} (hw : Cond.fieldLink own idx "PeriodSlots$Mesh" "ticks" "[I" ∈ zU) (hd : decode cc pc = .ok (.getfield idx, 3)) (kk : zV X Γ Q (pc + 3) lv (zR X (b + 9) :: st) h g) : zV X Γ Q pc lv (zR X b :: st) h g :=
  zr_get K (by omega) (zC_Mesh hb X g _) rfl zi_Mesh 11 (by decide) hw rfl hd kk
theorem gf_Mesh_12 {b : Nat} (K : zOk X Γ cc own nL d rt) (hb : b = 3 ∨ b = 15 ∨ b = 27) {idx : Nat} (hw : Cond.fieldLink own idx "PeriodSlots$Mesh" "occupied" "[I" ∈ zU) (hd : decode cc pc = .ok (.getfield idx, 3)) (kk : zV X Γ Q (pc + 3) lv (zR X (b + 10) :: st) h g) : zV X Γ Q pc lv (zR X b :: st) h g :=
  zr_get K (by omega) (zC_Mesh hb X g _) rfl zi_Mesh 12 (by decide) hw rfl hd kk
theorem gf_Mesh_13 {b : Nat} (K : zOk X Γ cc own nL d rt) (hb : b = 3 ∨ b = 15 ∨ b = 27) {idx : Nat} (hw : Cond.fieldLink own idx "PeriodSlots$Mesh" "next" "[I" ∈ zU) (hd : decode cc pc = .ok (.getfield idx, 3)) (kk : zV X Γ Q (pc + 3) lv (zR X (b + 11) :: st) h g) : zV X Γ Q pc lv (zR X b :: st) h g :=
  zr_get K (by omega) (zC_Mesh hb X g _) rfl zi_Mesh 13 (by decide) hw rfl hd kk
theorem gf_Obs_0  (K : zOk X Γ cc own nL d rt) {idx : Nat} (hw : Cond.fieldLink own idx "PeriodSlots$Observations" "stations" "[I" ∈ zU) (hd : decode cc pc = .ok (.getfield idx, 3)) (kk : zV X Γ Q (pc + 3) lv (zR X 47 :: st) h g) : zV X Γ Q pc lv (zR X 46 :: st) h g :=
  zr_get K (by decide) (zC_Obs X g _) rfl zi_Obs 0 (by decide) hw rfl hd kk
theorem gf_Obs_1  (K : zOk X Γ cc own nL d rt) {idx : Nat} (hw : Cond.fieldLink own idx "PeriodSlots$Observations" "ticks" "[I" ∈ zU) (hd : decode cc pc = .ok (.getfield idx, 3)) (kk : zV X Γ Q (pc + 3) lv (zR X 48 :: st) h g) : zV X Γ Q pc lv (zR X 46 :: st) h g :=
  zr_get K (by decide) (zC_Obs X g _) rfl zi_Obs 1 (by decide) hw rfl hd kk
theorem gf_Obs_2  (K : zOk X Γ cc own nL d rt) {idx : Nat} (hw : Cond.fieldLink own idx "PeriodSlots$Observations" "sights" "[I" ∈ zU) (hd : decode cc pc = .ok (.getfield idx, 3)) (kk : zV X Γ Q (pc + 3) lv (zR X 49 :: st) h g) : zV X Γ Q pc lv (zR X 46 :: st) h g :=
  zr_get K (by decide) (zC_Obs X g _) rfl zi_Obs 2 (by decide) hw rfl hd kk
theorem gf_Obs_3  (K : zOk X Γ cc own nL d rt) {idx : Nat} (hw : Cond.fieldLink own idx "PeriodSlots$Observations" "size" "I" ∈ zU) (hd : decode cc pc = .ok (.getfield idx, 3)) (kk : zV X Γ Q (pc + 3) lv (.int (h 46 0) :: st) h g) : zV X Γ Q pc lv (zR X 46 :: st) h g :=
  zr_get K (by decide) (zC_Obs X g _) rfl zi_Obs 3 (by decide) hw rfl hd kk
theorem pf_Obs_3  {x : Int32} (K : zOk X Γ cc own nL d rt) {idx : Nat} (hw : Cond.fieldLink own idx "PeriodSlots$Observations" "size" "I" ∈ zU) (hd : decode cc pc = .ok (.putfield idx, 3)) (kk : zV X Γ Q (pc + 3) lv st (zup h 46 0 x) g) : zV X Γ Q pc lv (.int x :: zR X 46 :: st) h g :=
  zr_put K (by decide) (zC_Obs X g _) rfl zi_Obs zY_Obs zY_Obs_ok zT_Obs_nm 3 (by decide) hw rfl rfl rfl (Nat.le_of_ble_eq_true rfl) (zw_up X h g (by rw [zC_Obs X g _]; rfl)) hd kk
theorem gf_Planner_0  (K : zOk X Γ cc own nL d rt) {idx : Nat} (hw : Cond.fieldLink own idx "PeriodSlots$Planner" "offsets" "[I" ∈ zU) (hd : decode cc pc = .ok (.getfield idx, 3)) (kk : zV X Γ Q (pc + 3) lv (zR X 40 :: st) h g) : zV X Γ Q pc lv (zR X 39 :: st) h g :=
  zr_get K (by decide) (zC_Planner X g _) rfl zi_Planner 0 (by decide) hw rfl hd kk
theorem gf_Shelf_0 {b : Nat} (K : zOk X Γ cc own nL d rt) (hb : b = 42 ∨ b = 44) {idx : Nat} (hw : Cond.fieldLink own idx "PeriodSlots$Shelf" "rows" "I" ∈ zU) (hd : decode cc pc = .ok (.getfield idx, 3)) (kk : zV X Γ Q (pc + 3) lv (.int (h b 0) :: st) h g) : zV X Γ Q pc lv (zR X b :: st) h g :=
  zr_get K (by omega) (zC_Shelf hb X g _) rfl zi_Shelf 0 (by decide) hw rfl hd kk
theorem gf_Shelf_1 {b : Nat} (K : zOk X Γ cc own nL d rt) (hb : b = 42 ∨ b = 44) {idx : Nat} (hw : Cond.fieldLink own idx "PeriodSlots$Shelf" "cells" "[I" ∈ zU) (hd : decode cc pc = .ok (.getfield idx, 3)) (kk : zV X Γ Q (pc + 3) lv (zR X (b + 1) :: st) h g) : zV X Γ Q pc lv (zR X b :: st) h g :=
  zr_get K (by omega) (zC_Shelf hb X g _) rfl zi_Shelf 1 (by decide) hw rfl hd kk
theorem gf_Shelf_2 {b : Nat} (K : zOk X Γ cc own nL d rt) (hb : b = 42 ∨ b = 44) {idx : Nat} (hw : Cond.fieldLink own idx "PeriodSlots$Shelf" "filled" "I" ∈ zU) (hd : decode cc pc = .ok (.getfield idx, 3)) (kk : zV X Γ Q (pc + 3) lv (.int (h b 1) :: st) h g) : zV X Γ Q pc lv (zR X b :: st) h g :=
  zr_get K (by omega) (zC_Shelf hb X g _) rfl zi_Shelf 2 (by decide) hw rfl hd kk
theorem pf_Shelf_2 {b : Nat} {x : Int32} (K : zOk X Γ cc own nL d rt) (hb : b = 42 ∨ b = 44) {idx : Nat} (hw : Cond.fieldLink own idx "PeriodSlots$Shelf" "filled" "I" ∈ zU) (hd : decode cc pc = .ok (.putfield idx, 3)) (kk : zV X Γ Q (pc + 3) lv st (zup h b 1 x) g) : zV X Γ Q pc lv (.int x :: zR X b :: st) h g :=
  zr_put K (by omega) (zC_Shelf hb X g _) rfl zi_Shelf zY_Shelf zY_Shelf_ok zT_Shelf_nm 2 (by decide) hw rfl rfl rfl (Nat.le_of_ble_eq_true rfl) (zw_up X h g (by rw [zC_Shelf hb X g _]; rfl)) hd kk
theorem gf_Text_0  (K : zOk X Γ cc own nL d rt) {idx : Nat} (hw : Cond.fieldLink own idx "PeriodSlots$Text" "bytes" "[I" ∈ zU) (hd : decode cc pc = .ok (.getfield idx, 3)) (kk : zV X Γ Q (pc + 3) lv (zR X 2 :: st) h g) : zV X Γ Q pc lv (zR X 1 :: st) h g :=
  zr_get K (by decide) (zC_Text X g _) rfl zi_Text 0 (by decide) hw rfl hd kk
theorem gf_Text_1  (K : zOk X Γ cc own nL d rt) {idx : Nat} (hw : Cond.fieldLink own idx "PeriodSlots$Text" "length" "I" ∈ zU) (hd : decode cc pc = .ok (.getfield idx, 3)) (kk : zV X Γ Q (pc + 3) lv (.int (h 1 0) :: st) h g) : zV X Γ Q pc lv (zR X 1 :: st) h g :=
  zr_get K (by decide) (zC_Text X g _) rfl zi_Text 1 (by decide) hw rfl hd kk
theorem pf_Text_1  {x : Int32} (K : zOk X Γ cc own nL d rt) {idx : Nat} (hw : Cond.fieldLink own idx "PeriodSlots$Text" "length" "I" ∈ zU) (hd : decode cc pc = .ok (.putfield idx, 3)) (kk : zV X Γ Q (pc + 3) lv st (zup h 1 0 x) g) : zV X Γ Q pc lv (.int x :: zR X 1 :: st) h g :=
  zr_put K (by decide) (zC_Text X g _) rfl zi_Text zY_Text zY_Text_ok zT_Text_nm 1 (by decide) hw rfl rfl rfl (Nat.le_of_ble_eq_true rfl) (zw_up X h g (by rw [zC_Text X g _]; rfl)) hd kk
theorem gf_Slots_0  (K : zOk X Γ cc own nL d rt) {idx : Nat} (hw : Cond.fieldLink own idx "PeriodSlots" "text" "LPeriodSlots$Text;" ∈ zU) (hd : decode cc pc = .ok (.getfield idx, 3)) (kk : zV X Γ Q (pc + 3) lv (zR X 1 :: st) h g) : zV X Γ Q pc lv (zR X 0 :: st) h g :=
  zr_get K (by decide) (zC_Slots X g _) rfl zi_Slots 0 (by decide) hw rfl hd kk
theorem gf_Slots_1  (K : zOk X Γ cc own nL d rt) {idx : Nat} (hw : Cond.fieldLink own idx "PeriodSlots" "mesh" "LPeriodSlots$Mesh;" ∈ zU) (hd : decode cc pc = .ok (.getfield idx, 3)) (kk : zV X Γ Q (pc + 3) lv (zR X 3 :: st) h g) : zV X Γ Q pc lv (zR X 0 :: st) h g :=
  zr_get K (by decide) (zC_Slots X g _) rfl zi_Slots 1 (by decide) hw rfl hd kk
theorem gf_Slots_2  (K : zOk X Γ cc own nL d rt) {idx : Nat} (hw : Cond.fieldLink own idx "PeriodSlots" "draft" "LPeriodSlots$Mesh;" ∈ zU) (hd : decode cc pc = .ok (.getfield idx, 3)) (kk : zV X Γ Q (pc + 3) lv (zR X 15 :: st) h g) : zV X Γ Q pc lv (zR X 0 :: st) h g :=
  zr_get K (by decide) (zC_Slots X g _) rfl zi_Slots 2 (by decide) hw rfl hd kk
theorem gf_Slots_3  (K : zOk X Γ cc own nL d rt) {idx : Nat} (hw : Cond.fieldLink own idx "PeriodSlots" "trial" "LPeriodSlots$Mesh;" ∈ zU) (hd : decode cc pc = .ok (.getfield idx, 3)) (kk : zV X Γ Q (pc + 3) lv (zR X 27 :: st) h g) : zV X Γ Q pc lv (zR X 0 :: st) h g :=
  zr_get K (by decide) (zC_Slots X g _) rfl zi_Slots 3 (by decide) hw rfl hd kk
theorem gf_Slots_4  (K : zOk X Γ cc own nL d rt) {idx : Nat} (hw : Cond.fieldLink own idx "PeriodSlots" "planner" "LPeriodSlots$Planner;" ∈ zU) (hd : decode cc pc = .ok (.getfield idx, 3)) (kk : zV X Γ Q (pc + 3) lv (zR X 39 :: st) h g) : zV X Γ Q pc lv (zR X 0 :: st) h g :=
  zr_get K (by decide) (zC_Slots X g _) rfl zi_Slots 4 (by decide) hw rfl hd kk
theorem gf_Slots_5  (K : zOk X Γ cc own nL d rt) {idx : Nat} (hw : Cond.fieldLink own idx "PeriodSlots" "acts" "LPeriodSlots$Acts;" ∈ zU) (hd : decode cc pc = .ok (.getfield idx, 3)) (kk : zV X Γ Q (pc + 3) lv (zR X 41 :: st) h g) : zV X Γ Q pc lv (zR X 0 :: st) h g :=
  zr_get K (by decide) (zC_Slots X g _) rfl zi_Slots 5 (by decide) hw rfl hd kk
theorem gf_Slots_6  (K : zOk X Γ cc own nL d rt) {idx : Nat} (hw : Cond.fieldLink own idx "PeriodSlots" "slots" "LPeriodSlots$Shelf;" ∈ zU) (hd : decode cc pc = .ok (.getfield idx, 3)) (kk : zV X Γ Q (pc + 3) lv (zR X 44 :: st) h g) : zV X Γ Q pc lv (zR X 0 :: st) h g :=
  zr_get K (by decide) (zC_Slots X g _) rfl zi_Slots 6 (by decide) hw rfl hd kk
theorem gf_Slots_7  (K : zOk X Γ cc own nL d rt) {idx : Nat} (hw : Cond.fieldLink own idx "PeriodSlots" "observations" "LPeriodSlots$Observations;" ∈ zU) (hd : decode cc pc = .ok (.getfield idx, 3)) (kk : zV X Γ Q (pc + 3) lv (zR X 46 :: st) h g) : zV X Γ Q pc lv (zR X 0 :: st) h g :=
  zr_get K (by decide) (zC_Slots X g _) rfl zi_Slots 7 (by decide) hw rfl hd kk
theorem gf_Slots_8  (K : zOk X Γ cc own nL d rt) {idx : Nat} (hw : Cond.fieldLink own idx "PeriodSlots" "statements" "[I" ∈ zU) (hd : decode cc pc = .ok (.getfield idx, 3)) (kk : zV X Γ Q (pc + 3) lv (zR X 50 :: st) h g) : zV X Γ Q pc lv (zR X 0 :: st) h g :=
  zr_get K (by decide) (zC_Slots X g _) rfl zi_Slots 8 (by decide) hw rfl hd kk
theorem gf_Slots_9  (K : zOk X Γ cc own nL d rt) {idx : Nat} (hw : Cond.fieldLink own idx "PeriodSlots" "chance" "J" ∈ zU) (hd : decode cc pc = .ok (.getfield idx, 3)) (kk : zV X Γ Q (pc + 3) lv (.long (g 0) :: st) h g) : zV X Γ Q pc lv (zR X 0 :: st) h g :=
  zr_get K (by decide) (zC_Slots X g _) rfl zi_Slots 9 (by decide) hw rfl hd kk
theorem pf_Slots_9 {x : Int64} (K : zOk X Γ cc own nL d rt) {idx : Nat} (hw : Cond.fieldLink own idx "PeriodSlots" "chance" "J" ∈ zU) (hd : decode cc pc = .ok (.putfield idx, 3)) (kk : zV X Γ Q (pc + 3) lv st h (zupg g 0 x)) : zV X Γ Q pc lv (.long x :: zR X 0 :: st) h g :=
  zr_put K (by decide) (zC_Slots X g _) rfl zi_Slots zY_Slots zY_Slots_ok zT_Slots_nm 9 (by decide) hw rfl rfl rfl (Nat.le_of_ble_eq_true rfl) (zw_upg X h g rfl (zg_other_Slots X h g x)) hd kk
theorem gf_Model_0  (K : zOk X Γ cc own nL d rt) {idx : Nat} (hw : Cond.fieldLink own idx "PeriodSlotsModel" "text" "[I" ∈ zU) (hd : decode cc pc = .ok (.getfield idx, 3)) (kk : zV X Γ Q (pc + 3) lv (zR X 52 :: st) h g) : zV X Γ Q pc lv (zR X 51 :: st) h g :=
  zr_get K (by decide) (zC_Model X g _) rfl zi_Model 0 (by decide) hw rfl hd kk
theorem gf_Model_1  (K : zOk X Γ cc own nL d rt) {idx : Nat} (hw : Cond.fieldLink own idx "PeriodSlotsModel" "length" "I" ∈ zU) (hd : decode cc pc = .ok (.getfield idx, 3)) (kk : zV X Γ Q (pc + 3) lv (.int (h 51 0) :: st) h g) : zV X Γ Q pc lv (zR X 51 :: st) h g :=
  zr_get K (by decide) (zC_Model X g _) rfl zi_Model 1 (by decide) hw rfl hd kk
theorem pf_Model_1  {x : Int32} (K : zOk X Γ cc own nL d rt) {idx : Nat} (hw : Cond.fieldLink own idx "PeriodSlotsModel" "length" "I" ∈ zU) (hd : decode cc pc = .ok (.putfield idx, 3)) (kk : zV X Γ Q (pc + 3) lv st (zup h 51 0 x) g) : zV X Γ Q pc lv (.int x :: zR X 51 :: st) h g :=
  zr_put K (by decide) (zC_Model X g _) rfl zi_Model zY_Model zY_Model_ok zT_Model_nm 1 (by decide) hw rfl rfl rfl (Nat.le_of_ble_eq_true rfl) (zw_up X h g (by rw [zC_Model X g _]; rfl)) hd kk
theorem gf_Model_2  (K : zOk X Γ cc own nL d rt) {idx : Nat} (hw : Cond.fieldLink own idx "PeriodSlotsModel" "stations" "I" ∈ zU) (hd : decode cc pc = .ok (.getfield idx, 3)) (kk : zV X Γ Q (pc + 3) lv (.int (h 51 1) :: st) h g) : zV X Γ Q pc lv (zR X 51 :: st) h g :=
  zr_get K (by decide) (zC_Model X g _) rfl zi_Model 2 (by decide) hw rfl hd kk
theorem pf_Model_2  {x : Int32} (K : zOk X Γ cc own nL d rt) {idx : Nat} (hw : Cond.fieldLink own idx "PeriodSlotsModel" "stations" "I" ∈ zU) (hd : decode cc pc = .ok (.putfield idx, 3)) (kk : zV X Γ Q (pc + 3) lv st (zup h 51 1 x) g) : zV X Γ Q pc lv (.int x :: zR X 51 :: st) h g :=
  zr_put K (by decide) (zC_Model X g _) rfl zi_Model zY_Model zY_Model_ok zT_Model_nm 2 (by decide) hw rfl rfl rfl (Nat.le_of_ble_eq_true rfl) (zw_up X h g (by rw [zC_Model X g _]; rfl)) hd kk
theorem gf_Model_3  (K : zOk X Γ cc own nL d rt) {idx : Nat} (hw : Cond.fieldLink own idx "PeriodSlotsModel" "period" "[I" ∈ zU) (hd : decode cc pc = .ok (.getfield idx, 3)) (kk : zV X Γ Q (pc + 3) lv (zR X 53 :: st) h g) : zV X Γ Q pc lv (zR X 51 :: st) h g :=
  zr_get K (by decide) (zC_Model X g _) rfl zi_Model 3 (by decide) hw rfl hd kk
theorem gf_Model_4  (K : zOk X Γ cc own nL d rt) {idx : Nat} (hw : Cond.fieldLink own idx "PeriodSlotsModel" "now" "[I" ∈ zU) (hd : decode cc pc = .ok (.getfield idx, 3)) (kk : zV X Γ Q (pc + 3) lv (zR X 54 :: st) h g) : zV X Γ Q pc lv (zR X 51 :: st) h g :=
  zr_get K (by decide) (zC_Model X g _) rfl zi_Model 4 (by decide) hw rfl hd kk
theorem gf_Model_5  (K : zOk X Γ cc own nL d rt) {idx : Nat} (hw : Cond.fieldLink own idx "PeriodSlotsModel" "trial" "[I" ∈ zU) (hd : decode cc pc = .ok (.getfield idx, 3)) (kk : zV X Γ Q (pc + 3) lv (zR X 55 :: st) h g) : zV X Γ Q pc lv (zR X 51 :: st) h g :=
  zr_get K (by decide) (zC_Model X g _) rfl zi_Model 5 (by decide) hw rfl hd kk
theorem gf_Model_6  (K : zOk X Γ cc own nL d rt) {idx : Nat} (hw : Cond.fieldLink own idx "PeriodSlotsModel" "spare" "[I" ∈ zU) (hd : decode cc pc = .ok (.getfield idx, 3)) (kk : zV X Γ Q (pc + 3) lv (zR X 56 :: st) h g) : zV X Γ Q pc lv (zR X 51 :: st) h g :=
  zr_get K (by decide) (zC_Model X g _) rfl zi_Model 6 (by decide) hw rfl hd kk
theorem gf_Model_7  (K : zOk X Γ cc own nL d rt) {idx : Nat} (hw : Cond.fieldLink own idx "PeriodSlotsModel" "diary" "[I" ∈ zU) (hd : decode cc pc = .ok (.getfield idx, 3)) (kk : zV X Γ Q (pc + 3) lv (zR X 57 :: st) h g) : zV X Γ Q pc lv (zR X 51 :: st) h g :=
  zr_get K (by decide) (zC_Model X g _) rfl zi_Model 7 (by decide) hw rfl hd kk
theorem gf_Model_8  (K : zOk X Γ cc own nL d rt) {idx : Nat} (hw : Cond.fieldLink own idx "PeriodSlotsModel" "doings" "I" ∈ zU) (hd : decode cc pc = .ok (.getfield idx, 3)) (kk : zV X Γ Q (pc + 3) lv (.int (h 51 2) :: st) h g) : zV X Γ Q pc lv (zR X 51 :: st) h g :=
  zr_get K (by decide) (zC_Model X g _) rfl zi_Model 8 (by decide) hw rfl hd kk
theorem pf_Model_8  {x : Int32} (K : zOk X Γ cc own nL d rt) {idx : Nat} (hw : Cond.fieldLink own idx "PeriodSlotsModel" "doings" "I" ∈ zU) (hd : decode cc pc = .ok (.putfield idx, 3)) (kk : zV X Γ Q (pc + 3) lv st (zup h 51 2 x) g) : zV X Γ Q pc lv (.int x :: zR X 51 :: st) h g :=
  zr_put K (by decide) (zC_Model X g _) rfl zi_Model zY_Model zY_Model_ok zT_Model_nm 8 (by decide) hw rfl rfl rfl (Nat.le_of_ble_eq_true rfl) (zw_up X h g (by rw [zC_Model X g _]; rfl)) hd kk
theorem gf_Model_9  (K : zOk X Γ cc own nL d rt) {idx : Nat} (hw : Cond.fieldLink own idx "PeriodSlotsModel" "next" "I" ∈ zU) (hd : decode cc pc = .ok (.getfield idx, 3)) (kk : zV X Γ Q (pc + 3) lv (.int (h 51 3) :: st) h g) : zV X Γ Q pc lv (zR X 51 :: st) h g :=
  zr_get K (by decide) (zC_Model X g _) rfl zi_Model 9 (by decide) hw rfl hd kk
theorem pf_Model_9  {x : Int32} (K : zOk X Γ cc own nL d rt) {idx : Nat} (hw : Cond.fieldLink own idx "PeriodSlotsModel" "next" "I" ∈ zU) (hd : decode cc pc = .ok (.putfield idx, 3)) (kk : zV X Γ Q (pc + 3) lv st (zup h 51 3 x) g) : zV X Γ Q pc lv (.int x :: zR X 51 :: st) h g :=
  zr_put K (by decide) (zC_Model X g _) rfl zi_Model zY_Model zY_Model_ok zT_Model_nm 9 (by decide) hw rfl rfl rfl (Nat.le_of_ble_eq_true rfl) (zw_up X h g (by rw [zC_Model X g _]; rfl)) hd kk
theorem gf_Model_10  (K : zOk X Γ cc own nL d rt) {idx : Nat} (hw : Cond.fieldLink own idx "PeriodSlotsModel" "kept" "[I" ∈ zU) (hd : decode cc pc = .ok (.getfield idx, 3)) (kk : zV X Γ Q (pc + 3) lv (zR X 58 :: st) h g) : zV X Γ Q pc lv (zR X 51 :: st) h g :=
  zr_get K (by decide) (zC_Model X g _) rfl zi_Model 10 (by decide) hw rfl hd kk
theorem gf_Model_11  (K : zOk X Γ cc own nL d rt) {idx : Nat} (hw : Cond.fieldLink own idx "PeriodSlotsModel" "isKept" "[Z" ∈ zU) (hd : decode cc pc = .ok (.getfield idx, 3)) (kk : zV X Γ Q (pc + 3) lv (zR X 59 :: st) h g) : zV X Γ Q pc lv (zR X 51 :: st) h g :=
  zr_get K (by decide) (zC_Model X g _) rfl zi_Model 11 (by decide) hw rfl hd kk
theorem gf_Model_12  (K : zOk X Γ cc own nL d rt) {idx : Nat} (hw : Cond.fieldLink own idx "PeriodSlotsModel" "seenBy" "[I" ∈ zU) (hd : decode cc pc = .ok (.getfield idx, 3)) (kk : zV X Γ Q (pc + 3) lv (zR X 60 :: st) h g) : zV X Γ Q pc lv (zR X 51 :: st) h g :=
  zr_get K (by decide) (zC_Model X g _) rfl zi_Model 12 (by decide) hw rfl hd kk
theorem gf_Model_13  (K : zOk X Γ cc own nL d rt) {idx : Nat} (hw : Cond.fieldLink own idx "PeriodSlotsModel" "seenTick" "[I" ∈ zU) (hd : decode cc pc = .ok (.getfield idx, 3)) (kk : zV X Γ Q (pc + 3) lv (zR X 61 :: st) h g) : zV X Γ Q pc lv (zR X 51 :: st) h g :=
  zr_get K (by decide) (zC_Model X g _) rfl zi_Model 13 (by decide) hw rfl hd kk
theorem gf_Model_14  (K : zOk X Γ cc own nL d rt) {idx : Nat} (hw : Cond.fieldLink own idx "PeriodSlotsModel" "seenWas" "[I" ∈ zU) (hd : decode cc pc = .ok (.getfield idx, 3)) (kk : zV X Γ Q (pc + 3) lv (zR X 62 :: st) h g) : zV X Γ Q pc lv (zR X 51 :: st) h g :=
  zr_get K (by decide) (zC_Model X g _) rfl zi_Model 14 (by decide) hw rfl hd kk
theorem gf_Model_15  (K : zOk X Γ cc own nL d rt) {idx : Nat} (hw : Cond.fieldLink own idx "PeriodSlotsModel" "seen" "I" ∈ zU) (hd : decode cc pc = .ok (.getfield idx, 3)) (kk : zV X Γ Q (pc + 3) lv (.int (h 51 4) :: st) h g) : zV X Γ Q pc lv (zR X 51 :: st) h g :=
  zr_get K (by decide) (zC_Model X g _) rfl zi_Model 15 (by decide) hw rfl hd kk
theorem pf_Model_15  {x : Int32} (K : zOk X Γ cc own nL d rt) {idx : Nat} (hw : Cond.fieldLink own idx "PeriodSlotsModel" "seen" "I" ∈ zU) (hd : decode cc pc = .ok (.putfield idx, 3)) (kk : zV X Γ Q (pc + 3) lv st (zup h 51 4 x) g) : zV X Γ Q pc lv (.int x :: zR X 51 :: st) h g :=
  zr_put K (by decide) (zC_Model X g _) rfl zi_Model zY_Model zY_Model_ok zT_Model_nm 15 (by decide) hw rfl rfl rfl (Nat.le_of_ble_eq_true rfl) (zw_up X h g (by rw [zC_Model X g _]; rfl)) hd kk
theorem gf_Model_16  (K : zOk X Γ cc own nL d rt) {idx : Nat} (hw : Cond.fieldLink own idx "PeriodSlotsModel" "seed" "J" ∈ zU) (hd : decode cc pc = .ok (.getfield idx, 3)) (kk : zV X Γ Q (pc + 3) lv (.long (g 1) :: st) h g) : zV X Γ Q pc lv (zR X 51 :: st) h g :=
  zr_get K (by decide) (zC_Model X g _) rfl zi_Model 16 (by decide) hw rfl hd kk
theorem pf_Model_16 {x : Int64} (K : zOk X Γ cc own nL d rt) {idx : Nat} (hw : Cond.fieldLink own idx "PeriodSlotsModel" "seed" "J" ∈ zU) (hd : decode cc pc = .ok (.putfield idx, 3)) (kk : zV X Γ Q (pc + 3) lv st h (zupg g 1 x)) : zV X Γ Q pc lv (.long x :: zR X 51 :: st) h g :=
  zr_put K (by decide) (zC_Model X g _) rfl zi_Model zY_Model zY_Model_ok zT_Model_nm 16 (by decide) hw rfl rfl rfl (Nat.le_of_ble_eq_true rfl) (zw_upg X h g rfl (zg_other_Model X h g x)) hd kk
theorem gf_Model_17  (K : zOk X Γ cc own nL d rt) {idx : Nat} (hw : Cond.fieldLink own idx "PeriodSlotsModel" "readStations" "I" ∈ zU) (hd : decode cc pc = .ok (.getfield idx, 3)) (kk : zV X Γ Q (pc + 3) lv (.int (h 51 5) :: st) h g) : zV X Γ Q pc lv (zR X 51 :: st) h g :=
  zr_get K (by decide) (zC_Model X g _) rfl zi_Model 17 (by decide) hw rfl hd kk
theorem pf_Model_17  {x : Int32} (K : zOk X Γ cc own nL d rt) {idx : Nat} (hw : Cond.fieldLink own idx "PeriodSlotsModel" "readStations" "I" ∈ zU) (hd : decode cc pc = .ok (.putfield idx, 3)) (kk : zV X Γ Q (pc + 3) lv st (zup h 51 5 x) g) : zV X Γ Q pc lv (.int x :: zR X 51 :: st) h g :=
  zr_put K (by decide) (zC_Model X g _) rfl zi_Model zY_Model zY_Model_ok zT_Model_nm 17 (by decide) hw rfl rfl rfl (Nat.le_of_ble_eq_true rfl) (zw_up X h g (by rw [zC_Model X g _]; rfl)) hd kk
theorem gf_Model_18  (K : zOk X Γ cc own nL d rt) {idx : Nat} (hw : Cond.fieldLink own idx "PeriodSlotsModel" "readPeriod" "[I" ∈ zU) (hd : decode cc pc = .ok (.getfield idx, 3)) (kk : zV X Γ Q (pc + 3) lv (zR X 63 :: st) h g) : zV X Γ Q pc lv (zR X 51 :: st) h g :=
  zr_get K (by decide) (zC_Model X g _) rfl zi_Model 18 (by decide) hw rfl hd kk
theorem gf_Model_19  (K : zOk X Γ cc own nL d rt) {idx : Nat} (hw : Cond.fieldLink own idx "PeriodSlotsModel" "readOffset" "[I" ∈ zU) (hd : decode cc pc = .ok (.getfield idx, 3)) (kk : zV X Γ Q (pc + 3) lv (zR X 64 :: st) h g) : zV X Γ Q pc lv (zR X 51 :: st) h g :=
  zr_get K (by decide) (zC_Model X g _) rfl zi_Model 19 (by decide) hw rfl hd kk
theorem gf_Model_20  (K : zOk X Γ cc own nL d rt) {idx : Nat} (hw : Cond.fieldLink own idx "PeriodSlotsModel" "readLinks" "[I" ∈ zU) (hd : decode cc pc = .ok (.getfield idx, 3)) (kk : zV X Γ Q (pc + 3) lv (zR X 65 :: st) h g) : zV X Γ Q pc lv (zR X 51 :: st) h g :=
  zr_get K (by decide) (zC_Model X g _) rfl zi_Model 20 (by decide) hw rfl hd kk
theorem gf_Model_21  (K : zOk X Γ cc own nL d rt) {idx : Nat} (hw : Cond.fieldLink own idx "PeriodSlotsModel" "part" "I" ∈ zU) (hd : decode cc pc = .ok (.getfield idx, 3)) (kk : zV X Γ Q (pc + 3) lv (.int (h 51 6) :: st) h g) : zV X Γ Q pc lv (zR X 51 :: st) h g :=
  zr_get K (by decide) (zC_Model X g _) rfl zi_Model 21 (by decide) hw rfl hd kk
theorem pf_Model_21  {x : Int32} (K : zOk X Γ cc own nL d rt) {idx : Nat} (hw : Cond.fieldLink own idx "PeriodSlotsModel" "part" "I" ∈ zU) (hd : decode cc pc = .ok (.putfield idx, 3)) (kk : zV X Γ Q (pc + 3) lv st (zup h 51 6 x) g) : zV X Γ Q pc lv (.int x :: zR X 51 :: st) h g :=
  zr_put K (by decide) (zC_Model X g _) rfl zi_Model zY_Model zY_Model_ok zT_Model_nm 21 (by decide) hw rfl rfl rfl (Nat.le_of_ble_eq_true rfl) (zw_up X h g (by rw [zC_Model X g _]; rfl)) hd kk
theorem gf_Model_22  (K : zOk X Γ cc own nL d rt) {idx : Nat} (hw : Cond.fieldLink own idx "PeriodSlotsModel" "place" "I" ∈ zU) (hd : decode cc pc = .ok (.getfield idx, 3)) (kk : zV X Γ Q (pc + 3) lv (.int (h 51 7) :: st) h g) : zV X Γ Q pc lv (zR X 51 :: st) h g :=
  zr_get K (by decide) (zC_Model X g _) rfl zi_Model 22 (by decide) hw rfl hd kk
theorem pf_Model_22  {x : Int32} (K : zOk X Γ cc own nL d rt) {idx : Nat} (hw : Cond.fieldLink own idx "PeriodSlotsModel" "place" "I" ∈ zU) (hd : decode cc pc = .ok (.putfield idx, 3)) (kk : zV X Γ Q (pc + 3) lv st (zup h 51 7 x) g) : zV X Γ Q pc lv (.int x :: zR X 51 :: st) h g :=
  zr_put K (by decide) (zC_Model X g _) rfl zi_Model zY_Model zY_Model_ok zT_Model_nm 22 (by decide) hw rfl rfl rfl (Nat.le_of_ble_eq_true rfl) (zw_up X h g (by rw [zC_Model X g _]; rfl)) hd kk
theorem gf_Model_23  (K : zOk X Γ cc own nL d rt) {idx : Nat} (hw : Cond.fieldLink own idx "PeriodSlotsModel" "readFirst" "I" ∈ zU) (hd : decode cc pc = .ok (.getfield idx, 3)) (kk : zV X Γ Q (pc + 3) lv (.int (h 51 8) :: st) h g) : zV X Γ Q pc lv (zR X 51 :: st) h g :=
  zr_get K (by decide) (zC_Model X g _) rfl zi_Model 23 (by decide) hw rfl hd kk
theorem pf_Model_23  {x : Int32} (K : zOk X Γ cc own nL d rt) {idx : Nat} (hw : Cond.fieldLink own idx "PeriodSlotsModel" "readFirst" "I" ∈ zU) (hd : decode cc pc = .ok (.putfield idx, 3)) (kk : zV X Γ Q (pc + 3) lv st (zup h 51 8 x) g) : zV X Γ Q pc lv (.int x :: zR X 51 :: st) h g :=
  zr_put K (by decide) (zC_Model X g _) rfl zi_Model zY_Model zY_Model_ok zT_Model_nm 23 (by decide) hw rfl rfl rfl (Nat.le_of_ble_eq_true rfl) (zw_up X h g (by rw [zC_Model X g _]; rfl)) hd kk
theorem gf_Model_24  (K : zOk X Γ cc own nL d rt) {idx : Nat} (hw : Cond.fieldLink own idx "PeriodSlotsModel" "on" "I" ∈ zU) (hd : decode cc pc = .ok (.getfield idx, 3)) (kk : zV X Γ Q (pc + 3) lv (.int (h 51 9) :: st) h g) : zV X Γ Q pc lv (zR X 51 :: st) h g :=
  zr_get K (by decide) (zC_Model X g _) rfl zi_Model 24 (by decide) hw rfl hd kk
theorem pf_Model_24  {x : Int32} (K : zOk X Γ cc own nL d rt) {idx : Nat} (hw : Cond.fieldLink own idx "PeriodSlotsModel" "on" "I" ∈ zU) (hd : decode cc pc = .ok (.putfield idx, 3)) (kk : zV X Γ Q (pc + 3) lv st (zup h 51 9 x) g) : zV X Γ Q pc lv (.int x :: zR X 51 :: st) h g :=
  zr_put K (by decide) (zC_Model X g _) rfl zi_Model zY_Model zY_Model_ok zT_Model_nm 24 (by decide) hw rfl rfl rfl (Nat.le_of_ble_eq_true rfl) (zw_up X h g (by rw [zC_Model X g _]; rfl)) hd kk
theorem gf_Model_25  (K : zOk X Γ cc own nL d rt) {idx : Nat} (hw : Cond.fieldLink own idx "PeriodSlotsModel" "near" "[I" ∈ zU) (hd : decode cc pc = .ok (.getfield idx, 3)) (kk : zV X Γ Q (pc + 3) lv (zR X 66 :: st) h g) : zV X Γ Q pc lv (zR X 51 :: st) h g :=
  zr_get K (by decide) (zC_Model X g _) rfl zi_Model 25 (by decide) hw rfl hd kk
theorem gf_Model_26  (K : zOk X Γ cc own nL d rt) {idx : Nat} (hw : Cond.fieldLink own idx "PeriodSlotsModel" "moved" "[I" ∈ zU) (hd : decode cc pc = .ok (.getfield idx, 3)) (kk : zV X Γ Q (pc + 3) lv (zR X 67 :: st) h g) : zV X Γ Q pc lv (zR X 51 :: st) h g :=
  zr_get K (by decide) (zC_Model X g _) rfl zi_Model 26 (by decide) hw rfl hd kk
theorem gf_Model_27  (K : zOk X Γ cc own nL d rt) {idx : Nat} (hw : Cond.fieldLink own idx "PeriodSlotsModel" "movedOld" "[I" ∈ zU) (hd : decode cc pc = .ok (.getfield idx, 3)) (kk : zV X Γ Q (pc + 3) lv (zR X 68 :: st) h g) : zV X Γ Q pc lv (zR X 51 :: st) h g :=
  zr_get K (by decide) (zC_Model X g _) rfl zi_Model 27 (by decide) hw rfl hd kk
theorem gf_Model_28  (K : zOk X Γ cc own nL d rt) {idx : Nat} (hw : Cond.fieldLink own idx "PeriodSlotsModel" "moves" "Z" ∈ zU) (hd : decode cc pc = .ok (.getfield idx, 3)) (kk : zV X Γ Q (pc + 3) lv (.int (h 51 10) :: st) h g) : zV X Γ Q pc lv (zR X 51 :: st) h g :=
  zr_get K (by decide) (zC_Model X g _) rfl zi_Model 28 (by decide) hw rfl hd kk
theorem pf_Model_28  {x : Int32} (K : zOk X Γ cc own nL d rt) (hx : x = 0 ∨ x = 1) {idx : Nat} (hw : Cond.fieldLink own idx "PeriodSlotsModel" "moves" "Z" ∈ zU) (hd : decode cc pc = .ok (.putfield idx, 3)) (kk : zV X Γ Q (pc + 3) lv st (zup h 51 10 x) g) : zV X Γ Q pc lv (.int x :: zR X 51 :: st) h g :=
  zr_put K (by decide) (zC_Model X g _) rfl zi_Model zY_Model zY_Model_ok zT_Model_nm 28 (by decide) hw rfl (by rcases hx with rfl | rfl <;> rfl) (by rcases hx with rfl | rfl <;> rfl) (Nat.le_of_ble_eq_true rfl) (zw_up X h g (by rw [zC_Model X g _]; rfl)) hd kk
theorem gf_Model_29  (K : zOk X Γ cc own nL d rt) {idx : Nat} (hw : Cond.fieldLink own idx "PeriodSlotsModel" "movingRounds" "I" ∈ zU) (hd : decode cc pc = .ok (.getfield idx, 3)) (kk : zV X Γ Q (pc + 3) lv (.int (h 51 11) :: st) h g) : zV X Γ Q pc lv (zR X 51 :: st) h g :=
  zr_get K (by decide) (zC_Model X g _) rfl zi_Model 29 (by decide) hw rfl hd kk
theorem pf_Model_29  {x : Int32} (K : zOk X Γ cc own nL d rt) {idx : Nat} (hw : Cond.fieldLink own idx "PeriodSlotsModel" "movingRounds" "I" ∈ zU) (hd : decode cc pc = .ok (.putfield idx, 3)) (kk : zV X Γ Q (pc + 3) lv st (zup h 51 11 x) g) : zV X Γ Q pc lv (.int x :: zR X 51 :: st) h g :=
  zr_put K (by decide) (zC_Model X g _) rfl zi_Model zY_Model zY_Model_ok zT_Model_nm 29 (by decide) hw rfl rfl rfl (Nat.le_of_ble_eq_true rfl) (zw_up X h g (by rw [zC_Model X g _]; rfl)) hd kk
theorem gf_Model_30  (K : zOk X Γ cc own nL d rt) {idx : Nat} (hw : Cond.fieldLink own idx "PeriodSlotsModel" "planned" "[I" ∈ zU) (hd : decode cc pc = .ok (.getfield idx, 3)) (kk : zV X Γ Q (pc + 3) lv (zR X 69 :: st) h g) : zV X Γ Q pc lv (zR X 51 :: st) h g :=
  zr_get K (by decide) (zC_Model X g _) rfl zi_Model 30 (by decide) hw rfl hd kk
theorem gf_Model_31  (K : zOk X Γ cc own nL d rt) {idx : Nat} (hw : Cond.fieldLink own idx "PeriodSlotsModel" "worth" "[I" ∈ zU) (hd : decode cc pc = .ok (.getfield idx, 3)) (kk : zV X Γ Q (pc + 3) lv (zR X 70 :: st) h g) : zV X Γ Q pc lv (zR X 51 :: st) h g :=
  zr_get K (by decide) (zC_Model X g _) rfl zi_Model 31 (by decide) hw rfl hd kk
end ZG
end
section
/-! Words that the walks use, by their places in the tables: by program. -/
theorem m351 : Cond.constant "java/lang/Integer" 265 (1431655765) ∈ zU := zU_in (i := 351) (by decide +kernel) rfl
theorem m352 : Cond.constant "java/lang/Integer" 266 (858993459) ∈ zU := zU_in (i := 352) (by decide +kernel) rfl
theorem m353 : Cond.constant "java/lang/Integer" 267 (252645135) ∈ zU := zU_in (i := 353) (by decide +kernel) rfl
theorem m64 : Cond.initialized "java/lang/Integer" ∈ zU := zU_in (i := 64) (by decide +kernel) rfl
theorem m475 : Cond.constant "java/lang/Integer" 264 (65536) ∈ zU := zU_in (i := 475) (by decide +kernel) rfl
theorem m63 : Cond.initialized "java/util/Arrays" ∈ zU := zU_in (i := 63) (by decide +kernel) rfl
theorem m54 : Cond.initialized "PeriodSlots" ∈ zU := zU_in (i := 54) (by decide +kernel) rfl
theorem m472 : Cond.methodLink "PeriodSlots" 295 ⟨"java/lang/Integer", "numberOfTrailingZeros", "(I)I"⟩ ∈ zU := zU_in (i := 472) (by decide +kernel) rfl
theorem m473 : Cond.static ⟨"java/lang/Integer", "numberOfTrailingZeros", "(I)I"⟩ ∈ zU := zU_in (i := 473) (by decide +kernel) rfl
theorem m705 : Cond.methodLink "PeriodSlots" 298 ⟨"java/lang/Math", "abs", "(I)I"⟩ ∈ zU := zU_in (i := 705) (by decide +kernel) rfl
theorem m708 : Cond.methodLink "PeriodSlots" 303 ⟨"PeriodSlots", "commonDivisor", "(II)I"⟩ ∈ zU := zU_in (i := 708) (by decide +kernel) rfl
theorem m709 : Cond.static ⟨"PeriodSlots", "commonDivisor", "(II)I"⟩ ∈ zU := zU_in (i := 709) (by decide +kernel) rfl
theorem m95 : Cond.fieldLink "PeriodSlots$Mesh" 45 "PeriodSlots$Mesh" "count" "I" ∈ zU := zU_in (i := 95) (by decide +kernel) rfl
theorem m99 : Cond.fieldLink "PeriodSlots$Mesh" 49 "PeriodSlots$Mesh" "roundNumber" "I" ∈ zU := zU_in (i := 99) (by decide +kernel) rfl
theorem m56 : Cond.initialized "PeriodSlots$Mesh" ∈ zU := zU_in (i := 56) (by decide +kernel) rfl
theorem m382 : Cond.methodLink "PeriodSlots$Mesh" 56 ⟨"java/lang/System", "arraycopy", "(Ljava/lang/Object;ILjava/lang/Object;II)V"⟩ ∈ zU := zU_in (i := 382) (by decide +kernel) rfl
theorem m104 : Cond.fieldLink "PeriodSlots$Mesh" 9 "PeriodSlots$Mesh" "periods" "[I" ∈ zU := zU_in (i := 104) (by decide +kernel) rfl
theorem m379 : Cond.methodLink "PeriodSlots$Mesh" 52 ⟨"PeriodSlots$Mesh", "copyRow", "([I[I)V"⟩ ∈ zU := zU_in (i := 379) (by decide +kernel) rfl
theorem m380 : Cond.static ⟨"PeriodSlots$Mesh", "copyRow", "([I[I)V"⟩ ∈ zU := zU_in (i := 380) (by decide +kernel) rfl
theorem m107 : Cond.fieldLink "PeriodSlots$Mesh" 15 "PeriodSlots$Mesh" "links" "[I" ∈ zU := zU_in (i := 107) (by decide +kernel) rfl
theorem m111 : Cond.fieldLink "PeriodSlots$Mesh" 18 "PeriodSlots$Mesh" "offsets" "[I" ∈ zU := zU_in (i := 111) (by decide +kernel) rfl
theorem m114 : Cond.fieldLink "PeriodSlots$Mesh" 21 "PeriodSlots$Mesh" "olds" "[I" ∈ zU := zU_in (i := 114) (by decide +kernel) rfl
theorem m117 : Cond.fieldLink "PeriodSlots$Mesh" 24 "PeriodSlots$Mesh" "patterns" "[I" ∈ zU := zU_in (i := 117) (by decide +kernel) rfl
theorem m118 : Cond.fieldLink "PeriodSlots$Mesh" 27 "PeriodSlots$Mesh" "near" "[I" ∈ zU := zU_in (i := 118) (by decide +kernel) rfl
theorem m121 : Cond.fieldLink "PeriodSlots$Mesh" 30 "PeriodSlots$Mesh" "priorities" "[I" ∈ zU := zU_in (i := 121) (by decide +kernel) rfl
theorem m123 : Cond.fieldLink "PeriodSlots$Mesh" 33 "PeriodSlots$Mesh" "nearAbove" "[I" ∈ zU := zU_in (i := 123) (by decide +kernel) rfl
theorem m124 : Cond.fieldLink "PeriodSlots$Mesh" 36 "PeriodSlots$Mesh" "ticks" "[I" ∈ zU := zU_in (i := 124) (by decide +kernel) rfl
theorem m126 : Cond.fieldLink "PeriodSlots$Mesh" 39 "PeriodSlots$Mesh" "occupied" "[I" ∈ zU := zU_in (i := 126) (by decide +kernel) rfl
theorem m309 : Cond.methodLink "PeriodSlots$Mesh" 119 ⟨"PeriodSlots$Mesh", "ticksAt", "(II)I"⟩ ∈ zU := zU_in (i := 309) (by decide +kernel) rfl
theorem m310 : Cond.instanceMethod ⟨"PeriodSlots$Mesh", "ticksAt", "(II)I"⟩ ∈ zU := zU_in (i := 310) (by decide +kernel) rfl
theorem m311 : Cond.selects "PeriodSlots$Mesh" ⟨"PeriodSlots$Mesh", "ticksAt", "(II)I"⟩ ⟨"PeriodSlots$Mesh", "ticksAt", "(II)I"⟩ ∈ zU := zU_in (i := 311) (by decide +kernel) rfl
theorem m302 : Cond.methodLink "PeriodSlots$Mesh" 128 ⟨"java/util/Arrays", "fill", "([II)V"⟩ ∈ zU := zU_in (i := 302) (by decide +kernel) rfl
theorem m303 : Cond.static ⟨"java/util/Arrays", "fill", "([II)V"⟩ ∈ zU := zU_in (i := 303) (by decide +kernel) rfl
theorem m305 : Cond.methodLink "PeriodSlots$Mesh" 134 ⟨"PeriodSlots$Mesh", "markTicks", "()V"⟩ ∈ zU := zU_in (i := 305) (by decide +kernel) rfl
theorem m306 : Cond.instanceMethod ⟨"PeriodSlots$Mesh", "markTicks", "()V"⟩ ∈ zU := zU_in (i := 306) (by decide +kernel) rfl
theorem m307 : Cond.selects "PeriodSlots$Mesh" ⟨"PeriodSlots$Mesh", "markTicks", "()V"⟩ ⟨"PeriodSlots$Mesh", "markTicks", "()V"⟩ ∈ zU := zU_in (i := 307) (by decide +kernel) rfl
theorem m322 : Cond.static ⟨"PeriodSlots", "has", "(II)Z"⟩ ∈ zU := zU_in (i := 322) (by decide +kernel) rfl
theorem m332 : Cond.constantLong "PeriodSlots$Mesh" 111 (7) ∈ zU := zU_in (i := 332) (by decide +kernel) rfl
theorem m333 : Cond.constantLong "PeriodSlots$Mesh" 113 (37) ∈ zU := zU_in (i := 333) (by decide +kernel) rfl
theorem m334 : Cond.constantLong "PeriodSlots$Mesh" 115 (101) ∈ zU := zU_in (i := 334) (by decide +kernel) rfl
theorem m335 : Cond.constantLong "PeriodSlots$Mesh" 117 (1009) ∈ zU := zU_in (i := 335) (by decide +kernel) rfl
theorem m328 : Cond.methodLink "PeriodSlots$Mesh" 105 ⟨"PeriodSlots$Mesh", "priority", "(I)I"⟩ ∈ zU := zU_in (i := 328) (by decide +kernel) rfl
theorem m330 : Cond.instanceMethod ⟨"PeriodSlots$Mesh", "priority", "(I)I"⟩ ∈ zU := zU_in (i := 330) (by decide +kernel) rfl
theorem m4 : Cond.selects "PeriodSlots$Mesh" ⟨"PeriodSlots$Mesh", "priority", "(I)I"⟩ ⟨"PeriodSlots$Mesh", "priority", "(I)I"⟩ ∈ zU := zU_in (i := 4) (by decide +kernel) rfl
theorem m336 : Cond.methodLink "PeriodSlots$Mesh" 108 ⟨"PeriodSlots$Mesh", "stationsAbove", "(I)I"⟩ ∈ zU := zU_in (i := 336) (by decide +kernel) rfl
theorem m338 : Cond.instanceMethod ⟨"PeriodSlots$Mesh", "stationsAbove", "(I)I"⟩ ∈ zU := zU_in (i := 338) (by decide +kernel) rfl
theorem m5 : Cond.selects "PeriodSlots$Mesh" ⟨"PeriodSlots$Mesh", "stationsAbove", "(I)I"⟩ ⟨"PeriodSlots$Mesh", "stationsAbove", "(I)I"⟩ ∈ zU := zU_in (i := 5) (by decide +kernel) rfl
theorem m317 : Cond.methodLink "PeriodSlots$Mesh" 86 ⟨"PeriodSlots$Mesh", "neighboursOf", "(I)I"⟩ ∈ zU := zU_in (i := 317) (by decide +kernel) rfl
theorem m319 : Cond.instanceMethod ⟨"PeriodSlots$Mesh", "neighboursOf", "(I)I"⟩ ∈ zU := zU_in (i := 319) (by decide +kernel) rfl
theorem m2 : Cond.selects "PeriodSlots$Mesh" ⟨"PeriodSlots$Mesh", "neighboursOf", "(I)I"⟩ ⟨"PeriodSlots$Mesh", "neighboursOf", "(I)I"⟩ ∈ zU := zU_in (i := 2) (by decide +kernel) rfl
theorem m324 : Cond.methodLink "PeriodSlots$Mesh" 102 ⟨"PeriodSlots$Mesh", "rank", "()V"⟩ ∈ zU := zU_in (i := 324) (by decide +kernel) rfl
theorem m326 : Cond.instanceMethod ⟨"PeriodSlots$Mesh", "rank", "()V"⟩ ∈ zU := zU_in (i := 326) (by decide +kernel) rfl
theorem m3 : Cond.selects "PeriodSlots$Mesh" ⟨"PeriodSlots$Mesh", "rank", "()V"⟩ ⟨"PeriodSlots$Mesh", "rank", "()V"⟩ ∈ zU := zU_in (i := 3) (by decide +kernel) rfl
theorem m294 : Cond.methodLink "PeriodSlots$Mesh" 62 ⟨"PeriodSlots$Mesh", "wrapped", "(II)I"⟩ ∈ zU := zU_in (i := 294) (by decide +kernel) rfl
theorem m295 : Cond.instanceMethod ⟨"PeriodSlots$Mesh", "wrapped", "(II)I"⟩ ∈ zU := zU_in (i := 295) (by decide +kernel) rfl
theorem m296 : Cond.selects "PeriodSlots$Mesh" ⟨"PeriodSlots$Mesh", "wrapped", "(II)I"⟩ ⟨"PeriodSlots$Mesh", "wrapped", "(II)I"⟩ ∈ zU := zU_in (i := 296) (by decide +kernel) rfl
theorem m298 : Cond.methodLink "PeriodSlots$Mesh" 66 ⟨"PeriodSlots$Mesh", "dropOlds", "()V"⟩ ∈ zU := zU_in (i := 298) (by decide +kernel) rfl
theorem m299 : Cond.instanceMethod ⟨"PeriodSlots$Mesh", "dropOlds", "()V"⟩ ∈ zU := zU_in (i := 299) (by decide +kernel) rfl
theorem m300 : Cond.selects "PeriodSlots$Mesh" ⟨"PeriodSlots$Mesh", "dropOlds", "()V"⟩ ⟨"PeriodSlots$Mesh", "dropOlds", "()V"⟩ ∈ zU := zU_in (i := 300) (by decide +kernel) rfl
theorem m313 : Cond.methodLink "PeriodSlots$Mesh" 69 ⟨"PeriodSlots$Mesh", "relate", "()V"⟩ ∈ zU := zU_in (i := 313) (by decide +kernel) rfl
theorem m314 : Cond.instanceMethod ⟨"PeriodSlots$Mesh", "relate", "()V"⟩ ∈ zU := zU_in (i := 314) (by decide +kernel) rfl
theorem m315 : Cond.selects "PeriodSlots$Mesh" ⟨"PeriodSlots$Mesh", "relate", "()V"⟩ ⟨"PeriodSlots$Mesh", "relate", "()V"⟩ ∈ zU := zU_in (i := 315) (by decide +kernel) rfl
theorem m489 : Cond.methodLink "PeriodSlots$Mesh" 72 ⟨"PeriodSlots$Mesh", "exists", "(I)Z"⟩ ∈ zU := zU_in (i := 489) (by decide +kernel) rfl
theorem m359 : Cond.instanceMethod ⟨"PeriodSlots$Mesh", "exists", "(I)Z"⟩ ∈ zU := zU_in (i := 359) (by decide +kernel) rfl
theorem m360 : Cond.selects "PeriodSlots$Mesh" ⟨"PeriodSlots$Mesh", "exists", "(I)Z"⟩ ⟨"PeriodSlots$Mesh", "exists", "(I)Z"⟩ ∈ zU := zU_in (i := 360) (by decide +kernel) rfl
theorem m348 : Cond.methodLink "PeriodSlots$Mesh" 76 ⟨"java/lang/Integer", "bitCount", "(I)I"⟩ ∈ zU := zU_in (i := 348) (by decide +kernel) rfl
theorem m349 : Cond.static ⟨"java/lang/Integer", "bitCount", "(I)I"⟩ ∈ zU := zU_in (i := 349) (by decide +kernel) rfl
theorem m344 : Cond.methodLink "PeriodSlots$Mesh" 82 ⟨"PeriodSlots$Mesh", "linkCount", "()I"⟩ ∈ zU := zU_in (i := 344) (by decide +kernel) rfl
theorem m345 : Cond.instanceMethod ⟨"PeriodSlots$Mesh", "linkCount", "()I"⟩ ∈ zU := zU_in (i := 345) (by decide +kernel) rfl
theorem m346 : Cond.selects "PeriodSlots$Mesh" ⟨"PeriodSlots$Mesh", "linkCount", "()I"⟩ ⟨"PeriodSlots$Mesh", "linkCount", "()I"⟩ ∈ zU := zU_in (i := 346) (by decide +kernel) rfl
theorem m435 : Cond.methodLink "PeriodSlots$Mesh" 93 ⟨"PeriodSlots$Mesh", "netOf", "(I)I"⟩ ∈ zU := zU_in (i := 435) (by decide +kernel) rfl
theorem m436 : Cond.instanceMethod ⟨"PeriodSlots$Mesh", "netOf", "(I)I"⟩ ∈ zU := zU_in (i := 436) (by decide +kernel) rfl
theorem m437 : Cond.selects "PeriodSlots$Mesh" ⟨"PeriodSlots$Mesh", "netOf", "(I)I"⟩ ⟨"PeriodSlots$Mesh", "netOf", "(I)I"⟩ ∈ zU := zU_in (i := 437) (by decide +kernel) rfl
theorem m439 : Cond.methodLink "PeriodSlots$Mesh" 96 ⟨"java/lang/Integer", "lowestOneBit", "(I)I"⟩ ∈ zU := zU_in (i := 439) (by decide +kernel) rfl
theorem m440 : Cond.static ⟨"java/lang/Integer", "lowestOneBit", "(I)I"⟩ ∈ zU := zU_in (i := 440) (by decide +kernel) rfl
theorem m431 : Cond.methodLink "PeriodSlots$Mesh" 99 ⟨"PeriodSlots$Mesh", "isLowestOfNet", "(I)Z"⟩ ∈ zU := zU_in (i := 431) (by decide +kernel) rfl
theorem m432 : Cond.instanceMethod ⟨"PeriodSlots$Mesh", "isLowestOfNet", "(I)Z"⟩ ∈ zU := zU_in (i := 432) (by decide +kernel) rfl
theorem m433 : Cond.selects "PeriodSlots$Mesh" ⟨"PeriodSlots$Mesh", "isLowestOfNet", "(I)Z"⟩ ⟨"PeriodSlots$Mesh", "isLowestOfNet", "(I)Z"⟩ ∈ zU := zU_in (i := 433) (by decide +kernel) rfl
theorem m406 : Cond.methodLink "PeriodSlots$Mesh" 122 ⟨"PeriodSlots$Mesh", "occupiedByAny", "(I)I"⟩ ∈ zU := zU_in (i := 406) (by decide +kernel) rfl
theorem m408 : Cond.instanceMethod ⟨"PeriodSlots$Mesh", "occupiedByAny", "(I)I"⟩ ∈ zU := zU_in (i := 408) (by decide +kernel) rfl
theorem m7 : Cond.selects "PeriodSlots$Mesh" ⟨"PeriodSlots$Mesh", "occupiedByAny", "(I)I"⟩ ⟨"PeriodSlots$Mesh", "occupiedByAny", "(I)I"⟩ ∈ zU := zU_in (i := 7) (by decide +kernel) rfl
theorem m423 : Cond.methodLink "PeriodSlots$Mesh" 125 ⟨"PeriodSlots$Mesh", "offsetsOutside", "(II)I"⟩ ∈ zU := zU_in (i := 423) (by decide +kernel) rfl
theorem m424 : Cond.instanceMethod ⟨"PeriodSlots$Mesh", "offsetsOutside", "(II)I"⟩ ∈ zU := zU_in (i := 424) (by decide +kernel) rfl
theorem m425 : Cond.selects "PeriodSlots$Mesh" ⟨"PeriodSlots$Mesh", "offsetsOutside", "(II)I"⟩ ⟨"PeriodSlots$Mesh", "offsetsOutside", "(II)I"⟩ ∈ zU := zU_in (i := 425) (by decide +kernel) rfl
theorem m418 : Cond.methodLink "PeriodSlots$Mesh" 137 ⟨"PeriodSlots$Mesh", "unsettledSet", "()I"⟩ ∈ zU := zU_in (i := 418) (by decide +kernel) rfl
theorem m403 : Cond.instanceMethod ⟨"PeriodSlots$Mesh", "unsettledSet", "()I"⟩ ∈ zU := zU_in (i := 403) (by decide +kernel) rfl
theorem m404 : Cond.selects "PeriodSlots$Mesh" ⟨"PeriodSlots$Mesh", "unsettledSet", "()I"⟩ ⟨"PeriodSlots$Mesh", "unsettledSet", "()I"⟩ ∈ zU := zU_in (i := 404) (by decide +kernel) rfl
theorem m419 : Cond.methodLink "PeriodSlots$Mesh" 140 ⟨"PeriodSlots$Mesh", "freeOffsets", "(I)I"⟩ ∈ zU := zU_in (i := 419) (by decide +kernel) rfl
theorem m420 : Cond.instanceMethod ⟨"PeriodSlots$Mesh", "freeOffsets", "(I)I"⟩ ∈ zU := zU_in (i := 420) (by decide +kernel) rfl
theorem m421 : Cond.selects "PeriodSlots$Mesh" ⟨"PeriodSlots$Mesh", "freeOffsets", "(I)I"⟩ ⟨"PeriodSlots$Mesh", "freeOffsets", "(I)I"⟩ ∈ zU := zU_in (i := 421) (by decide +kernel) rfl
theorem m128 : Cond.fieldLink "PeriodSlots$Mesh" 42 "PeriodSlots$Mesh" "next" "[I" ∈ zU := zU_in (i := 128) (by decide +kernel) rfl
theorem m470 : Cond.static ⟨"PeriodSlots", "lowestOrNone", "(I)I"⟩ ∈ zU := zU_in (i := 470) (by decide +kernel) rfl
theorem m476 : Cond.methodLink "PeriodSlots$Mesh" 146 ⟨"PeriodSlots$Mesh", "moveToNext", "(I)I"⟩ ∈ zU := zU_in (i := 476) (by decide +kernel) rfl
theorem m478 : Cond.instanceMethod ⟨"PeriodSlots$Mesh", "moveToNext", "(I)I"⟩ ∈ zU := zU_in (i := 478) (by decide +kernel) rfl
theorem m8 : Cond.selects "PeriodSlots$Mesh" ⟨"PeriodSlots$Mesh", "moveToNext", "(I)I"⟩ ⟨"PeriodSlots$Mesh", "moveToNext", "(I)I"⟩ ∈ zU := zU_in (i := 8) (by decide +kernel) rfl
theorem m103 : Cond.fieldLink "PeriodSlots$Mesh" 149 "PeriodSlots$Mesh" "gainfulRounds" "I" ∈ zU := zU_in (i := 103) (by decide +kernel) rfl
theorem m540 : Cond.methodLink "PeriodSlots$Mesh" 152 ⟨"PeriodSlots$Mesh", "isQuiet", "()Z"⟩ ∈ zU := zU_in (i := 540) (by decide +kernel) rfl
theorem m415 : Cond.instanceMethod ⟨"PeriodSlots$Mesh", "isQuiet", "()Z"⟩ ∈ zU := zU_in (i := 415) (by decide +kernel) rfl
theorem m416 : Cond.selects "PeriodSlots$Mesh" ⟨"PeriodSlots$Mesh", "isQuiet", "()Z"⟩ ⟨"PeriodSlots$Mesh", "isQuiet", "()Z"⟩ ∈ zU := zU_in (i := 416) (by decide +kernel) rfl
theorem m541 : Cond.methodLink "PeriodSlots$Mesh" 156 ⟨"PeriodSlots$Mesh", "advance", "()I"⟩ ∈ zU := zU_in (i := 541) (by decide +kernel) rfl
theorem m466 : Cond.instanceMethod ⟨"PeriodSlots$Mesh", "advance", "()I"⟩ ∈ zU := zU_in (i := 466) (by decide +kernel) rfl
theorem m467 : Cond.selects "PeriodSlots$Mesh" ⟨"PeriodSlots$Mesh", "advance", "()I"⟩ ⟨"PeriodSlots$Mesh", "advance", "()I"⟩ ∈ zU := zU_in (i := 467) (by decide +kernel) rfl
theorem m542 : Cond.methodLink "PeriodSlots$Mesh" 159 ⟨"PeriodSlots$Mesh", "placedSet", "()I"⟩ ∈ zU := zU_in (i := 542) (by decide +kernel) rfl
theorem m411 : Cond.instanceMethod ⟨"PeriodSlots$Mesh", "placedSet", "()I"⟩ ∈ zU := zU_in (i := 411) (by decide +kernel) rfl
theorem m412 : Cond.selects "PeriodSlots$Mesh" ⟨"PeriodSlots$Mesh", "placedSet", "()I"⟩ ⟨"PeriodSlots$Mesh", "placedSet", "()I"⟩ ∈ zU := zU_in (i := 412) (by decide +kernel) rfl
theorem m619 : Cond.methodLink "PeriodSlots$Mesh" 162 ⟨"PeriodSlots$Mesh", "neighboursAt", "(II)I"⟩ ∈ zU := zU_in (i := 619) (by decide +kernel) rfl
theorem m620 : Cond.instanceMethod ⟨"PeriodSlots$Mesh", "neighboursAt", "(II)I"⟩ ∈ zU := zU_in (i := 620) (by decide +kernel) rfl
theorem m621 : Cond.selects "PeriodSlots$Mesh" ⟨"PeriodSlots$Mesh", "neighboursAt", "(II)I"⟩ ⟨"PeriodSlots$Mesh", "neighboursAt", "(II)I"⟩ ∈ zU := zU_in (i := 621) (by decide +kernel) rfl
theorem m615 : Cond.methodLink "PeriodSlots$Mesh" 165 ⟨"PeriodSlots$Mesh", "heardBy", "(II)I"⟩ ∈ zU := zU_in (i := 615) (by decide +kernel) rfl
theorem m617 : Cond.instanceMethod ⟨"PeriodSlots$Mesh", "heardBy", "(II)I"⟩ ∈ zU := zU_in (i := 617) (by decide +kernel) rfl
theorem m11 : Cond.selects "PeriodSlots$Mesh" ⟨"PeriodSlots$Mesh", "heardBy", "(II)I"⟩ ⟨"PeriodSlots$Mesh", "heardBy", "(II)I"⟩ ∈ zU := zU_in (i := 11) (by decide +kernel) rfl
theorem m81 : Cond.fieldLink "PeriodSlots$Text" 15 "PeriodSlots$Text" "length" "I" ∈ zU := zU_in (i := 81) (by decide +kernel) rfl
theorem m80 : Cond.fieldLink "PeriodSlots$Text" 9 "PeriodSlots$Text" "bytes" "[I" ∈ zU := zU_in (i := 80) (by decide +kernel) rfl
theorem m55 : Cond.initialized "PeriodSlots$Text" ∈ zU := zU_in (i := 55) (by decide +kernel) rfl
theorem m282 : Cond.methodLink "PeriodSlots$Text" 24 ⟨"PeriodSlots$Text", "byteAt", "(I)I"⟩ ∈ zU := zU_in (i := 282) (by decide +kernel) rfl
theorem m284 : Cond.instanceMethod ⟨"PeriodSlots$Text", "byteAt", "(I)I"⟩ ∈ zU := zU_in (i := 284) (by decide +kernel) rfl
theorem m0 : Cond.selects "PeriodSlots$Text" ⟨"PeriodSlots$Text", "byteAt", "(I)I"⟩ ⟨"PeriodSlots$Text", "byteAt", "(I)I"⟩ ∈ zU := zU_in (i := 0) (by decide +kernel) rfl
theorem m290 : Cond.methodLink "PeriodSlots$Text" 42 ⟨"PeriodSlots$Mesh", "add", "(II)V"⟩ ∈ zU := zU_in (i := 290) (by decide +kernel) rfl
theorem m291 : Cond.instanceMethod ⟨"PeriodSlots$Mesh", "add", "(II)V"⟩ ∈ zU := zU_in (i := 291) (by decide +kernel) rfl
theorem m292 : Cond.selects "PeriodSlots$Mesh" ⟨"PeriodSlots$Mesh", "add", "(II)V"⟩ ⟨"PeriodSlots$Mesh", "add", "(II)V"⟩ ∈ zU := zU_in (i := 292) (by decide +kernel) rfl
theorem m358 : Cond.methodLink "PeriodSlots$Text" 46 ⟨"PeriodSlots$Mesh", "exists", "(I)Z"⟩ ∈ zU := zU_in (i := 358) (by decide +kernel) rfl
theorem m362 : Cond.methodLink "PeriodSlots$Text" 50 ⟨"PeriodSlots$Mesh", "isLinkedWithAll", "(I)Z"⟩ ∈ zU := zU_in (i := 362) (by decide +kernel) rfl
theorem m363 : Cond.instanceMethod ⟨"PeriodSlots$Mesh", "isLinkedWithAll", "(I)Z"⟩ ∈ zU := zU_in (i := 363) (by decide +kernel) rfl
theorem m364 : Cond.selects "PeriodSlots$Mesh" ⟨"PeriodSlots$Mesh", "isLinkedWithAll", "(I)Z"⟩ ⟨"PeriodSlots$Mesh", "isLinkedWithAll", "(I)Z"⟩ ∈ zU := zU_in (i := 364) (by decide +kernel) rfl
theorem m109 : Cond.fieldLink "PeriodSlots$Text" 53 "PeriodSlots$Mesh" "links" "[I" ∈ zU := zU_in (i := 109) (by decide +kernel) rfl
theorem m367 : Cond.methodLink "PeriodSlots$Text" 60 ⟨"PeriodSlots$Mesh", "flipLink", "(II)V"⟩ ∈ zU := zU_in (i := 367) (by decide +kernel) rfl
theorem m368 : Cond.instanceMethod ⟨"PeriodSlots$Mesh", "flipLink", "(II)V"⟩ ∈ zU := zU_in (i := 368) (by decide +kernel) rfl
theorem m369 : Cond.selects "PeriodSlots$Mesh" ⟨"PeriodSlots$Mesh", "flipLink", "(II)V"⟩ ⟨"PeriodSlots$Mesh", "flipLink", "(II)V"⟩ ∈ zU := zU_in (i := 369) (by decide +kernel) rfl
theorem m278 : Cond.methodLink "PeriodSlots$Text" 19 ⟨"PeriodSlots$Mesh", "clear", "()V"⟩ ∈ zU := zU_in (i := 278) (by decide +kernel) rfl
theorem m279 : Cond.instanceMethod ⟨"PeriodSlots$Mesh", "clear", "()V"⟩ ∈ zU := zU_in (i := 279) (by decide +kernel) rfl
theorem m280 : Cond.selects "PeriodSlots$Mesh" ⟨"PeriodSlots$Mesh", "clear", "()V"⟩ ⟨"PeriodSlots$Mesh", "clear", "()V"⟩ ∈ zU := zU_in (i := 280) (by decide +kernel) rfl
theorem m340 : Cond.methodLink "PeriodSlots$Text" 35 ⟨"PeriodSlots$Mesh", "lacksLink", "()Z"⟩ ∈ zU := zU_in (i := 340) (by decide +kernel) rfl
theorem m341 : Cond.instanceMethod ⟨"PeriodSlots$Mesh", "lacksLink", "()Z"⟩ ∈ zU := zU_in (i := 341) (by decide +kernel) rfl
theorem m342 : Cond.selects "PeriodSlots$Mesh" ⟨"PeriodSlots$Mesh", "lacksLink", "()Z"⟩ ⟨"PeriodSlots$Mesh", "lacksLink", "()Z"⟩ ∈ zU := zU_in (i := 342) (by decide +kernel) rfl
theorem m354 : Cond.methodLink "PeriodSlots$Text" 39 ⟨"PeriodSlots$Text", "readLink", "(ILPeriodSlots$Mesh;)I"⟩ ∈ zU := zU_in (i := 354) (by decide +kernel) rfl
theorem m356 : Cond.instanceMethod ⟨"PeriodSlots$Text", "readLink", "(ILPeriodSlots$Mesh;)I"⟩ ∈ zU := zU_in (i := 356) (by decide +kernel) rfl
theorem m6 : Cond.selects "PeriodSlots$Text" ⟨"PeriodSlots$Text", "readLink", "(ILPeriodSlots$Mesh;)I"⟩ ⟨"PeriodSlots$Text", "readLink", "(ILPeriodSlots$Mesh;)I"⟩ ∈ zU := zU_in (i := 6) (by decide +kernel) rfl
theorem m97 : Cond.fieldLink "PeriodSlots$Text" 28 "PeriodSlots$Mesh" "count" "I" ∈ zU := zU_in (i := 97) (by decide +kernel) rfl
theorem m286 : Cond.methodLink "PeriodSlots$Text" 31 ⟨"PeriodSlots$Text", "readStation", "(ILPeriodSlots$Mesh;)I"⟩ ∈ zU := zU_in (i := 286) (by decide +kernel) rfl
theorem m288 : Cond.instanceMethod ⟨"PeriodSlots$Text", "readStation", "(ILPeriodSlots$Mesh;)I"⟩ ∈ zU := zU_in (i := 288) (by decide +kernel) rfl
theorem m1 : Cond.selects "PeriodSlots$Text" ⟨"PeriodSlots$Text", "readStation", "(ILPeriodSlots$Mesh;)I"⟩ ⟨"PeriodSlots$Text", "readStation", "(ILPeriodSlots$Mesh;)I"⟩ ∈ zU := zU_in (i := 1) (by decide +kernel) rfl
theorem m186 : Cond.fieldLink "PeriodSlots$Shelf" 25 "PeriodSlots$Shelf" "filled" "I" ∈ zU := zU_in (i := 186) (by decide +kernel) rfl
theorem m59 : Cond.initialized "PeriodSlots$Shelf" ∈ zU := zU_in (i := 59) (by decide +kernel) rfl
theorem m184 : Cond.fieldLink "PeriodSlots$Shelf" 15 "PeriodSlots$Shelf" "rows" "I" ∈ zU := zU_in (i := 184) (by decide +kernel) rfl
theorem m108 : Cond.fieldLink "PeriodSlots$Shelf" 32 "PeriodSlots$Mesh" "links" "[I" ∈ zU := zU_in (i := 108) (by decide +kernel) rfl
theorem m185 : Cond.fieldLink "PeriodSlots$Shelf" 21 "PeriodSlots$Shelf" "cells" "[I" ∈ zU := zU_in (i := 185) (by decide +kernel) rfl
theorem m461 : Cond.methodLink "PeriodSlots$Shelf" 37 ⟨"java/lang/System", "arraycopy", "(Ljava/lang/Object;ILjava/lang/Object;II)V"⟩ ∈ zU := zU_in (i := 461) (by decide +kernel) rfl
theorem m112 : Cond.fieldLink "PeriodSlots$Shelf" 43 "PeriodSlots$Mesh" "offsets" "[I" ∈ zU := zU_in (i := 112) (by decide +kernel) rfl
theorem m115 : Cond.fieldLink "PeriodSlots$Shelf" 46 "PeriodSlots$Mesh" "olds" "[I" ∈ zU := zU_in (i := 115) (by decide +kernel) rfl
theorem m100 : Cond.fieldLink "PeriodSlots$Shelf" 49 "PeriodSlots$Mesh" "roundNumber" "I" ∈ zU := zU_in (i := 100) (by decide +kernel) rfl
theorem m556 : Cond.methodLink "PeriodSlots$Shelf" 52 ⟨"PeriodSlots$Shelf", "holds", "(I)Z"⟩ ∈ zU := zU_in (i := 556) (by decide +kernel) rfl
theorem m557 : Cond.instanceMethod ⟨"PeriodSlots$Shelf", "holds", "(I)Z"⟩ ∈ zU := zU_in (i := 557) (by decide +kernel) rfl
theorem m558 : Cond.selects "PeriodSlots$Shelf" ⟨"PeriodSlots$Shelf", "holds", "(I)Z"⟩ ⟨"PeriodSlots$Shelf", "holds", "(I)Z"⟩ ∈ zU := zU_in (i := 558) (by decide +kernel) rfl
theorem m561 : Cond.methodLink "PeriodSlots$Shelf" 56 ⟨"PeriodSlots$Mesh", "relate", "()V"⟩ ∈ zU := zU_in (i := 561) (by decide +kernel) rfl
theorem m562 : Cond.methodLink "PeriodSlots$Shelf" 59 ⟨"PeriodSlots$Mesh", "markTicks", "()V"⟩ ∈ zU := zU_in (i := 562) (by decide +kernel) rfl
theorem m195 : Cond.fieldLink "PeriodSlots$Acts" 20 "PeriodSlots$Acts" "newest" "I" ∈ zU := zU_in (i := 195) (by decide +kernel) rfl
theorem m194 : Cond.fieldLink "PeriodSlots$Acts" 14 "PeriodSlots$Acts" "before" "LPeriodSlots$Shelf;" ∈ zU := zU_in (i := 194) (by decide +kernel) rfl
theorem m457 : Cond.methodLink "PeriodSlots$Acts" 24 ⟨"PeriodSlots$Shelf", "put", "(ILPeriodSlots$Mesh;)V"⟩ ∈ zU := zU_in (i := 457) (by decide +kernel) rfl
theorem m458 : Cond.instanceMethod ⟨"PeriodSlots$Shelf", "put", "(ILPeriodSlots$Mesh;)V"⟩ ∈ zU := zU_in (i := 458) (by decide +kernel) rfl
theorem m459 : Cond.selects "PeriodSlots$Shelf" ⟨"PeriodSlots$Shelf", "put", "(ILPeriodSlots$Mesh;)V"⟩ ⟨"PeriodSlots$Shelf", "put", "(ILPeriodSlots$Mesh;)V"⟩ ∈ zU := zU_in (i := 459) (by decide +kernel) rfl
theorem m196 : Cond.fieldLink "PeriodSlots$Acts" 28 "PeriodSlots$Acts" "size" "I" ∈ zU := zU_in (i := 196) (by decide +kernel) rfl
theorem m462 : Cond.methodLink "PeriodSlots$Acts" 31 ⟨"java/lang/Math", "min", "(II)I"⟩ ∈ zU := zU_in (i := 462) (by decide +kernel) rfl
theorem m58 : Cond.initialized "PeriodSlots$Acts" ∈ zU := zU_in (i := 58) (by decide +kernel) rfl
theorem m552 : Cond.methodLink "PeriodSlots$Acts" 37 ⟨"PeriodSlots$Shelf", "giveBack", "(ILPeriodSlots$Mesh;)V"⟩ ∈ zU := zU_in (i := 552) (by decide +kernel) rfl
theorem m553 : Cond.instanceMethod ⟨"PeriodSlots$Shelf", "giveBack", "(ILPeriodSlots$Mesh;)V"⟩ ∈ zU := zU_in (i := 553) (by decide +kernel) rfl
theorem m554 : Cond.selects "PeriodSlots$Shelf" ⟨"PeriodSlots$Shelf", "giveBack", "(ILPeriodSlots$Mesh;)V"⟩ ⟨"PeriodSlots$Shelf", "giveBack", "(ILPeriodSlots$Mesh;)V"⟩ ∈ zU := zU_in (i := 554) (by decide +kernel) rfl
theorem m563 : Cond.methodLink "PeriodSlots$Acts" 40 ⟨"java/lang/Math", "max", "(II)I"⟩ ∈ zU := zU_in (i := 563) (by decide +kernel) rfl
theorem m216 : Cond.fieldLink "PeriodSlots$Observations" 21 "PeriodSlots$Observations" "size" "I" ∈ zU := zU_in (i := 216) (by decide +kernel) rfl
theorem m213 : Cond.fieldLink "PeriodSlots$Observations" 9 "PeriodSlots$Observations" "stations" "[I" ∈ zU := zU_in (i := 213) (by decide +kernel) rfl
theorem m214 : Cond.fieldLink "PeriodSlots$Observations" 15 "PeriodSlots$Observations" "ticks" "[I" ∈ zU := zU_in (i := 214) (by decide +kernel) rfl
theorem m215 : Cond.fieldLink "PeriodSlots$Observations" 18 "PeriodSlots$Observations" "sights" "[I" ∈ zU := zU_in (i := 215) (by decide +kernel) rfl
theorem m61 : Cond.initialized "PeriodSlots$Observations" ∈ zU := zU_in (i := 61) (by decide +kernel) rfl
theorem m680 : Cond.methodLink "PeriodSlots$Observations" 35 ⟨"PeriodSlots$Mesh", "neighboursAt", "(II)I"⟩ ∈ zU := zU_in (i := 680) (by decide +kernel) rfl
theorem m681 : Cond.methodLink "PeriodSlots$Observations" 39 ⟨"java/lang/Integer", "bitCount", "(I)I"⟩ ∈ zU := zU_in (i := 681) (by decide +kernel) rfl
theorem m682 : Cond.methodLink "PeriodSlots$Observations" 45 ⟨"java/lang/Math", "min", "(II)I"⟩ ∈ zU := zU_in (i := 682) (by decide +kernel) rfl
theorem m676 : Cond.methodLink "PeriodSlots$Observations" 25 ⟨"PeriodSlots$Mesh", "exists", "(I)Z"⟩ ∈ zU := zU_in (i := 676) (by decide +kernel) rfl
theorem m677 : Cond.methodLink "PeriodSlots$Observations" 31 ⟨"PeriodSlots$Observations", "sight", "(LPeriodSlots$Mesh;II)I"⟩ ∈ zU := zU_in (i := 677) (by decide +kernel) rfl
theorem m678 : Cond.static ⟨"PeriodSlots$Observations", "sight", "(LPeriodSlots$Mesh;II)I"⟩ ∈ zU := zU_in (i := 678) (by decide +kernel) rfl
theorem m96 : Cond.fieldLink "PeriodSlots$Planner" 21 "PeriodSlots$Mesh" "count" "I" ∈ zU := zU_in (i := 96) (by decide +kernel) rfl
theorem m119 : Cond.fieldLink "PeriodSlots$Planner" 57 "PeriodSlots$Mesh" "near" "[I" ∈ zU := zU_in (i := 119) (by decide +kernel) rfl
theorem m591 : Cond.methodLink "PeriodSlots$Planner" 60 ⟨"PeriodSlots$Mesh", "ticksAt", "(II)I"⟩ ∈ zU := zU_in (i := 591) (by decide +kernel) rfl
theorem m592 : Cond.methodLink "PeriodSlots$Planner" 64 ⟨"PeriodSlots$Mesh", "offsetsOutside", "(II)I"⟩ ∈ zU := zU_in (i := 592) (by decide +kernel) rfl
theorem m57 : Cond.initialized "PeriodSlots$Planner" ∈ zU := zU_in (i := 57) (by decide +kernel) rfl
theorem m588 : Cond.methodLink "PeriodSlots$Planner" 46 ⟨"PeriodSlots$Planner", "openOffsets", "([ILPeriodSlots$Mesh;I)I"⟩ ∈ zU := zU_in (i := 588) (by decide +kernel) rfl
theorem m589 : Cond.static ⟨"PeriodSlots$Planner", "openOffsets", "([ILPeriodSlots$Mesh;I)I"⟩ ∈ zU := zU_in (i := 589) (by decide +kernel) rfl
theorem m586 : Cond.methodLink "PeriodSlots$Planner" 39 ⟨"PeriodSlots$Mesh", "exists", "(I)Z"⟩ ∈ zU := zU_in (i := 586) (by decide +kernel) rfl
theorem m105 : Cond.fieldLink "PeriodSlots$Planner" 50 "PeriodSlots$Mesh" "periods" "[I" ∈ zU := zU_in (i := 105) (by decide +kernel) rfl
theorem m593 : Cond.methodLink "PeriodSlots$Planner" 53 ⟨"PeriodSlots$Planner", "leavesRoom", "([ILPeriodSlots$Mesh;I)Z"⟩ ∈ zU := zU_in (i := 593) (by decide +kernel) rfl
theorem m594 : Cond.static ⟨"PeriodSlots$Planner", "leavesRoom", "([ILPeriodSlots$Mesh;I)Z"⟩ ∈ zU := zU_in (i := 594) (by decide +kernel) rfl
theorem m583 : Cond.methodLink "PeriodSlots$Planner" 35 ⟨"PeriodSlots$Planner", "assigns", "([ILPeriodSlots$Mesh;II)Z"⟩ ∈ zU := zU_in (i := 583) (by decide +kernel) rfl
theorem m584 : Cond.static ⟨"PeriodSlots$Planner", "assigns", "([ILPeriodSlots$Mesh;II)Z"⟩ ∈ zU := zU_in (i := 584) (by decide +kernel) rfl
theorem m164 : Cond.fieldLink "PeriodSlots$Planner" 9 "PeriodSlots$Planner" "offsets" "[I" ∈ zU := zU_in (i := 164) (by decide +kernel) rfl
theorem m580 : Cond.methodLink "PeriodSlots$Planner" 15 ⟨"java/util/Arrays", "fill", "([II)V"⟩ ∈ zU := zU_in (i := 580) (by decide +kernel) rfl
theorem m581 : Cond.methodLink "PeriodSlots$Planner" 27 ⟨"PeriodSlots$Mesh", "isLowestOfNet", "(I)Z"⟩ ∈ zU := zU_in (i := 581) (by decide +kernel) rfl
theorem m582 : Cond.methodLink "PeriodSlots$Planner" 31 ⟨"PeriodSlots$Mesh", "netOf", "(I)I"⟩ ∈ zU := zU_in (i := 582) (by decide +kernel) rfl
theorem m227 : Cond.fieldLink "PeriodSlots" 10 "PeriodSlots" "text" "LPeriodSlots$Text;" ∈ zU := zU_in (i := 227) (by decide +kernel) rfl
theorem m82 : Cond.fieldLink "PeriodSlots" 67 "PeriodSlots$Text" "length" "I" ∈ zU := zU_in (i := 82) (by decide +kernel) rfl
theorem m262 : Cond.methodLink "PeriodSlots" 71 ⟨"PeriodSlots$Text", "append", "(I)V"⟩ ∈ zU := zU_in (i := 262) (by decide +kernel) rfl
theorem m263 : Cond.instanceMethod ⟨"PeriodSlots$Text", "append", "(I)V"⟩ ∈ zU := zU_in (i := 263) (by decide +kernel) rfl
theorem m264 : Cond.selects "PeriodSlots$Text" ⟨"PeriodSlots$Text", "append", "(I)V"⟩ ⟨"PeriodSlots$Text", "append", "(I)V"⟩ ∈ zU := zU_in (i := 264) (by decide +kernel) rfl
theorem m229 : Cond.fieldLink "PeriodSlots" 23 "PeriodSlots" "draft" "LPeriodSlots$Mesh;" ∈ zU := zU_in (i := 229) (by decide +kernel) rfl
theorem m274 : Cond.methodLink "PeriodSlots" 74 ⟨"PeriodSlots$Text", "readInto", "(LPeriodSlots$Mesh;)I"⟩ ∈ zU := zU_in (i := 274) (by decide +kernel) rfl
theorem m275 : Cond.instanceMethod ⟨"PeriodSlots$Text", "readInto", "(LPeriodSlots$Mesh;)I"⟩ ∈ zU := zU_in (i := 275) (by decide +kernel) rfl
theorem m276 : Cond.selects "PeriodSlots$Text" ⟨"PeriodSlots$Text", "readInto", "(LPeriodSlots$Mesh;)I"⟩ ⟨"PeriodSlots$Text", "readInto", "(LPeriodSlots$Mesh;)I"⟩ ∈ zU := zU_in (i := 276) (by decide +kernel) rfl
theorem m228 : Cond.fieldLink "PeriodSlots" 19 "PeriodSlots" "mesh" "LPeriodSlots$Mesh;" ∈ zU := zU_in (i := 228) (by decide +kernel) rfl
theorem m375 : Cond.methodLink "PeriodSlots" 78 ⟨"PeriodSlots$Mesh", "copyFrom", "(LPeriodSlots$Mesh;)V"⟩ ∈ zU := zU_in (i := 375) (by decide +kernel) rfl
theorem m376 : Cond.instanceMethod ⟨"PeriodSlots$Mesh", "copyFrom", "(LPeriodSlots$Mesh;)V"⟩ ∈ zU := zU_in (i := 376) (by decide +kernel) rfl
theorem m377 : Cond.selects "PeriodSlots$Mesh" ⟨"PeriodSlots$Mesh", "copyFrom", "(LPeriodSlots$Mesh;)V"⟩ ⟨"PeriodSlots$Mesh", "copyFrom", "(LPeriodSlots$Mesh;)V"⟩ ∈ zU := zU_in (i := 377) (by decide +kernel) rfl
theorem m232 : Cond.fieldLink "PeriodSlots" 39 "PeriodSlots" "acts" "LPeriodSlots$Acts;" ∈ zU := zU_in (i := 232) (by decide +kernel) rfl
theorem m385 : Cond.methodLink "PeriodSlots" 82 ⟨"PeriodSlots$Acts", "forget", "()V"⟩ ∈ zU := zU_in (i := 385) (by decide +kernel) rfl
theorem m386 : Cond.instanceMethod ⟨"PeriodSlots$Acts", "forget", "()V"⟩ ∈ zU := zU_in (i := 386) (by decide +kernel) rfl
theorem m387 : Cond.selects "PeriodSlots$Acts" ⟨"PeriodSlots$Acts", "forget", "()V"⟩ ⟨"PeriodSlots$Acts", "forget", "()V"⟩ ∈ zU := zU_in (i := 387) (by decide +kernel) rfl
theorem m233 : Cond.fieldLink "PeriodSlots" 48 "PeriodSlots" "slots" "LPeriodSlots$Shelf;" ∈ zU := zU_in (i := 233) (by decide +kernel) rfl
theorem m389 : Cond.methodLink "PeriodSlots" 85 ⟨"PeriodSlots$Shelf", "clear", "()V"⟩ ∈ zU := zU_in (i := 389) (by decide +kernel) rfl
theorem m390 : Cond.instanceMethod ⟨"PeriodSlots$Shelf", "clear", "()V"⟩ ∈ zU := zU_in (i := 390) (by decide +kernel) rfl
theorem m391 : Cond.selects "PeriodSlots$Shelf" ⟨"PeriodSlots$Shelf", "clear", "()V"⟩ ⟨"PeriodSlots$Shelf", "clear", "()V"⟩ ∈ zU := zU_in (i := 391) (by decide +kernel) rfl
theorem m98 : Cond.fieldLink "PeriodSlots" 88 "PeriodSlots$Mesh" "count" "I" ∈ zU := zU_in (i := 98) (by decide +kernel) rfl
theorem m397 : Cond.methodLink "PeriodSlots" 91 ⟨"PeriodSlots$Mesh", "linkCount", "()I"⟩ ∈ zU := zU_in (i := 397) (by decide +kernel) rfl
theorem m398 : Cond.methodLink "PeriodSlots" 95 ⟨"PeriodSlots$Mesh", "conflicts", "()I"⟩ ∈ zU := zU_in (i := 398) (by decide +kernel) rfl
theorem m399 : Cond.instanceMethod ⟨"PeriodSlots$Mesh", "conflicts", "()I"⟩ ∈ zU := zU_in (i := 399) (by decide +kernel) rfl
theorem m400 : Cond.selects "PeriodSlots$Mesh" ⟨"PeriodSlots$Mesh", "conflicts", "()I"⟩ ⟨"PeriodSlots$Mesh", "conflicts", "()I"⟩ ∈ zU := zU_in (i := 400) (by decide +kernel) rfl
theorem m101 : Cond.fieldLink "PeriodSlots" 98 "PeriodSlots$Mesh" "roundNumber" "I" ∈ zU := zU_in (i := 101) (by decide +kernel) rfl
theorem m402 : Cond.methodLink "PeriodSlots" 101 ⟨"PeriodSlots$Mesh", "unsettledSet", "()I"⟩ ∈ zU := zU_in (i := 402) (by decide +kernel) rfl
theorem m410 : Cond.methodLink "PeriodSlots" 104 ⟨"PeriodSlots$Mesh", "placedSet", "()I"⟩ ∈ zU := zU_in (i := 410) (by decide +kernel) rfl
theorem m414 : Cond.methodLink "PeriodSlots" 107 ⟨"PeriodSlots$Mesh", "isQuiet", "()Z"⟩ ∈ zU := zU_in (i := 414) (by decide +kernel) rfl
theorem m427 : Cond.methodLink "PeriodSlots" 111 ⟨"PeriodSlots$Mesh", "netCount", "()I"⟩ ∈ zU := zU_in (i := 427) (by decide +kernel) rfl
theorem m428 : Cond.instanceMethod ⟨"PeriodSlots$Mesh", "netCount", "()I"⟩ ∈ zU := zU_in (i := 428) (by decide +kernel) rfl
theorem m429 : Cond.selects "PeriodSlots$Mesh" ⟨"PeriodSlots$Mesh", "netCount", "()I"⟩ ⟨"PeriodSlots$Mesh", "netCount", "()I"⟩ ∈ zU := zU_in (i := 429) (by decide +kernel) rfl
theorem m197 : Cond.fieldLink "PeriodSlots" 114 "PeriodSlots$Acts" "size" "I" ∈ zU := zU_in (i := 197) (by decide +kernel) rfl
theorem m234 : Cond.fieldLink "PeriodSlots" 55 "PeriodSlots" "observations" "LPeriodSlots$Observations;" ∈ zU := zU_in (i := 234) (by decide +kernel) rfl
theorem m217 : Cond.fieldLink "PeriodSlots" 117 "PeriodSlots$Observations" "size" "I" ∈ zU := zU_in (i := 217) (by decide +kernel) rfl
theorem m446 : Cond.methodLink "PeriodSlots" 118 ⟨"PeriodSlots$Mesh", "exists", "(I)Z"⟩ ∈ zU := zU_in (i := 446) (by decide +kernel) rfl
theorem m106 : Cond.fieldLink "PeriodSlots" 122 "PeriodSlots$Mesh" "periods" "[I" ∈ zU := zU_in (i := 106) (by decide +kernel) rfl
theorem m113 : Cond.fieldLink "PeriodSlots" 125 "PeriodSlots$Mesh" "offsets" "[I" ∈ zU := zU_in (i := 113) (by decide +kernel) rfl
theorem m116 : Cond.fieldLink "PeriodSlots" 128 "PeriodSlots$Mesh" "olds" "[I" ∈ zU := zU_in (i := 116) (by decide +kernel) rfl
theorem m125 : Cond.fieldLink "PeriodSlots" 131 "PeriodSlots$Mesh" "ticks" "[I" ∈ zU := zU_in (i := 125) (by decide +kernel) rfl
theorem m127 : Cond.fieldLink "PeriodSlots" 134 "PeriodSlots$Mesh" "occupied" "[I" ∈ zU := zU_in (i := 127) (by decide +kernel) rfl
theorem m110 : Cond.fieldLink "PeriodSlots" 137 "PeriodSlots$Mesh" "links" "[I" ∈ zU := zU_in (i := 110) (by decide +kernel) rfl
theorem m120 : Cond.fieldLink "PeriodSlots" 140 "PeriodSlots$Mesh" "near" "[I" ∈ zU := zU_in (i := 120) (by decide +kernel) rfl
theorem m122 : Cond.fieldLink "PeriodSlots" 143 "PeriodSlots$Mesh" "priorities" "[I" ∈ zU := zU_in (i := 122) (by decide +kernel) rfl
theorem m447 : Cond.methodLink "PeriodSlots" 146 ⟨"PeriodSlots$Mesh", "freeOffsets", "(I)I"⟩ ∈ zU := zU_in (i := 447) (by decide +kernel) rfl
theorem m448 : Cond.methodLink "PeriodSlots" 150 ⟨"PeriodSlots$Mesh", "netOf", "(I)I"⟩ ∈ zU := zU_in (i := 448) (by decide +kernel) rfl
theorem m453 : Cond.methodLink "PeriodSlots" 153 ⟨"PeriodSlots$Acts", "remember", "(LPeriodSlots$Mesh;)V"⟩ ∈ zU := zU_in (i := 453) (by decide +kernel) rfl
theorem m454 : Cond.instanceMethod ⟨"PeriodSlots$Acts", "remember", "(LPeriodSlots$Mesh;)V"⟩ ∈ zU := zU_in (i := 454) (by decide +kernel) rfl
theorem m455 : Cond.selects "PeriodSlots$Acts" ⟨"PeriodSlots$Acts", "remember", "(LPeriodSlots$Mesh;)V"⟩ ⟨"PeriodSlots$Acts", "remember", "(LPeriodSlots$Mesh;)V"⟩ ∈ zU := zU_in (i := 455) (by decide +kernel) rfl
theorem m465 : Cond.methodLink "PeriodSlots" 156 ⟨"PeriodSlots$Mesh", "advance", "()I"⟩ ∈ zU := zU_in (i := 465) (by decide +kernel) rfl
theorem m480 : Cond.methodLink "PeriodSlots" 159 ⟨"java/lang/Integer", "bitCount", "(I)I"⟩ ∈ zU := zU_in (i := 480) (by decide +kernel) rfl
theorem m485 : Cond.methodLink "PeriodSlots" 164 ⟨"PeriodSlots$Mesh", "pairError", "(II)I"⟩ ∈ zU := zU_in (i := 485) (by decide +kernel) rfl
theorem m486 : Cond.instanceMethod ⟨"PeriodSlots$Mesh", "pairError", "(II)I"⟩ ∈ zU := zU_in (i := 486) (by decide +kernel) rfl
theorem m487 : Cond.selects "PeriodSlots$Mesh" ⟨"PeriodSlots$Mesh", "pairError", "(II)I"⟩ ⟨"PeriodSlots$Mesh", "pairError", "(II)I"⟩ ∈ zU := zU_in (i := 487) (by decide +kernel) rfl
theorem m490 : Cond.methodLink "PeriodSlots" 168 ⟨"PeriodSlots$Mesh", "flipLink", "(II)V"⟩ ∈ zU := zU_in (i := 490) (by decide +kernel) rfl
theorem m491 : Cond.methodLink "PeriodSlots" 172 ⟨"PeriodSlots", "has", "(II)Z"⟩ ∈ zU := zU_in (i := 491) (by decide +kernel) rfl
theorem m496 : Cond.methodLink "PeriodSlots" 176 ⟨"PeriodSlots$Mesh", "offsetError", "(II)I"⟩ ∈ zU := zU_in (i := 496) (by decide +kernel) rfl
theorem m497 : Cond.instanceMethod ⟨"PeriodSlots$Mesh", "offsetError", "(II)I"⟩ ∈ zU := zU_in (i := 497) (by decide +kernel) rfl
theorem m498 : Cond.selects "PeriodSlots$Mesh" ⟨"PeriodSlots$Mesh", "offsetError", "(II)I"⟩ ⟨"PeriodSlots$Mesh", "offsetError", "(II)I"⟩ ∈ zU := zU_in (i := 498) (by decide +kernel) rfl
theorem m500 : Cond.methodLink "PeriodSlots" 179 ⟨"PeriodSlots$Mesh", "place", "(II)V"⟩ ∈ zU := zU_in (i := 500) (by decide +kernel) rfl
theorem m501 : Cond.instanceMethod ⟨"PeriodSlots$Mesh", "place", "(II)V"⟩ ∈ zU := zU_in (i := 501) (by decide +kernel) rfl
theorem m502 : Cond.selects "PeriodSlots$Mesh" ⟨"PeriodSlots$Mesh", "place", "(II)V"⟩ ⟨"PeriodSlots$Mesh", "place", "(II)V"⟩ ∈ zU := zU_in (i := 502) (by decide +kernel) rfl
theorem m508 : Cond.methodLink "PeriodSlots" 182 ⟨"PeriodSlots$Mesh", "distanceError", "(II)I"⟩ ∈ zU := zU_in (i := 508) (by decide +kernel) rfl
theorem m509 : Cond.instanceMethod ⟨"PeriodSlots$Mesh", "distanceError", "(II)I"⟩ ∈ zU := zU_in (i := 509) (by decide +kernel) rfl
theorem m510 : Cond.selects "PeriodSlots$Mesh" ⟨"PeriodSlots$Mesh", "distanceError", "(II)I"⟩ ⟨"PeriodSlots$Mesh", "distanceError", "(II)I"⟩ ∈ zU := zU_in (i := 510) (by decide +kernel) rfl
theorem m512 : Cond.methodLink "PeriodSlots" 185 ⟨"PeriodSlots$Mesh", "moveAll", "(II)V"⟩ ∈ zU := zU_in (i := 512) (by decide +kernel) rfl
theorem m513 : Cond.instanceMethod ⟨"PeriodSlots$Mesh", "moveAll", "(II)V"⟩ ∈ zU := zU_in (i := 513) (by decide +kernel) rfl
theorem m514 : Cond.selects "PeriodSlots$Mesh" ⟨"PeriodSlots$Mesh", "moveAll", "(II)V"⟩ ⟨"PeriodSlots$Mesh", "moveAll", "(II)V"⟩ ∈ zU := zU_in (i := 514) (by decide +kernel) rfl
theorem m523 : Cond.methodLink "PeriodSlots" 194 ⟨"java/lang/Integer", "lowestOneBit", "(I)I"⟩ ∈ zU := zU_in (i := 523) (by decide +kernel) rfl
theorem m230 : Cond.fieldLink "PeriodSlots" 26 "PeriodSlots" "trial" "LPeriodSlots$Mesh;" ∈ zU := zU_in (i := 230) (by decide +kernel) rfl
theorem m528 : Cond.methodLink "PeriodSlots" 197 ⟨"PeriodSlots", "conflictsAfter", "(II)I"⟩ ∈ zU := zU_in (i := 528) (by decide +kernel) rfl
theorem m530 : Cond.instanceMethod ⟨"PeriodSlots", "conflictsAfter", "(II)I"⟩ ∈ zU := zU_in (i := 530) (by decide +kernel) rfl
theorem m10 : Cond.selects "PeriodSlots" ⟨"PeriodSlots", "conflictsAfter", "(II)I"⟩ ⟨"PeriodSlots", "conflictsAfter", "(II)I"⟩ ∈ zU := zU_in (i := 10) (by decide +kernel) rfl
theorem m520 : Cond.methodLink "PeriodSlots" 188 ⟨"PeriodSlots", "netToMove", "(II)I"⟩ ∈ zU := zU_in (i := 520) (by decide +kernel) rfl
theorem m521 : Cond.static ⟨"PeriodSlots", "netToMove", "(II)I"⟩ ∈ zU := zU_in (i := 521) (by decide +kernel) rfl
theorem m524 : Cond.methodLink "PeriodSlots" 191 ⟨"PeriodSlots", "bestDistance", "(I)I"⟩ ∈ zU := zU_in (i := 524) (by decide +kernel) rfl
theorem m526 : Cond.instanceMethod ⟨"PeriodSlots", "bestDistance", "(I)I"⟩ ∈ zU := zU_in (i := 526) (by decide +kernel) rfl
theorem m9 : Cond.selects "PeriodSlots" ⟨"PeriodSlots", "bestDistance", "(I)I"⟩ ⟨"PeriodSlots", "bestDistance", "(I)I"⟩ ∈ zU := zU_in (i := 9) (by decide +kernel) rfl
theorem m536 : Cond.methodLink "PeriodSlots" 200 ⟨"PeriodSlots$Mesh", "settle", "()I"⟩ ∈ zU := zU_in (i := 536) (by decide +kernel) rfl
theorem m537 : Cond.instanceMethod ⟨"PeriodSlots$Mesh", "settle", "()I"⟩ ∈ zU := zU_in (i := 537) (by decide +kernel) rfl
theorem m538 : Cond.selects "PeriodSlots$Mesh" ⟨"PeriodSlots$Mesh", "settle", "()I"⟩ ⟨"PeriodSlots$Mesh", "settle", "()I"⟩ ∈ zU := zU_in (i := 538) (by decide +kernel) rfl
theorem m543 : Cond.methodLink "PeriodSlots" 203 ⟨"PeriodSlots$Mesh", "dropOlds", "()V"⟩ ∈ zU := zU_in (i := 543) (by decide +kernel) rfl
theorem m548 : Cond.methodLink "PeriodSlots" 206 ⟨"PeriodSlots$Acts", "takeBack", "(LPeriodSlots$Mesh;)V"⟩ ∈ zU := zU_in (i := 548) (by decide +kernel) rfl
theorem m549 : Cond.instanceMethod ⟨"PeriodSlots$Acts", "takeBack", "(LPeriodSlots$Mesh;)V"⟩ ∈ zU := zU_in (i := 549) (by decide +kernel) rfl
theorem m550 : Cond.selects "PeriodSlots$Acts" ⟨"PeriodSlots$Acts", "takeBack", "(LPeriodSlots$Mesh;)V"⟩ ⟨"PeriodSlots$Acts", "takeBack", "(LPeriodSlots$Mesh;)V"⟩ ∈ zU := zU_in (i := 550) (by decide +kernel) rfl
theorem m568 : Cond.methodLink "PeriodSlots" 209 ⟨"PeriodSlots$Mesh", "differenceTo", "(LPeriodSlots$Mesh;)I"⟩ ∈ zU := zU_in (i := 568) (by decide +kernel) rfl
theorem m569 : Cond.instanceMethod ⟨"PeriodSlots$Mesh", "differenceTo", "(LPeriodSlots$Mesh;)I"⟩ ∈ zU := zU_in (i := 569) (by decide +kernel) rfl
theorem m570 : Cond.selects "PeriodSlots$Mesh" ⟨"PeriodSlots$Mesh", "differenceTo", "(LPeriodSlots$Mesh;)I"⟩ ⟨"PeriodSlots$Mesh", "differenceTo", "(LPeriodSlots$Mesh;)I"⟩ ∈ zU := zU_in (i := 570) (by decide +kernel) rfl
theorem m102 : Cond.fieldLink "PeriodSlots" 212 "PeriodSlots$Mesh" "gainfulRounds" "I" ∈ zU := zU_in (i := 102) (by decide +kernel) rfl
theorem m231 : Cond.fieldLink "PeriodSlots" 32 "PeriodSlots" "planner" "LPeriodSlots$Planner;" ∈ zU := zU_in (i := 231) (by decide +kernel) rfl
theorem m576 : Cond.methodLink "PeriodSlots" 215 ⟨"PeriodSlots$Planner", "succeeds", "(LPeriodSlots$Mesh;)Z"⟩ ∈ zU := zU_in (i := 576) (by decide +kernel) rfl
theorem m577 : Cond.instanceMethod ⟨"PeriodSlots$Planner", "succeeds", "(LPeriodSlots$Mesh;)Z"⟩ ∈ zU := zU_in (i := 577) (by decide +kernel) rfl
theorem m578 : Cond.selects "PeriodSlots$Planner" ⟨"PeriodSlots$Planner", "succeeds", "(LPeriodSlots$Mesh;)Z"⟩ ⟨"PeriodSlots$Planner", "succeeds", "(LPeriodSlots$Mesh;)Z"⟩ ∈ zU := zU_in (i := 578) (by decide +kernel) rfl
theorem m165 : Cond.fieldLink "PeriodSlots" 219 "PeriodSlots$Planner" "offsets" "[I" ∈ zU := zU_in (i := 165) (by decide +kernel) rfl
theorem m604 : Cond.methodLink "PeriodSlots" 220 ⟨"PeriodSlots$Mesh", "awakeTicks", "(I)I"⟩ ∈ zU := zU_in (i := 604) (by decide +kernel) rfl
theorem m605 : Cond.instanceMethod ⟨"PeriodSlots$Mesh", "awakeTicks", "(I)I"⟩ ∈ zU := zU_in (i := 605) (by decide +kernel) rfl
theorem m606 : Cond.selects "PeriodSlots$Mesh" ⟨"PeriodSlots$Mesh", "awakeTicks", "(I)I"⟩ ⟨"PeriodSlots$Mesh", "awakeTicks", "(I)I"⟩ ∈ zU := zU_in (i := 606) (by decide +kernel) rfl
theorem m608 : Cond.methodLink "PeriodSlots" 223 ⟨"PeriodSlots", "oneTickLater", "(I)I"⟩ ∈ zU := zU_in (i := 608) (by decide +kernel) rfl
theorem m609 : Cond.static ⟨"PeriodSlots", "oneTickLater", "(I)I"⟩ ∈ zU := zU_in (i := 609) (by decide +kernel) rfl
theorem m611 : Cond.methodLink "PeriodSlots" 226 ⟨"PeriodSlots$Mesh", "hearingTicks", "(I)I"⟩ ∈ zU := zU_in (i := 611) (by decide +kernel) rfl
theorem m612 : Cond.instanceMethod ⟨"PeriodSlots$Mesh", "hearingTicks", "(I)I"⟩ ∈ zU := zU_in (i := 612) (by decide +kernel) rfl
theorem m613 : Cond.selects "PeriodSlots$Mesh" ⟨"PeriodSlots$Mesh", "hearingTicks", "(I)I"⟩ ⟨"PeriodSlots$Mesh", "hearingTicks", "(I)I"⟩ ∈ zU := zU_in (i := 613) (by decide +kernel) rfl
theorem m627 : Cond.methodLink "PeriodSlots" 229 ⟨"PeriodSlots$Mesh", "hearersOf", "(II)I"⟩ ∈ zU := zU_in (i := 627) (by decide +kernel) rfl
theorem m628 : Cond.instanceMethod ⟨"PeriodSlots$Mesh", "hearersOf", "(II)I"⟩ ∈ zU := zU_in (i := 628) (by decide +kernel) rfl
theorem m629 : Cond.selects "PeriodSlots$Mesh" ⟨"PeriodSlots$Mesh", "hearersOf", "(II)I"⟩ ⟨"PeriodSlots$Mesh", "hearersOf", "(II)I"⟩ ∈ zU := zU_in (i := 629) (by decide +kernel) rfl
theorem m640 : Cond.methodLink "PeriodSlots" 237 ⟨"PeriodSlots", "turnsDraft", "(II)Z"⟩ ∈ zU := zU_in (i := 640) (by decide +kernel) rfl
theorem m642 : Cond.instanceMethod ⟨"PeriodSlots", "turnsDraft", "(II)Z"⟩ ∈ zU := zU_in (i := 642) (by decide +kernel) rfl
theorem m13 : Cond.selects "PeriodSlots" ⟨"PeriodSlots", "turnsDraft", "(II)Z"⟩ ⟨"PeriodSlots", "turnsDraft", "(II)Z"⟩ ∈ zU := zU_in (i := 13) (by decide +kernel) rfl
theorem m644 : Cond.methodLink "PeriodSlots" 240 ⟨"PeriodSlots", "laysDraft", "(II)Z"⟩ ∈ zU := zU_in (i := 644) (by decide +kernel) rfl
theorem m646 : Cond.instanceMethod ⟨"PeriodSlots", "laysDraft", "(II)Z"⟩ ∈ zU := zU_in (i := 646) (by decide +kernel) rfl
theorem m14 : Cond.selects "PeriodSlots" ⟨"PeriodSlots", "laysDraft", "(II)Z"⟩ ⟨"PeriodSlots", "laysDraft", "(II)Z"⟩ ∈ zU := zU_in (i := 14) (by decide +kernel) rfl
theorem m648 : Cond.methodLink "PeriodSlots" 243 ⟨"PeriodSlots", "shiftsDraft", "(II)Z"⟩ ∈ zU := zU_in (i := 648) (by decide +kernel) rfl
theorem m650 : Cond.instanceMethod ⟨"PeriodSlots", "shiftsDraft", "(II)Z"⟩ ∈ zU := zU_in (i := 650) (by decide +kernel) rfl
theorem m15 : Cond.selects "PeriodSlots" ⟨"PeriodSlots", "shiftsDraft", "(II)Z"⟩ ⟨"PeriodSlots", "shiftsDraft", "(II)Z"⟩ ∈ zU := zU_in (i := 15) (by decide +kernel) rfl
theorem m652 : Cond.methodLink "PeriodSlots" 246 ⟨"PeriodSlots", "advancesDraft", "()Z"⟩ ∈ zU := zU_in (i := 652) (by decide +kernel) rfl
theorem m654 : Cond.instanceMethod ⟨"PeriodSlots", "advancesDraft", "()Z"⟩ ∈ zU := zU_in (i := 654) (by decide +kernel) rfl
theorem m16 : Cond.selects "PeriodSlots" ⟨"PeriodSlots", "advancesDraft", "()Z"⟩ ⟨"PeriodSlots", "advancesDraft", "()Z"⟩ ∈ zU := zU_in (i := 16) (by decide +kernel) rfl
theorem m235 : Cond.fieldLink "PeriodSlots" 59 "PeriodSlots" "statements" "[I" ∈ zU := zU_in (i := 235) (by decide +kernel) rfl
theorem m635 : Cond.constantLong "PeriodSlots" 232 (10000) ∈ zU := zU_in (i := 635) (by decide +kernel) rfl
theorem m636 : Cond.methodLink "PeriodSlots" 234 ⟨"PeriodSlots", "isTrue", "(I)Z"⟩ ∈ zU := zU_in (i := 636) (by decide +kernel) rfl
theorem m638 : Cond.instanceMethod ⟨"PeriodSlots", "isTrue", "(I)Z"⟩ ∈ zU := zU_in (i := 638) (by decide +kernel) rfl
theorem m12 : Cond.selects "PeriodSlots" ⟨"PeriodSlots", "isTrue", "(I)Z"⟩ ⟨"PeriodSlots", "isTrue", "(I)Z"⟩ ∈ zU := zU_in (i := 12) (by decide +kernel) rfl
theorem m660 : Cond.methodLink "PeriodSlots" 249 ⟨"PeriodSlots$Observations", "add", "(III)V"⟩ ∈ zU := zU_in (i := 660) (by decide +kernel) rfl
theorem m661 : Cond.instanceMethod ⟨"PeriodSlots$Observations", "add", "(III)V"⟩ ∈ zU := zU_in (i := 661) (by decide +kernel) rfl
theorem m662 : Cond.selects "PeriodSlots$Observations" ⟨"PeriodSlots$Observations", "add", "(III)V"⟩ ⟨"PeriodSlots$Observations", "add", "(III)V"⟩ ∈ zU := zU_in (i := 662) (by decide +kernel) rfl
theorem m672 : Cond.methodLink "PeriodSlots" 253 ⟨"PeriodSlots$Observations", "agreeWith", "(LPeriodSlots$Mesh;)Z"⟩ ∈ zU := zU_in (i := 672) (by decide +kernel) rfl
theorem m673 : Cond.instanceMethod ⟨"PeriodSlots$Observations", "agreeWith", "(LPeriodSlots$Mesh;)Z"⟩ ∈ zU := zU_in (i := 673) (by decide +kernel) rfl
theorem m674 : Cond.selects "PeriodSlots$Observations" ⟨"PeriodSlots$Observations", "agreeWith", "(LPeriodSlots$Mesh;)Z"⟩ ⟨"PeriodSlots$Observations", "agreeWith", "(LPeriodSlots$Mesh;)Z"⟩ ∈ zU := zU_in (i := 674) (by decide +kernel) rfl
theorem m698 : Cond.methodLink "PeriodSlots" 272 ⟨"PeriodSlots$Mesh", "startWithOnly", "(I)V"⟩ ∈ zU := zU_in (i := 698) (by decide +kernel) rfl
theorem m699 : Cond.instanceMethod ⟨"PeriodSlots$Mesh", "startWithOnly", "(I)V"⟩ ∈ zU := zU_in (i := 699) (by decide +kernel) rfl
theorem m700 : Cond.selects "PeriodSlots$Mesh" ⟨"PeriodSlots$Mesh", "startWithOnly", "(I)V"⟩ ⟨"PeriodSlots$Mesh", "startWithOnly", "(I)V"⟩ ∈ zU := zU_in (i := 700) (by decide +kernel) rfl
theorem m691 : Cond.methodLink "PeriodSlots" 262 ⟨"PeriodSlots", "factorial", "(I)I"⟩ ∈ zU := zU_in (i := 691) (by decide +kernel) rfl
theorem m692 : Cond.static ⟨"PeriodSlots", "factorial", "(I)I"⟩ ∈ zU := zU_in (i := 692) (by decide +kernel) rfl
theorem m687 : Cond.methodLink "PeriodSlots" 256 ⟨"PeriodSlots", "ordersCounting", "(II)I"⟩ ∈ zU := zU_in (i := 687) (by decide +kernel) rfl
theorem m689 : Cond.instanceMethod ⟨"PeriodSlots", "ordersCounting", "(II)I"⟩ ∈ zU := zU_in (i := 689) (by decide +kernel) rfl
theorem m17 : Cond.selects "PeriodSlots" ⟨"PeriodSlots", "ordersCounting", "(II)I"⟩ ⟨"PeriodSlots", "ordersCounting", "(II)I"⟩ ∈ zU := zU_in (i := 17) (by decide +kernel) rfl
theorem m694 : Cond.methodLink "PeriodSlots" 259 ⟨"PeriodSlots", "placedIfOnly", "(I)I"⟩ ∈ zU := zU_in (i := 694) (by decide +kernel) rfl
theorem m696 : Cond.instanceMethod ⟨"PeriodSlots", "placedIfOnly", "(I)I"⟩ ∈ zU := zU_in (i := 696) (by decide +kernel) rfl
theorem m18 : Cond.selects "PeriodSlots" ⟨"PeriodSlots", "placedIfOnly", "(I)I"⟩ ⟨"PeriodSlots", "placedIfOnly", "(I)I"⟩ ∈ zU := zU_in (i := 18) (by decide +kernel) rfl
theorem m702 : Cond.methodLink "PeriodSlots" 265 ⟨"PeriodSlots", "partOfFraction", "(IIZ)I"⟩ ∈ zU := zU_in (i := 702) (by decide +kernel) rfl
theorem m703 : Cond.static ⟨"PeriodSlots", "partOfFraction", "(IIZ)I"⟩ ∈ zU := zU_in (i := 703) (by decide +kernel) rfl
theorem m715 : Cond.methodLink "PeriodSlots" 269 ⟨"PeriodSlots", "power", "(II)I"⟩ ∈ zU := zU_in (i := 715) (by decide +kernel) rfl
theorem m716 : Cond.static ⟨"PeriodSlots", "power", "(II)I"⟩ ∈ zU := zU_in (i := 716) (by decide +kernel) rfl
theorem m236 : Cond.fieldLink "PeriodSlots" 63 "PeriodSlots" "chance" "J" ∈ zU := zU_in (i := 236) (by decide +kernel) rfl
theorem m730 : Cond.constantLong "PeriodSlots" 278 (6364136223846793005) ∈ zU := zU_in (i := 730) (by decide +kernel) rfl
theorem m731 : Cond.constantLong "PeriodSlots" 280 (1442695040888963407) ∈ zU := zU_in (i := 731) (by decide +kernel) rfl
theorem m732 : Cond.methodLink "PeriodSlots" 282 ⟨"PeriodSlots$Mesh", "wrapped", "(II)I"⟩ ∈ zU := zU_in (i := 732) (by decide +kernel) rfl
theorem m726 : Cond.methodLink "PeriodSlots" 275 ⟨"PeriodSlots", "drawOffsets", "()V"⟩ ∈ zU := zU_in (i := 726) (by decide +kernel) rfl
theorem m728 : Cond.instanceMethod ⟨"PeriodSlots", "drawOffsets", "()V"⟩ ∈ zU := zU_in (i := 728) (by decide +kernel) rfl
theorem m19 : Cond.selects "PeriodSlots" ⟨"PeriodSlots", "drawOffsets", "()V"⟩ ⟨"PeriodSlots", "drawOffsets", "()V"⟩ ∈ zU := zU_in (i := 19) (by decide +kernel) rfl
theorem m737 : Cond.methodLink "PeriodSlots" 285 ⟨"PeriodSlots$Shelf", "put", "(ILPeriodSlots$Mesh;)V"⟩ ∈ zU := zU_in (i := 737) (by decide +kernel) rfl
theorem m742 : Cond.methodLink "PeriodSlots" 289 ⟨"PeriodSlots$Shelf", "holds", "(I)Z"⟩ ∈ zU := zU_in (i := 742) (by decide +kernel) rfl
theorem m743 : Cond.methodLink "PeriodSlots" 292 ⟨"PeriodSlots$Shelf", "giveBack", "(ILPeriodSlots$Mesh;)V"⟩ ∈ zU := zU_in (i := 743) (by decide +kernel) rfl
end
section
/-! Walks of methods, by program (wip/whole/gen). -/
theorem d_J6_bitCount_0f7a4_0 : decode prog_10_method_49_code 0 = .ok (.iload_n 0, 1) := by decide +kernel
theorem d_J6_bitCount_0f7a4_1 : decode prog_10_method_49_code 1 = .ok (.iload_n 0, 1) := by decide +kernel
theorem d_J6_bitCount_0f7a4_2 : decode prog_10_method_49_code 2 = .ok (.iconst 1, 1) := by decide +kernel
theorem d_J6_bitCount_0f7a4_3 : decode prog_10_method_49_code 3 = .ok (.iushr, 1) := by decide +kernel
theorem d_J6_bitCount_0f7a4_4 : decode prog_10_method_49_code 4 = .ok (.ldc_w 265, 3) := by decide +kernel
theorem d_J6_bitCount_0f7a4_7 : decode prog_10_method_49_code 7 = .ok (.iand, 1) := by decide +kernel
theorem d_J6_bitCount_0f7a4_8 : decode prog_10_method_49_code 8 = .ok (.isub, 1) := by decide +kernel
theorem d_J6_bitCount_0f7a4_9 : decode prog_10_method_49_code 9 = .ok (.istore_n 0, 1) := by decide +kernel
theorem d_J6_bitCount_0f7a4_10 : decode prog_10_method_49_code 10 = .ok (.iload_n 0, 1) := by decide +kernel
theorem d_J6_bitCount_0f7a4_11 : decode prog_10_method_49_code 11 = .ok (.ldc_w 266, 3) := by decide +kernel
theorem d_J6_bitCount_0f7a4_14 : decode prog_10_method_49_code 14 = .ok (.iand, 1) := by decide +kernel
theorem d_J6_bitCount_0f7a4_15 : decode prog_10_method_49_code 15 = .ok (.iload_n 0, 1) := by decide +kernel
theorem d_J6_bitCount_0f7a4_16 : decode prog_10_method_49_code 16 = .ok (.iconst 2, 1) := by decide +kernel
theorem d_J6_bitCount_0f7a4_17 : decode prog_10_method_49_code 17 = .ok (.iushr, 1) := by decide +kernel
theorem d_J6_bitCount_0f7a4_18 : decode prog_10_method_49_code 18 = .ok (.ldc_w 266, 3) := by decide +kernel
theorem d_J6_bitCount_0f7a4_21 : decode prog_10_method_49_code 21 = .ok (.iand, 1) := by decide +kernel
theorem d_J6_bitCount_0f7a4_22 : decode prog_10_method_49_code 22 = .ok (.iadd, 1) := by decide +kernel
theorem d_J6_bitCount_0f7a4_23 : decode prog_10_method_49_code 23 = .ok (.istore_n 0, 1) := by decide +kernel
theorem d_J6_bitCount_0f7a4_24 : decode prog_10_method_49_code 24 = .ok (.iload_n 0, 1) := by decide +kernel
theorem d_J6_bitCount_0f7a4_25 : decode prog_10_method_49_code 25 = .ok (.iload_n 0, 1) := by decide +kernel
theorem d_J6_bitCount_0f7a4_26 : decode prog_10_method_49_code 26 = .ok (.iconst 4, 1) := by decide +kernel
theorem d_J6_bitCount_0f7a4_27 : decode prog_10_method_49_code 27 = .ok (.iushr, 1) := by decide +kernel
theorem d_J6_bitCount_0f7a4_28 : decode prog_10_method_49_code 28 = .ok (.iadd, 1) := by decide +kernel
theorem d_J6_bitCount_0f7a4_29 : decode prog_10_method_49_code 29 = .ok (.ldc_w 267, 3) := by decide +kernel
theorem d_J6_bitCount_0f7a4_32 : decode prog_10_method_49_code 32 = .ok (.iand, 1) := by decide +kernel
theorem d_J6_bitCount_0f7a4_33 : decode prog_10_method_49_code 33 = .ok (.istore_n 0, 1) := by decide +kernel
theorem d_J6_bitCount_0f7a4_34 : decode prog_10_method_49_code 34 = .ok (.iload_n 0, 1) := by decide +kernel
theorem d_J6_bitCount_0f7a4_35 : decode prog_10_method_49_code 35 = .ok (.iload_n 0, 1) := by decide +kernel
theorem d_J6_bitCount_0f7a4_36 : decode prog_10_method_49_code 36 = .ok (.bipush 8, 2) := by decide +kernel
theorem d_J6_bitCount_0f7a4_38 : decode prog_10_method_49_code 38 = .ok (.iushr, 1) := by decide +kernel
theorem d_J6_bitCount_0f7a4_39 : decode prog_10_method_49_code 39 = .ok (.iadd, 1) := by decide +kernel
theorem d_J6_bitCount_0f7a4_40 : decode prog_10_method_49_code 40 = .ok (.istore_n 0, 1) := by decide +kernel
theorem d_J6_bitCount_0f7a4_41 : decode prog_10_method_49_code 41 = .ok (.iload_n 0, 1) := by decide +kernel
theorem d_J6_bitCount_0f7a4_42 : decode prog_10_method_49_code 42 = .ok (.iload_n 0, 1) := by decide +kernel
theorem d_J6_bitCount_0f7a4_43 : decode prog_10_method_49_code 43 = .ok (.bipush 16, 2) := by decide +kernel
theorem d_J6_bitCount_0f7a4_45 : decode prog_10_method_49_code 45 = .ok (.iushr, 1) := by decide +kernel
theorem d_J6_bitCount_0f7a4_46 : decode prog_10_method_49_code 46 = .ok (.iadd, 1) := by decide +kernel
theorem d_J6_bitCount_0f7a4_47 : decode prog_10_method_49_code 47 = .ok (.istore_n 0, 1) := by decide +kernel
theorem d_J6_bitCount_0f7a4_48 : decode prog_10_method_49_code 48 = .ok (.iload_n 0, 1) := by decide +kernel
theorem d_J6_bitCount_0f7a4_49 : decode prog_10_method_49_code 49 = .ok (.bipush 63, 2) := by decide +kernel
theorem d_J6_bitCount_0f7a4_51 : decode prog_10_method_49_code 51 = .ok (.iand, 1) := by decide +kernel
theorem d_J6_bitCount_0f7a4_52 : decode prog_10_method_49_code 52 = .ok (.ireturn, 1) := by decide +kernel
abbrev M_Int_bitCount : zMT := (⟨"java/lang/Integer", "bitCount", "(I)I"⟩, prog_10_method_49_code, 1, (some .int))
theorem k_Int_bitCount : zcall M_Int_bitCount 1 := ⟨zU_in (i := 350) (by decide +kernel) rfl, m64, ⟨by decide, by decide, by decide +kernel⟩, by decide⟩
def o_Int_bitCount (x : Int32) : Int32 :=
  ((((((((x - ((zshr x 1) &&& 1431655765)) &&& 858993459) + ((zshr (x - ((zshr x 1) &&& 1431655765)) 2) &&& 858993459)) + (zshr (((x - ((zshr x 1) &&& 1431655765)) &&& 858993459) + ((zshr (x - ((zshr x 1) &&& 1431655765)) 2) &&& 858993459)) 4)) &&& 252645135) + (zshr (((((x - ((zshr x 1) &&& 1431655765)) &&& 858993459) + ((zshr (x - ((zshr x 1) &&& 1431655765)) 2) &&& 858993459)) + (zshr (((x - ((zshr x 1) &&& 1431655765)) &&& 858993459) + ((zshr (x - ((zshr x 1) &&& 1431655765)) 2) &&& 858993459)) 4)) &&& 252645135) 8)) + (zshr ((((((x - ((zshr x 1) &&& 1431655765)) &&& 858993459) + ((zshr (x - ((zshr x 1) &&& 1431655765)) 2) &&& 858993459)) + (zshr (((x - ((zshr x 1) &&& 1431655765)) &&& 858993459) + ((zshr (x - ((zshr x 1) &&& 1431655765)) 2) &&& 858993459)) 4)) &&& 252645135) + (zshr (((((x - ((zshr x 1) &&& 1431655765)) &&& 858993459) + ((zshr (x - ((zshr x 1) &&& 1431655765)) 2) &&& 858993459)) + (zshr (((x - ((zshr x 1) &&& 1431655765)) &&& 858993459) + ((zshr (x - ((zshr x 1) &&& 1431655765)) 2) &&& 858993459)) 4)) &&& 252645135) 8)) 16)) &&& 63)
set_option maxHeartbeats 400000 in
set_option maxRecDepth 20000 in
theorem c_Int_bitCount (X : zXT) (h : zHp) (g : zLg) (x : Int32) : zDi X M_Int_bitCount 0 [.int x] h g (zI (o_Int_bitCount x)) h g := by
  refine zDi_of "java/lang/Integer" prog_10_method_49_code 1 (some .int) rfl (by decide) [zI x] rfl (fun _ q => q) (Nat.le_of_ble_eq_true rfl) ?_
  intro Γ Q C hQ
  refine zr_iload_n C d_J6_bitCount_0f7a4_0 rfl ?_
  refine zr_iload_n C d_J6_bitCount_0f7a4_1 rfl ?_
  refine zr_iconst C (v := 1) d_J6_bitCount_0f7a4_2 (by decide) ?_
  refine zr_iushr C d_J6_bitCount_0f7a4_3 ?_
  refine zr_ldcw C (v := 1431655765) m351 d_J6_bitCount_0f7a4_4 ?_
  refine zr_iand C d_J6_bitCount_0f7a4_7 ?_
  refine zr_isub C d_J6_bitCount_0f7a4_8 ?_
  refine zr_istore_n C [zI (x - ((zshr x 1) &&& 1431655765))] d_J6_bitCount_0f7a4_9 (Nat.le_of_ble_eq_true rfl) rfl rfl ?_
  refine zr_iload_n C d_J6_bitCount_0f7a4_10 rfl ?_
  refine zr_ldcw C (v := 858993459) m352 d_J6_bitCount_0f7a4_11 ?_
  refine zr_iand C d_J6_bitCount_0f7a4_14 ?_
  refine zr_iload_n C d_J6_bitCount_0f7a4_15 rfl ?_
  refine zr_iconst C (v := 2) d_J6_bitCount_0f7a4_16 (by decide) ?_
  refine zr_iushr C d_J6_bitCount_0f7a4_17 ?_
  refine zr_ldcw C (v := 858993459) m352 d_J6_bitCount_0f7a4_18 ?_
  refine zr_iand C d_J6_bitCount_0f7a4_21 ?_
  refine zr_iadd C d_J6_bitCount_0f7a4_22 ?_
  refine zr_istore_n C [zI (((x - ((zshr x 1) &&& 1431655765)) &&& 858993459) + ((zshr (x - ((zshr x 1) &&& 1431655765)) 2) &&& 858993459))] d_J6_bitCount_0f7a4_23 (Nat.le_of_ble_eq_true rfl) rfl rfl ?_
  refine zr_iload_n C d_J6_bitCount_0f7a4_24 rfl ?_
  refine zr_iload_n C d_J6_bitCount_0f7a4_25 rfl ?_
  refine zr_iconst C (v := 4) d_J6_bitCount_0f7a4_26 (by decide) ?_
  refine zr_iushr C d_J6_bitCount_0f7a4_27 ?_
  refine zr_iadd C d_J6_bitCount_0f7a4_28 ?_
  refine zr_ldcw C (v := 252645135) m353 d_J6_bitCount_0f7a4_29 ?_
  refine zr_iand C d_J6_bitCount_0f7a4_32 ?_
  refine zr_istore_n C [zI (((((x - ((zshr x 1) &&& 1431655765)) &&& 858993459) + ((zshr (x - ((zshr x 1) &&& 1431655765)) 2) &&& 858993459)) + (zshr (((x - ((zshr x 1) &&& 1431655765)) &&& 858993459) + ((zshr (x - ((zshr x 1) &&& 1431655765)) 2) &&& 858993459)) 4)) &&& 252645135)] d_J6_bitCount_0f7a4_33 (Nat.le_of_ble_eq_true rfl) rfl rfl ?_
  refine zr_iload_n C d_J6_bitCount_0f7a4_34 rfl ?_
  refine zr_iload_n C d_J6_bitCount_0f7a4_35 rfl ?_
  refine zr_bipush C (v := 8) d_J6_bitCount_0f7a4_36 (by decide) ?_
  refine zr_iushr C d_J6_bitCount_0f7a4_38 ?_
  refine zr_iadd C d_J6_bitCount_0f7a4_39 ?_
  refine zr_istore_n C [zI ((((((x - ((zshr x 1) &&& 1431655765)) &&& 858993459) + ((zshr (x - ((zshr x 1) &&& 1431655765)) 2) &&& 858993459)) + (zshr (((x - ((zshr x 1) &&& 1431655765)) &&& 858993459) + ((zshr (x - ((zshr x 1) &&& 1431655765)) 2) &&& 858993459)) 4)) &&& 252645135) + (zshr (((((x - ((zshr x 1) &&& 1431655765)) &&& 858993459) + ((zshr (x - ((zshr x 1) &&& 1431655765)) 2) &&& 858993459)) + (zshr (((x - ((zshr x 1) &&& 1431655765)) &&& 858993459) + ((zshr (x - ((zshr x 1) &&& 1431655765)) 2) &&& 858993459)) 4)) &&& 252645135) 8))] d_J6_bitCount_0f7a4_40 (Nat.le_of_ble_eq_true rfl) rfl rfl ?_
  refine zr_iload_n C d_J6_bitCount_0f7a4_41 rfl ?_
  refine zr_iload_n C d_J6_bitCount_0f7a4_42 rfl ?_
  refine zr_bipush C (v := 16) d_J6_bitCount_0f7a4_43 (by decide) ?_
  refine zr_iushr C d_J6_bitCount_0f7a4_45 ?_
  refine zr_iadd C d_J6_bitCount_0f7a4_46 ?_
  refine zr_istore_n C [zI (((((((x - ((zshr x 1) &&& 1431655765)) &&& 858993459) + ((zshr (x - ((zshr x 1) &&& 1431655765)) 2) &&& 858993459)) + (zshr (((x - ((zshr x 1) &&& 1431655765)) &&& 858993459) + ((zshr (x - ((zshr x 1) &&& 1431655765)) 2) &&& 858993459)) 4)) &&& 252645135) + (zshr (((((x - ((zshr x 1) &&& 1431655765)) &&& 858993459) + ((zshr (x - ((zshr x 1) &&& 1431655765)) 2) &&& 858993459)) + (zshr (((x - ((zshr x 1) &&& 1431655765)) &&& 858993459) + ((zshr (x - ((zshr x 1) &&& 1431655765)) 2) &&& 858993459)) 4)) &&& 252645135) 8)) + (zshr ((((((x - ((zshr x 1) &&& 1431655765)) &&& 858993459) + ((zshr (x - ((zshr x 1) &&& 1431655765)) 2) &&& 858993459)) + (zshr (((x - ((zshr x 1) &&& 1431655765)) &&& 858993459) + ((zshr (x - ((zshr x 1) &&& 1431655765)) 2) &&& 858993459)) 4)) &&& 252645135) + (zshr (((((x - ((zshr x 1) &&& 1431655765)) &&& 858993459) + ((zshr (x - ((zshr x 1) &&& 1431655765)) 2) &&& 858993459)) + (zshr (((x - ((zshr x 1) &&& 1431655765)) &&& 858993459) + ((zshr (x - ((zshr x 1) &&& 1431655765)) 2) &&& 858993459)) 4)) &&& 252645135) 8)) 16))] d_J6_bitCount_0f7a4_47 (Nat.le_of_ble_eq_true rfl) rfl rfl ?_
  refine zr_iload_n C d_J6_bitCount_0f7a4_48 rfl ?_
  refine zr_bipush C (v := 63) d_J6_bitCount_0f7a4_49 (by decide) ?_
  refine zr_iand C d_J6_bitCount_0f7a4_51 ?_
  have eR : o_Int_bitCount x = ((((((((x - ((zshr x 1) &&& 1431655765)) &&& 858993459) + ((zshr (x - ((zshr x 1) &&& 1431655765)) 2) &&& 858993459)) + (zshr (((x - ((zshr x 1) &&& 1431655765)) &&& 858993459) + ((zshr (x - ((zshr x 1) &&& 1431655765)) 2) &&& 858993459)) 4)) &&& 252645135) + (zshr (((((x - ((zshr x 1) &&& 1431655765)) &&& 858993459) + ((zshr (x - ((zshr x 1) &&& 1431655765)) 2) &&& 858993459)) + (zshr (((x - ((zshr x 1) &&& 1431655765)) &&& 858993459) + ((zshr (x - ((zshr x 1) &&& 1431655765)) 2) &&& 858993459)) 4)) &&& 252645135) 8)) + (zshr ((((((x - ((zshr x 1) &&& 1431655765)) &&& 858993459) + ((zshr (x - ((zshr x 1) &&& 1431655765)) 2) &&& 858993459)) + (zshr (((x - ((zshr x 1) &&& 1431655765)) &&& 858993459) + ((zshr (x - ((zshr x 1) &&& 1431655765)) 2) &&& 858993459)) 4)) &&& 252645135) + (zshr (((((x - ((zshr x 1) &&& 1431655765)) &&& 858993459) + ((zshr (x - ((zshr x 1) &&& 1431655765)) 2) &&& 858993459)) + (zshr (((x - ((zshr x 1) &&& 1431655765)) &&& 858993459) + ((zshr (x - ((zshr x 1) &&& 1431655765)) 2) &&& 858993459)) 4)) &&& 252645135) 8)) 16)) &&& 63) := (by unfold o_Int_bitCount; exact rfl)
  subst hQ
  rw [eR]
  exact zr_ireti C d_J6_bitCount_0f7a4_52
theorem d_J6_lowestOneBit_0f7a4_0 : decode prog_10_method_46_code 0 = .ok (.iload_n 0, 1) := by decide +kernel
theorem d_J6_lowestOneBit_0f7a4_1 : decode prog_10_method_46_code 1 = .ok (.iload_n 0, 1) := by decide +kernel
theorem d_J6_lowestOneBit_0f7a4_2 : decode prog_10_method_46_code 2 = .ok (.ineg, 1) := by decide +kernel
theorem d_J6_lowestOneBit_0f7a4_3 : decode prog_10_method_46_code 3 = .ok (.iand, 1) := by decide +kernel
theorem d_J6_lowestOneBit_0f7a4_4 : decode prog_10_method_46_code 4 = .ok (.ireturn, 1) := by decide +kernel
abbrev M_Int_lowestOneBit : zMT := (⟨"java/lang/Integer", "lowestOneBit", "(I)I"⟩, prog_10_method_46_code, 1, (some .int))
theorem k_Int_lowestOneBit : zcall M_Int_lowestOneBit 1 := ⟨zU_in (i := 441) (by decide +kernel) rfl, m64, ⟨by decide, by decide, by decide +kernel⟩, by decide⟩
def o_Int_lowestOneBit (x : Int32) : Int32 :=
  (x &&& (0 - x))
set_option maxHeartbeats 400000 in
set_option maxRecDepth 20000 in
theorem c_Int_lowestOneBit (X : zXT) (h : zHp) (g : zLg) (x : Int32) : zDi X M_Int_lowestOneBit 0 [.int x] h g (zI (o_Int_lowestOneBit x)) h g := by
  refine zDi_of "java/lang/Integer" prog_10_method_46_code 1 (some .int) rfl (by decide) [zI x] rfl (fun _ q => q) (Nat.le_of_ble_eq_true rfl) ?_
  intro Γ Q C hQ
  refine zr_iload_n C d_J6_lowestOneBit_0f7a4_0 rfl ?_
  refine zr_iload_n C d_J6_lowestOneBit_0f7a4_1 rfl ?_
  refine zr_ineg C d_J6_lowestOneBit_0f7a4_2 ?_
  refine zr_iand C d_J6_lowestOneBit_0f7a4_3 ?_
  have eR : o_Int_lowestOneBit x = (x &&& (0 - x)) := (by unfold o_Int_lowestOneBit; exact rfl)
  subst hQ
  rw [eR]
  exact zr_ireti C d_J6_lowestOneBit_0f7a4_4
theorem d_J6_numberOfTrailingZeros_0f7a4_0 : decode prog_10_method_48_code 0 = .ok (.iload_n 0, 1) := by decide +kernel
theorem d_J6_numberOfTrailingZeros_0f7a4_1 : decode prog_10_method_48_code 1 = .ok (.iconst (-1), 1) := by decide +kernel
theorem d_J6_numberOfTrailingZeros_0f7a4_2 : decode prog_10_method_48_code 2 = .ok (.ixor, 1) := by decide +kernel
theorem d_J6_numberOfTrailingZeros_0f7a4_3 : decode prog_10_method_48_code 3 = .ok (.iload_n 0, 1) := by decide +kernel
theorem d_J6_numberOfTrailingZeros_0f7a4_4 : decode prog_10_method_48_code 4 = .ok (.iconst 1, 1) := by decide +kernel
theorem d_J6_numberOfTrailingZeros_0f7a4_5 : decode prog_10_method_48_code 5 = .ok (.isub, 1) := by decide +kernel
theorem d_J6_numberOfTrailingZeros_0f7a4_6 : decode prog_10_method_48_code 6 = .ok (.iand, 1) := by decide +kernel
theorem d_J6_numberOfTrailingZeros_0f7a4_7 : decode prog_10_method_48_code 7 = .ok (.istore_n 0, 1) := by decide +kernel
theorem d_J6_numberOfTrailingZeros_0f7a4_8 : decode prog_10_method_48_code 8 = .ok (.iload_n 0, 1) := by decide +kernel
theorem d_J6_numberOfTrailingZeros_0f7a4_9 : decode prog_10_method_48_code 9 = .ok (.ifCond .gt 8, 3) := by decide +kernel
theorem d_J6_numberOfTrailingZeros_0f7a4_12 : decode prog_10_method_48_code 12 = .ok (.iload_n 0, 1) := by decide +kernel
theorem d_J6_numberOfTrailingZeros_0f7a4_13 : decode prog_10_method_48_code 13 = .ok (.bipush 32, 2) := by decide +kernel
theorem d_J6_numberOfTrailingZeros_0f7a4_15 : decode prog_10_method_48_code 15 = .ok (.iand, 1) := by decide +kernel
theorem d_J6_numberOfTrailingZeros_0f7a4_16 : decode prog_10_method_48_code 16 = .ok (.ireturn, 1) := by decide +kernel
theorem d_J6_numberOfTrailingZeros_0f7a4_17 : decode prog_10_method_48_code 17 = .ok (.iconst 1, 1) := by decide +kernel
theorem d_J6_numberOfTrailingZeros_0f7a4_18 : decode prog_10_method_48_code 18 = .ok (.istore_n 1, 1) := by decide +kernel
theorem d_J6_numberOfTrailingZeros_0f7a4_19 : decode prog_10_method_48_code 19 = .ok (.iload_n 0, 1) := by decide +kernel
theorem d_J6_numberOfTrailingZeros_0f7a4_20 : decode prog_10_method_48_code 20 = .ok (.ldc_w 264, 3) := by decide +kernel
theorem d_J6_numberOfTrailingZeros_0f7a4_23 : decode prog_10_method_48_code 23 = .ok (.if_icmp .le 11, 3) := by decide +kernel
theorem d_J6_numberOfTrailingZeros_0f7a4_26 : decode prog_10_method_48_code 26 = .ok (.iinc 1 16, 3) := by decide +kernel
theorem d_J6_numberOfTrailingZeros_0f7a4_29 : decode prog_10_method_48_code 29 = .ok (.iload_n 0, 1) := by decide +kernel
theorem d_J6_numberOfTrailingZeros_0f7a4_30 : decode prog_10_method_48_code 30 = .ok (.bipush 16, 2) := by decide +kernel
theorem d_J6_numberOfTrailingZeros_0f7a4_32 : decode prog_10_method_48_code 32 = .ok (.iushr, 1) := by decide +kernel
theorem d_J6_numberOfTrailingZeros_0f7a4_33 : decode prog_10_method_48_code 33 = .ok (.istore_n 0, 1) := by decide +kernel
theorem d_J6_numberOfTrailingZeros_0f7a4_34 : decode prog_10_method_48_code 34 = .ok (.iload_n 0, 1) := by decide +kernel
theorem d_J6_numberOfTrailingZeros_0f7a4_35 : decode prog_10_method_48_code 35 = .ok (.sipush 256, 3) := by decide +kernel
theorem d_J6_numberOfTrailingZeros_0f7a4_38 : decode prog_10_method_48_code 38 = .ok (.if_icmp .le 11, 3) := by decide +kernel
theorem d_J6_numberOfTrailingZeros_0f7a4_41 : decode prog_10_method_48_code 41 = .ok (.iinc 1 8, 3) := by decide +kernel
theorem d_J6_numberOfTrailingZeros_0f7a4_44 : decode prog_10_method_48_code 44 = .ok (.iload_n 0, 1) := by decide +kernel
theorem d_J6_numberOfTrailingZeros_0f7a4_45 : decode prog_10_method_48_code 45 = .ok (.bipush 8, 2) := by decide +kernel
theorem d_J6_numberOfTrailingZeros_0f7a4_47 : decode prog_10_method_48_code 47 = .ok (.iushr, 1) := by decide +kernel
theorem d_J6_numberOfTrailingZeros_0f7a4_48 : decode prog_10_method_48_code 48 = .ok (.istore_n 0, 1) := by decide +kernel
theorem d_J6_numberOfTrailingZeros_0f7a4_49 : decode prog_10_method_48_code 49 = .ok (.iload_n 0, 1) := by decide +kernel
theorem d_J6_numberOfTrailingZeros_0f7a4_50 : decode prog_10_method_48_code 50 = .ok (.bipush 16, 2) := by decide +kernel
theorem d_J6_numberOfTrailingZeros_0f7a4_52 : decode prog_10_method_48_code 52 = .ok (.if_icmp .le 10, 3) := by decide +kernel
theorem d_J6_numberOfTrailingZeros_0f7a4_55 : decode prog_10_method_48_code 55 = .ok (.iinc 1 4, 3) := by decide +kernel
theorem d_J6_numberOfTrailingZeros_0f7a4_58 : decode prog_10_method_48_code 58 = .ok (.iload_n 0, 1) := by decide +kernel
theorem d_J6_numberOfTrailingZeros_0f7a4_59 : decode prog_10_method_48_code 59 = .ok (.iconst 4, 1) := by decide +kernel
theorem d_J6_numberOfTrailingZeros_0f7a4_60 : decode prog_10_method_48_code 60 = .ok (.iushr, 1) := by decide +kernel
theorem d_J6_numberOfTrailingZeros_0f7a4_61 : decode prog_10_method_48_code 61 = .ok (.istore_n 0, 1) := by decide +kernel
theorem d_J6_numberOfTrailingZeros_0f7a4_62 : decode prog_10_method_48_code 62 = .ok (.iload_n 0, 1) := by decide +kernel
theorem d_J6_numberOfTrailingZeros_0f7a4_63 : decode prog_10_method_48_code 63 = .ok (.iconst 4, 1) := by decide +kernel
theorem d_J6_numberOfTrailingZeros_0f7a4_64 : decode prog_10_method_48_code 64 = .ok (.if_icmp .le 10, 3) := by decide +kernel
theorem d_J6_numberOfTrailingZeros_0f7a4_67 : decode prog_10_method_48_code 67 = .ok (.iinc 1 2, 3) := by decide +kernel
theorem d_J6_numberOfTrailingZeros_0f7a4_70 : decode prog_10_method_48_code 70 = .ok (.iload_n 0, 1) := by decide +kernel
theorem d_J6_numberOfTrailingZeros_0f7a4_71 : decode prog_10_method_48_code 71 = .ok (.iconst 2, 1) := by decide +kernel
theorem d_J6_numberOfTrailingZeros_0f7a4_72 : decode prog_10_method_48_code 72 = .ok (.iushr, 1) := by decide +kernel
theorem d_J6_numberOfTrailingZeros_0f7a4_73 : decode prog_10_method_48_code 73 = .ok (.istore_n 0, 1) := by decide +kernel
theorem d_J6_numberOfTrailingZeros_0f7a4_74 : decode prog_10_method_48_code 74 = .ok (.iload_n 1, 1) := by decide +kernel
theorem d_J6_numberOfTrailingZeros_0f7a4_75 : decode prog_10_method_48_code 75 = .ok (.iload_n 0, 1) := by decide +kernel
theorem d_J6_numberOfTrailingZeros_0f7a4_76 : decode prog_10_method_48_code 76 = .ok (.iconst 1, 1) := by decide +kernel
theorem d_J6_numberOfTrailingZeros_0f7a4_77 : decode prog_10_method_48_code 77 = .ok (.iushr, 1) := by decide +kernel
theorem d_J6_numberOfTrailingZeros_0f7a4_78 : decode prog_10_method_48_code 78 = .ok (.iadd, 1) := by decide +kernel
theorem d_J6_numberOfTrailingZeros_0f7a4_79 : decode prog_10_method_48_code 79 = .ok (.ireturn, 1) := by decide +kernel
abbrev M_Int_numberOfTrailingZeros : zMT := (⟨"java/lang/Integer", "numberOfTrailingZeros", "(I)I"⟩, prog_10_method_48_code, 2, (some .int))
theorem k_Int_numberOfTrailingZeros : zcall M_Int_numberOfTrailingZeros 1 := ⟨zU_in (i := 474) (by decide +kernel) rfl, m64, ⟨by decide, by decide, by decide +kernel⟩, by decide⟩
def o_Int_numberOfTrailingZeros (x : Int32) : Int32 :=
  (if 0 < ((x ^^^ (-1)) &&& (x - 1)) then ((if (if (if (if ((x ^^^ (-1)) &&& (x - 1)) ≤ 65536 then ((x ^^^ (-1)) &&& (x - 1)) else (zshr ((x ^^^ (-1)) &&& (x - 1)) 16)) ≤ 256 then (if ((x ^^^ (-1)) &&& (x - 1)) ≤ 65536 then ((x ^^^ (-1)) &&& (x - 1)) else (zshr ((x ^^^ (-1)) &&& (x - 1)) 16)) else (zshr (if ((x ^^^ (-1)) &&& (x - 1)) ≤ 65536 then ((x ^^^ (-1)) &&& (x - 1)) else (zshr ((x ^^^ (-1)) &&& (x - 1)) 16)) 8)) ≤ 16 then (if (if ((x ^^^ (-1)) &&& (x - 1)) ≤ 65536 then ((x ^^^ (-1)) &&& (x - 1)) else (zshr ((x ^^^ (-1)) &&& (x - 1)) 16)) ≤ 256 then (if ((x ^^^ (-1)) &&& (x - 1)) ≤ 65536 then ((x ^^^ (-1)) &&& (x - 1)) else (zshr ((x ^^^ (-1)) &&& (x - 1)) 16)) else (zshr (if ((x ^^^ (-1)) &&& (x - 1)) ≤ 65536 then ((x ^^^ (-1)) &&& (x - 1)) else (zshr ((x ^^^ (-1)) &&& (x - 1)) 16)) 8)) else (zshr (if (if ((x ^^^ (-1)) &&& (x - 1)) ≤ 65536 then ((x ^^^ (-1)) &&& (x - 1)) else (zshr ((x ^^^ (-1)) &&& (x - 1)) 16)) ≤ 256 then (if ((x ^^^ (-1)) &&& (x - 1)) ≤ 65536 then ((x ^^^ (-1)) &&& (x - 1)) else (zshr ((x ^^^ (-1)) &&& (x - 1)) 16)) else (zshr (if ((x ^^^ (-1)) &&& (x - 1)) ≤ 65536 then ((x ^^^ (-1)) &&& (x - 1)) else (zshr ((x ^^^ (-1)) &&& (x - 1)) 16)) 8)) 4)) ≤ 4 then (if (if (if ((x ^^^ (-1)) &&& (x - 1)) ≤ 65536 then ((x ^^^ (-1)) &&& (x - 1)) else (zshr ((x ^^^ (-1)) &&& (x - 1)) 16)) ≤ 256 then (if ((x ^^^ (-1)) &&& (x - 1)) ≤ 65536 then ((x ^^^ (-1)) &&& (x - 1)) else (zshr ((x ^^^ (-1)) &&& (x - 1)) 16)) else (zshr (if ((x ^^^ (-1)) &&& (x - 1)) ≤ 65536 then ((x ^^^ (-1)) &&& (x - 1)) else (zshr ((x ^^^ (-1)) &&& (x - 1)) 16)) 8)) ≤ 16 then (if (if ((x ^^^ (-1)) &&& (x - 1)) ≤ 65536 then ((x ^^^ (-1)) &&& (x - 1)) else (zshr ((x ^^^ (-1)) &&& (x - 1)) 16)) ≤ 256 then (if ((x ^^^ (-1)) &&& (x - 1)) ≤ 65536 then 1 else (nI (17))) else ((if ((x ^^^ (-1)) &&& (x - 1)) ≤ 65536 then 1 else (nI (17))) + 8)) else ((if (if ((x ^^^ (-1)) &&& (x - 1)) ≤ 65536 then ((x ^^^ (-1)) &&& (x - 1)) else (zshr ((x ^^^ (-1)) &&& (x - 1)) 16)) ≤ 256 then (if ((x ^^^ (-1)) &&& (x - 1)) ≤ 65536 then 1 else (nI (17))) else ((if ((x ^^^ (-1)) &&& (x - 1)) ≤ 65536 then 1 else (nI (17))) + 8)) + 4)) else ((if (if (if ((x ^^^ (-1)) &&& (x - 1)) ≤ 65536 then ((x ^^^ (-1)) &&& (x - 1)) else (zshr ((x ^^^ (-1)) &&& (x - 1)) 16)) ≤ 256 then (if ((x ^^^ (-1)) &&& (x - 1)) ≤ 65536 then ((x ^^^ (-1)) &&& (x - 1)) else (zshr ((x ^^^ (-1)) &&& (x - 1)) 16)) else (zshr (if ((x ^^^ (-1)) &&& (x - 1)) ≤ 65536 then ((x ^^^ (-1)) &&& (x - 1)) else (zshr ((x ^^^ (-1)) &&& (x - 1)) 16)) 8)) ≤ 16 then (if (if ((x ^^^ (-1)) &&& (x - 1)) ≤ 65536 then ((x ^^^ (-1)) &&& (x - 1)) else (zshr ((x ^^^ (-1)) &&& (x - 1)) 16)) ≤ 256 then (if ((x ^^^ (-1)) &&& (x - 1)) ≤ 65536 then 1 else (nI (17))) else ((if ((x ^^^ (-1)) &&& (x - 1)) ≤ 65536 then 1 else (nI (17))) + 8)) else ((if (if ((x ^^^ (-1)) &&& (x - 1)) ≤ 65536 then ((x ^^^ (-1)) &&& (x - 1)) else (zshr ((x ^^^ (-1)) &&& (x - 1)) 16)) ≤ 256 then (if ((x ^^^ (-1)) &&& (x - 1)) ≤ 65536 then 1 else (nI (17))) else ((if ((x ^^^ (-1)) &&& (x - 1)) ≤ 65536 then 1 else (nI (17))) + 8)) + 4)) + 2)) + (zshr (if (if (if (if ((x ^^^ (-1)) &&& (x - 1)) ≤ 65536 then ((x ^^^ (-1)) &&& (x - 1)) else (zshr ((x ^^^ (-1)) &&& (x - 1)) 16)) ≤ 256 then (if ((x ^^^ (-1)) &&& (x - 1)) ≤ 65536 then ((x ^^^ (-1)) &&& (x - 1)) else (zshr ((x ^^^ (-1)) &&& (x - 1)) 16)) else (zshr (if ((x ^^^ (-1)) &&& (x - 1)) ≤ 65536 then ((x ^^^ (-1)) &&& (x - 1)) else (zshr ((x ^^^ (-1)) &&& (x - 1)) 16)) 8)) ≤ 16 then (if (if ((x ^^^ (-1)) &&& (x - 1)) ≤ 65536 then ((x ^^^ (-1)) &&& (x - 1)) else (zshr ((x ^^^ (-1)) &&& (x - 1)) 16)) ≤ 256 then (if ((x ^^^ (-1)) &&& (x - 1)) ≤ 65536 then ((x ^^^ (-1)) &&& (x - 1)) else (zshr ((x ^^^ (-1)) &&& (x - 1)) 16)) else (zshr (if ((x ^^^ (-1)) &&& (x - 1)) ≤ 65536 then ((x ^^^ (-1)) &&& (x - 1)) else (zshr ((x ^^^ (-1)) &&& (x - 1)) 16)) 8)) else (zshr (if (if ((x ^^^ (-1)) &&& (x - 1)) ≤ 65536 then ((x ^^^ (-1)) &&& (x - 1)) else (zshr ((x ^^^ (-1)) &&& (x - 1)) 16)) ≤ 256 then (if ((x ^^^ (-1)) &&& (x - 1)) ≤ 65536 then ((x ^^^ (-1)) &&& (x - 1)) else (zshr ((x ^^^ (-1)) &&& (x - 1)) 16)) else (zshr (if ((x ^^^ (-1)) &&& (x - 1)) ≤ 65536 then ((x ^^^ (-1)) &&& (x - 1)) else (zshr ((x ^^^ (-1)) &&& (x - 1)) 16)) 8)) 4)) ≤ 4 then (if (if (if ((x ^^^ (-1)) &&& (x - 1)) ≤ 65536 then ((x ^^^ (-1)) &&& (x - 1)) else (zshr ((x ^^^ (-1)) &&& (x - 1)) 16)) ≤ 256 then (if ((x ^^^ (-1)) &&& (x - 1)) ≤ 65536 then ((x ^^^ (-1)) &&& (x - 1)) else (zshr ((x ^^^ (-1)) &&& (x - 1)) 16)) else (zshr (if ((x ^^^ (-1)) &&& (x - 1)) ≤ 65536 then ((x ^^^ (-1)) &&& (x - 1)) else (zshr ((x ^^^ (-1)) &&& (x - 1)) 16)) 8)) ≤ 16 then (if (if ((x ^^^ (-1)) &&& (x - 1)) ≤ 65536 then ((x ^^^ (-1)) &&& (x - 1)) else (zshr ((x ^^^ (-1)) &&& (x - 1)) 16)) ≤ 256 then (if ((x ^^^ (-1)) &&& (x - 1)) ≤ 65536 then ((x ^^^ (-1)) &&& (x - 1)) else (zshr ((x ^^^ (-1)) &&& (x - 1)) 16)) else (zshr (if ((x ^^^ (-1)) &&& (x - 1)) ≤ 65536 then ((x ^^^ (-1)) &&& (x - 1)) else (zshr ((x ^^^ (-1)) &&& (x - 1)) 16)) 8)) else (zshr (if (if ((x ^^^ (-1)) &&& (x - 1)) ≤ 65536 then ((x ^^^ (-1)) &&& (x - 1)) else (zshr ((x ^^^ (-1)) &&& (x - 1)) 16)) ≤ 256 then (if ((x ^^^ (-1)) &&& (x - 1)) ≤ 65536 then ((x ^^^ (-1)) &&& (x - 1)) else (zshr ((x ^^^ (-1)) &&& (x - 1)) 16)) else (zshr (if ((x ^^^ (-1)) &&& (x - 1)) ≤ 65536 then ((x ^^^ (-1)) &&& (x - 1)) else (zshr ((x ^^^ (-1)) &&& (x - 1)) 16)) 8)) 4)) else (zshr (if (if (if ((x ^^^ (-1)) &&& (x - 1)) ≤ 65536 then ((x ^^^ (-1)) &&& (x - 1)) else (zshr ((x ^^^ (-1)) &&& (x - 1)) 16)) ≤ 256 then (if ((x ^^^ (-1)) &&& (x - 1)) ≤ 65536 then ((x ^^^ (-1)) &&& (x - 1)) else (zshr ((x ^^^ (-1)) &&& (x - 1)) 16)) else (zshr (if ((x ^^^ (-1)) &&& (x - 1)) ≤ 65536 then ((x ^^^ (-1)) &&& (x - 1)) else (zshr ((x ^^^ (-1)) &&& (x - 1)) 16)) 8)) ≤ 16 then (if (if ((x ^^^ (-1)) &&& (x - 1)) ≤ 65536 then ((x ^^^ (-1)) &&& (x - 1)) else (zshr ((x ^^^ (-1)) &&& (x - 1)) 16)) ≤ 256 then (if ((x ^^^ (-1)) &&& (x - 1)) ≤ 65536 then ((x ^^^ (-1)) &&& (x - 1)) else (zshr ((x ^^^ (-1)) &&& (x - 1)) 16)) else (zshr (if ((x ^^^ (-1)) &&& (x - 1)) ≤ 65536 then ((x ^^^ (-1)) &&& (x - 1)) else (zshr ((x ^^^ (-1)) &&& (x - 1)) 16)) 8)) else (zshr (if (if ((x ^^^ (-1)) &&& (x - 1)) ≤ 65536 then ((x ^^^ (-1)) &&& (x - 1)) else (zshr ((x ^^^ (-1)) &&& (x - 1)) 16)) ≤ 256 then (if ((x ^^^ (-1)) &&& (x - 1)) ≤ 65536 then ((x ^^^ (-1)) &&& (x - 1)) else (zshr ((x ^^^ (-1)) &&& (x - 1)) 16)) else (zshr (if ((x ^^^ (-1)) &&& (x - 1)) ≤ 65536 then ((x ^^^ (-1)) &&& (x - 1)) else (zshr ((x ^^^ (-1)) &&& (x - 1)) 16)) 8)) 4)) 2)) 1)) else (((x ^^^ (-1)) &&& (x - 1)) &&& 32))
set_option maxHeartbeats 400000 in
set_option maxRecDepth 20000 in
theorem c_Int_numberOfTrailingZeros (X : zXT) (h : zHp) (g : zLg) (x : Int32) : zDi X M_Int_numberOfTrailingZeros 0 [.int x] h g (zI (o_Int_numberOfTrailingZeros x)) h g := by
  refine zDi_of "java/lang/Integer" prog_10_method_48_code 2 (some .int) rfl (by decide) [zI x, none] rfl (fun _ q => q) (Nat.le_of_ble_eq_true rfl) ?_
  intro Γ Q C hQ
  refine zr_iload_n C d_J6_numberOfTrailingZeros_0f7a4_0 rfl ?_
  refine zr_iconst C (v := (-1)) d_J6_numberOfTrailingZeros_0f7a4_1 (by decide) ?_
  refine zr_ixor C d_J6_numberOfTrailingZeros_0f7a4_2 ?_
  refine zr_iload_n C d_J6_numberOfTrailingZeros_0f7a4_3 rfl ?_
  refine zr_iconst C (v := 1) d_J6_numberOfTrailingZeros_0f7a4_4 (by decide) ?_
  refine zr_isub C d_J6_numberOfTrailingZeros_0f7a4_5 ?_
  refine zr_iand C d_J6_numberOfTrailingZeros_0f7a4_6 ?_
  refine zr_istore_n C [zI ((x ^^^ (-1)) &&& (x - 1)), none] d_J6_numberOfTrailingZeros_0f7a4_7 (Nat.le_of_ble_eq_true rfl) rfl rfl ?_
  refine zr_iload_n C d_J6_numberOfTrailingZeros_0f7a4_8 rfl ?_
  refine zr_if_gt C 17 d_J6_numberOfTrailingZeros_0f7a4_9 (by decide) (fun c9 => ?_) (fun c9 => ?_)
  · refine zr_iconst C (v := 1) d_J6_numberOfTrailingZeros_0f7a4_17 (by decide) ?_
    refine zr_istore_n C [zI ((x ^^^ (-1)) &&& (x - 1)), zI 1] d_J6_numberOfTrailingZeros_0f7a4_18 (Nat.le_of_ble_eq_true rfl) rfl rfl ?_
    refine zr_iload_n C d_J6_numberOfTrailingZeros_0f7a4_19 rfl ?_
    refine zr_ldcw C (v := 65536) m475 d_J6_numberOfTrailingZeros_0f7a4_20 ?_
    suffices hJ23 : ∀ (y1 : Int32) (y2 : Int32), (if ((x ^^^ (-1)) &&& (x - 1)) ≤ 65536 then ((x ^^^ (-1)) &&& (x - 1)) else (zshr ((x ^^^ (-1)) &&& (x - 1)) 16)) = y1 → (if ((x ^^^ (-1)) &&& (x - 1)) ≤ 65536 then 1 else (nI (17))) = y2 → zV X Γ Q 34 [zI y1, zI y2] [] h g by
      refine zr_icmp_le C 34 d_J6_numberOfTrailingZeros_0f7a4_23 (by decide) (fun c23 => ?_) (fun c23 => ?_)
      · exact hJ23 ((x ^^^ (-1)) &&& (x - 1)) 1 (((if_pos c23))) (((if_pos c23)))
      · refine zr_iinc C [zI ((x ^^^ (-1)) &&& (x - 1)), zI (nI (17))] (v := (nI (17))) d_J6_numberOfTrailingZeros_0f7a4_26 rfl (zn_add rfl rfl) (Nat.le_of_ble_eq_true rfl) rfl rfl ?_
        refine zr_iload_n C d_J6_numberOfTrailingZeros_0f7a4_29 rfl ?_
        refine zr_bipush C (v := 16) d_J6_numberOfTrailingZeros_0f7a4_30 (by decide) ?_
        refine zr_iushr C d_J6_numberOfTrailingZeros_0f7a4_32 ?_
        refine zr_istore_n C [zI (zshr ((x ^^^ (-1)) &&& (x - 1)) 16), zI (nI (17))] d_J6_numberOfTrailingZeros_0f7a4_33 (Nat.le_of_ble_eq_true rfl) rfl rfl ?_
        exact hJ23 (zshr ((x ^^^ (-1)) &&& (x - 1)) 16) (nI (17)) (((if_neg c23))) (((if_neg c23)))
    intro y1 y2 ey1 ey2
    refine zr_iload_n C d_J6_numberOfTrailingZeros_0f7a4_34 rfl ?_
    refine zr_sipush C (v := 256) d_J6_numberOfTrailingZeros_0f7a4_35 (by decide) ?_
    suffices hJ38 : ∀ (y3 : Int32) (y4 : Int32), (if y1 ≤ 256 then y1 else (zshr y1 8)) = y3 → (if y1 ≤ 256 then y2 else (y2 + 8)) = y4 → zV X Γ Q 49 [zI y3, zI y4] [] h g by
      refine zr_icmp_le C 49 d_J6_numberOfTrailingZeros_0f7a4_38 (by decide) (fun c38 => ?_) (fun c38 => ?_)
      · exact hJ38 y1 y2 (((if_pos c38))) (((if_pos c38)))
      · refine zr_iinc C [zI y1, zI (y2 + 8)] (v := (y2 + 8)) d_J6_numberOfTrailingZeros_0f7a4_41 rfl rfl (Nat.le_of_ble_eq_true rfl) rfl rfl ?_
        refine zr_iload_n C d_J6_numberOfTrailingZeros_0f7a4_44 rfl ?_
        refine zr_bipush C (v := 8) d_J6_numberOfTrailingZeros_0f7a4_45 (by decide) ?_
        refine zr_iushr C d_J6_numberOfTrailingZeros_0f7a4_47 ?_
        refine zr_istore_n C [zI (zshr y1 8), zI (y2 + 8)] d_J6_numberOfTrailingZeros_0f7a4_48 (Nat.le_of_ble_eq_true rfl) rfl rfl ?_
        exact hJ38 (zshr y1 8) (y2 + 8) (((if_neg c38))) (((if_neg c38)))
    intro y3 y4 ey3 ey4
    refine zr_iload_n C d_J6_numberOfTrailingZeros_0f7a4_49 rfl ?_
    refine zr_bipush C (v := 16) d_J6_numberOfTrailingZeros_0f7a4_50 (by decide) ?_
    suffices hJ52 : ∀ (y5 : Int32) (y6 : Int32), (if y3 ≤ 16 then y3 else (zshr y3 4)) = y5 → (if y3 ≤ 16 then y4 else (y4 + 4)) = y6 → zV X Γ Q 62 [zI y5, zI y6] [] h g by
      refine zr_icmp_le C 62 d_J6_numberOfTrailingZeros_0f7a4_52 (by decide) (fun c52 => ?_) (fun c52 => ?_)
      · exact hJ52 y3 y4 (((if_pos c52))) (((if_pos c52)))
      · refine zr_iinc C [zI y3, zI (y4 + 4)] (v := (y4 + 4)) d_J6_numberOfTrailingZeros_0f7a4_55 rfl rfl (Nat.le_of_ble_eq_true rfl) rfl rfl ?_
        refine zr_iload_n C d_J6_numberOfTrailingZeros_0f7a4_58 rfl ?_
        refine zr_iconst C (v := 4) d_J6_numberOfTrailingZeros_0f7a4_59 (by decide) ?_
        refine zr_iushr C d_J6_numberOfTrailingZeros_0f7a4_60 ?_
        refine zr_istore_n C [zI (zshr y3 4), zI (y4 + 4)] d_J6_numberOfTrailingZeros_0f7a4_61 (Nat.le_of_ble_eq_true rfl) rfl rfl ?_
        exact hJ52 (zshr y3 4) (y4 + 4) (((if_neg c52))) (((if_neg c52)))
    intro y5 y6 ey5 ey6
    refine zr_iload_n C d_J6_numberOfTrailingZeros_0f7a4_62 rfl ?_
    refine zr_iconst C (v := 4) d_J6_numberOfTrailingZeros_0f7a4_63 (by decide) ?_
    suffices hJ64 : ∀ (y7 : Int32) (y8 : Int32), (if y5 ≤ 4 then y5 else (zshr y5 2)) = y7 → (if y5 ≤ 4 then y6 else (y6 + 2)) = y8 → zV X Γ Q 74 [zI y7, zI y8] [] h g by
      refine zr_icmp_le C 74 d_J6_numberOfTrailingZeros_0f7a4_64 (by decide) (fun c64 => ?_) (fun c64 => ?_)
      · exact hJ64 y5 y6 (((if_pos c64))) (((if_pos c64)))
      · refine zr_iinc C [zI y5, zI (y6 + 2)] (v := (y6 + 2)) d_J6_numberOfTrailingZeros_0f7a4_67 rfl rfl (Nat.le_of_ble_eq_true rfl) rfl rfl ?_
        refine zr_iload_n C d_J6_numberOfTrailingZeros_0f7a4_70 rfl ?_
        refine zr_iconst C (v := 2) d_J6_numberOfTrailingZeros_0f7a4_71 (by decide) ?_
        refine zr_iushr C d_J6_numberOfTrailingZeros_0f7a4_72 ?_
        refine zr_istore_n C [zI (zshr y5 2), zI (y6 + 2)] d_J6_numberOfTrailingZeros_0f7a4_73 (Nat.le_of_ble_eq_true rfl) rfl rfl ?_
        exact hJ64 (zshr y5 2) (y6 + 2) (((if_neg c64))) (((if_neg c64)))
    intro y7 y8 ey7 ey8
    refine zr_iload_n C d_J6_numberOfTrailingZeros_0f7a4_74 rfl ?_
    refine zr_iload_n C d_J6_numberOfTrailingZeros_0f7a4_75 rfl ?_
    refine zr_iconst C (v := 1) d_J6_numberOfTrailingZeros_0f7a4_76 (by decide) ?_
    refine zr_iushr C d_J6_numberOfTrailingZeros_0f7a4_77 ?_
    refine zr_iadd C d_J6_numberOfTrailingZeros_0f7a4_78 ?_
    have eR : o_Int_numberOfTrailingZeros x = (y8 + (zshr y7 1)) := (by subst ey8 ey7 ey6 ey5 ey4 ey3 ey2 ey1; unfold o_Int_numberOfTrailingZeros; rw [if_pos c9])
    subst hQ
    rw [eR]
    exact zr_ireti C d_J6_numberOfTrailingZeros_0f7a4_79
  · refine zr_iload_n C d_J6_numberOfTrailingZeros_0f7a4_12 rfl ?_
    refine zr_bipush C (v := 32) d_J6_numberOfTrailingZeros_0f7a4_13 (by decide) ?_
    refine zr_iand C d_J6_numberOfTrailingZeros_0f7a4_15 ?_
    have eR : o_Int_numberOfTrailingZeros x = (((x ^^^ (-1)) &&& (x - 1)) &&& 32) := (by unfold o_Int_numberOfTrailingZeros; rw [if_neg c9])
    subst hQ
    rw [eR]
    exact zr_ireti C d_J6_numberOfTrailingZeros_0f7a4_16
theorem d_J7_fill_53178_0 : decode prog_13_method_103_code 0 = .ok (.iconst 0, 1) := by decide +kernel
theorem d_J7_fill_53178_1 : decode prog_13_method_103_code 1 = .ok (.istore_n 2, 1) := by decide +kernel
theorem d_J7_fill_53178_2 : decode prog_13_method_103_code 2 = .ok (.aload_n 0, 1) := by decide +kernel
theorem d_J7_fill_53178_3 : decode prog_13_method_103_code 3 = .ok (.arraylength, 1) := by decide +kernel
theorem d_J7_fill_53178_4 : decode prog_13_method_103_code 4 = .ok (.istore_n 3, 1) := by decide +kernel
theorem d_J7_fill_53178_5 : decode prog_13_method_103_code 5 = .ok (.iload_n 2, 1) := by decide +kernel
theorem d_J7_fill_53178_6 : decode prog_13_method_103_code 6 = .ok (.iload_n 3, 1) := by decide +kernel
theorem d_J7_fill_53178_7 : decode prog_13_method_103_code 7 = .ok (.if_icmp .ge 13, 3) := by decide +kernel
theorem d_J7_fill_53178_10 : decode prog_13_method_103_code 10 = .ok (.aload_n 0, 1) := by decide +kernel
theorem d_J7_fill_53178_11 : decode prog_13_method_103_code 11 = .ok (.iload_n 2, 1) := by decide +kernel
theorem d_J7_fill_53178_12 : decode prog_13_method_103_code 12 = .ok (.iload_n 1, 1) := by decide +kernel
theorem d_J7_fill_53178_13 : decode prog_13_method_103_code 13 = .ok (.iastore, 1) := by decide +kernel
theorem d_J7_fill_53178_14 : decode prog_13_method_103_code 14 = .ok (.iinc 2 1, 3) := by decide +kernel
theorem d_J7_fill_53178_17 : decode prog_13_method_103_code 17 = .ok (.goto (-12), 3) := by decide +kernel
theorem d_J7_fill_53178_20 : decode prog_13_method_103_code 20 = .ok (.return_, 1) := by decide +kernel
abbrev M_Arr_fill : zMT := (⟨"java/util/Arrays", "fill", "([II)V"⟩, prog_13_method_103_code, 4, none)
theorem k_Arr_fill : zcall M_Arr_fill 2 := ⟨zU_in (i := 304) (by decide +kernel) rfl, m63, ⟨by decide, by decide, by decide +kernel⟩, by decide⟩
def o_Arr_fill (h : zHp) (a : Nat) (x : Int32) : zHp :=
  (zrep (fun (i5_1 : Nat) (s5_1 : zHp) => (zup s5_1 a i5_1 x)) h 8)
theorem fr_Arr_fill {h : zHp} {a : Nat} {x : Int32} (c k : Nat) (q0 : c ≠ a) : (o_Arr_fill h a x) c k = h c k := by
  unfold o_Arr_fill
  have hI5_1 := zrep_inv (f := (fun (i5_1 : Nat) (s5_1 : zHp) => (zup s5_1 a i5_1 x))) (a := h) (fun _ s5_1 => ∀ c k : Nat, c ≠ a → s5_1 c k = h c k) (8) (fun _ _ _ => rfl) (fun i5_1 s5_1 hi5_1 hI5_1 => (fun c k q0 => (by (try dsimp only); exact ((zup_fr (Or.inl (by assumption))).trans (hI5_1 _ _ (by assumption))))))
  first | done | exact (hI5_1 _ _ (by assumption))
set_option maxHeartbeats 400000 in
set_option maxRecDepth 20000 in
theorem c_Arr_fill (X : zXT) (h : zHp) (g : zLg) (a : Nat) (x : Int32) (ha : zar a 8) : zDi X M_Arr_fill 0 [zR X a, .int x] h g none (o_Arr_fill h a x) g := by
  refine zDi_of "java/util/Arrays" prog_13_method_103_code 4 none rfl (by decide) [zO X a, zI x, none, none] rfl (fun _ q => q) (Nat.le_of_ble_eq_true rfl) ?_
  intro Γ Q C hQ
  refine zr_iconst C (v := 0) d_J7_fill_53178_0 (by decide) ?_
  refine zr_istore_n C [zO X a, zI x, zI 0, none] d_J7_fill_53178_1 (Nat.le_of_ble_eq_true rfl) rfl rfl ?_
  refine zr_aload_n C d_J7_fill_53178_2 rfl ?_
  refine zr_alen C ha d_J7_fill_53178_3 ?_
  refine zr_istore_n C [zO X a, zI x, zI 0, zI (nI 8)] d_J7_fill_53178_4 (Nat.le_of_ble_eq_true rfl) rfl rfl ?_
  refine zfor (f := (fun (i5_1 : Nat) (s5_1 : zHp) => (zup s5_1 a i5_1 x))) (a := h) (fun i5_1 s5_1 => zV X Γ Q 5 [zO X a, zI x, zI (nI i5_1), zI (nI 8)] [] s5_1 g) (fun _ s5_1 => ∀ c k : Nat, c ≠ a → s5_1 c k = h c k) (8) (fun _ _ _ => rfl) (fun i5_1 s5_1 hi5_1 hI5_1 => ⟨(fun c k q0 => (by (try dsimp only); exact ((zup_fr (Or.inl (by assumption))).trans (hI5_1 _ _ (by assumption))))), fun hk5_1 => ?_⟩) (fun r5_1 er5_1 hI5_1 => ?_)
  · refine zr_iload_n C d_J7_fill_53178_5 rfl ?_
    refine zr_iload_n C d_J7_fill_53178_6 rfl ?_
    refine zr_icmp_ge C 20 d_J7_fill_53178_7 (by decide) (fun c => absurd c (zge_noN (B := 8) rfl (by omega) (by omega))) (fun _ => ?_)
    refine zr_aload_n C d_J7_fill_53178_10 rfl ?_
    refine zr_iload_n C d_J7_fill_53178_11 rfl ?_
    refine zr_iload_n C d_J7_fill_53178_12 rfl ?_
    refine zr_iast C ha (i5_1) rfl (by omega) (by decide) d_J7_fill_53178_13 ?_
    refine zr_h (fun h2 eh2 => ?_)
    refine zr_iinc C [zO X a, zI x, zI (nI (i5_1 + 1)), zI (nI 8)] (v := (nI (i5_1 + 1))) d_J7_fill_53178_14 rfl (zn_add rfl rfl) (Nat.le_of_ble_eq_true rfl) rfl rfl ?_
    refine zr_goto C 5 d_J7_fill_53178_17 (by decide) ?_
    exact hk5_1 h2 (by subst eh2; exact rfl)
  refine zr_iload_n C d_J7_fill_53178_5 rfl ?_
  refine zr_iload_n C d_J7_fill_53178_6 rfl ?_
  refine zr_icmp_ge C 20 d_J7_fill_53178_7 (by decide) (fun _ => ?_) (fun c => absurd (zge_yesN (B := 8) rfl (by omega) (by omega)) c)
  have eR : o_Arr_fill h a x = r5_1 := (by subst er5_1; unfold o_Arr_fill; exact rfl)
  subst hQ
  rw [eR]
  exact zr_vret C d_J7_fill_53178_20
theorem d_X6_has_0 : decode prog_1_method_42_code 0 = .ok (.iload_n 0, 1) := by decide +kernel
theorem d_X6_has_1 : decode prog_1_method_42_code 1 = .ok (.iload_n 1, 1) := by decide +kernel
theorem d_X6_has_2 : decode prog_1_method_42_code 2 = .ok (.ishr, 1) := by decide +kernel
theorem d_X6_has_3 : decode prog_1_method_42_code 3 = .ok (.iconst 1, 1) := by decide +kernel
theorem d_X6_has_4 : decode prog_1_method_42_code 4 = .ok (.iand, 1) := by decide +kernel
theorem d_X6_has_5 : decode prog_1_method_42_code 5 = .ok (.ifCond .eq 7, 3) := by decide +kernel
theorem d_X6_has_8 : decode prog_1_method_42_code 8 = .ok (.iconst 1, 1) := by decide +kernel
theorem d_X6_has_9 : decode prog_1_method_42_code 9 = .ok (.goto 4, 3) := by decide +kernel
theorem d_X6_has_12 : decode prog_1_method_42_code 12 = .ok (.iconst 0, 1) := by decide +kernel
theorem d_X6_has_13 : decode prog_1_method_42_code 13 = .ok (.ireturn, 1) := by decide +kernel
abbrev M_Slots_has : zMT := (⟨"PeriodSlots", "has", "(II)Z"⟩, prog_1_method_42_code, 2, (some .boolean))
theorem k_Slots_has : zcall M_Slots_has 2 := ⟨zU_in (i := 323) (by decide +kernel) rfl, m54, ⟨by decide, by decide, by decide +kernel⟩, by decide⟩
def o_Slots_has (set : Int32) (k : Int32) : Bool :=
  (!(decide (((zsar set k) &&& 1) = 0)))
set_option maxHeartbeats 400000 in
set_option maxRecDepth 20000 in
theorem c_Slots_has (X : zXT) (h : zHp) (g : zLg) (set : Int32) (k : Int32) : zDi X M_Slots_has 0 [.int set, .int k] h g (zI (zb (o_Slots_has set k))) h g := by
  refine zDi_of "PeriodSlots" prog_1_method_42_code 2 (some .boolean) rfl (by decide) [zI set, zI k] rfl (fun _ q => q) (Nat.le_of_ble_eq_true rfl) ?_
  intro Γ Q C hQ
  refine zr_iload_n C d_X6_has_0 rfl ?_
  refine zr_iload_n C d_X6_has_1 rfl ?_
  refine zr_ishr C d_X6_has_2 ?_
  refine zr_iconst C (v := 1) d_X6_has_3 (by decide) ?_
  refine zr_iand C d_X6_has_4 ?_
  suffices hJ5 : ∀ (y1 : Bool), (!(decide (((zsar set k) &&& 1) = 0))) = y1 → zV X Γ Q 13 [none, none] [.int (zb y1)] h g by
    refine zr_if_eq C 12 d_X6_has_5 (by decide) (fun c5 => ?_) (fun c5 => ?_)
    · refine zr_iconst C (v := 0) d_X6_has_12 (by decide) ?_
      refine zr_lv [none, none] (by simp [zle]) ?_
      exact hJ5 false (by simp [c5])
    · refine zr_iconst C (v := 1) d_X6_has_8 (by decide) ?_
      refine zr_goto C 13 d_X6_has_9 (by decide) ?_
      refine zr_lv [none, none] (by simp [zle]) ?_
      exact hJ5 true (by simp [c5])
  intro y1 ey1
  have eR : o_Slots_has set k = y1 := (by subst ey1; unfold o_Slots_has; exact rfl)
  subst hQ
  rw [eR]
  exact zr_iretz C (zb_01 _) d_X6_has_13
theorem d_X6_lowestOrNone_0 : decode prog_1_method_43_code 0 = .ok (.iload_n 0, 1) := by decide +kernel
theorem d_X6_lowestOrNone_1 : decode prog_1_method_43_code 1 = .ok (.ifCond .ne 8, 3) := by decide +kernel
theorem d_X6_lowestOrNone_4 : decode prog_1_method_43_code 4 = .ok (.bipush (-9), 2) := by decide +kernel
theorem d_X6_lowestOrNone_6 : decode prog_1_method_43_code 6 = .ok (.goto 7, 3) := by decide +kernel
theorem d_X6_lowestOrNone_9 : decode prog_1_method_43_code 9 = .ok (.iload_n 0, 1) := by decide +kernel
theorem d_X6_lowestOrNone_10 : decode prog_1_method_43_code 10 = .ok (.invokestatic 295, 3) := by decide +kernel
theorem d_X6_lowestOrNone_13 : decode prog_1_method_43_code 13 = .ok (.ireturn, 1) := by decide +kernel
abbrev M_Slots_lowestOrNone : zMT := (⟨"PeriodSlots", "lowestOrNone", "(I)I"⟩, prog_1_method_43_code, 1, (some .int))
theorem k_Slots_lowestOrNone : zcall M_Slots_lowestOrNone 1 := ⟨zU_in (i := 471) (by decide +kernel) rfl, m54, ⟨by decide, by decide, by decide +kernel⟩, by decide⟩
def o_Slots_lowestOrNone (set : Int32) : Int32 :=
  (if set = 0 then (-9) else (o_Int_numberOfTrailingZeros set))
set_option maxHeartbeats 400000 in
set_option maxRecDepth 20000 in
theorem c_Slots_lowestOrNone (X : zXT) (h : zHp) (g : zLg) (set : Int32) : zDi X M_Slots_lowestOrNone 1 [.int set] h g (zI (o_Slots_lowestOrNone set)) h g := by
  refine zDi_of "PeriodSlots" prog_1_method_43_code 1 (some .int) rfl (by decide) [zI set] rfl (fun _ q => q) (Nat.le_of_ble_eq_true rfl) ?_
  intro Γ Q C hQ
  refine zr_iload_n C d_X6_lowestOrNone_0 rfl ?_
  suffices hJ1 : ∀ (y1 : Int32), (if set = 0 then (-9) else (o_Int_numberOfTrailingZeros set)) = y1 → zV X Γ Q 13 [none] [.int y1] h g by
    refine zr_if_ne C 9 d_X6_lowestOrNone_1 (by decide) (fun c1 => ?_) (fun c1 => ?_)
    · refine zr_iload_n C d_X6_lowestOrNone_9 rfl ?_
      refine zr_callSi (As := [.int set]) (st := []) C (c_Int_numberOfTrailingZeros X h g set) k_Int_numberOfTrailingZeros m472 m473 rfl (by decide) rfl (Nat.le_of_ble_eq_true rfl) d_X6_lowestOrNone_10 ?_
      refine zr_lv [none] (by simp [zle]) ?_
      exact hJ1 (o_Int_numberOfTrailingZeros set) (((if_neg c1)))
    · refine zr_bipush C (v := (-9)) d_X6_lowestOrNone_4 (by decide) ?_
      refine zr_goto C 13 d_X6_lowestOrNone_6 (by decide) ?_
      refine zr_lv [none] (by simp [zle]) ?_
      exact hJ1 (-9) (((if_pos c1)))
  intro y1 ey1
  have eR : o_Slots_lowestOrNone set = y1 := (by subst ey1; unfold o_Slots_lowestOrNone; exact rfl)
  subst hQ
  rw [eR]
  exact zr_ireti C d_X6_lowestOrNone_13
theorem d_X6_factorial_0 : decode prog_1_method_44_code 0 = .ok (.iconst 1, 1) := by decide +kernel
theorem d_X6_factorial_1 : decode prog_1_method_44_code 1 = .ok (.istore_n 1, 1) := by decide +kernel
theorem d_X6_factorial_2 : decode prog_1_method_44_code 2 = .ok (.iconst 2, 1) := by decide +kernel
theorem d_X6_factorial_3 : decode prog_1_method_44_code 3 = .ok (.istore_n 2, 1) := by decide +kernel
theorem d_X6_factorial_4 : decode prog_1_method_44_code 4 = .ok (.iload_n 2, 1) := by decide +kernel
theorem d_X6_factorial_5 : decode prog_1_method_44_code 5 = .ok (.iload_n 0, 1) := by decide +kernel
theorem d_X6_factorial_6 : decode prog_1_method_44_code 6 = .ok (.if_icmp .gt 13, 3) := by decide +kernel
theorem d_X6_factorial_9 : decode prog_1_method_44_code 9 = .ok (.iload_n 1, 1) := by decide +kernel
theorem d_X6_factorial_10 : decode prog_1_method_44_code 10 = .ok (.iload_n 2, 1) := by decide +kernel
theorem d_X6_factorial_11 : decode prog_1_method_44_code 11 = .ok (.imul, 1) := by decide +kernel
theorem d_X6_factorial_12 : decode prog_1_method_44_code 12 = .ok (.istore_n 1, 1) := by decide +kernel
theorem d_X6_factorial_13 : decode prog_1_method_44_code 13 = .ok (.iinc 2 1, 3) := by decide +kernel
theorem d_X6_factorial_16 : decode prog_1_method_44_code 16 = .ok (.goto (-12), 3) := by decide +kernel
theorem d_X6_factorial_19 : decode prog_1_method_44_code 19 = .ok (.iload_n 1, 1) := by decide +kernel
theorem d_X6_factorial_20 : decode prog_1_method_44_code 20 = .ok (.ireturn, 1) := by decide +kernel
abbrev M_Slots_factorial : zMT := (⟨"PeriodSlots", "factorial", "(I)I"⟩, prog_1_method_44_code, 3, (some .int))
theorem k_Slots_factorial : zcall M_Slots_factorial 1 := ⟨zU_in (i := 693) (by decide +kernel) rfl, m54, ⟨by decide, by decide, by decide +kernel⟩, by decide⟩
def o_Slots_factorial (k : Int32) : Int32 :=
  (zrep (fun (i4_1 : Nat) (s4_1 : Int32) => (s4_1 * (nI (2 + i4_1)))) 1 (zcn k + 1 - 2))
set_option maxHeartbeats 400000 in
set_option maxRecDepth 20000 in
theorem c_Slots_factorial (X : zXT) (h : zHp) (g : zLg) (k : Int32) (hk : zcn k < 2147483646) : zDi X M_Slots_factorial 0 [.int k] h g (zI (o_Slots_factorial k)) h g := by
  refine zDi_of "PeriodSlots" prog_1_method_44_code 3 (some .int) rfl (by decide) [zI k, none, none] rfl (fun _ q => q) (Nat.le_of_ble_eq_true rfl) ?_
  intro Γ Q C hQ
  refine zr_iconst C (v := 1) d_X6_factorial_0 (by decide) ?_
  refine zr_istore_n C [zI k, zI 1, none] d_X6_factorial_1 (Nat.le_of_ble_eq_true rfl) rfl rfl ?_
  refine zr_iconst C (v := 2) d_X6_factorial_2 (by decide) ?_
  refine zr_istore_n C [zI k, zI 1, zI 2] d_X6_factorial_3 (Nat.le_of_ble_eq_true rfl) rfl rfl ?_
  refine zfor (f := (fun (i4_1 : Nat) (s4_1 : Int32) => (s4_1 * (nI (2 + i4_1))))) (a := 1) (fun i4_1 s4_1 => zV X Γ Q 4 [zI k, zI s4_1, zI (nI (2 + i4_1))] [] h g) (fun _ _ => True) (zcn k + 1 - 2) trivial (fun i4_1 s4_1 hi4_1 hI4_1 => ⟨trivial, fun hk4_1 => ?_⟩) (fun r4_1 er4_1 hI4_1 => ?_)
  · refine zr_iload_n C d_X6_factorial_4 rfl ?_
    refine zr_iload_n C d_X6_factorial_5 rfl ?_
    refine zr_icmp_gt C 19 d_X6_factorial_6 (by decide) (fun c => absurd c (zgt_no rfl (by omega) (by omega))) (fun _ => ?_)
    refine zr_iload_n C d_X6_factorial_9 rfl ?_
    refine zr_iload_n C d_X6_factorial_10 rfl ?_
    refine zr_imul C d_X6_factorial_11 ?_
    refine zr_istore_n C [zI k, zI (s4_1 * (nI (2 + i4_1))), zI (nI (2 + i4_1))] d_X6_factorial_12 (Nat.le_of_ble_eq_true rfl) rfl rfl ?_
    refine zr_iinc C [zI k, zI (s4_1 * (nI (2 + i4_1))), zI (nI ((2 + i4_1) + 1))] (v := (nI ((2 + i4_1) + 1))) d_X6_factorial_13 rfl (zn_add rfl rfl) (Nat.le_of_ble_eq_true rfl) rfl rfl ?_
    refine zr_goto C 4 d_X6_factorial_16 (by decide) ?_
    exact hk4_1 (s4_1 * (nI (2 + i4_1))) rfl
  refine zr_iload_n C d_X6_factorial_4 rfl ?_
  refine zr_iload_n C d_X6_factorial_5 rfl ?_
  refine zr_icmp_gt C 19 d_X6_factorial_6 (by decide) (fun _ => ?_) (fun c => absurd (zgt_yes rfl (by omega) (by have := zcn_small k; omega)) c)
  refine zr_iload_n C d_X6_factorial_19 rfl ?_
  have eR : o_Slots_factorial k = r4_1 := (by subst er4_1; unfold o_Slots_factorial; exact rfl)
  subst hQ
  rw [eR]
  exact zr_ireti C d_X6_factorial_20
theorem d_X6_power_0 : decode prog_1_method_45_code 0 = .ok (.iconst 1, 1) := by decide +kernel
theorem d_X6_power_1 : decode prog_1_method_45_code 1 = .ok (.istore_n 2, 1) := by decide +kernel
theorem d_X6_power_2 : decode prog_1_method_45_code 2 = .ok (.iconst 0, 1) := by decide +kernel
theorem d_X6_power_3 : decode prog_1_method_45_code 3 = .ok (.istore_n 3, 1) := by decide +kernel
theorem d_X6_power_4 : decode prog_1_method_45_code 4 = .ok (.iload_n 3, 1) := by decide +kernel
theorem d_X6_power_5 : decode prog_1_method_45_code 5 = .ok (.iload_n 1, 1) := by decide +kernel
theorem d_X6_power_6 : decode prog_1_method_45_code 6 = .ok (.if_icmp .ge 13, 3) := by decide +kernel
theorem d_X6_power_9 : decode prog_1_method_45_code 9 = .ok (.iload_n 2, 1) := by decide +kernel
theorem d_X6_power_10 : decode prog_1_method_45_code 10 = .ok (.iload_n 0, 1) := by decide +kernel
theorem d_X6_power_11 : decode prog_1_method_45_code 11 = .ok (.imul, 1) := by decide +kernel
theorem d_X6_power_12 : decode prog_1_method_45_code 12 = .ok (.istore_n 2, 1) := by decide +kernel
theorem d_X6_power_13 : decode prog_1_method_45_code 13 = .ok (.iinc 3 1, 3) := by decide +kernel
theorem d_X6_power_16 : decode prog_1_method_45_code 16 = .ok (.goto (-12), 3) := by decide +kernel
theorem d_X6_power_19 : decode prog_1_method_45_code 19 = .ok (.iload_n 2, 1) := by decide +kernel
theorem d_X6_power_20 : decode prog_1_method_45_code 20 = .ok (.ireturn, 1) := by decide +kernel
abbrev M_Slots_power : zMT := (⟨"PeriodSlots", "power", "(II)I"⟩, prog_1_method_45_code, 4, (some .int))
theorem k_Slots_power : zcall M_Slots_power 2 := ⟨zU_in (i := 717) (by decide +kernel) rfl, m54, ⟨by decide, by decide, by decide +kernel⟩, by decide⟩
def o_Slots_power (base : Int32) (exponent : Int32) : Int32 :=
  (zrep (fun (i4_1 : Nat) (s4_1 : Int32) => (s4_1 * base)) 1 (zcn exponent))
set_option maxHeartbeats 400000 in
set_option maxRecDepth 20000 in
theorem c_Slots_power (X : zXT) (h : zHp) (g : zLg) (base : Int32) (exponent : Int32) : zDi X M_Slots_power 0 [.int base, .int exponent] h g (zI (o_Slots_power base exponent)) h g := by
  refine zDi_of "PeriodSlots" prog_1_method_45_code 4 (some .int) rfl (by decide) [zI base, zI exponent, none, none] rfl (fun _ q => q) (Nat.le_of_ble_eq_true rfl) ?_
  intro Γ Q C hQ
  refine zr_iconst C (v := 1) d_X6_power_0 (by decide) ?_
  refine zr_istore_n C [zI base, zI exponent, zI 1, none] d_X6_power_1 (Nat.le_of_ble_eq_true rfl) rfl rfl ?_
  refine zr_iconst C (v := 0) d_X6_power_2 (by decide) ?_
  refine zr_istore_n C [zI base, zI exponent, zI 1, zI 0] d_X6_power_3 (Nat.le_of_ble_eq_true rfl) rfl rfl ?_
  refine zfor (f := (fun (i4_1 : Nat) (s4_1 : Int32) => (s4_1 * base))) (a := 1) (fun i4_1 s4_1 => zV X Γ Q 4 [zI base, zI exponent, zI s4_1, zI (nI i4_1)] [] h g) (fun _ _ => True) (zcn exponent) trivial (fun i4_1 s4_1 hi4_1 hI4_1 => ⟨trivial, fun hk4_1 => ?_⟩) (fun r4_1 er4_1 hI4_1 => ?_)
  · refine zr_iload_n C d_X6_power_4 rfl ?_
    refine zr_iload_n C d_X6_power_5 rfl ?_
    refine zr_icmp_ge C 19 d_X6_power_6 (by decide) (fun c => absurd c (zge_no rfl (by omega))) (fun _ => ?_)
    refine zr_iload_n C d_X6_power_9 rfl ?_
    refine zr_iload_n C d_X6_power_10 rfl ?_
    refine zr_imul C d_X6_power_11 ?_
    refine zr_istore_n C [zI base, zI exponent, zI (s4_1 * base), zI (nI i4_1)] d_X6_power_12 (Nat.le_of_ble_eq_true rfl) rfl rfl ?_
    refine zr_iinc C [zI base, zI exponent, zI (s4_1 * base), zI (nI (i4_1 + 1))] (v := (nI (i4_1 + 1))) d_X6_power_13 rfl (zn_add rfl rfl) (Nat.le_of_ble_eq_true rfl) rfl rfl ?_
    refine zr_goto C 4 d_X6_power_16 (by decide) ?_
    exact hk4_1 (s4_1 * base) rfl
  refine zr_iload_n C d_X6_power_4 rfl ?_
  refine zr_iload_n C d_X6_power_5 rfl ?_
  refine zr_icmp_ge C 19 d_X6_power_6 (by decide) (fun _ => ?_) (fun c => absurd (zge_yes rfl (by omega) (by have := zcn_small exponent; omega)) c)
  refine zr_iload_n C d_X6_power_19 rfl ?_
  have eR : o_Slots_power base exponent = r4_1 := (by subst er4_1; unfold o_Slots_power; exact rfl)
  subst hQ
  rw [eR]
  exact zr_ireti C d_X6_power_20
theorem d_X6_commonDivisor_0 : decode prog_1_method_47_code 0 = .ok (.iload_n 0, 1) := by decide +kernel
theorem d_X6_commonDivisor_1 : decode prog_1_method_47_code 1 = .ok (.istore_n 2, 1) := by decide +kernel
theorem d_X6_commonDivisor_2 : decode prog_1_method_47_code 2 = .ok (.iload_n 1, 1) := by decide +kernel
theorem d_X6_commonDivisor_3 : decode prog_1_method_47_code 3 = .ok (.istore_n 3, 1) := by decide +kernel
theorem d_X6_commonDivisor_4 : decode prog_1_method_47_code 4 = .ok (.iconst 0, 1) := by decide +kernel
theorem d_X6_commonDivisor_5 : decode prog_1_method_47_code 5 = .ok (.istore 4, 2) := by decide +kernel
theorem d_X6_commonDivisor_7 : decode prog_1_method_47_code 7 = .ok (.iload 4, 2) := by decide +kernel
theorem d_X6_commonDivisor_9 : decode prog_1_method_47_code 9 = .ok (.bipush 64, 2) := by decide +kernel
theorem d_X6_commonDivisor_11 : decode prog_1_method_47_code 11 = .ok (.if_icmp .ge 23, 3) := by decide +kernel
theorem d_X6_commonDivisor_14 : decode prog_1_method_47_code 14 = .ok (.iload_n 3, 1) := by decide +kernel
theorem d_X6_commonDivisor_15 : decode prog_1_method_47_code 15 = .ok (.ifCond .eq 19, 3) := by decide +kernel
theorem d_X6_commonDivisor_18 : decode prog_1_method_47_code 18 = .ok (.iload_n 2, 1) := by decide +kernel
theorem d_X6_commonDivisor_19 : decode prog_1_method_47_code 19 = .ok (.iload_n 3, 1) := by decide +kernel
theorem d_X6_commonDivisor_20 : decode prog_1_method_47_code 20 = .ok (.irem, 1) := by decide +kernel
theorem d_X6_commonDivisor_21 : decode prog_1_method_47_code 21 = .ok (.istore 5, 2) := by decide +kernel
theorem d_X6_commonDivisor_23 : decode prog_1_method_47_code 23 = .ok (.iload_n 3, 1) := by decide +kernel
theorem d_X6_commonDivisor_24 : decode prog_1_method_47_code 24 = .ok (.istore_n 2, 1) := by decide +kernel
theorem d_X6_commonDivisor_25 : decode prog_1_method_47_code 25 = .ok (.iload 5, 2) := by decide +kernel
theorem d_X6_commonDivisor_27 : decode prog_1_method_47_code 27 = .ok (.istore_n 3, 1) := by decide +kernel
theorem d_X6_commonDivisor_28 : decode prog_1_method_47_code 28 = .ok (.iinc 4 1, 3) := by decide +kernel
theorem d_X6_commonDivisor_31 : decode prog_1_method_47_code 31 = .ok (.goto (-24), 3) := by decide +kernel
theorem d_X6_commonDivisor_34 : decode prog_1_method_47_code 34 = .ok (.iload_n 2, 1) := by decide +kernel
theorem d_X6_commonDivisor_35 : decode prog_1_method_47_code 35 = .ok (.ireturn, 1) := by decide +kernel
abbrev M_Slots_commonDivisor : zMT := (⟨"PeriodSlots", "commonDivisor", "(II)I"⟩, prog_1_method_47_code, 6, (some .int))
theorem k_Slots_commonDivisor : zcall M_Slots_commonDivisor 2 := ⟨zU_in (i := 710) (by decide +kernel) rfl, m54, ⟨by decide, by decide, by decide +kernel⟩, by decide⟩
def o_Slots_commonDivisor (a : Int32) (b : Int32) : Int32 :=
  (Sum.elim (fun r7_1 => r7_1.1) (fun q7_1 => q7_1) (zrex (fun (i7_1 : Nat) (s7_1 : Int32 × Int32) => ((if s7_1.2 = 0 then .inr s7_1.1 else .inl (s7_1.2, (zrem s7_1.1 s7_1.2))) : (Int32 × Int32) ⊕ (Int32))) (a, b) 64))
set_option maxHeartbeats 400000 in
set_option maxRecDepth 20000 in
theorem c_Slots_commonDivisor (X : zXT) (h : zHp) (g : zLg) (a : Int32) (b : Int32) : zDi X M_Slots_commonDivisor 0 [.int a, .int b] h g (zI (o_Slots_commonDivisor a b)) h g := by
  refine zDi_of "PeriodSlots" prog_1_method_47_code 6 (some .int) rfl (by decide) [zI a, zI b, none, none, none, none] rfl (fun _ q => q) (Nat.le_of_ble_eq_true rfl) ?_
  intro Γ Q C hQ
  refine zr_iload_n C d_X6_commonDivisor_0 rfl ?_
  refine zr_istore_n C [zI a, zI b, zI a, none, none, none] d_X6_commonDivisor_1 (Nat.le_of_ble_eq_true rfl) rfl rfl ?_
  refine zr_iload_n C d_X6_commonDivisor_2 rfl ?_
  refine zr_istore_n C [zI a, zI b, zI a, zI b, none, none] d_X6_commonDivisor_3 (Nat.le_of_ble_eq_true rfl) rfl rfl ?_
  refine zr_iconst C (v := 0) d_X6_commonDivisor_4 (by decide) ?_
  refine zr_istore C [zI a, zI b, zI a, zI b, zI 0, none] d_X6_commonDivisor_5 (Nat.le_of_ble_eq_true rfl) rfl rfl ?_
  refine zr_lv [none, none, zI a, zI b, zI 0, none] (by simp [zle]) ?_
  refine zforx (f := (fun (i7_1 : Nat) (s7_1 : Int32 × Int32) => ((if s7_1.2 = 0 then .inr s7_1.1 else .inl (s7_1.2, (zrem s7_1.1 s7_1.2))) : (Int32 × Int32) ⊕ (Int32)))) (a := (a, b)) (fun i7_1 s7_1 => zV X Γ Q 7 [none, none, zI s7_1.1, zI s7_1.2, zI (nI i7_1), none] [] h g) (fun _ _ => True) (64) trivial (fun i7_1 s7_1 hi7_1 hI7_1 => ⟨(fun _ _ => trivial), fun hk7_1 hx7_1 => ?_⟩) (fun r7_1 er7_1 hI7_1 => ?_)
  · refine zr_iload C d_X6_commonDivisor_7 rfl ?_
    refine zr_bipush C (v := 64) d_X6_commonDivisor_9 (by decide) ?_
    refine zr_icmp_ge C 34 d_X6_commonDivisor_11 (by decide) (fun c => absurd c (zge_noN (B := 64) rfl (by omega) (by omega))) (fun _ => ?_)
    refine zr_iload_n C d_X6_commonDivisor_14 rfl ?_
    refine zr_if_eq C 34 d_X6_commonDivisor_15 (by decide) (fun c15 => ?_) (fun c15 => ?_)
    · have hr7_1 := hx7_1 s7_1.1 ((if_pos c15))
      refine zr_iload_n C d_X6_commonDivisor_34 rfl ?_
      have eR : o_Slots_commonDivisor a b = s7_1.1 := (by unfold o_Slots_commonDivisor; exact ((congrArg (Sum.elim _ _) hr7_1)))
      subst hQ
      rw [eR]
      exact zr_ireti C d_X6_commonDivisor_35
    · refine zr_iload_n C d_X6_commonDivisor_18 rfl ?_
      refine zr_iload_n C d_X6_commonDivisor_19 rfl ?_
      refine zr_irem C d_X6_commonDivisor_20 c15 ?_
      refine zr_istore C [none, none, zI s7_1.1, zI s7_1.2, zI (nI i7_1), zI (zrem s7_1.1 s7_1.2)] d_X6_commonDivisor_21 (Nat.le_of_ble_eq_true rfl) rfl rfl ?_
      refine zr_iload_n C d_X6_commonDivisor_23 rfl ?_
      refine zr_istore_n C [none, none, zI s7_1.2, zI s7_1.2, zI (nI i7_1), zI (zrem s7_1.1 s7_1.2)] d_X6_commonDivisor_24 (Nat.le_of_ble_eq_true rfl) rfl rfl ?_
      refine zr_iload C d_X6_commonDivisor_25 rfl ?_
      refine zr_istore_n C [none, none, zI s7_1.2, zI (zrem s7_1.1 s7_1.2), zI (nI i7_1), zI (zrem s7_1.1 s7_1.2)] d_X6_commonDivisor_27 (Nat.le_of_ble_eq_true rfl) rfl rfl ?_
      refine zr_iinc C [none, none, zI s7_1.2, zI (zrem s7_1.1 s7_1.2), zI (nI (i7_1 + 1)), zI (zrem s7_1.1 s7_1.2)] (v := (nI (i7_1 + 1))) d_X6_commonDivisor_28 rfl (zn_add rfl rfl) (Nat.le_of_ble_eq_true rfl) rfl rfl ?_
      refine zr_goto C 7 d_X6_commonDivisor_31 (by decide) ?_
      refine zr_lv [none, none, zI s7_1.2, zI (zrem s7_1.1 s7_1.2), zI (nI (i7_1 + 1)), none] (by simp [zle]) ?_
      exact hk7_1 (s7_1.2, (zrem s7_1.1 s7_1.2)) ((if_neg c15))
  refine zr_iload C d_X6_commonDivisor_7 rfl ?_
  refine zr_bipush C (v := 64) d_X6_commonDivisor_9 (by decide) ?_
  refine zr_icmp_ge C 34 d_X6_commonDivisor_11 (by decide) (fun _ => ?_) (fun c => absurd (zge_yesN (B := 64) rfl (by omega) (by omega)) c)
  refine zr_iload_n C d_X6_commonDivisor_34 rfl ?_
  have eR : o_Slots_commonDivisor a b = r7_1.1 := (by unfold o_Slots_commonDivisor; exact ((congrArg (Sum.elim _ _) er7_1)))
  subst hQ
  rw [eR]
  exact zr_ireti C d_X6_commonDivisor_35
theorem d_X6_partOfFraction_0 : decode prog_1_method_46_code 0 = .ok (.iload_n 0, 1) := by decide +kernel
theorem d_X6_partOfFraction_1 : decode prog_1_method_46_code 1 = .ok (.invokestatic 298, 3) := by decide +kernel
theorem d_X6_partOfFraction_4 : decode prog_1_method_46_code 4 = .ok (.iload_n 1, 1) := by decide +kernel
theorem d_X6_partOfFraction_5 : decode prog_1_method_46_code 5 = .ok (.invokestatic 303, 3) := by decide +kernel
theorem d_X6_partOfFraction_8 : decode prog_1_method_46_code 8 = .ok (.istore_n 3, 1) := by decide +kernel
theorem d_X6_partOfFraction_9 : decode prog_1_method_46_code 9 = .ok (.iload_n 3, 1) := by decide +kernel
theorem d_X6_partOfFraction_10 : decode prog_1_method_46_code 10 = .ok (.iconst 1, 1) := by decide +kernel
theorem d_X6_partOfFraction_11 : decode prog_1_method_46_code 11 = .ok (.if_icmp .ge 5, 3) := by decide +kernel
theorem d_X6_partOfFraction_14 : decode prog_1_method_46_code 14 = .ok (.iconst 0, 1) := by decide +kernel
theorem d_X6_partOfFraction_15 : decode prog_1_method_46_code 15 = .ok (.ireturn, 1) := by decide +kernel
theorem d_X6_partOfFraction_16 : decode prog_1_method_46_code 16 = .ok (.iload_n 2, 1) := by decide +kernel
theorem d_X6_partOfFraction_17 : decode prog_1_method_46_code 17 = .ok (.ifCond .eq 9, 3) := by decide +kernel
theorem d_X6_partOfFraction_20 : decode prog_1_method_46_code 20 = .ok (.iload_n 0, 1) := by decide +kernel
theorem d_X6_partOfFraction_21 : decode prog_1_method_46_code 21 = .ok (.iload_n 3, 1) := by decide +kernel
theorem d_X6_partOfFraction_22 : decode prog_1_method_46_code 22 = .ok (.idiv, 1) := by decide +kernel
theorem d_X6_partOfFraction_23 : decode prog_1_method_46_code 23 = .ok (.goto 6, 3) := by decide +kernel
theorem d_X6_partOfFraction_26 : decode prog_1_method_46_code 26 = .ok (.iload_n 1, 1) := by decide +kernel
theorem d_X6_partOfFraction_27 : decode prog_1_method_46_code 27 = .ok (.iload_n 3, 1) := by decide +kernel
theorem d_X6_partOfFraction_28 : decode prog_1_method_46_code 28 = .ok (.idiv, 1) := by decide +kernel
theorem d_X6_partOfFraction_29 : decode prog_1_method_46_code 29 = .ok (.ireturn, 1) := by decide +kernel
abbrev M_Slots_partOfFraction : zMT := (⟨"PeriodSlots", "partOfFraction", "(IIZ)I"⟩, prog_1_method_46_code, 4, (some .int))
theorem k_Slots_partOfFraction : zcall M_Slots_partOfFraction 3 := ⟨zU_in (i := 704) (by decide +kernel) rfl, m54, ⟨by decide, by decide, by decide +kernel⟩, by decide⟩
def o_Slots_partOfFraction (numerator : Int32) (denominator : Int32) (upper : Bool) : Int32 :=
  (if 1 ≤ (o_Slots_commonDivisor (if 0 ≤ numerator then numerator else 0 - numerator) denominator) then (if upper = true then (numerator / (o_Slots_commonDivisor (if 0 ≤ numerator then numerator else 0 - numerator) denominator)) else (denominator / (o_Slots_commonDivisor (if 0 ≤ numerator then numerator else 0 - numerator) denominator))) else 0)
set_option maxHeartbeats 400000 in
set_option maxRecDepth 20000 in
theorem c_Slots_partOfFraction (X : zXT) (h : zHp) (g : zLg) (numerator : Int32) (denominator : Int32) (upper : Bool) : zDi X M_Slots_partOfFraction 1 [.int numerator, .int denominator, .int (zb upper)] h g (zI (o_Slots_partOfFraction numerator denominator upper)) h g := by
  refine zDi_of "PeriodSlots" prog_1_method_46_code 4 (some .int) rfl (by decide) [zI numerator, zI denominator, zI (zb upper), none] rfl (fun _ q => q) (Nat.le_of_ble_eq_true rfl) ?_
  intro Γ Q C hQ
  refine zr_iload_n C d_X6_partOfFraction_0 rfl ?_
  refine zr_mabs C m705 rfl (Nat.le_of_ble_eq_true rfl) (by decide) d_X6_partOfFraction_1 ?_
  refine zr_iload_n C d_X6_partOfFraction_4 rfl ?_
  refine zr_callSi (As := [.int (if 0 ≤ numerator then numerator else 0 - numerator), .int denominator]) (st := []) C (c_Slots_commonDivisor X h g (if 0 ≤ numerator then numerator else 0 - numerator) denominator) k_Slots_commonDivisor m708 m709 rfl (by decide) rfl (Nat.le_of_ble_eq_true rfl) d_X6_partOfFraction_5 ?_
  refine zr_istore_n C [zI numerator, zI denominator, zI (zb upper), zI (o_Slots_commonDivisor (if 0 ≤ numerator then numerator else 0 - numerator) denominator)] d_X6_partOfFraction_8 (Nat.le_of_ble_eq_true rfl) rfl rfl ?_
  refine zr_iload_n C d_X6_partOfFraction_9 rfl ?_
  refine zr_iconst C (v := 1) d_X6_partOfFraction_10 (by decide) ?_
  refine zr_icmp_ge C 16 d_X6_partOfFraction_11 (by decide) (fun c11 => ?_) (fun c11 => ?_)
  · refine zr_iload_n C d_X6_partOfFraction_16 rfl ?_
    suffices hJ17 : ∀ (y1 : Int32), (if upper = true then (numerator / (o_Slots_commonDivisor (if 0 ≤ numerator then numerator else 0 - numerator) denominator)) else (denominator / (o_Slots_commonDivisor (if 0 ≤ numerator then numerator else 0 - numerator) denominator))) = y1 → zV X Γ Q 29 [none, none, none, none] [.int y1] h g by
      refine zr_ifz_eq C 26 d_X6_partOfFraction_17 (by decide) (fun c17 => ?_) (fun c17 => ?_)
      · refine zr_iload_n C d_X6_partOfFraction_26 rfl ?_
        refine zr_iload_n C d_X6_partOfFraction_27 rfl ?_
        refine zr_idiv C d_X6_partOfFraction_28 (zne_1le c11) ?_
        refine zr_lv [none, none, none, none] (by simp [zle]) ?_
        exact hJ17 (denominator / (o_Slots_commonDivisor (if 0 ≤ numerator then numerator else 0 - numerator) denominator)) (((if_neg (zbf c17))))
      · refine zr_iload_n C d_X6_partOfFraction_20 rfl ?_
        refine zr_iload_n C d_X6_partOfFraction_21 rfl ?_
        refine zr_idiv C d_X6_partOfFraction_22 (zne_1le c11) ?_
        refine zr_goto C 29 d_X6_partOfFraction_23 (by decide) ?_
        refine zr_lv [none, none, none, none] (by simp [zle]) ?_
        exact hJ17 (numerator / (o_Slots_commonDivisor (if 0 ≤ numerator then numerator else 0 - numerator) denominator)) (((if_pos c17)))
    intro y1 ey1
    have eR : o_Slots_partOfFraction numerator denominator upper = y1 := (by subst ey1; unfold o_Slots_partOfFraction; rw [if_pos c11])
    subst hQ
    rw [eR]
    exact zr_ireti C d_X6_partOfFraction_29
  · refine zr_iconst C (v := 0) d_X6_partOfFraction_14 (by decide) ?_
    have eR : o_Slots_partOfFraction numerator denominator upper = 0 := (by unfold o_Slots_partOfFraction; rw [if_neg c11])
    subst hQ
    rw [eR]
    exact zr_ireti C d_X6_partOfFraction_15
theorem d_X1_clear_0 : decode prog_3_method_2_code 0 = .ok (.aload_n 0, 1) := by decide +kernel
theorem d_X1_clear_1 : decode prog_3_method_2_code 1 = .ok (.iconst 0, 1) := by decide +kernel
theorem d_X1_clear_2 : decode prog_3_method_2_code 2 = .ok (.putfield 45, 3) := by decide +kernel
theorem d_X1_clear_5 : decode prog_3_method_2_code 5 = .ok (.aload_n 0, 1) := by decide +kernel
theorem d_X1_clear_6 : decode prog_3_method_2_code 6 = .ok (.iconst 0, 1) := by decide +kernel
theorem d_X1_clear_7 : decode prog_3_method_2_code 7 = .ok (.putfield 49, 3) := by decide +kernel
theorem d_X1_clear_10 : decode prog_3_method_2_code 10 = .ok (.return_, 1) := by decide +kernel
abbrev M_Mesh_clear : zMT := (⟨"PeriodSlots$Mesh", "clear", "()V"⟩, prog_3_method_2_code, 1, none)
theorem k_Mesh_clear : zcall M_Mesh_clear 0 := ⟨zU_in (i := 281) (by decide +kernel) rfl, m56, ⟨by decide, by decide, by decide +kernel⟩, by decide⟩
def o_Mesh_clear (h : zHp) (b : Nat) : zHp :=
  (zup (zup h b 0 0) b 1 0)
theorem fr_Mesh_clear {h : zHp} {b : Nat} (c k : Nat) (q0 : ¬ (c = b ∧ k = 0)) (q1 : ¬ (c = b ∧ k = 1)) : (o_Mesh_clear h b) c k = h c k := by
  unfold o_Mesh_clear
  first | done | exact ((zup_fr (by omega)).trans (zup_fr (by omega)))
set_option maxHeartbeats 400000 in
set_option maxRecDepth 20000 in
theorem c_Mesh_clear (X : zXT) (h : zHp) (g : zLg) (b : Nat) (hb : b = 3 ∨ b = 15 ∨ b = 27) : zDi X M_Mesh_clear 0 [zR X b] h g none (o_Mesh_clear h b) g := by
  refine zDi_of "PeriodSlots$Mesh" prog_3_method_2_code 1 none rfl (by decide) [zO X b] rfl (fun _ q => q) (Nat.le_of_ble_eq_true rfl) ?_
  intro Γ Q C hQ
  refine zr_aload_n C d_X1_clear_0 rfl ?_
  refine zr_iconst C (v := 0) d_X1_clear_1 (by decide) ?_
  refine pf_Mesh_0 C hb m95 d_X1_clear_2 ?_
  refine zr_h (fun h1 eh1 => ?_)
  refine zr_aload_n C d_X1_clear_5 rfl ?_
  refine zr_iconst C (v := 0) d_X1_clear_6 (by decide) ?_
  refine pf_Mesh_1 C hb m99 d_X1_clear_7 ?_
  refine zr_h (fun h2 eh2 => ?_)
  have eR : o_Mesh_clear h b = h2 := (by subst eh2 eh1; unfold o_Mesh_clear; exact rfl)
  subst hQ
  rw [eR]
  exact zr_vret C d_X1_clear_10
theorem d_X1_copyRow_0 : decode prog_3_method_4_code 0 = .ok (.aload_n 0, 1) := by decide +kernel
theorem d_X1_copyRow_1 : decode prog_3_method_4_code 1 = .ok (.iconst 0, 1) := by decide +kernel
theorem d_X1_copyRow_2 : decode prog_3_method_4_code 2 = .ok (.aload_n 1, 1) := by decide +kernel
theorem d_X1_copyRow_3 : decode prog_3_method_4_code 3 = .ok (.iconst 0, 1) := by decide +kernel
theorem d_X1_copyRow_4 : decode prog_3_method_4_code 4 = .ok (.bipush 8, 2) := by decide +kernel
theorem d_X1_copyRow_6 : decode prog_3_method_4_code 6 = .ok (.invokestatic 56, 3) := by decide +kernel
theorem d_X1_copyRow_9 : decode prog_3_method_4_code 9 = .ok (.return_, 1) := by decide +kernel
abbrev M_Mesh_copyRow : zMT := (⟨"PeriodSlots$Mesh", "copyRow", "([I[I)V"⟩, prog_3_method_4_code, 2, none)
theorem k_Mesh_copyRow : zcall M_Mesh_copyRow 2 := ⟨zU_in (i := 381) (by decide +kernel) rfl, m56, ⟨by decide, by decide, by decide +kernel⟩, by decide⟩
def o_Mesh_copyRow (h : zHp) (s : Nat) (t : Nat) : zHp :=
  (zcp h s t 0 0 8)
theorem fr_Mesh_copyRow {h : zHp} {s : Nat} {t : Nat} (c k : Nat) (q0 : c ≠ t) : (o_Mesh_copyRow h s t) c k = h c k := by
  unfold o_Mesh_copyRow
  first | done | exact (zcp_fr (by assumption))
set_option maxHeartbeats 400000 in
set_option maxRecDepth 20000 in
theorem c_Mesh_copyRow (X : zXT) (h : zHp) (g : zLg) (s : Nat) (t : Nat) (hs : zar s 8) (ht : zar t 8) : zDi X M_Mesh_copyRow 1 [zR X s, zR X t] h g none (o_Mesh_copyRow h s t) g := by
  refine zDi_of "PeriodSlots$Mesh" prog_3_method_4_code 2 none rfl (by decide) [zO X s, zO X t] rfl (fun _ q => q) (Nat.le_of_ble_eq_true rfl) ?_
  intro Γ Q C hQ
  refine zr_aload_n C d_X1_copyRow_0 rfl ?_
  refine zr_iconst C (v := 0) d_X1_copyRow_1 (by decide) ?_
  refine zr_aload_n C d_X1_copyRow_2 rfl ?_
  refine zr_iconst C (v := 0) d_X1_copyRow_3 (by decide) ?_
  refine zr_bipush C (v := 8) d_X1_copyRow_4 (by decide) ?_
  refine zr_copy C hs ht m382 (0) (0) (8) rfl rfl rfl (by omega) (by omega) (by decide) (by decide) rfl (Nat.le_of_ble_eq_true rfl) (by decide) d_X1_copyRow_6 ?_
  refine zr_h (fun h1 eh1 => ?_)
  have eR : o_Mesh_copyRow h s t = h1 := (by subst eh1; unfold o_Mesh_copyRow; exact rfl)
  subst hQ
  rw [eR]
  exact zr_vret C d_X1_copyRow_9
theorem d_X1_copyFrom_0 : decode prog_3_method_3_code 0 = .ok (.aload_n 0, 1) := by decide +kernel
theorem d_X1_copyFrom_1 : decode prog_3_method_3_code 1 = .ok (.aload_n 1, 1) := by decide +kernel
theorem d_X1_copyFrom_2 : decode prog_3_method_3_code 2 = .ok (.getfield 45, 3) := by decide +kernel
theorem d_X1_copyFrom_5 : decode prog_3_method_3_code 5 = .ok (.putfield 45, 3) := by decide +kernel
theorem d_X1_copyFrom_8 : decode prog_3_method_3_code 8 = .ok (.aload_n 0, 1) := by decide +kernel
theorem d_X1_copyFrom_9 : decode prog_3_method_3_code 9 = .ok (.aload_n 1, 1) := by decide +kernel
theorem d_X1_copyFrom_10 : decode prog_3_method_3_code 10 = .ok (.getfield 49, 3) := by decide +kernel
theorem d_X1_copyFrom_13 : decode prog_3_method_3_code 13 = .ok (.putfield 49, 3) := by decide +kernel
theorem d_X1_copyFrom_16 : decode prog_3_method_3_code 16 = .ok (.aload_n 1, 1) := by decide +kernel
theorem d_X1_copyFrom_17 : decode prog_3_method_3_code 17 = .ok (.getfield 9, 3) := by decide +kernel
theorem d_X1_copyFrom_20 : decode prog_3_method_3_code 20 = .ok (.aload_n 0, 1) := by decide +kernel
theorem d_X1_copyFrom_21 : decode prog_3_method_3_code 21 = .ok (.getfield 9, 3) := by decide +kernel
theorem d_X1_copyFrom_24 : decode prog_3_method_3_code 24 = .ok (.invokestatic 52, 3) := by decide +kernel
theorem d_X1_copyFrom_27 : decode prog_3_method_3_code 27 = .ok (.aload_n 1, 1) := by decide +kernel
theorem d_X1_copyFrom_28 : decode prog_3_method_3_code 28 = .ok (.getfield 15, 3) := by decide +kernel
theorem d_X1_copyFrom_31 : decode prog_3_method_3_code 31 = .ok (.aload_n 0, 1) := by decide +kernel
theorem d_X1_copyFrom_32 : decode prog_3_method_3_code 32 = .ok (.getfield 15, 3) := by decide +kernel
theorem d_X1_copyFrom_35 : decode prog_3_method_3_code 35 = .ok (.invokestatic 52, 3) := by decide +kernel
theorem d_X1_copyFrom_38 : decode prog_3_method_3_code 38 = .ok (.aload_n 1, 1) := by decide +kernel
theorem d_X1_copyFrom_39 : decode prog_3_method_3_code 39 = .ok (.getfield 18, 3) := by decide +kernel
theorem d_X1_copyFrom_42 : decode prog_3_method_3_code 42 = .ok (.aload_n 0, 1) := by decide +kernel
theorem d_X1_copyFrom_43 : decode prog_3_method_3_code 43 = .ok (.getfield 18, 3) := by decide +kernel
theorem d_X1_copyFrom_46 : decode prog_3_method_3_code 46 = .ok (.invokestatic 52, 3) := by decide +kernel
theorem d_X1_copyFrom_49 : decode prog_3_method_3_code 49 = .ok (.aload_n 1, 1) := by decide +kernel
theorem d_X1_copyFrom_50 : decode prog_3_method_3_code 50 = .ok (.getfield 21, 3) := by decide +kernel
theorem d_X1_copyFrom_53 : decode prog_3_method_3_code 53 = .ok (.aload_n 0, 1) := by decide +kernel
theorem d_X1_copyFrom_54 : decode prog_3_method_3_code 54 = .ok (.getfield 21, 3) := by decide +kernel
theorem d_X1_copyFrom_57 : decode prog_3_method_3_code 57 = .ok (.invokestatic 52, 3) := by decide +kernel
theorem d_X1_copyFrom_60 : decode prog_3_method_3_code 60 = .ok (.aload_n 1, 1) := by decide +kernel
theorem d_X1_copyFrom_61 : decode prog_3_method_3_code 61 = .ok (.getfield 24, 3) := by decide +kernel
theorem d_X1_copyFrom_64 : decode prog_3_method_3_code 64 = .ok (.aload_n 0, 1) := by decide +kernel
theorem d_X1_copyFrom_65 : decode prog_3_method_3_code 65 = .ok (.getfield 24, 3) := by decide +kernel
theorem d_X1_copyFrom_68 : decode prog_3_method_3_code 68 = .ok (.invokestatic 52, 3) := by decide +kernel
theorem d_X1_copyFrom_71 : decode prog_3_method_3_code 71 = .ok (.aload_n 1, 1) := by decide +kernel
theorem d_X1_copyFrom_72 : decode prog_3_method_3_code 72 = .ok (.getfield 27, 3) := by decide +kernel
theorem d_X1_copyFrom_75 : decode prog_3_method_3_code 75 = .ok (.aload_n 0, 1) := by decide +kernel
theorem d_X1_copyFrom_76 : decode prog_3_method_3_code 76 = .ok (.getfield 27, 3) := by decide +kernel
theorem d_X1_copyFrom_79 : decode prog_3_method_3_code 79 = .ok (.invokestatic 52, 3) := by decide +kernel
theorem d_X1_copyFrom_82 : decode prog_3_method_3_code 82 = .ok (.aload_n 1, 1) := by decide +kernel
theorem d_X1_copyFrom_83 : decode prog_3_method_3_code 83 = .ok (.getfield 30, 3) := by decide +kernel
theorem d_X1_copyFrom_86 : decode prog_3_method_3_code 86 = .ok (.aload_n 0, 1) := by decide +kernel
theorem d_X1_copyFrom_87 : decode prog_3_method_3_code 87 = .ok (.getfield 30, 3) := by decide +kernel
theorem d_X1_copyFrom_90 : decode prog_3_method_3_code 90 = .ok (.invokestatic 52, 3) := by decide +kernel
theorem d_X1_copyFrom_93 : decode prog_3_method_3_code 93 = .ok (.aload_n 1, 1) := by decide +kernel
theorem d_X1_copyFrom_94 : decode prog_3_method_3_code 94 = .ok (.getfield 33, 3) := by decide +kernel
theorem d_X1_copyFrom_97 : decode prog_3_method_3_code 97 = .ok (.aload_n 0, 1) := by decide +kernel
theorem d_X1_copyFrom_98 : decode prog_3_method_3_code 98 = .ok (.getfield 33, 3) := by decide +kernel
theorem d_X1_copyFrom_101 : decode prog_3_method_3_code 101 = .ok (.invokestatic 52, 3) := by decide +kernel
theorem d_X1_copyFrom_104 : decode prog_3_method_3_code 104 = .ok (.aload_n 1, 1) := by decide +kernel
theorem d_X1_copyFrom_105 : decode prog_3_method_3_code 105 = .ok (.getfield 36, 3) := by decide +kernel
theorem d_X1_copyFrom_108 : decode prog_3_method_3_code 108 = .ok (.aload_n 0, 1) := by decide +kernel
theorem d_X1_copyFrom_109 : decode prog_3_method_3_code 109 = .ok (.getfield 36, 3) := by decide +kernel
theorem d_X1_copyFrom_112 : decode prog_3_method_3_code 112 = .ok (.invokestatic 52, 3) := by decide +kernel
theorem d_X1_copyFrom_115 : decode prog_3_method_3_code 115 = .ok (.aload_n 1, 1) := by decide +kernel
theorem d_X1_copyFrom_116 : decode prog_3_method_3_code 116 = .ok (.getfield 39, 3) := by decide +kernel
theorem d_X1_copyFrom_119 : decode prog_3_method_3_code 119 = .ok (.aload_n 0, 1) := by decide +kernel
theorem d_X1_copyFrom_120 : decode prog_3_method_3_code 120 = .ok (.getfield 39, 3) := by decide +kernel
theorem d_X1_copyFrom_123 : decode prog_3_method_3_code 123 = .ok (.invokestatic 52, 3) := by decide +kernel
theorem d_X1_copyFrom_126 : decode prog_3_method_3_code 126 = .ok (.return_, 1) := by decide +kernel
abbrev M_Mesh_copyFrom : zMT := (⟨"PeriodSlots$Mesh", "copyFrom", "(LPeriodSlots$Mesh;)V"⟩, prog_3_method_3_code, 2, none)
theorem k_Mesh_copyFrom : zcall M_Mesh_copyFrom 1 := ⟨zU_in (i := 378) (by decide +kernel) rfl, m56, ⟨by decide, by decide, by decide +kernel⟩, by decide⟩
def o_Mesh_copyFrom (h : zHp) (b : Nat) (o : Nat) : zHp :=
  (o_Mesh_copyRow (o_Mesh_copyRow (o_Mesh_copyRow (o_Mesh_copyRow (o_Mesh_copyRow (o_Mesh_copyRow (o_Mesh_copyRow (o_Mesh_copyRow (o_Mesh_copyRow (o_Mesh_copyRow (zup (zup h b 0 (h o 0)) b 1 ((zup h b 0 (h o 0)) o 1)) (o + 1) (b + 1)) (o + 2) (b + 2)) (o + 3) (b + 3)) (o + 4) (b + 4)) (o + 5) (b + 5)) (o + 6) (b + 6)) (o + 7) (b + 7)) (o + 8) (b + 8)) (o + 9) (b + 9)) (o + 10) (b + 10))
theorem fr_Mesh_copyFrom {h : zHp} {b : Nat} {o : Nat} (c k : Nat) (q0 : ¬ (c = b ∧ k = 0)) (q1 : ¬ (c = b ∧ k = 1)) (q2 : c ≠ b + 1) (q3 : c ≠ b + 2) (q4 : c ≠ b + 3) (q5 : c ≠ b + 4) (q6 : c ≠ b + 5) (q7 : c ≠ b + 6) (q8 : c ≠ b + 7) (q9 : c ≠ b + 8) (q10 : c ≠ b + 9) (q11 : c ≠ b + 10) : (o_Mesh_copyFrom h b o) c k = h c k := by
  unfold o_Mesh_copyFrom
  first | done | exact ((fr_Mesh_copyRow _ _ (by assumption)).trans ((fr_Mesh_copyRow _ _ (by assumption)).trans ((fr_Mesh_copyRow _ _ (by assumption)).trans ((fr_Mesh_copyRow _ _ (by assumption)).trans ((fr_Mesh_copyRow _ _ (by assumption)).trans ((fr_Mesh_copyRow _ _ (by assumption)).trans ((fr_Mesh_copyRow _ _ (by assumption)).trans ((fr_Mesh_copyRow _ _ (by assumption)).trans ((fr_Mesh_copyRow _ _ (by assumption)).trans ((fr_Mesh_copyRow _ _ (by assumption)).trans ((zup_fr (by omega)).trans (zup_fr (by omega)))))))))))))
set_option maxHeartbeats 400000 in
set_option maxRecDepth 20000 in
theorem c_Mesh_copyFrom (X : zXT) (h : zHp) (g : zLg) (b : Nat) (o : Nat) (hb : b = 3 ∨ b = 15 ∨ b = 27) (ho : o = 3 ∨ o = 15 ∨ o = 27) : zDi X M_Mesh_copyFrom 2 [zR X b, zR X o] h g none (o_Mesh_copyFrom h b o) g := by
  refine zDi_of "PeriodSlots$Mesh" prog_3_method_3_code 2 none rfl (by decide) [zO X b, zO X o] rfl (fun _ q => q) (Nat.le_of_ble_eq_true rfl) ?_
  intro Γ Q C hQ
  refine zr_aload_n C d_X1_copyFrom_0 rfl ?_
  refine zr_aload_n C d_X1_copyFrom_1 rfl ?_
  refine gf_Mesh_0 C ho m95 d_X1_copyFrom_2 ?_
  refine pf_Mesh_0 C hb m95 d_X1_copyFrom_5 ?_
  refine zr_h (fun h1 eh1 => ?_)
  refine zr_aload_n C d_X1_copyFrom_8 rfl ?_
  refine zr_aload_n C d_X1_copyFrom_9 rfl ?_
  refine gf_Mesh_1 C ho m99 d_X1_copyFrom_10 ?_
  refine pf_Mesh_1 C hb m99 d_X1_copyFrom_13 ?_
  refine zr_h (fun h2 eh2 => ?_)
  refine zr_aload_n C d_X1_copyFrom_16 rfl ?_
  refine gf_Mesh_3 C ho m104 d_X1_copyFrom_17 ?_
  refine zr_aload_n C d_X1_copyFrom_20 rfl ?_
  refine gf_Mesh_3 C hb m104 d_X1_copyFrom_21 ?_
  refine zr_callSv (As := [zR X (o + 1), zR X (b + 1)]) (st := []) C (c_Mesh_copyRow X h2 g (o + 1) (b + 1) (za_mesh_1 ho) (za_mesh_1 hb)) k_Mesh_copyRow m379 m380 rfl (by decide) rfl (Nat.le_of_ble_eq_true rfl) d_X1_copyFrom_24 ?_
  refine zr_h (fun h3 eh3 => ?_)
  refine zr_aload_n C d_X1_copyFrom_27 rfl ?_
  refine gf_Mesh_4 C ho m107 d_X1_copyFrom_28 ?_
  refine zr_aload_n C d_X1_copyFrom_31 rfl ?_
  refine gf_Mesh_4 C hb m107 d_X1_copyFrom_32 ?_
  refine zr_callSv (As := [zR X (o + 2), zR X (b + 2)]) (st := []) C (c_Mesh_copyRow X h3 g (o + 2) (b + 2) (za_mesh_2 ho) (za_mesh_2 hb)) k_Mesh_copyRow m379 m380 rfl (by decide) rfl (Nat.le_of_ble_eq_true rfl) d_X1_copyFrom_35 ?_
  refine zr_h (fun h4 eh4 => ?_)
  refine zr_aload_n C d_X1_copyFrom_38 rfl ?_
  refine gf_Mesh_5 C ho m111 d_X1_copyFrom_39 ?_
  refine zr_aload_n C d_X1_copyFrom_42 rfl ?_
  refine gf_Mesh_5 C hb m111 d_X1_copyFrom_43 ?_
  refine zr_callSv (As := [zR X (o + 3), zR X (b + 3)]) (st := []) C (c_Mesh_copyRow X h4 g (o + 3) (b + 3) (za_mesh_3 ho) (za_mesh_3 hb)) k_Mesh_copyRow m379 m380 rfl (by decide) rfl (Nat.le_of_ble_eq_true rfl) d_X1_copyFrom_46 ?_
  refine zr_h (fun h5 eh5 => ?_)
  refine zr_aload_n C d_X1_copyFrom_49 rfl ?_
  refine gf_Mesh_6 C ho m114 d_X1_copyFrom_50 ?_
  refine zr_aload_n C d_X1_copyFrom_53 rfl ?_
  refine gf_Mesh_6 C hb m114 d_X1_copyFrom_54 ?_
  refine zr_callSv (As := [zR X (o + 4), zR X (b + 4)]) (st := []) C (c_Mesh_copyRow X h5 g (o + 4) (b + 4) (za_mesh_4 ho) (za_mesh_4 hb)) k_Mesh_copyRow m379 m380 rfl (by decide) rfl (Nat.le_of_ble_eq_true rfl) d_X1_copyFrom_57 ?_
  refine zr_h (fun h6 eh6 => ?_)
  refine zr_aload_n C d_X1_copyFrom_60 rfl ?_
  refine gf_Mesh_7 C ho m117 d_X1_copyFrom_61 ?_
  refine zr_aload_n C d_X1_copyFrom_64 rfl ?_
  refine gf_Mesh_7 C hb m117 d_X1_copyFrom_65 ?_
  refine zr_callSv (As := [zR X (o + 5), zR X (b + 5)]) (st := []) C (c_Mesh_copyRow X h6 g (o + 5) (b + 5) (za_mesh_5 ho) (za_mesh_5 hb)) k_Mesh_copyRow m379 m380 rfl (by decide) rfl (Nat.le_of_ble_eq_true rfl) d_X1_copyFrom_68 ?_
  refine zr_h (fun h7 eh7 => ?_)
  refine zr_aload_n C d_X1_copyFrom_71 rfl ?_
  refine gf_Mesh_8 C ho m118 d_X1_copyFrom_72 ?_
  refine zr_aload_n C d_X1_copyFrom_75 rfl ?_
  refine gf_Mesh_8 C hb m118 d_X1_copyFrom_76 ?_
  refine zr_callSv (As := [zR X (o + 6), zR X (b + 6)]) (st := []) C (c_Mesh_copyRow X h7 g (o + 6) (b + 6) (za_mesh_6 ho) (za_mesh_6 hb)) k_Mesh_copyRow m379 m380 rfl (by decide) rfl (Nat.le_of_ble_eq_true rfl) d_X1_copyFrom_79 ?_
  refine zr_h (fun h8 eh8 => ?_)
  refine zr_aload_n C d_X1_copyFrom_82 rfl ?_
  refine gf_Mesh_9 C ho m121 d_X1_copyFrom_83 ?_
  refine zr_aload_n C d_X1_copyFrom_86 rfl ?_
  refine gf_Mesh_9 C hb m121 d_X1_copyFrom_87 ?_
  refine zr_callSv (As := [zR X (o + 7), zR X (b + 7)]) (st := []) C (c_Mesh_copyRow X h8 g (o + 7) (b + 7) (za_mesh_7 ho) (za_mesh_7 hb)) k_Mesh_copyRow m379 m380 rfl (by decide) rfl (Nat.le_of_ble_eq_true rfl) d_X1_copyFrom_90 ?_
  refine zr_h (fun h9 eh9 => ?_)
  refine zr_aload_n C d_X1_copyFrom_93 rfl ?_
  refine gf_Mesh_10 C ho m123 d_X1_copyFrom_94 ?_
  refine zr_aload_n C d_X1_copyFrom_97 rfl ?_
  refine gf_Mesh_10 C hb m123 d_X1_copyFrom_98 ?_
  refine zr_callSv (As := [zR X (o + 8), zR X (b + 8)]) (st := []) C (c_Mesh_copyRow X h9 g (o + 8) (b + 8) (za_mesh_8 ho) (za_mesh_8 hb)) k_Mesh_copyRow m379 m380 rfl (by decide) rfl (Nat.le_of_ble_eq_true rfl) d_X1_copyFrom_101 ?_
  refine zr_h (fun h10 eh10 => ?_)
  refine zr_aload_n C d_X1_copyFrom_104 rfl ?_
  refine gf_Mesh_11 C ho m124 d_X1_copyFrom_105 ?_
  refine zr_aload_n C d_X1_copyFrom_108 rfl ?_
  refine gf_Mesh_11 C hb m124 d_X1_copyFrom_109 ?_
  refine zr_callSv (As := [zR X (o + 9), zR X (b + 9)]) (st := []) C (c_Mesh_copyRow X h10 g (o + 9) (b + 9) (za_mesh_9 ho) (za_mesh_9 hb)) k_Mesh_copyRow m379 m380 rfl (by decide) rfl (Nat.le_of_ble_eq_true rfl) d_X1_copyFrom_112 ?_
  refine zr_h (fun h11 eh11 => ?_)
  refine zr_aload_n C d_X1_copyFrom_115 rfl ?_
  refine gf_Mesh_12 C ho m126 d_X1_copyFrom_116 ?_
  refine zr_aload_n C d_X1_copyFrom_119 rfl ?_
  refine gf_Mesh_12 C hb m126 d_X1_copyFrom_120 ?_
  refine zr_callSv (As := [zR X (o + 10), zR X (b + 10)]) (st := []) C (c_Mesh_copyRow X h11 g (o + 10) (b + 10) (za_mesh_10 ho) (za_mesh_10 hb)) k_Mesh_copyRow m379 m380 rfl (by decide) rfl (Nat.le_of_ble_eq_true rfl) d_X1_copyFrom_123 ?_
  refine zr_h (fun h12 eh12 => ?_)
  have eR : o_Mesh_copyFrom h b o = h12 := (by subst eh12 eh11 eh10 eh9 eh8 eh7 eh6 eh5 eh4 eh3 eh2 eh1; unfold o_Mesh_copyFrom; exact rfl)
  subst hQ
  rw [eR]
  exact zr_vret C d_X1_copyFrom_126
theorem d_X1_exists_0 : decode prog_3_method_6_code 0 = .ok (.iload_n 1, 1) := by decide +kernel
theorem d_X1_exists_1 : decode prog_3_method_6_code 1 = .ok (.ifCond .lt 15, 3) := by decide +kernel
theorem d_X1_exists_4 : decode prog_3_method_6_code 4 = .ok (.iload_n 1, 1) := by decide +kernel
theorem d_X1_exists_5 : decode prog_3_method_6_code 5 = .ok (.aload_n 0, 1) := by decide +kernel
theorem d_X1_exists_6 : decode prog_3_method_6_code 6 = .ok (.getfield 45, 3) := by decide +kernel
theorem d_X1_exists_9 : decode prog_3_method_6_code 9 = .ok (.if_icmp .ge 7, 3) := by decide +kernel
theorem d_X1_exists_12 : decode prog_3_method_6_code 12 = .ok (.iconst 1, 1) := by decide +kernel
theorem d_X1_exists_13 : decode prog_3_method_6_code 13 = .ok (.goto 4, 3) := by decide +kernel
theorem d_X1_exists_16 : decode prog_3_method_6_code 16 = .ok (.iconst 0, 1) := by decide +kernel
theorem d_X1_exists_17 : decode prog_3_method_6_code 17 = .ok (.ireturn, 1) := by decide +kernel
abbrev M_Mesh_exists : zMT := (⟨"PeriodSlots$Mesh", "exists", "(I)Z"⟩, prog_3_method_6_code, 2, (some .boolean))
theorem k_Mesh_exists : zcall M_Mesh_exists 1 := ⟨zU_in (i := 361) (by decide +kernel) rfl, m56, ⟨by decide, by decide, by decide +kernel⟩, by decide⟩
def o_Mesh_exists (h : zHp) (b : Nat) (v : Int32) : Bool :=
  (!(decide (v < 0)) && (!(decide ((h b 0) ≤ v))))
set_option maxHeartbeats 400000 in
set_option maxRecDepth 20000 in
theorem c_Mesh_exists (X : zXT) (h : zHp) (g : zLg) (b : Nat) (v : Int32) (hb : b = 3 ∨ b = 15 ∨ b = 27) : zDi X M_Mesh_exists 0 [zR X b, .int v] h g (zI (zb (o_Mesh_exists h b v))) h g := by
  refine zDi_of "PeriodSlots$Mesh" prog_3_method_6_code 2 (some .boolean) rfl (by decide) [zO X b, zI v] rfl (fun _ q => q) (Nat.le_of_ble_eq_true rfl) ?_
  intro Γ Q C hQ
  refine zr_iload_n C d_X1_exists_0 rfl ?_
  suffices hJ1 : ∀ (y1 : Bool), (!(decide (v < 0)) && (!(decide ((h b 0) ≤ v)))) = y1 → zV X Γ Q 17 [none, none] [.int (zb y1)] h g by
    refine zr_if_lt C 16 d_X1_exists_1 (by decide) (fun c1 => ?_) (fun c1 => ?_)
    · refine zr_iconst C (v := 0) d_X1_exists_16 (by decide) ?_
      refine zr_lv [none, none] (by simp [zle]) ?_
      exact hJ1 false (by simp [c1])
    · refine zr_iload_n C d_X1_exists_4 rfl ?_
      refine zr_aload_n C d_X1_exists_5 rfl ?_
      refine gf_Mesh_0 C hb m95 d_X1_exists_6 ?_
      refine zr_icmp_ge C 16 d_X1_exists_9 (by decide) (fun c9 => ?_) (fun c9 => ?_)
      · refine zr_iconst C (v := 0) d_X1_exists_16 (by decide) ?_
        refine zr_lv [none, none] (by simp [zle]) ?_
        exact hJ1 false (by simp [c1, c9])
      · refine zr_iconst C (v := 1) d_X1_exists_12 (by decide) ?_
        refine zr_goto C 17 d_X1_exists_13 (by decide) ?_
        refine zr_lv [none, none] (by simp [zle]) ?_
        exact hJ1 true (by simp [c1, c9])
  intro y1 ey1
  have eR : o_Mesh_exists h b v = y1 := (by subst ey1; unfold o_Mesh_exists; exact rfl)
  subst hQ
  rw [eR]
  exact zr_iretz C (zb_01 _) d_X1_exists_17
theorem d_X1_wrapped_0 : decode prog_3_method_22_code 0 = .ok (.iload_n 2, 1) := by decide +kernel
theorem d_X1_wrapped_1 : decode prog_3_method_22_code 1 = .ok (.aload_n 0, 1) := by decide +kernel
theorem d_X1_wrapped_2 : decode prog_3_method_22_code 2 = .ok (.getfield 9, 3) := by decide +kernel
theorem d_X1_wrapped_5 : decode prog_3_method_22_code 5 = .ok (.iload_n 1, 1) := by decide +kernel
theorem d_X1_wrapped_6 : decode prog_3_method_22_code 6 = .ok (.iaload, 1) := by decide +kernel
theorem d_X1_wrapped_7 : decode prog_3_method_22_code 7 = .ok (.iconst 1, 1) := by decide +kernel
theorem d_X1_wrapped_8 : decode prog_3_method_22_code 8 = .ok (.isub, 1) := by decide +kernel
theorem d_X1_wrapped_9 : decode prog_3_method_22_code 9 = .ok (.iand, 1) := by decide +kernel
theorem d_X1_wrapped_10 : decode prog_3_method_22_code 10 = .ok (.ireturn, 1) := by decide +kernel
abbrev M_Mesh_wrapped : zMT := (⟨"PeriodSlots$Mesh", "wrapped", "(II)I"⟩, prog_3_method_22_code, 3, (some .int))
theorem k_Mesh_wrapped : zcall M_Mesh_wrapped 2 := ⟨zU_in (i := 297) (by decide +kernel) rfl, m56, ⟨by decide, by decide, by decide +kernel⟩, by decide⟩
def o_Mesh_wrapped (h : zHp) (b : Nat) (v : Nat) (offset : Int32) : Int32 :=
  (offset &&& ((h (b + 1) v) - 1))
set_option maxHeartbeats 400000 in
set_option maxRecDepth 20000 in
theorem c_Mesh_wrapped (X : zXT) (h : zHp) (g : zLg) (b : Nat) (v : Nat) (offset : Int32) {x_v : Int32} (e_v : x_v = nI v) (hb : b = 3 ∨ b = 15 ∨ b = 27) (hl0 : v < 8) : zDi X M_Mesh_wrapped 0 [zR X b, .int x_v, .int offset] h g (zI (o_Mesh_wrapped h b v offset)) h g := by
  subst e_v
  refine zDi_of "PeriodSlots$Mesh" prog_3_method_22_code 3 (some .int) rfl (by decide) [zO X b, zI (nI v), zI offset] rfl (fun _ q => q) (Nat.le_of_ble_eq_true rfl) ?_
  intro Γ Q C hQ
  refine zr_iload_n C d_X1_wrapped_0 rfl ?_
  refine zr_aload_n C d_X1_wrapped_1 rfl ?_
  refine gf_Mesh_3 C hb m104 d_X1_wrapped_2 ?_
  refine zr_iload_n C d_X1_wrapped_5 rfl ?_
  refine zr_iald C (za_mesh_1 hb) (v) rfl (by omega) (by decide) d_X1_wrapped_6 ?_
  refine zr_iconst C (v := 1) d_X1_wrapped_7 (by decide) ?_
  refine zr_isub C d_X1_wrapped_8 ?_
  refine zr_iand C d_X1_wrapped_9 ?_
  have eR : o_Mesh_wrapped h b v offset = (offset &&& ((h (b + 1) v) - 1)) := (by unfold o_Mesh_wrapped; exact rfl)
  subst hQ
  rw [eR]
  exact zr_ireti C d_X1_wrapped_10
theorem d_X1_ticksAt_0 : decode prog_3_method_23_code 0 = .ok (.iload_n 2, 1) := by decide +kernel
theorem d_X1_ticksAt_1 : decode prog_3_method_23_code 1 = .ok (.bipush (-9), 2) := by decide +kernel
theorem d_X1_ticksAt_3 : decode prog_3_method_23_code 3 = .ok (.if_icmp .ne 7, 3) := by decide +kernel
theorem d_X1_ticksAt_6 : decode prog_3_method_23_code 6 = .ok (.iconst 0, 1) := by decide +kernel
theorem d_X1_ticksAt_7 : decode prog_3_method_23_code 7 = .ok (.goto 11, 3) := by decide +kernel
theorem d_X1_ticksAt_10 : decode prog_3_method_23_code 10 = .ok (.aload_n 0, 1) := by decide +kernel
theorem d_X1_ticksAt_11 : decode prog_3_method_23_code 11 = .ok (.getfield 24, 3) := by decide +kernel
theorem d_X1_ticksAt_14 : decode prog_3_method_23_code 14 = .ok (.iload_n 1, 1) := by decide +kernel
theorem d_X1_ticksAt_15 : decode prog_3_method_23_code 15 = .ok (.iaload, 1) := by decide +kernel
theorem d_X1_ticksAt_16 : decode prog_3_method_23_code 16 = .ok (.iload_n 2, 1) := by decide +kernel
theorem d_X1_ticksAt_17 : decode prog_3_method_23_code 17 = .ok (.ishl, 1) := by decide +kernel
theorem d_X1_ticksAt_18 : decode prog_3_method_23_code 18 = .ok (.ireturn, 1) := by decide +kernel
abbrev M_Mesh_ticksAt : zMT := (⟨"PeriodSlots$Mesh", "ticksAt", "(II)I"⟩, prog_3_method_23_code, 3, (some .int))
theorem k_Mesh_ticksAt : zcall M_Mesh_ticksAt 2 := ⟨zU_in (i := 312) (by decide +kernel) rfl, m56, ⟨by decide, by decide, by decide +kernel⟩, by decide⟩
def o_Mesh_ticksAt (h : zHp) (b : Nat) (v : Nat) (offset : Int32) : Int32 :=
  (if offset = (-9) then 0 else (zshl (h (b + 5) v) offset))
set_option maxHeartbeats 400000 in
set_option maxRecDepth 20000 in
theorem c_Mesh_ticksAt (X : zXT) (h : zHp) (g : zLg) (b : Nat) (v : Nat) (offset : Int32) {x_v : Int32} (e_v : x_v = nI v) (hb : b = 3 ∨ b = 15 ∨ b = 27) (hl0 : v < 8) : zDi X M_Mesh_ticksAt 0 [zR X b, .int x_v, .int offset] h g (zI (o_Mesh_ticksAt h b v offset)) h g := by
  subst e_v
  refine zDi_of "PeriodSlots$Mesh" prog_3_method_23_code 3 (some .int) rfl (by decide) [zO X b, zI (nI v), zI offset] rfl (fun _ q => q) (Nat.le_of_ble_eq_true rfl) ?_
  intro Γ Q C hQ
  refine zr_iload_n C d_X1_ticksAt_0 rfl ?_
  refine zr_bipush C (v := (-9)) d_X1_ticksAt_1 (by decide) ?_
  suffices hJ3 : ∀ (y1 : Int32), (if offset = (-9) then 0 else (zshl (h (b + 5) v) offset)) = y1 → zV X Γ Q 18 [none, none, none] [.int y1] h g by
    refine zr_icmp_ne C 10 d_X1_ticksAt_3 (by decide) (fun c3 => ?_) (fun c3 => ?_)
    · refine zr_aload_n C d_X1_ticksAt_10 rfl ?_
      refine gf_Mesh_7 C hb m117 d_X1_ticksAt_11 ?_
      refine zr_iload_n C d_X1_ticksAt_14 rfl ?_
      refine zr_iald C (za_mesh_5 hb) (v) rfl (by omega) (by decide) d_X1_ticksAt_15 ?_
      refine zr_iload_n C d_X1_ticksAt_16 rfl ?_
      refine zr_ishl C d_X1_ticksAt_17 ?_
      refine zr_lv [none, none, none] (by simp [zle]) ?_
      exact hJ3 (zshl (h (b + 5) v) offset) (((if_neg c3)))
    · refine zr_iconst C (v := 0) d_X1_ticksAt_6 (by decide) ?_
      refine zr_goto C 18 d_X1_ticksAt_7 (by decide) ?_
      refine zr_lv [none, none, none] (by simp [zle]) ?_
      exact hJ3 0 (((if_pos c3)))
  intro y1 ey1
  have eR : o_Mesh_ticksAt h b v offset = y1 := (by subst ey1; unfold o_Mesh_ticksAt; exact rfl)
  subst hQ
  rw [eR]
  exact zr_ireti C d_X1_ticksAt_18
theorem d_X1_markTicks_0 : decode prog_3_method_24_code 0 = .ok (.iconst 0, 1) := by decide +kernel
theorem d_X1_markTicks_1 : decode prog_3_method_24_code 1 = .ok (.istore_n 1, 1) := by decide +kernel
theorem d_X1_markTicks_2 : decode prog_3_method_24_code 2 = .ok (.iload_n 1, 1) := by decide +kernel
theorem d_X1_markTicks_3 : decode prog_3_method_24_code 3 = .ok (.aload_n 0, 1) := by decide +kernel
theorem d_X1_markTicks_4 : decode prog_3_method_24_code 4 = .ok (.getfield 45, 3) := by decide +kernel
theorem d_X1_markTicks_7 : decode prog_3_method_24_code 7 = .ok (.if_icmp .ge 50, 3) := by decide +kernel
theorem d_X1_markTicks_10 : decode prog_3_method_24_code 10 = .ok (.aload_n 0, 1) := by decide +kernel
theorem d_X1_markTicks_11 : decode prog_3_method_24_code 11 = .ok (.getfield 36, 3) := by decide +kernel
theorem d_X1_markTicks_14 : decode prog_3_method_24_code 14 = .ok (.iload_n 1, 1) := by decide +kernel
theorem d_X1_markTicks_15 : decode prog_3_method_24_code 15 = .ok (.aload_n 0, 1) := by decide +kernel
theorem d_X1_markTicks_16 : decode prog_3_method_24_code 16 = .ok (.iload_n 1, 1) := by decide +kernel
theorem d_X1_markTicks_17 : decode prog_3_method_24_code 17 = .ok (.aload_n 0, 1) := by decide +kernel
theorem d_X1_markTicks_18 : decode prog_3_method_24_code 18 = .ok (.getfield 18, 3) := by decide +kernel
theorem d_X1_markTicks_21 : decode prog_3_method_24_code 21 = .ok (.iload_n 1, 1) := by decide +kernel
theorem d_X1_markTicks_22 : decode prog_3_method_24_code 22 = .ok (.iaload, 1) := by decide +kernel
theorem d_X1_markTicks_23 : decode prog_3_method_24_code 23 = .ok (.invokevirtual 119, 3) := by decide +kernel
theorem d_X1_markTicks_26 : decode prog_3_method_24_code 26 = .ok (.iastore, 1) := by decide +kernel
theorem d_X1_markTicks_27 : decode prog_3_method_24_code 27 = .ok (.aload_n 0, 1) := by decide +kernel
theorem d_X1_markTicks_28 : decode prog_3_method_24_code 28 = .ok (.getfield 39, 3) := by decide +kernel
theorem d_X1_markTicks_31 : decode prog_3_method_24_code 31 = .ok (.iload_n 1, 1) := by decide +kernel
theorem d_X1_markTicks_32 : decode prog_3_method_24_code 32 = .ok (.aload_n 0, 1) := by decide +kernel
theorem d_X1_markTicks_33 : decode prog_3_method_24_code 33 = .ok (.getfield 36, 3) := by decide +kernel
theorem d_X1_markTicks_36 : decode prog_3_method_24_code 36 = .ok (.iload_n 1, 1) := by decide +kernel
theorem d_X1_markTicks_37 : decode prog_3_method_24_code 37 = .ok (.iaload, 1) := by decide +kernel
theorem d_X1_markTicks_38 : decode prog_3_method_24_code 38 = .ok (.aload_n 0, 1) := by decide +kernel
theorem d_X1_markTicks_39 : decode prog_3_method_24_code 39 = .ok (.iload_n 1, 1) := by decide +kernel
theorem d_X1_markTicks_40 : decode prog_3_method_24_code 40 = .ok (.aload_n 0, 1) := by decide +kernel
theorem d_X1_markTicks_41 : decode prog_3_method_24_code 41 = .ok (.getfield 21, 3) := by decide +kernel
theorem d_X1_markTicks_44 : decode prog_3_method_24_code 44 = .ok (.iload_n 1, 1) := by decide +kernel
theorem d_X1_markTicks_45 : decode prog_3_method_24_code 45 = .ok (.iaload, 1) := by decide +kernel
theorem d_X1_markTicks_46 : decode prog_3_method_24_code 46 = .ok (.invokevirtual 119, 3) := by decide +kernel
theorem d_X1_markTicks_49 : decode prog_3_method_24_code 49 = .ok (.ior, 1) := by decide +kernel
theorem d_X1_markTicks_50 : decode prog_3_method_24_code 50 = .ok (.iastore, 1) := by decide +kernel
theorem d_X1_markTicks_51 : decode prog_3_method_24_code 51 = .ok (.iinc 1 1, 3) := by decide +kernel
theorem d_X1_markTicks_54 : decode prog_3_method_24_code 54 = .ok (.goto (-52), 3) := by decide +kernel
theorem d_X1_markTicks_57 : decode prog_3_method_24_code 57 = .ok (.return_, 1) := by decide +kernel
abbrev M_Mesh_markTicks : zMT := (⟨"PeriodSlots$Mesh", "markTicks", "()V"⟩, prog_3_method_24_code, 2, none)
theorem k_Mesh_markTicks : zcall M_Mesh_markTicks 0 := ⟨zU_in (i := 308) (by decide +kernel) rfl, m56, ⟨by decide, by decide, by decide +kernel⟩, by decide⟩
def o_Mesh_markTicks (h : zHp) (b : Nat) : zHp :=
  (zrep (fun (i2_1 : Nat) (s2_1 : zHp) => (zup (zup s2_1 (b + 9) i2_1 (o_Mesh_ticksAt s2_1 b i2_1 (s2_1 (b + 3) i2_1))) (b + 10) i2_1 (((zup s2_1 (b + 9) i2_1 (o_Mesh_ticksAt s2_1 b i2_1 (s2_1 (b + 3) i2_1))) (b + 9) i2_1) ||| (o_Mesh_ticksAt (zup s2_1 (b + 9) i2_1 (o_Mesh_ticksAt s2_1 b i2_1 (s2_1 (b + 3) i2_1))) b i2_1 ((zup s2_1 (b + 9) i2_1 (o_Mesh_ticksAt s2_1 b i2_1 (s2_1 (b + 3) i2_1))) (b + 4) i2_1))))) h (zcn (h b 0)))
theorem fr_Mesh_markTicks {h : zHp} {b : Nat} (c k : Nat) (q0 : c ≠ b + 9) (q1 : c ≠ b + 10) : (o_Mesh_markTicks h b) c k = h c k := by
  unfold o_Mesh_markTicks
  have hI2_1 := zrep_inv (f := (fun (i2_1 : Nat) (s2_1 : zHp) => (zup (zup s2_1 (b + 9) i2_1 (o_Mesh_ticksAt s2_1 b i2_1 (s2_1 (b + 3) i2_1))) (b + 10) i2_1 (((zup s2_1 (b + 9) i2_1 (o_Mesh_ticksAt s2_1 b i2_1 (s2_1 (b + 3) i2_1))) (b + 9) i2_1) ||| (o_Mesh_ticksAt (zup s2_1 (b + 9) i2_1 (o_Mesh_ticksAt s2_1 b i2_1 (s2_1 (b + 3) i2_1))) b i2_1 ((zup s2_1 (b + 9) i2_1 (o_Mesh_ticksAt s2_1 b i2_1 (s2_1 (b + 3) i2_1))) (b + 4) i2_1)))))) (a := h) (fun _ s2_1 => ∀ c k : Nat, c ≠ b + 9 → c ≠ b + 10 → s2_1 c k = h c k) (zcn (h b 0)) (fun _ _ _ _ => rfl) (fun i2_1 s2_1 hi2_1 hI2_1 => (fun c k q0 q1 => (by (try dsimp only); exact ((zup_fr (Or.inl (by assumption))).trans ((zup_fr (Or.inl (by assumption))).trans (hI2_1 _ _ (by assumption) (by assumption)))))))
  first | done | exact (hI2_1 _ _ (by assumption) (by assumption))
set_option maxHeartbeats 400000 in
set_option maxRecDepth 20000 in
theorem c_Mesh_markTicks (X : zXT) (h : zHp) (g : zLg) (b : Nat) (hb : b = 3 ∨ b = 15 ∨ b = 27) (hf0 : zfit h b 0 8) : zDi X M_Mesh_markTicks 1 [zR X b] h g none (o_Mesh_markTicks h b) g := by
  have hf0_1 := hf0.1
  refine zDi_of "PeriodSlots$Mesh" prog_3_method_24_code 2 none rfl (by decide) [zO X b, none] rfl (fun _ q => q) (Nat.le_of_ble_eq_true rfl) ?_
  intro Γ Q C hQ
  refine zr_iconst C (v := 0) d_X1_markTicks_0 (by decide) ?_
  refine zr_istore_n C [zO X b, zI 0] d_X1_markTicks_1 (Nat.le_of_ble_eq_true rfl) rfl rfl ?_
  refine zfor (f := (fun (i2_1 : Nat) (s2_1 : zHp) => (zup (zup s2_1 (b + 9) i2_1 (o_Mesh_ticksAt s2_1 b i2_1 (s2_1 (b + 3) i2_1))) (b + 10) i2_1 (((zup s2_1 (b + 9) i2_1 (o_Mesh_ticksAt s2_1 b i2_1 (s2_1 (b + 3) i2_1))) (b + 9) i2_1) ||| (o_Mesh_ticksAt (zup s2_1 (b + 9) i2_1 (o_Mesh_ticksAt s2_1 b i2_1 (s2_1 (b + 3) i2_1))) b i2_1 ((zup s2_1 (b + 9) i2_1 (o_Mesh_ticksAt s2_1 b i2_1 (s2_1 (b + 3) i2_1))) (b + 4) i2_1)))))) (a := h) (fun i2_1 s2_1 => zV X Γ Q 2 [zO X b, zI (nI i2_1)] [] s2_1 g) (fun _ s2_1 => ∀ c k : Nat, c ≠ b + 9 → c ≠ b + 10 → s2_1 c k = h c k) (zcn (h b 0)) (fun _ _ _ _ => rfl) (fun i2_1 s2_1 hi2_1 hI2_1 => ⟨(fun c k q0 q1 => (by (try dsimp only); exact ((zup_fr (Or.inl (by assumption))).trans ((zup_fr (Or.inl (by assumption))).trans (hI2_1 _ _ (by assumption) (by assumption)))))), fun hk2_1 => ?_⟩) (fun r2_1 er2_1 hI2_1 => ?_)
  · refine zr_iload_n C d_X1_markTicks_2 rfl ?_
    refine zr_aload_n C d_X1_markTicks_3 rfl ?_
    refine gf_Mesh_0 C hb m95 d_X1_markTicks_4 ?_
    refine zr_icmp_ge C 57 d_X1_markTicks_7 (by decide) (fun c => absurd c (zge_no (hI2_1 _ _ (by omega) (by omega)) (by omega))) (fun _ => ?_)
    refine zr_aload_n C d_X1_markTicks_10 rfl ?_
    refine gf_Mesh_11 C hb m124 d_X1_markTicks_11 ?_
    refine zr_iload_n C d_X1_markTicks_14 rfl ?_
    refine zr_aload_n C d_X1_markTicks_15 rfl ?_
    refine zr_iload_n C d_X1_markTicks_16 rfl ?_
    refine zr_aload_n C d_X1_markTicks_17 rfl ?_
    refine gf_Mesh_5 C hb m111 d_X1_markTicks_18 ?_
    refine zr_iload_n C d_X1_markTicks_21 rfl ?_
    refine zr_iald C (za_mesh_3 hb) (i2_1) rfl (by omega) (by decide) d_X1_markTicks_22 ?_
    refine zr_callVi (As := [.int (nI i2_1), .int (s2_1 (b + 3) i2_1)]) (st := [.int (nI i2_1), zR X (b + 9)]) (c := b) C (c_Mesh_ticksAt X s2_1 g b i2_1 (s2_1 (b + 3) i2_1) rfl hb (by omega)) k_Mesh_ticksAt m309 m310 m311 (by omega) (zC_Mesh hb X _ _) rfl rfl (by decide) rfl (Nat.le_of_ble_eq_true rfl) d_X1_markTicks_23 ?_
    refine zr_iast C (za_mesh_9 hb) (i2_1) rfl (by omega) (by decide) d_X1_markTicks_26 ?_
    refine zr_h (fun h2 eh2 => ?_)
    refine zr_aload_n C d_X1_markTicks_27 rfl ?_
    refine gf_Mesh_12 C hb m126 d_X1_markTicks_28 ?_
    refine zr_iload_n C d_X1_markTicks_31 rfl ?_
    refine zr_aload_n C d_X1_markTicks_32 rfl ?_
    refine gf_Mesh_11 C hb m124 d_X1_markTicks_33 ?_
    refine zr_iload_n C d_X1_markTicks_36 rfl ?_
    refine zr_iald C (za_mesh_9 hb) (i2_1) rfl (by omega) (by decide) d_X1_markTicks_37 ?_
    refine zr_aload_n C d_X1_markTicks_38 rfl ?_
    refine zr_iload_n C d_X1_markTicks_39 rfl ?_
    refine zr_aload_n C d_X1_markTicks_40 rfl ?_
    refine gf_Mesh_6 C hb m114 d_X1_markTicks_41 ?_
    refine zr_iload_n C d_X1_markTicks_44 rfl ?_
    refine zr_iald C (za_mesh_4 hb) (i2_1) rfl (by omega) (by decide) d_X1_markTicks_45 ?_
    refine zr_callVi (As := [.int (nI i2_1), .int (h2 (b + 4) i2_1)]) (st := [.int (h2 (b + 9) i2_1), .int (nI i2_1), zR X (b + 10)]) (c := b) C (c_Mesh_ticksAt X h2 g b i2_1 (h2 (b + 4) i2_1) rfl hb (by omega)) k_Mesh_ticksAt m309 m310 m311 (by omega) (zC_Mesh hb X _ _) rfl rfl (by decide) rfl (Nat.le_of_ble_eq_true rfl) d_X1_markTicks_46 ?_
    refine zr_ior C d_X1_markTicks_49 ?_
    refine zr_iast C (za_mesh_10 hb) (i2_1) rfl (by omega) (by decide) d_X1_markTicks_50 ?_
    refine zr_h (fun h3 eh3 => ?_)
    refine zr_iinc C [zO X b, zI (nI (i2_1 + 1))] (v := (nI (i2_1 + 1))) d_X1_markTicks_51 rfl (zn_add rfl rfl) (Nat.le_of_ble_eq_true rfl) rfl rfl ?_
    refine zr_goto C 2 d_X1_markTicks_54 (by decide) ?_
    exact hk2_1 h3 (by subst eh3 eh2; exact rfl)
  refine zr_iload_n C d_X1_markTicks_2 rfl ?_
  refine zr_aload_n C d_X1_markTicks_3 rfl ?_
  refine gf_Mesh_0 C hb m95 d_X1_markTicks_4 ?_
  refine zr_icmp_ge C 57 d_X1_markTicks_7 (by decide) (fun _ => ?_) (fun c => absurd (zge_yes (hI2_1 _ _ (by omega) (by omega)) (by omega) (by have := zcn_small (h b 0); omega)) c)
  have eR : o_Mesh_markTicks h b = r2_1 := (by subst er2_1; unfold o_Mesh_markTicks; exact rfl)
  subst hQ
  rw [eR]
  exact zr_vret C d_X1_markTicks_57
theorem d_X1_dropOlds_0 : decode prog_3_method_33_code 0 = .ok (.aload_n 0, 1) := by decide +kernel
theorem d_X1_dropOlds_1 : decode prog_3_method_33_code 1 = .ok (.getfield 21, 3) := by decide +kernel
theorem d_X1_dropOlds_4 : decode prog_3_method_33_code 4 = .ok (.bipush (-9), 2) := by decide +kernel
theorem d_X1_dropOlds_6 : decode prog_3_method_33_code 6 = .ok (.invokestatic 128, 3) := by decide +kernel
theorem d_X1_dropOlds_9 : decode prog_3_method_33_code 9 = .ok (.aload_n 0, 1) := by decide +kernel
theorem d_X1_dropOlds_10 : decode prog_3_method_33_code 10 = .ok (.invokevirtual 134, 3) := by decide +kernel
theorem d_X1_dropOlds_13 : decode prog_3_method_33_code 13 = .ok (.return_, 1) := by decide +kernel
abbrev M_Mesh_dropOlds : zMT := (⟨"PeriodSlots$Mesh", "dropOlds", "()V"⟩, prog_3_method_33_code, 1, none)
theorem k_Mesh_dropOlds : zcall M_Mesh_dropOlds 0 := ⟨zU_in (i := 301) (by decide +kernel) rfl, m56, ⟨by decide, by decide, by decide +kernel⟩, by decide⟩
def o_Mesh_dropOlds (h : zHp) (b : Nat) : zHp :=
  (o_Mesh_markTicks (o_Arr_fill h (b + 4) (-9)) b)
theorem fr_Mesh_dropOlds {h : zHp} {b : Nat} (c k : Nat) (q0 : c ≠ b + 4) (q1 : c ≠ b + 9) (q2 : c ≠ b + 10) : (o_Mesh_dropOlds h b) c k = h c k := by
  unfold o_Mesh_dropOlds
  first | done | exact ((fr_Mesh_markTicks _ _ (by assumption) (by assumption)).trans (fr_Arr_fill _ _ (by assumption)))
set_option maxHeartbeats 400000 in
set_option maxRecDepth 20000 in
theorem c_Mesh_dropOlds (X : zXT) (h : zHp) (g : zLg) (b : Nat) (hb : b = 3 ∨ b = 15 ∨ b = 27) (hf0 : zfit h b 0 8) : zDi X M_Mesh_dropOlds 2 [zR X b] h g none (o_Mesh_dropOlds h b) g := by
  have hf0_1 := hf0.1
  refine zDi_of "PeriodSlots$Mesh" prog_3_method_33_code 1 none rfl (by decide) [zO X b] rfl (fun _ q => q) (Nat.le_of_ble_eq_true rfl) ?_
  intro Γ Q C hQ
  refine zr_aload_n C d_X1_dropOlds_0 rfl ?_
  refine gf_Mesh_6 C hb m114 d_X1_dropOlds_1 ?_
  refine zr_bipush C (v := (-9)) d_X1_dropOlds_4 (by decide) ?_
  refine zr_callSv (As := [zR X (b + 4), .int (-9)]) (st := []) C (c_Arr_fill X h g (b + 4) (-9) (za_mesh_4 hb)) k_Arr_fill m302 m303 rfl (by decide) rfl (Nat.le_of_ble_eq_true rfl) d_X1_dropOlds_6 ?_
  refine zr_h (fun h1 eh1 => ?_)
  refine zr_aload_n C d_X1_dropOlds_9 rfl ?_
  refine zr_callVv (As := []) (st := []) (c := b) C (c_Mesh_markTicks X h1 g b hb (zfit_fr ((congrFun (congrFun eh1.symm _) _).trans (fr_Arr_fill _ _ (by omega))) hf0)) k_Mesh_markTicks m305 m306 m307 (by omega) (zC_Mesh hb X _ _) rfl rfl (by decide) rfl (Nat.le_of_ble_eq_true rfl) d_X1_dropOlds_10 ?_
  refine zr_h (fun h2 eh2 => ?_)
  have eR : o_Mesh_dropOlds h b = h2 := (by subst eh2 eh1; unfold o_Mesh_dropOlds; exact rfl)
  subst hQ
  rw [eR]
  exact zr_vret C d_X1_dropOlds_13
theorem d_X1_neighboursOf_0 : decode prog_3_method_15_code 0 = .ok (.iconst 0, 1) := by decide +kernel
theorem d_X1_neighboursOf_1 : decode prog_3_method_15_code 1 = .ok (.istore_n 2, 1) := by decide +kernel
theorem d_X1_neighboursOf_2 : decode prog_3_method_15_code 2 = .ok (.iconst 0, 1) := by decide +kernel
theorem d_X1_neighboursOf_3 : decode prog_3_method_15_code 3 = .ok (.istore_n 3, 1) := by decide +kernel
theorem d_X1_neighboursOf_4 : decode prog_3_method_15_code 4 = .ok (.iload_n 3, 1) := by decide +kernel
theorem d_X1_neighboursOf_5 : decode prog_3_method_15_code 5 = .ok (.aload_n 0, 1) := by decide +kernel
theorem d_X1_neighboursOf_6 : decode prog_3_method_15_code 6 = .ok (.getfield 45, 3) := by decide +kernel
theorem d_X1_neighboursOf_9 : decode prog_3_method_15_code 9 = .ok (.if_icmp .ge 26, 3) := by decide +kernel
theorem d_X1_neighboursOf_12 : decode prog_3_method_15_code 12 = .ok (.iload_n 1, 1) := by decide +kernel
theorem d_X1_neighboursOf_13 : decode prog_3_method_15_code 13 = .ok (.iload_n 3, 1) := by decide +kernel
theorem d_X1_neighboursOf_14 : decode prog_3_method_15_code 14 = .ok (.invokestatic 89, 3) := by decide +kernel
theorem d_X1_neighboursOf_17 : decode prog_3_method_15_code 17 = .ok (.ifCond .eq 12, 3) := by decide +kernel
theorem d_X1_neighboursOf_20 : decode prog_3_method_15_code 20 = .ok (.iload_n 2, 1) := by decide +kernel
theorem d_X1_neighboursOf_21 : decode prog_3_method_15_code 21 = .ok (.aload_n 0, 1) := by decide +kernel
theorem d_X1_neighboursOf_22 : decode prog_3_method_15_code 22 = .ok (.getfield 15, 3) := by decide +kernel
theorem d_X1_neighboursOf_25 : decode prog_3_method_15_code 25 = .ok (.iload_n 3, 1) := by decide +kernel
theorem d_X1_neighboursOf_26 : decode prog_3_method_15_code 26 = .ok (.iaload, 1) := by decide +kernel
theorem d_X1_neighboursOf_27 : decode prog_3_method_15_code 27 = .ok (.ior, 1) := by decide +kernel
theorem d_X1_neighboursOf_28 : decode prog_3_method_15_code 28 = .ok (.istore_n 2, 1) := by decide +kernel
theorem d_X1_neighboursOf_29 : decode prog_3_method_15_code 29 = .ok (.iinc 3 1, 3) := by decide +kernel
theorem d_X1_neighboursOf_32 : decode prog_3_method_15_code 32 = .ok (.goto (-28), 3) := by decide +kernel
theorem d_X1_neighboursOf_35 : decode prog_3_method_15_code 35 = .ok (.iload_n 2, 1) := by decide +kernel
theorem d_X1_neighboursOf_36 : decode prog_3_method_15_code 36 = .ok (.ireturn, 1) := by decide +kernel
abbrev M_Mesh_neighboursOf : zMT := (⟨"PeriodSlots$Mesh", "neighboursOf", "(I)I"⟩, prog_3_method_15_code, 4, (some .int))
theorem k_Mesh_neighboursOf : zcall M_Mesh_neighboursOf 1 := ⟨zU_in (i := 320) (by decide +kernel) rfl, m56, ⟨by decide, by decide, by decide +kernel⟩, by decide⟩
def o_Mesh_neighboursOf (h : zHp) (b : Nat) (set : Int32) : Int32 :=
  (zrep (fun (i4_1 : Nat) (s4_1 : Int32) => (if (o_Slots_has set (nI i4_1)) = true then (s4_1 ||| (h (b + 2) i4_1)) else s4_1)) 0 (zcn (h b 0)))
set_option maxHeartbeats 400000 in
set_option maxRecDepth 20000 in
theorem c_Mesh_neighboursOf (X : zXT) (h : zHp) (g : zLg) (b : Nat) (set : Int32) (hb : b = 3 ∨ b = 15 ∨ b = 27) (hf0 : zfit h b 0 8) : zDi X M_Mesh_neighboursOf 1 [zR X b, .int set] h g (zI (o_Mesh_neighboursOf h b set)) h g := by
  have hf0_1 := hf0.1
  refine zDi_of "PeriodSlots$Mesh" prog_3_method_15_code 4 (some .int) rfl (by decide) [zO X b, zI set, none, none] rfl (fun _ q => q) (Nat.le_of_ble_eq_true rfl) ?_
  intro Γ Q C hQ
  refine zr_iconst C (v := 0) d_X1_neighboursOf_0 (by decide) ?_
  refine zr_istore_n C [zO X b, zI set, zI 0, none] d_X1_neighboursOf_1 (Nat.le_of_ble_eq_true rfl) rfl rfl ?_
  refine zr_iconst C (v := 0) d_X1_neighboursOf_2 (by decide) ?_
  refine zr_istore_n C [zO X b, zI set, zI 0, zI 0] d_X1_neighboursOf_3 (Nat.le_of_ble_eq_true rfl) rfl rfl ?_
  refine zfor (f := (fun (i4_1 : Nat) (s4_1 : Int32) => (if (o_Slots_has set (nI i4_1)) = true then (s4_1 ||| (h (b + 2) i4_1)) else s4_1))) (a := 0) (fun i4_1 s4_1 => zV X Γ Q 4 [zO X b, zI set, zI s4_1, zI (nI i4_1)] [] h g) (fun _ _ => True) (zcn (h b 0)) trivial (fun i4_1 s4_1 hi4_1 hI4_1 => ⟨trivial, fun hk4_1 => ?_⟩) (fun r4_1 er4_1 hI4_1 => ?_)
  · refine zr_iload_n C d_X1_neighboursOf_4 rfl ?_
    refine zr_aload_n C d_X1_neighboursOf_5 rfl ?_
    refine gf_Mesh_0 C hb m95 d_X1_neighboursOf_6 ?_
    refine zr_icmp_ge C 35 d_X1_neighboursOf_9 (by decide) (fun c => absurd c (zge_no rfl (by omega))) (fun _ => ?_)
    refine zr_iload_n C d_X1_neighboursOf_12 rfl ?_
    refine zr_iload_n C d_X1_neighboursOf_13 rfl ?_
    refine zr_callNi (As := [.int set, .int (nI i4_1)]) (st := []) C (c_Slots_has X h g set (nI i4_1)) k_Slots_has (by simp [zNest]) m322 rfl (by decide) rfl (Nat.le_of_ble_eq_true rfl) d_X1_neighboursOf_14 ?_
    suffices hJ17 : ∀ (y2 : Int32), (if (o_Slots_has set (nI i4_1)) = true then (s4_1 ||| (h (b + 2) i4_1)) else s4_1) = y2 → zV X Γ Q 29 [zO X b, zI set, zI y2, zI (nI i4_1)] [] h g by
      refine zr_ifz_eq C 29 d_X1_neighboursOf_17 (by decide) (fun c17 => ?_) (fun c17 => ?_)
      · exact hJ17 s4_1 (((if_neg (zbf c17))))
      · refine zr_iload_n C d_X1_neighboursOf_20 rfl ?_
        refine zr_aload_n C d_X1_neighboursOf_21 rfl ?_
        refine gf_Mesh_4 C hb m107 d_X1_neighboursOf_22 ?_
        refine zr_iload_n C d_X1_neighboursOf_25 rfl ?_
        refine zr_iald C (za_mesh_2 hb) (i4_1) rfl (by omega) (by decide) d_X1_neighboursOf_26 ?_
        refine zr_ior C d_X1_neighboursOf_27 ?_
        refine zr_istore_n C [zO X b, zI set, zI (s4_1 ||| (h (b + 2) i4_1)), zI (nI i4_1)] d_X1_neighboursOf_28 (Nat.le_of_ble_eq_true rfl) rfl rfl ?_
        exact hJ17 (s4_1 ||| (h (b + 2) i4_1)) (((if_pos c17)))
    intro y2 ey2
    refine zr_iinc C [zO X b, zI set, zI y2, zI (nI (i4_1 + 1))] (v := (nI (i4_1 + 1))) d_X1_neighboursOf_29 rfl (zn_add rfl rfl) (Nat.le_of_ble_eq_true rfl) rfl rfl ?_
    refine zr_goto C 4 d_X1_neighboursOf_32 (by decide) ?_
    exact hk4_1 y2 (by subst ey2; exact rfl)
  refine zr_iload_n C d_X1_neighboursOf_4 rfl ?_
  refine zr_aload_n C d_X1_neighboursOf_5 rfl ?_
  refine gf_Mesh_0 C hb m95 d_X1_neighboursOf_6 ?_
  refine zr_icmp_ge C 35 d_X1_neighboursOf_9 (by decide) (fun _ => ?_) (fun c => absurd (zge_yes rfl (by omega) (by have := zcn_small (h b 0); omega)) c)
  refine zr_iload_n C d_X1_neighboursOf_35 rfl ?_
  have eR : o_Mesh_neighboursOf h b set = r4_1 := (by subst er4_1; unfold o_Mesh_neighboursOf; exact rfl)
  subst hQ
  rw [eR]
  exact zr_ireti C d_X1_neighboursOf_36
theorem d_X1_priority_0 : decode prog_3_method_20_code 0 = .ok (.ldc2_w 111, 3) := by decide +kernel
theorem d_X1_priority_3 : decode prog_3_method_20_code 3 = .ok (.ldc2_w 113, 3) := by decide +kernel
theorem d_X1_priority_6 : decode prog_3_method_20_code 6 = .ok (.iload_n 1, 1) := by decide +kernel
theorem d_X1_priority_7 : decode prog_3_method_20_code 7 = .ok (.i2l, 1) := by decide +kernel
theorem d_X1_priority_8 : decode prog_3_method_20_code 8 = .ok (.lmul, 1) := by decide +kernel
theorem d_X1_priority_9 : decode prog_3_method_20_code 9 = .ok (.ladd, 1) := by decide +kernel
theorem d_X1_priority_10 : decode prog_3_method_20_code 10 = .ok (.ldc2_w 115, 3) := by decide +kernel
theorem d_X1_priority_13 : decode prog_3_method_20_code 13 = .ok (.aload_n 0, 1) := by decide +kernel
theorem d_X1_priority_14 : decode prog_3_method_20_code 14 = .ok (.getfield 49, 3) := by decide +kernel
theorem d_X1_priority_17 : decode prog_3_method_20_code 17 = .ok (.i2l, 1) := by decide +kernel
theorem d_X1_priority_18 : decode prog_3_method_20_code 18 = .ok (.lmul, 1) := by decide +kernel
theorem d_X1_priority_19 : decode prog_3_method_20_code 19 = .ok (.ladd, 1) := by decide +kernel
theorem d_X1_priority_20 : decode prog_3_method_20_code 20 = .ok (.ldc2_w 117, 3) := by decide +kernel
theorem d_X1_priority_23 : decode prog_3_method_20_code 23 = .ok (.lrem, 1) := by decide +kernel
theorem d_X1_priority_24 : decode prog_3_method_20_code 24 = .ok (.lstore_n 2, 1) := by decide +kernel
theorem d_X1_priority_25 : decode prog_3_method_20_code 25 = .ok (.lload_n 2, 1) := by decide +kernel
theorem d_X1_priority_26 : decode prog_3_method_20_code 26 = .ok (.lload_n 2, 1) := by decide +kernel
theorem d_X1_priority_27 : decode prog_3_method_20_code 27 = .ok (.lmul, 1) := by decide +kernel
theorem d_X1_priority_28 : decode prog_3_method_20_code 28 = .ok (.lload_n 2, 1) := by decide +kernel
theorem d_X1_priority_29 : decode prog_3_method_20_code 29 = .ok (.lmul, 1) := by decide +kernel
theorem d_X1_priority_30 : decode prog_3_method_20_code 30 = .ok (.ldc2_w 117, 3) := by decide +kernel
theorem d_X1_priority_33 : decode prog_3_method_20_code 33 = .ok (.lrem, 1) := by decide +kernel
theorem d_X1_priority_34 : decode prog_3_method_20_code 34 = .ok (.l2i, 1) := by decide +kernel
theorem d_X1_priority_35 : decode prog_3_method_20_code 35 = .ok (.ireturn, 1) := by decide +kernel
abbrev M_Mesh_priority : zMT := (⟨"PeriodSlots$Mesh", "priority", "(I)I"⟩, prog_3_method_20_code, 4, (some .int))
theorem k_Mesh_priority : zcall M_Mesh_priority 1 := ⟨zU_in (i := 331) (by decide +kernel) rfl, m56, ⟨by decide, by decide, by decide +kernel⟩, by decide⟩
def o_Mesh_priority (h : zHp) (b : Nat) (v : Int32) : Int32 :=
  (Int64.toInt32 (zlrem (((zlrem ((7 + (37 * (Int32.toInt64 v))) + (101 * (Int32.toInt64 (h b 1)))) 1009) * (zlrem ((7 + (37 * (Int32.toInt64 v))) + (101 * (Int32.toInt64 (h b 1)))) 1009)) * (zlrem ((7 + (37 * (Int32.toInt64 v))) + (101 * (Int32.toInt64 (h b 1)))) 1009)) 1009))
set_option maxHeartbeats 400000 in
set_option maxRecDepth 20000 in
theorem c_Mesh_priority (X : zXT) (h : zHp) (g : zLg) (b : Nat) (v : Int32) (hb : b = 3 ∨ b = 15 ∨ b = 27) : zDi X M_Mesh_priority 0 [zR X b, .int v] h g (zI (o_Mesh_priority h b v)) h g := by
  refine zDi_of "PeriodSlots$Mesh" prog_3_method_20_code 4 (some .int) rfl (by decide) [zO X b, zI v, none, none] rfl (fun _ q => q) (Nat.le_of_ble_eq_true rfl) ?_
  intro Γ Q C hQ
  refine zr_ldc2 C (v := 7) m332 d_X1_priority_0 ?_
  refine zr_ldc2 C (v := 37) m333 d_X1_priority_3 ?_
  refine zr_iload_n C d_X1_priority_6 rfl ?_
  refine zr_i2l C d_X1_priority_7 ?_
  refine zr_lmul C d_X1_priority_8 ?_
  refine zr_ladd C d_X1_priority_9 ?_
  refine zr_ldc2 C (v := 101) m334 d_X1_priority_10 ?_
  refine zr_aload_n C d_X1_priority_13 rfl ?_
  refine gf_Mesh_1 C hb m99 d_X1_priority_14 ?_
  refine zr_i2l C d_X1_priority_17 ?_
  refine zr_lmul C d_X1_priority_18 ?_
  refine zr_ladd C d_X1_priority_19 ?_
  refine zr_ldc2 C (v := 1009) m335 d_X1_priority_20 ?_
  refine zr_lrem C d_X1_priority_23 (by decide) ?_
  refine zr_lstore_n C [zO X b, zI v, zL (zlrem ((7 + (37 * (Int32.toInt64 v))) + (101 * (Int32.toInt64 (h b 1)))) 1009), none] d_X1_priority_24 (Nat.le_of_ble_eq_true rfl) rfl rfl ?_
  refine zr_lload_n C d_X1_priority_25 rfl ?_
  refine zr_lload_n C d_X1_priority_26 rfl ?_
  refine zr_lmul C d_X1_priority_27 ?_
  refine zr_lload_n C d_X1_priority_28 rfl ?_
  refine zr_lmul C d_X1_priority_29 ?_
  refine zr_ldc2 C (v := 1009) m335 d_X1_priority_30 ?_
  refine zr_lrem C d_X1_priority_33 (by decide) ?_
  refine zr_l2i C d_X1_priority_34 ?_
  have eR : o_Mesh_priority h b v = (Int64.toInt32 (zlrem (((zlrem ((7 + (37 * (Int32.toInt64 v))) + (101 * (Int32.toInt64 (h b 1)))) 1009) * (zlrem ((7 + (37 * (Int32.toInt64 v))) + (101 * (Int32.toInt64 (h b 1)))) 1009)) * (zlrem ((7 + (37 * (Int32.toInt64 v))) + (101 * (Int32.toInt64 (h b 1)))) 1009)) 1009)) := (by unfold o_Mesh_priority; exact rfl)
  subst hQ
  rw [eR]
  exact zr_ireti C d_X1_priority_35
theorem d_X1_stationsAbove_0 : decode prog_3_method_21_code 0 = .ok (.iconst 0, 1) := by decide +kernel
theorem d_X1_stationsAbove_1 : decode prog_3_method_21_code 1 = .ok (.istore_n 2, 1) := by decide +kernel
theorem d_X1_stationsAbove_2 : decode prog_3_method_21_code 2 = .ok (.iconst 0, 1) := by decide +kernel
theorem d_X1_stationsAbove_3 : decode prog_3_method_21_code 3 = .ok (.istore_n 3, 1) := by decide +kernel
theorem d_X1_stationsAbove_4 : decode prog_3_method_21_code 4 = .ok (.iload_n 3, 1) := by decide +kernel
theorem d_X1_stationsAbove_5 : decode prog_3_method_21_code 5 = .ok (.aload_n 0, 1) := by decide +kernel
theorem d_X1_stationsAbove_6 : decode prog_3_method_21_code 6 = .ok (.getfield 45, 3) := by decide +kernel
theorem d_X1_stationsAbove_9 : decode prog_3_method_21_code 9 = .ok (.if_icmp .ge 62, 3) := by decide +kernel
theorem d_X1_stationsAbove_12 : decode prog_3_method_21_code 12 = .ok (.aload_n 0, 1) := by decide +kernel
theorem d_X1_stationsAbove_13 : decode prog_3_method_21_code 13 = .ok (.getfield 30, 3) := by decide +kernel
theorem d_X1_stationsAbove_16 : decode prog_3_method_21_code 16 = .ok (.iload_n 3, 1) := by decide +kernel
theorem d_X1_stationsAbove_17 : decode prog_3_method_21_code 17 = .ok (.iaload, 1) := by decide +kernel
theorem d_X1_stationsAbove_18 : decode prog_3_method_21_code 18 = .ok (.aload_n 0, 1) := by decide +kernel
theorem d_X1_stationsAbove_19 : decode prog_3_method_21_code 19 = .ok (.getfield 30, 3) := by decide +kernel
theorem d_X1_stationsAbove_22 : decode prog_3_method_21_code 22 = .ok (.iload_n 1, 1) := by decide +kernel
theorem d_X1_stationsAbove_23 : decode prog_3_method_21_code 23 = .ok (.iaload, 1) := by decide +kernel
theorem d_X1_stationsAbove_24 : decode prog_3_method_21_code 24 = .ok (.if_icmp .ne 7, 3) := by decide +kernel
theorem d_X1_stationsAbove_27 : decode prog_3_method_21_code 27 = .ok (.iconst 1, 1) := by decide +kernel
theorem d_X1_stationsAbove_28 : decode prog_3_method_21_code 28 = .ok (.goto 4, 3) := by decide +kernel
theorem d_X1_stationsAbove_31 : decode prog_3_method_21_code 31 = .ok (.iconst 0, 1) := by decide +kernel
theorem d_X1_stationsAbove_32 : decode prog_3_method_21_code 32 = .ok (.istore 4, 2) := by decide +kernel
theorem d_X1_stationsAbove_34 : decode prog_3_method_21_code 34 = .ok (.aload_n 0, 1) := by decide +kernel
theorem d_X1_stationsAbove_35 : decode prog_3_method_21_code 35 = .ok (.getfield 30, 3) := by decide +kernel
theorem d_X1_stationsAbove_38 : decode prog_3_method_21_code 38 = .ok (.iload_n 3, 1) := by decide +kernel
theorem d_X1_stationsAbove_39 : decode prog_3_method_21_code 39 = .ok (.iaload, 1) := by decide +kernel
theorem d_X1_stationsAbove_40 : decode prog_3_method_21_code 40 = .ok (.aload_n 0, 1) := by decide +kernel
theorem d_X1_stationsAbove_41 : decode prog_3_method_21_code 41 = .ok (.getfield 30, 3) := by decide +kernel
theorem d_X1_stationsAbove_44 : decode prog_3_method_21_code 44 = .ok (.iload_n 1, 1) := by decide +kernel
theorem d_X1_stationsAbove_45 : decode prog_3_method_21_code 45 = .ok (.iaload, 1) := by decide +kernel
theorem d_X1_stationsAbove_46 : decode prog_3_method_21_code 46 = .ok (.if_icmp .gt 13, 3) := by decide +kernel
theorem d_X1_stationsAbove_49 : decode prog_3_method_21_code 49 = .ok (.iload 4, 2) := by decide +kernel
theorem d_X1_stationsAbove_51 : decode prog_3_method_21_code 51 = .ok (.ifCond .eq 14, 3) := by decide +kernel
theorem d_X1_stationsAbove_54 : decode prog_3_method_21_code 54 = .ok (.iload_n 3, 1) := by decide +kernel
theorem d_X1_stationsAbove_55 : decode prog_3_method_21_code 55 = .ok (.iload_n 1, 1) := by decide +kernel
theorem d_X1_stationsAbove_56 : decode prog_3_method_21_code 56 = .ok (.if_icmp .ge 9, 3) := by decide +kernel
theorem d_X1_stationsAbove_59 : decode prog_3_method_21_code 59 = .ok (.iload_n 2, 1) := by decide +kernel
theorem d_X1_stationsAbove_60 : decode prog_3_method_21_code 60 = .ok (.iconst 1, 1) := by decide +kernel
theorem d_X1_stationsAbove_61 : decode prog_3_method_21_code 61 = .ok (.iload_n 3, 1) := by decide +kernel
theorem d_X1_stationsAbove_62 : decode prog_3_method_21_code 62 = .ok (.ishl, 1) := by decide +kernel
theorem d_X1_stationsAbove_63 : decode prog_3_method_21_code 63 = .ok (.ior, 1) := by decide +kernel
theorem d_X1_stationsAbove_64 : decode prog_3_method_21_code 64 = .ok (.istore_n 2, 1) := by decide +kernel
theorem d_X1_stationsAbove_65 : decode prog_3_method_21_code 65 = .ok (.iinc 3 1, 3) := by decide +kernel
theorem d_X1_stationsAbove_68 : decode prog_3_method_21_code 68 = .ok (.goto (-64), 3) := by decide +kernel
theorem d_X1_stationsAbove_71 : decode prog_3_method_21_code 71 = .ok (.iload_n 2, 1) := by decide +kernel
theorem d_X1_stationsAbove_72 : decode prog_3_method_21_code 72 = .ok (.ireturn, 1) := by decide +kernel
abbrev M_Mesh_stationsAbove : zMT := (⟨"PeriodSlots$Mesh", "stationsAbove", "(I)I"⟩, prog_3_method_21_code, 5, (some .int))
theorem k_Mesh_stationsAbove : zcall M_Mesh_stationsAbove 1 := ⟨zU_in (i := 339) (by decide +kernel) rfl, m56, ⟨by decide, by decide, by decide +kernel⟩, by decide⟩
def o_Mesh_stationsAbove (h : zHp) (b : Nat) (v : Nat) : Int32 :=
  (zrep (fun (i4_1 : Nat) (s4_1 : Int32) => (if (h (b + 7) v) < (h (b + 7) i4_1) then (s4_1 ||| (zshl 1 (nI i4_1))) else (if (decide ((h (b + 7) i4_1) = (h (b + 7) v))) = true then (if (nI v) ≤ (nI i4_1) then s4_1 else (s4_1 ||| (zshl 1 (nI i4_1)))) else s4_1))) 0 (zcn (h b 0)))
set_option maxHeartbeats 400000 in
set_option maxRecDepth 20000 in
theorem c_Mesh_stationsAbove (X : zXT) (h : zHp) (g : zLg) (b : Nat) (v : Nat) {x_v : Int32} (e_v : x_v = nI v) (hb : b = 3 ∨ b = 15 ∨ b = 27) (hf0 : zfit h b 0 8) (hl1 : v < 8) : zDi X M_Mesh_stationsAbove 0 [zR X b, .int x_v] h g (zI (o_Mesh_stationsAbove h b v)) h g := by
  subst e_v
  have hf0_1 := hf0.1
  refine zDi_of "PeriodSlots$Mesh" prog_3_method_21_code 5 (some .int) rfl (by decide) [zO X b, zI (nI v), none, none, none] rfl (fun _ q => q) (Nat.le_of_ble_eq_true rfl) ?_
  intro Γ Q C hQ
  refine zr_iconst C (v := 0) d_X1_stationsAbove_0 (by decide) ?_
  refine zr_istore_n C [zO X b, zI (nI v), zI 0, none, none] d_X1_stationsAbove_1 (Nat.le_of_ble_eq_true rfl) rfl rfl ?_
  refine zr_iconst C (v := 0) d_X1_stationsAbove_2 (by decide) ?_
  refine zr_istore_n C [zO X b, zI (nI v), zI 0, zI 0, none] d_X1_stationsAbove_3 (Nat.le_of_ble_eq_true rfl) rfl rfl ?_
  refine zfor (f := (fun (i4_1 : Nat) (s4_1 : Int32) => (if (h (b + 7) v) < (h (b + 7) i4_1) then (s4_1 ||| (zshl 1 (nI i4_1))) else (if (decide ((h (b + 7) i4_1) = (h (b + 7) v))) = true then (if (nI v) ≤ (nI i4_1) then s4_1 else (s4_1 ||| (zshl 1 (nI i4_1)))) else s4_1)))) (a := 0) (fun i4_1 s4_1 => zV X Γ Q 4 [zO X b, zI (nI v), zI s4_1, zI (nI i4_1), none] [] h g) (fun _ _ => True) (zcn (h b 0)) trivial (fun i4_1 s4_1 hi4_1 hI4_1 => ⟨trivial, fun hk4_1 => ?_⟩) (fun r4_1 er4_1 hI4_1 => ?_)
  · refine zr_iload_n C d_X1_stationsAbove_4 rfl ?_
    refine zr_aload_n C d_X1_stationsAbove_5 rfl ?_
    refine gf_Mesh_0 C hb m95 d_X1_stationsAbove_6 ?_
    refine zr_icmp_ge C 71 d_X1_stationsAbove_9 (by decide) (fun c => absurd c (zge_no rfl (by omega))) (fun _ => ?_)
    refine zr_aload_n C d_X1_stationsAbove_12 rfl ?_
    refine gf_Mesh_9 C hb m121 d_X1_stationsAbove_13 ?_
    refine zr_iload_n C d_X1_stationsAbove_16 rfl ?_
    refine zr_iald C (za_mesh_7 hb) (i4_1) rfl (by omega) (by decide) d_X1_stationsAbove_17 ?_
    refine zr_aload_n C d_X1_stationsAbove_18 rfl ?_
    refine gf_Mesh_9 C hb m121 d_X1_stationsAbove_19 ?_
    refine zr_iload_n C d_X1_stationsAbove_22 rfl ?_
    refine zr_iald C (za_mesh_7 hb) (v) rfl (by omega) (by decide) d_X1_stationsAbove_23 ?_
    suffices hJ24 : ∀ (y2 : Bool), (decide ((h (b + 7) i4_1) = (h (b + 7) v))) = y2 → zV X Γ Q 32 [zO X b, zI (nI v), zI s4_1, zI (nI i4_1), none] [.int (zb y2)] h g by
      refine zr_icmp_ne C 31 d_X1_stationsAbove_24 (by decide) (fun c24 => ?_) (fun c24 => ?_)
      · refine zr_iconst C (v := 0) d_X1_stationsAbove_31 (by decide) ?_
        exact hJ24 false (by simp [c24])
      · refine zr_iconst C (v := 1) d_X1_stationsAbove_27 (by decide) ?_
        refine zr_goto C 32 d_X1_stationsAbove_28 (by decide) ?_
        exact hJ24 true (by simp [c24])
    intro y2 ey2
    refine zr_istore C [zO X b, zI (nI v), zI s4_1, zI (nI i4_1), zI (zb y2)] d_X1_stationsAbove_32 (Nat.le_of_ble_eq_true rfl) rfl rfl ?_
    refine zr_aload_n C d_X1_stationsAbove_34 rfl ?_
    refine gf_Mesh_9 C hb m121 d_X1_stationsAbove_35 ?_
    refine zr_iload_n C d_X1_stationsAbove_38 rfl ?_
    refine zr_iald C (za_mesh_7 hb) (i4_1) rfl (by omega) (by decide) d_X1_stationsAbove_39 ?_
    refine zr_aload_n C d_X1_stationsAbove_40 rfl ?_
    refine gf_Mesh_9 C hb m121 d_X1_stationsAbove_41 ?_
    refine zr_iload_n C d_X1_stationsAbove_44 rfl ?_
    refine zr_iald C (za_mesh_7 hb) (v) rfl (by omega) (by decide) d_X1_stationsAbove_45 ?_
    suffices hJ46 : ∀ (y5 : Int32), (if (h (b + 7) v) < (h (b + 7) i4_1) then (s4_1 ||| (zshl 1 (nI i4_1))) else (if y2 = true then (if (nI v) ≤ (nI i4_1) then s4_1 else (s4_1 ||| (zshl 1 (nI i4_1)))) else s4_1)) = y5 → zV X Γ Q 65 [zO X b, zI (nI v), zI y5, zI (nI i4_1), none] [] h g by
      refine zr_icmp_gt C 59 d_X1_stationsAbove_46 (by decide) (fun c46 => ?_) (fun c46 => ?_)
      · refine zr_iload_n C d_X1_stationsAbove_59 rfl ?_
        refine zr_iconst C (v := 1) d_X1_stationsAbove_60 (by decide) ?_
        refine zr_iload_n C d_X1_stationsAbove_61 rfl ?_
        refine zr_ishl C d_X1_stationsAbove_62 ?_
        refine zr_ior C d_X1_stationsAbove_63 ?_
        refine zr_istore_n C [zO X b, zI (nI v), zI (s4_1 ||| (zshl 1 (nI i4_1))), zI (nI i4_1), zI (zb y2)] d_X1_stationsAbove_64 (Nat.le_of_ble_eq_true rfl) rfl rfl ?_
        refine zr_lv [zO X b, zI (nI v), zI (s4_1 ||| (zshl 1 (nI i4_1))), zI (nI i4_1), none] (by simp [zle]) ?_
        exact hJ46 (s4_1 ||| (zshl 1 (nI i4_1))) (((if_pos c46)))
      · refine zr_iload C d_X1_stationsAbove_49 rfl ?_
        refine zr_ifz_eq C 65 d_X1_stationsAbove_51 (by decide) (fun c51 => ?_) (fun c51 => ?_)
        · refine zr_lv [zO X b, zI (nI v), zI s4_1, zI (nI i4_1), none] (by simp [zle]) ?_
          exact hJ46 s4_1 (((if_neg c46).trans ((if_neg (zbf c51)))))
        · refine zr_iload_n C d_X1_stationsAbove_54 rfl ?_
          refine zr_iload_n C d_X1_stationsAbove_55 rfl ?_
          refine zr_icmp_ge C 65 d_X1_stationsAbove_56 (by decide) (fun c56 => ?_) (fun c56 => ?_)
          · have en3 := zn_ge (a := i4_1) (b := v) rfl rfl c56 (by omega) (by omega)
            refine zr_lv [zO X b, zI (nI v), zI s4_1, zI (nI i4_1), none] (by simp [zle]) ?_
            exact hJ46 s4_1 (((if_neg c46).trans ((if_pos c51).trans ((if_pos c56)))))
          · have en4 := zn_nge (a := i4_1) (b := v) rfl rfl c56 (by omega) (by omega)
            refine zr_iload_n C d_X1_stationsAbove_59 rfl ?_
            refine zr_iconst C (v := 1) d_X1_stationsAbove_60 (by decide) ?_
            refine zr_iload_n C d_X1_stationsAbove_61 rfl ?_
            refine zr_ishl C d_X1_stationsAbove_62 ?_
            refine zr_ior C d_X1_stationsAbove_63 ?_
            refine zr_istore_n C [zO X b, zI (nI v), zI (s4_1 ||| (zshl 1 (nI i4_1))), zI (nI i4_1), zI (zb y2)] d_X1_stationsAbove_64 (Nat.le_of_ble_eq_true rfl) rfl rfl ?_
            refine zr_lv [zO X b, zI (nI v), zI (s4_1 ||| (zshl 1 (nI i4_1))), zI (nI i4_1), none] (by simp [zle]) ?_
            exact hJ46 (s4_1 ||| (zshl 1 (nI i4_1))) (((if_neg c46).trans ((if_pos c51).trans ((if_neg c56)))))
    intro y5 ey5
    refine zr_iinc C [zO X b, zI (nI v), zI y5, zI (nI (i4_1 + 1)), none] (v := (nI (i4_1 + 1))) d_X1_stationsAbove_65 rfl (zn_add rfl rfl) (Nat.le_of_ble_eq_true rfl) rfl rfl ?_
    refine zr_goto C 4 d_X1_stationsAbove_68 (by decide) ?_
    exact hk4_1 y5 (by subst ey5 ey2; exact rfl)
  refine zr_iload_n C d_X1_stationsAbove_4 rfl ?_
  refine zr_aload_n C d_X1_stationsAbove_5 rfl ?_
  refine gf_Mesh_0 C hb m95 d_X1_stationsAbove_6 ?_
  refine zr_icmp_ge C 71 d_X1_stationsAbove_9 (by decide) (fun _ => ?_) (fun c => absurd (zge_yes rfl (by omega) (by have := zcn_small (h b 0); omega)) c)
  refine zr_iload_n C d_X1_stationsAbove_71 rfl ?_
  have eR : o_Mesh_stationsAbove h b v = r4_1 := (by subst er4_1; unfold o_Mesh_stationsAbove; exact rfl)
  subst hQ
  rw [eR]
  exact zr_ireti C d_X1_stationsAbove_72
theorem d_X1_rank_0 : decode prog_3_method_19_code 0 = .ok (.iconst 0, 1) := by decide +kernel
theorem d_X1_rank_1 : decode prog_3_method_19_code 1 = .ok (.istore_n 1, 1) := by decide +kernel
theorem d_X1_rank_2 : decode prog_3_method_19_code 2 = .ok (.iload_n 1, 1) := by decide +kernel
theorem d_X1_rank_3 : decode prog_3_method_19_code 3 = .ok (.aload_n 0, 1) := by decide +kernel
theorem d_X1_rank_4 : decode prog_3_method_19_code 4 = .ok (.getfield 45, 3) := by decide +kernel
theorem d_X1_rank_7 : decode prog_3_method_19_code 7 = .ok (.if_icmp .ge 20, 3) := by decide +kernel
theorem d_X1_rank_10 : decode prog_3_method_19_code 10 = .ok (.aload_n 0, 1) := by decide +kernel
theorem d_X1_rank_11 : decode prog_3_method_19_code 11 = .ok (.getfield 30, 3) := by decide +kernel
theorem d_X1_rank_14 : decode prog_3_method_19_code 14 = .ok (.iload_n 1, 1) := by decide +kernel
theorem d_X1_rank_15 : decode prog_3_method_19_code 15 = .ok (.aload_n 0, 1) := by decide +kernel
theorem d_X1_rank_16 : decode prog_3_method_19_code 16 = .ok (.iload_n 1, 1) := by decide +kernel
theorem d_X1_rank_17 : decode prog_3_method_19_code 17 = .ok (.invokevirtual 105, 3) := by decide +kernel
theorem d_X1_rank_20 : decode prog_3_method_19_code 20 = .ok (.iastore, 1) := by decide +kernel
theorem d_X1_rank_21 : decode prog_3_method_19_code 21 = .ok (.iinc 1 1, 3) := by decide +kernel
theorem d_X1_rank_24 : decode prog_3_method_19_code 24 = .ok (.goto (-22), 3) := by decide +kernel
theorem d_X1_rank_27 : decode prog_3_method_19_code 27 = .ok (.iconst 0, 1) := by decide +kernel
theorem d_X1_rank_28 : decode prog_3_method_19_code 28 = .ok (.istore_n 1, 1) := by decide +kernel
theorem d_X1_rank_29 : decode prog_3_method_19_code 29 = .ok (.iload_n 1, 1) := by decide +kernel
theorem d_X1_rank_30 : decode prog_3_method_19_code 30 = .ok (.aload_n 0, 1) := by decide +kernel
theorem d_X1_rank_31 : decode prog_3_method_19_code 31 = .ok (.getfield 45, 3) := by decide +kernel
theorem d_X1_rank_34 : decode prog_3_method_19_code 34 = .ok (.if_icmp .ge 27, 3) := by decide +kernel
theorem d_X1_rank_37 : decode prog_3_method_19_code 37 = .ok (.aload_n 0, 1) := by decide +kernel
theorem d_X1_rank_38 : decode prog_3_method_19_code 38 = .ok (.getfield 33, 3) := by decide +kernel
theorem d_X1_rank_41 : decode prog_3_method_19_code 41 = .ok (.iload_n 1, 1) := by decide +kernel
theorem d_X1_rank_42 : decode prog_3_method_19_code 42 = .ok (.aload_n 0, 1) := by decide +kernel
theorem d_X1_rank_43 : decode prog_3_method_19_code 43 = .ok (.getfield 27, 3) := by decide +kernel
theorem d_X1_rank_46 : decode prog_3_method_19_code 46 = .ok (.iload_n 1, 1) := by decide +kernel
theorem d_X1_rank_47 : decode prog_3_method_19_code 47 = .ok (.iaload, 1) := by decide +kernel
theorem d_X1_rank_48 : decode prog_3_method_19_code 48 = .ok (.aload_n 0, 1) := by decide +kernel
theorem d_X1_rank_49 : decode prog_3_method_19_code 49 = .ok (.iload_n 1, 1) := by decide +kernel
theorem d_X1_rank_50 : decode prog_3_method_19_code 50 = .ok (.invokevirtual 108, 3) := by decide +kernel
theorem d_X1_rank_53 : decode prog_3_method_19_code 53 = .ok (.iand, 1) := by decide +kernel
theorem d_X1_rank_54 : decode prog_3_method_19_code 54 = .ok (.iastore, 1) := by decide +kernel
theorem d_X1_rank_55 : decode prog_3_method_19_code 55 = .ok (.iinc 1 1, 3) := by decide +kernel
theorem d_X1_rank_58 : decode prog_3_method_19_code 58 = .ok (.goto (-29), 3) := by decide +kernel
theorem d_X1_rank_61 : decode prog_3_method_19_code 61 = .ok (.return_, 1) := by decide +kernel
abbrev M_Mesh_rank : zMT := (⟨"PeriodSlots$Mesh", "rank", "()V"⟩, prog_3_method_19_code, 2, none)
theorem k_Mesh_rank : zcall M_Mesh_rank 0 := ⟨zU_in (i := 327) (by decide +kernel) rfl, m56, ⟨by decide, by decide, by decide +kernel⟩, by decide⟩
def o_Mesh_rank (h : zHp) (b : Nat) : zHp :=
  (zrep (fun (i29_3 : Nat) (s29_3 : zHp) => (zup s29_3 (b + 8) i29_3 ((s29_3 (b + 6) i29_3) &&& (o_Mesh_stationsAbove s29_3 b i29_3)))) (zrep (fun (i2_1 : Nat) (s2_1 : zHp) => (zup s2_1 (b + 7) i2_1 (o_Mesh_priority s2_1 b (nI i2_1)))) h (zcn (h b 0))) (zcn (h b 0)))
theorem fr_Mesh_rank {h : zHp} {b : Nat} (c k : Nat) (q0 : c ≠ b + 7) (q1 : c ≠ b + 8) : (o_Mesh_rank h b) c k = h c k := by
  unfold o_Mesh_rank
  have hI29_3 := zrep_inv (f := (fun (i29_3 : Nat) (s29_3 : zHp) => (zup s29_3 (b + 8) i29_3 ((s29_3 (b + 6) i29_3) &&& (o_Mesh_stationsAbove s29_3 b i29_3))))) (a := (zrep (fun (i2_1 : Nat) (s2_1 : zHp) => (zup s2_1 (b + 7) i2_1 (o_Mesh_priority s2_1 b (nI i2_1)))) h (zcn (h b 0)))) (fun _ s29_3 => ∀ c k : Nat, c ≠ b + 7 → c ≠ b + 8 → s29_3 c k = (zrep (fun (i2_1 : Nat) (s2_1 : zHp) => (zup s2_1 (b + 7) i2_1 (o_Mesh_priority s2_1 b (nI i2_1)))) h (zcn (h b 0))) c k) (zcn (h b 0)) (fun _ _ _ _ => rfl) (fun i29_3 s29_3 hi29_3 hI29_3 => (fun c k q0 q1 => (by (try dsimp only); exact ((zup_fr (Or.inl (by assumption))).trans (hI29_3 _ _ (by assumption) (by assumption))))))
  have hI2_1 := zrep_inv (f := (fun (i2_1 : Nat) (s2_1 : zHp) => (zup s2_1 (b + 7) i2_1 (o_Mesh_priority s2_1 b (nI i2_1))))) (a := h) (fun _ s2_1 => ∀ c k : Nat, c ≠ b + 7 → c ≠ b + 8 → s2_1 c k = h c k) (zcn (h b 0)) (fun _ _ _ _ => rfl) (fun i2_1 s2_1 hi2_1 hI2_1 => (fun c k q0 q1 => (by (try dsimp only); exact ((zup_fr (Or.inl (by assumption))).trans (hI2_1 _ _ (by assumption) (by assumption))))))
  first | done | exact ((hI29_3 _ _ (by assumption) (by assumption)).trans (hI2_1 _ _ (by assumption) (by assumption)))
set_option maxHeartbeats 400000 in
set_option maxRecDepth 20000 in
theorem c_Mesh_rank (X : zXT) (h : zHp) (g : zLg) (b : Nat) (hb : b = 3 ∨ b = 15 ∨ b = 27) (hf0 : zfit h b 0 8) : zDi X M_Mesh_rank 1 [zR X b] h g none (o_Mesh_rank h b) g := by
  have hf0_1 := hf0.1
  refine zDi_of "PeriodSlots$Mesh" prog_3_method_19_code 2 none rfl (by decide) [zO X b, none] rfl (fun _ q => q) (Nat.le_of_ble_eq_true rfl) ?_
  intro Γ Q C hQ
  refine zr_iconst C (v := 0) d_X1_rank_0 (by decide) ?_
  refine zr_istore_n C [zO X b, zI 0] d_X1_rank_1 (Nat.le_of_ble_eq_true rfl) rfl rfl ?_
  refine zfor (f := (fun (i2_1 : Nat) (s2_1 : zHp) => (zup s2_1 (b + 7) i2_1 (o_Mesh_priority s2_1 b (nI i2_1))))) (a := h) (fun i2_1 s2_1 => zV X Γ Q 2 [zO X b, zI (nI i2_1)] [] s2_1 g) (fun _ s2_1 => ∀ c k : Nat, c ≠ b + 7 → c ≠ b + 8 → s2_1 c k = h c k) (zcn (h b 0)) (fun _ _ _ _ => rfl) (fun i2_1 s2_1 hi2_1 hI2_1 => ⟨(fun c k q0 q1 => (by (try dsimp only); exact ((zup_fr (Or.inl (by assumption))).trans (hI2_1 _ _ (by assumption) (by assumption))))), fun hk2_1 => ?_⟩) (fun r2_1 er2_1 hI2_1 => ?_)
  · refine zr_iload_n C d_X1_rank_2 rfl ?_
    refine zr_aload_n C d_X1_rank_3 rfl ?_
    refine gf_Mesh_0 C hb m95 d_X1_rank_4 ?_
    refine zr_icmp_ge C 27 d_X1_rank_7 (by decide) (fun c => absurd c (zge_no (hI2_1 _ _ (by omega) (by omega)) (by omega))) (fun _ => ?_)
    refine zr_aload_n C d_X1_rank_10 rfl ?_
    refine gf_Mesh_9 C hb m121 d_X1_rank_11 ?_
    refine zr_iload_n C d_X1_rank_14 rfl ?_
    refine zr_aload_n C d_X1_rank_15 rfl ?_
    refine zr_iload_n C d_X1_rank_16 rfl ?_
    refine zr_callVi (As := [.int (nI i2_1)]) (st := [.int (nI i2_1), zR X (b + 7)]) (c := b) C (c_Mesh_priority X s2_1 g b (nI i2_1) hb) k_Mesh_priority m328 m330 m4 (by omega) (zC_Mesh hb X _ _) rfl rfl (by decide) rfl (Nat.le_of_ble_eq_true rfl) d_X1_rank_17 ?_
    refine zr_iast C (za_mesh_7 hb) (i2_1) rfl (by omega) (by decide) d_X1_rank_20 ?_
    refine zr_h (fun h2 eh2 => ?_)
    refine zr_iinc C [zO X b, zI (nI (i2_1 + 1))] (v := (nI (i2_1 + 1))) d_X1_rank_21 rfl (zn_add rfl rfl) (Nat.le_of_ble_eq_true rfl) rfl rfl ?_
    refine zr_goto C 2 d_X1_rank_24 (by decide) ?_
    exact hk2_1 h2 (by subst eh2; exact rfl)
  refine zr_iload_n C d_X1_rank_2 rfl ?_
  refine zr_aload_n C d_X1_rank_3 rfl ?_
  refine gf_Mesh_0 C hb m95 d_X1_rank_4 ?_
  refine zr_icmp_ge C 27 d_X1_rank_7 (by decide) (fun _ => ?_) (fun c => absurd (zge_yes (hI2_1 _ _ (by omega) (by omega)) (by omega) (by have := zcn_small (h b 0); omega)) c)
  refine zr_iconst C (v := 0) d_X1_rank_27 (by decide) ?_
  refine zr_istore_n C [zO X b, zI 0] d_X1_rank_28 (Nat.le_of_ble_eq_true rfl) rfl rfl ?_
  refine zfor (f := (fun (i29_3 : Nat) (s29_3 : zHp) => (zup s29_3 (b + 8) i29_3 ((s29_3 (b + 6) i29_3) &&& (o_Mesh_stationsAbove s29_3 b i29_3))))) (a := r2_1) (fun i29_3 s29_3 => zV X Γ Q 29 [zO X b, zI (nI i29_3)] [] s29_3 g) (fun _ s29_3 => ∀ c k : Nat, c ≠ b + 7 → c ≠ b + 8 → s29_3 c k = r2_1 c k) (zcn (h b 0)) (fun _ _ _ _ => rfl) (fun i29_3 s29_3 hi29_3 hI29_3 => ⟨(fun c k q0 q1 => (by (try dsimp only); exact ((zup_fr (Or.inl (by assumption))).trans (hI29_3 _ _ (by assumption) (by assumption))))), fun hk29_3 => ?_⟩) (fun r29_3 er29_3 hI29_3 => ?_)
  · refine zr_iload_n C d_X1_rank_29 rfl ?_
    refine zr_aload_n C d_X1_rank_30 rfl ?_
    refine gf_Mesh_0 C hb m95 d_X1_rank_31 ?_
    refine zr_icmp_ge C 61 d_X1_rank_34 (by decide) (fun c => absurd c (zge_no ((hI29_3 _ _ (by omega) (by omega)).trans (hI2_1 _ _ (by omega) (by omega))) (by omega))) (fun _ => ?_)
    refine zr_aload_n C d_X1_rank_37 rfl ?_
    refine gf_Mesh_10 C hb m123 d_X1_rank_38 ?_
    refine zr_iload_n C d_X1_rank_41 rfl ?_
    refine zr_aload_n C d_X1_rank_42 rfl ?_
    refine gf_Mesh_8 C hb m118 d_X1_rank_43 ?_
    refine zr_iload_n C d_X1_rank_46 rfl ?_
    refine zr_iald C (za_mesh_6 hb) (i29_3) rfl (by omega) (by decide) d_X1_rank_47 ?_
    refine zr_aload_n C d_X1_rank_48 rfl ?_
    refine zr_iload_n C d_X1_rank_49 rfl ?_
    refine zr_callVi (As := [.int (nI i29_3)]) (st := [.int (s29_3 (b + 6) i29_3), .int (nI i29_3), zR X (b + 8)]) (c := b) C (c_Mesh_stationsAbove X s29_3 g b i29_3 rfl hb (zfit_fr ((hI29_3 _ _ (by omega) (by omega)).trans (hI2_1 _ _ (by omega) (by omega))) hf0) (by omega)) k_Mesh_stationsAbove m336 m338 m5 (by omega) (zC_Mesh hb X _ _) rfl rfl (by decide) rfl (Nat.le_of_ble_eq_true rfl) d_X1_rank_50 ?_
    refine zr_iand C d_X1_rank_53 ?_
    refine zr_iast C (za_mesh_8 hb) (i29_3) rfl (by omega) (by decide) d_X1_rank_54 ?_
    refine zr_h (fun h4 eh4 => ?_)
    refine zr_iinc C [zO X b, zI (nI (i29_3 + 1))] (v := (nI (i29_3 + 1))) d_X1_rank_55 rfl (zn_add rfl rfl) (Nat.le_of_ble_eq_true rfl) rfl rfl ?_
    refine zr_goto C 29 d_X1_rank_58 (by decide) ?_
    exact hk29_3 h4 (by subst eh4; exact rfl)
  refine zr_iload_n C d_X1_rank_29 rfl ?_
  refine zr_aload_n C d_X1_rank_30 rfl ?_
  refine gf_Mesh_0 C hb m95 d_X1_rank_31 ?_
  refine zr_icmp_ge C 61 d_X1_rank_34 (by decide) (fun _ => ?_) (fun c => absurd (zge_yes ((hI29_3 _ _ (by omega) (by omega)).trans (hI2_1 _ _ (by omega) (by omega))) (by omega) (by have := zcn_small (h b 0); omega)) c)
  have eR : o_Mesh_rank h b = r29_3 := (by subst er29_3 er2_1; unfold o_Mesh_rank; exact rfl)
  subst hQ
  rw [eR]
  exact zr_vret C d_X1_rank_61
theorem d_X1_relate_0 : decode prog_3_method_18_code 0 = .ok (.iconst 0, 1) := by decide +kernel
theorem d_X1_relate_1 : decode prog_3_method_18_code 1 = .ok (.istore_n 1, 1) := by decide +kernel
theorem d_X1_relate_2 : decode prog_3_method_18_code 2 = .ok (.iload_n 1, 1) := by decide +kernel
theorem d_X1_relate_3 : decode prog_3_method_18_code 3 = .ok (.aload_n 0, 1) := by decide +kernel
theorem d_X1_relate_4 : decode prog_3_method_18_code 4 = .ok (.getfield 45, 3) := by decide +kernel
theorem d_X1_relate_7 : decode prog_3_method_18_code 7 = .ok (.if_icmp .ge 38, 3) := by decide +kernel
theorem d_X1_relate_10 : decode prog_3_method_18_code 10 = .ok (.aload_n 0, 1) := by decide +kernel
theorem d_X1_relate_11 : decode prog_3_method_18_code 11 = .ok (.getfield 27, 3) := by decide +kernel
theorem d_X1_relate_14 : decode prog_3_method_18_code 14 = .ok (.iload_n 1, 1) := by decide +kernel
theorem d_X1_relate_15 : decode prog_3_method_18_code 15 = .ok (.aload_n 0, 1) := by decide +kernel
theorem d_X1_relate_16 : decode prog_3_method_18_code 16 = .ok (.getfield 15, 3) := by decide +kernel
theorem d_X1_relate_19 : decode prog_3_method_18_code 19 = .ok (.iload_n 1, 1) := by decide +kernel
theorem d_X1_relate_20 : decode prog_3_method_18_code 20 = .ok (.iaload, 1) := by decide +kernel
theorem d_X1_relate_21 : decode prog_3_method_18_code 21 = .ok (.aload_n 0, 1) := by decide +kernel
theorem d_X1_relate_22 : decode prog_3_method_18_code 22 = .ok (.aload_n 0, 1) := by decide +kernel
theorem d_X1_relate_23 : decode prog_3_method_18_code 23 = .ok (.getfield 15, 3) := by decide +kernel
theorem d_X1_relate_26 : decode prog_3_method_18_code 26 = .ok (.iload_n 1, 1) := by decide +kernel
theorem d_X1_relate_27 : decode prog_3_method_18_code 27 = .ok (.iaload, 1) := by decide +kernel
theorem d_X1_relate_28 : decode prog_3_method_18_code 28 = .ok (.invokevirtual 86, 3) := by decide +kernel
theorem d_X1_relate_31 : decode prog_3_method_18_code 31 = .ok (.ior, 1) := by decide +kernel
theorem d_X1_relate_32 : decode prog_3_method_18_code 32 = .ok (.iconst 1, 1) := by decide +kernel
theorem d_X1_relate_33 : decode prog_3_method_18_code 33 = .ok (.iload_n 1, 1) := by decide +kernel
theorem d_X1_relate_34 : decode prog_3_method_18_code 34 = .ok (.ishl, 1) := by decide +kernel
theorem d_X1_relate_35 : decode prog_3_method_18_code 35 = .ok (.iconst (-1), 1) := by decide +kernel
theorem d_X1_relate_36 : decode prog_3_method_18_code 36 = .ok (.ixor, 1) := by decide +kernel
theorem d_X1_relate_37 : decode prog_3_method_18_code 37 = .ok (.iand, 1) := by decide +kernel
theorem d_X1_relate_38 : decode prog_3_method_18_code 38 = .ok (.iastore, 1) := by decide +kernel
theorem d_X1_relate_39 : decode prog_3_method_18_code 39 = .ok (.iinc 1 1, 3) := by decide +kernel
theorem d_X1_relate_42 : decode prog_3_method_18_code 42 = .ok (.goto (-40), 3) := by decide +kernel
theorem d_X1_relate_45 : decode prog_3_method_18_code 45 = .ok (.aload_n 0, 1) := by decide +kernel
theorem d_X1_relate_46 : decode prog_3_method_18_code 46 = .ok (.invokevirtual 102, 3) := by decide +kernel
theorem d_X1_relate_49 : decode prog_3_method_18_code 49 = .ok (.return_, 1) := by decide +kernel
abbrev M_Mesh_relate : zMT := (⟨"PeriodSlots$Mesh", "relate", "()V"⟩, prog_3_method_18_code, 2, none)
theorem k_Mesh_relate : zcall M_Mesh_relate 0 := ⟨zU_in (i := 316) (by decide +kernel) rfl, m56, ⟨by decide, by decide, by decide +kernel⟩, by decide⟩
def o_Mesh_relate (h : zHp) (b : Nat) : zHp :=
  (o_Mesh_rank (zrep (fun (i2_1 : Nat) (s2_1 : zHp) => (zup s2_1 (b + 6) i2_1 (((s2_1 (b + 2) i2_1) ||| (o_Mesh_neighboursOf s2_1 b (s2_1 (b + 2) i2_1))) &&& ((zshl 1 (nI i2_1)) ^^^ (-1))))) h (zcn (h b 0))) b)
theorem fr_Mesh_relate {h : zHp} {b : Nat} (c k : Nat) (q0 : c ≠ b + 6) (q1 : c ≠ b + 7) (q2 : c ≠ b + 8) : (o_Mesh_relate h b) c k = h c k := by
  unfold o_Mesh_relate
  have hI2_1 := zrep_inv (f := (fun (i2_1 : Nat) (s2_1 : zHp) => (zup s2_1 (b + 6) i2_1 (((s2_1 (b + 2) i2_1) ||| (o_Mesh_neighboursOf s2_1 b (s2_1 (b + 2) i2_1))) &&& ((zshl 1 (nI i2_1)) ^^^ (-1)))))) (a := h) (fun _ s2_1 => ∀ c k : Nat, c ≠ b + 6 → c ≠ b + 7 → c ≠ b + 8 → s2_1 c k = h c k) (zcn (h b 0)) (fun _ _ _ _ _ => rfl) (fun i2_1 s2_1 hi2_1 hI2_1 => (fun c k q0 q1 q2 => (by (try dsimp only); exact ((zup_fr (Or.inl (by assumption))).trans (hI2_1 _ _ (by assumption) (by assumption) (by assumption))))))
  first | done | exact ((fr_Mesh_rank _ _ (by assumption) (by assumption)).trans (hI2_1 _ _ (by assumption) (by assumption) (by assumption)))
set_option maxHeartbeats 400000 in
set_option maxRecDepth 20000 in
theorem c_Mesh_relate (X : zXT) (h : zHp) (g : zLg) (b : Nat) (hb : b = 3 ∨ b = 15 ∨ b = 27) (hf0 : zfit h b 0 8) : zDi X M_Mesh_relate 2 [zR X b] h g none (o_Mesh_relate h b) g := by
  have hf0_1 := hf0.1
  refine zDi_of "PeriodSlots$Mesh" prog_3_method_18_code 2 none rfl (by decide) [zO X b, none] rfl (fun _ q => q) (Nat.le_of_ble_eq_true rfl) ?_
  intro Γ Q C hQ
  refine zr_iconst C (v := 0) d_X1_relate_0 (by decide) ?_
  refine zr_istore_n C [zO X b, zI 0] d_X1_relate_1 (Nat.le_of_ble_eq_true rfl) rfl rfl ?_
  refine zfor (f := (fun (i2_1 : Nat) (s2_1 : zHp) => (zup s2_1 (b + 6) i2_1 (((s2_1 (b + 2) i2_1) ||| (o_Mesh_neighboursOf s2_1 b (s2_1 (b + 2) i2_1))) &&& ((zshl 1 (nI i2_1)) ^^^ (-1)))))) (a := h) (fun i2_1 s2_1 => zV X Γ Q 2 [zO X b, zI (nI i2_1)] [] s2_1 g) (fun _ s2_1 => ∀ c k : Nat, c ≠ b + 6 → c ≠ b + 7 → c ≠ b + 8 → s2_1 c k = h c k) (zcn (h b 0)) (fun _ _ _ _ _ => rfl) (fun i2_1 s2_1 hi2_1 hI2_1 => ⟨(fun c k q0 q1 q2 => (by (try dsimp only); exact ((zup_fr (Or.inl (by assumption))).trans (hI2_1 _ _ (by assumption) (by assumption) (by assumption))))), fun hk2_1 => ?_⟩) (fun r2_1 er2_1 hI2_1 => ?_)
  · refine zr_iload_n C d_X1_relate_2 rfl ?_
    refine zr_aload_n C d_X1_relate_3 rfl ?_
    refine gf_Mesh_0 C hb m95 d_X1_relate_4 ?_
    refine zr_icmp_ge C 45 d_X1_relate_7 (by decide) (fun c => absurd c (zge_no (hI2_1 _ _ (by omega) (by omega) (by omega)) (by omega))) (fun _ => ?_)
    refine zr_aload_n C d_X1_relate_10 rfl ?_
    refine gf_Mesh_8 C hb m118 d_X1_relate_11 ?_
    refine zr_iload_n C d_X1_relate_14 rfl ?_
    refine zr_aload_n C d_X1_relate_15 rfl ?_
    refine gf_Mesh_4 C hb m107 d_X1_relate_16 ?_
    refine zr_iload_n C d_X1_relate_19 rfl ?_
    refine zr_iald C (za_mesh_2 hb) (i2_1) rfl (by omega) (by decide) d_X1_relate_20 ?_
    refine zr_aload_n C d_X1_relate_21 rfl ?_
    refine zr_aload_n C d_X1_relate_22 rfl ?_
    refine gf_Mesh_4 C hb m107 d_X1_relate_23 ?_
    refine zr_iload_n C d_X1_relate_26 rfl ?_
    refine zr_iald C (za_mesh_2 hb) (i2_1) rfl (by omega) (by decide) d_X1_relate_27 ?_
    refine zr_callVi (As := [.int (s2_1 (b + 2) i2_1)]) (st := [.int (s2_1 (b + 2) i2_1), .int (nI i2_1), zR X (b + 6)]) (c := b) C (c_Mesh_neighboursOf X s2_1 g b (s2_1 (b + 2) i2_1) hb (zfit_fr (hI2_1 _ _ (by omega) (by omega) (by omega)) hf0)) k_Mesh_neighboursOf m317 m319 m2 (by omega) (zC_Mesh hb X _ _) rfl rfl (by decide) rfl (Nat.le_of_ble_eq_true rfl) d_X1_relate_28 ?_
    refine zr_ior C d_X1_relate_31 ?_
    refine zr_iconst C (v := 1) d_X1_relate_32 (by decide) ?_
    refine zr_iload_n C d_X1_relate_33 rfl ?_
    refine zr_ishl C d_X1_relate_34 ?_
    refine zr_iconst C (v := (-1)) d_X1_relate_35 (by decide) ?_
    refine zr_ixor C d_X1_relate_36 ?_
    refine zr_iand C d_X1_relate_37 ?_
    refine zr_iast C (za_mesh_6 hb) (i2_1) rfl (by omega) (by decide) d_X1_relate_38 ?_
    refine zr_h (fun h2 eh2 => ?_)
    refine zr_iinc C [zO X b, zI (nI (i2_1 + 1))] (v := (nI (i2_1 + 1))) d_X1_relate_39 rfl (zn_add rfl rfl) (Nat.le_of_ble_eq_true rfl) rfl rfl ?_
    refine zr_goto C 2 d_X1_relate_42 (by decide) ?_
    exact hk2_1 h2 (by subst eh2; exact rfl)
  refine zr_iload_n C d_X1_relate_2 rfl ?_
  refine zr_aload_n C d_X1_relate_3 rfl ?_
  refine gf_Mesh_0 C hb m95 d_X1_relate_4 ?_
  refine zr_icmp_ge C 45 d_X1_relate_7 (by decide) (fun _ => ?_) (fun c => absurd (zge_yes (hI2_1 _ _ (by omega) (by omega) (by omega)) (by omega) (by have := zcn_small (h b 0); omega)) c)
  refine zr_aload_n C d_X1_relate_45 rfl ?_
  refine zr_callVv (As := []) (st := []) (c := b) C (c_Mesh_rank X r2_1 g b hb (zfit_fr (hI2_1 _ _ (by omega) (by omega) (by omega)) hf0)) k_Mesh_rank m324 m326 m3 (by omega) (zC_Mesh hb X _ _) rfl rfl (by decide) rfl (Nat.le_of_ble_eq_true rfl) d_X1_relate_46 ?_
  refine zr_h (fun h3 eh3 => ?_)
  have eR : o_Mesh_relate h b = h3 := (by subst eh3 er2_1; unfold o_Mesh_relate; exact rfl)
  subst hQ
  rw [eR]
  exact zr_vret C d_X1_relate_49
theorem pf_clear {h : zHp} {b : Nat} : zfit (o_Mesh_clear h b) b 0 8 := zfit_of (m := 0) ((zup_fr (by omega)).trans zup_at) (by decide) (by decide)
theorem pf_copyFrom {h : zHp} {b o : Nat} (f : zfit h o 0 8) : zfit (o_Mesh_copyFrom h b o) b 0 8 := by
  have e : o_Mesh_copyFrom h b o b 0 = h o 0 := by
    unfold o_Mesh_copyFrom o_Mesh_copyRow
    iterate 10 rw [zcp_fr (by omega)]
    rw [zup_fr (by omega), zup_at]
  unfold zfit
  rw [e]
  exact f
theorem zex {h : zHp} {b : Nat} {v : Int32} (e : o_Mesh_exists h b v = true) : ¬ v < 0 ∧ zcn v < zcn (h b 0) := by
  unfold o_Mesh_exists at e
  simp only [Bool.and_eq_true, Bool.not_eq_true', decide_eq_false_iff_not] at e
  obtain ⟨h1, h2⟩ := e
  refine ⟨h1, ?_⟩
  rcases Nat.lt_or_ge (zcn v) (zcn (h b 0)) with q | q
  · exact q
  · refine absurd ?_ h2
    rw [zix h1]
    exact zge_yes rfl q (zcn_small v)
end
section
/-! Walks of methods, by program (wip/whole/gen). -/
theorem d_X1_add_0 : decode prog_3_method_5_code 0 = .ok (.aload_n 0, 1) := by decide +kernel
theorem d_X1_add_1 : decode prog_3_method_5_code 1 = .ok (.getfield 45, 3) := by decide +kernel
theorem d_X1_add_4 : decode prog_3_method_5_code 4 = .ok (.bipush 8, 2) := by decide +kernel
theorem d_X1_add_6 : decode prog_3_method_5_code 6 = .ok (.if_icmp .lt 4, 3) := by decide +kernel
theorem d_X1_add_9 : decode prog_3_method_5_code 9 = .ok (.return_, 1) := by decide +kernel
theorem d_X1_add_10 : decode prog_3_method_5_code 10 = .ok (.aload_n 0, 1) := by decide +kernel
theorem d_X1_add_11 : decode prog_3_method_5_code 11 = .ok (.getfield 9, 3) := by decide +kernel
theorem d_X1_add_14 : decode prog_3_method_5_code 14 = .ok (.aload_n 0, 1) := by decide +kernel
theorem d_X1_add_15 : decode prog_3_method_5_code 15 = .ok (.getfield 45, 3) := by decide +kernel
theorem d_X1_add_18 : decode prog_3_method_5_code 18 = .ok (.iload_n 1, 1) := by decide +kernel
theorem d_X1_add_19 : decode prog_3_method_5_code 19 = .ok (.iastore, 1) := by decide +kernel
theorem d_X1_add_20 : decode prog_3_method_5_code 20 = .ok (.aload_n 0, 1) := by decide +kernel
theorem d_X1_add_21 : decode prog_3_method_5_code 21 = .ok (.getfield 24, 3) := by decide +kernel
theorem d_X1_add_24 : decode prog_3_method_5_code 24 = .ok (.aload_n 0, 1) := by decide +kernel
theorem d_X1_add_25 : decode prog_3_method_5_code 25 = .ok (.getfield 45, 3) := by decide +kernel
theorem d_X1_add_28 : decode prog_3_method_5_code 28 = .ok (.iconst 0, 1) := by decide +kernel
theorem d_X1_add_29 : decode prog_3_method_5_code 29 = .ok (.iastore, 1) := by decide +kernel
theorem d_X1_add_30 : decode prog_3_method_5_code 30 = .ok (.iconst 0, 1) := by decide +kernel
theorem d_X1_add_31 : decode prog_3_method_5_code 31 = .ok (.istore_n 3, 1) := by decide +kernel
theorem d_X1_add_32 : decode prog_3_method_5_code 32 = .ok (.iload_n 3, 1) := by decide +kernel
theorem d_X1_add_33 : decode prog_3_method_5_code 33 = .ok (.bipush 8, 2) := by decide +kernel
theorem d_X1_add_35 : decode prog_3_method_5_code 35 = .ok (.if_icmp .ge 36, 3) := by decide +kernel
theorem d_X1_add_38 : decode prog_3_method_5_code 38 = .ok (.aload_n 0, 1) := by decide +kernel
theorem d_X1_add_39 : decode prog_3_method_5_code 39 = .ok (.aload_n 0, 1) := by decide +kernel
theorem d_X1_add_40 : decode prog_3_method_5_code 40 = .ok (.getfield 45, 3) := by decide +kernel
theorem d_X1_add_43 : decode prog_3_method_5_code 43 = .ok (.iload_n 3, 1) := by decide +kernel
theorem d_X1_add_44 : decode prog_3_method_5_code 44 = .ok (.invokevirtual 62, 3) := by decide +kernel
theorem d_X1_add_47 : decode prog_3_method_5_code 47 = .ok (.ifCond .ne 18, 3) := by decide +kernel
theorem d_X1_add_50 : decode prog_3_method_5_code 50 = .ok (.aload_n 0, 1) := by decide +kernel
theorem d_X1_add_51 : decode prog_3_method_5_code 51 = .ok (.getfield 24, 3) := by decide +kernel
theorem d_X1_add_54 : decode prog_3_method_5_code 54 = .ok (.aload_n 0, 1) := by decide +kernel
theorem d_X1_add_55 : decode prog_3_method_5_code 55 = .ok (.getfield 45, 3) := by decide +kernel
theorem d_X1_add_58 : decode prog_3_method_5_code 58 = .ok (.dup2, 1) := by decide +kernel
theorem d_X1_add_59 : decode prog_3_method_5_code 59 = .ok (.iaload, 1) := by decide +kernel
theorem d_X1_add_60 : decode prog_3_method_5_code 60 = .ok (.iconst 1, 1) := by decide +kernel
theorem d_X1_add_61 : decode prog_3_method_5_code 61 = .ok (.iload_n 3, 1) := by decide +kernel
theorem d_X1_add_62 : decode prog_3_method_5_code 62 = .ok (.ishl, 1) := by decide +kernel
theorem d_X1_add_63 : decode prog_3_method_5_code 63 = .ok (.ior, 1) := by decide +kernel
theorem d_X1_add_64 : decode prog_3_method_5_code 64 = .ok (.iastore, 1) := by decide +kernel
theorem d_X1_add_65 : decode prog_3_method_5_code 65 = .ok (.iinc 3 1, 3) := by decide +kernel
theorem d_X1_add_68 : decode prog_3_method_5_code 68 = .ok (.goto (-36), 3) := by decide +kernel
theorem d_X1_add_71 : decode prog_3_method_5_code 71 = .ok (.aload_n 0, 1) := by decide +kernel
theorem d_X1_add_72 : decode prog_3_method_5_code 72 = .ok (.getfield 15, 3) := by decide +kernel
theorem d_X1_add_75 : decode prog_3_method_5_code 75 = .ok (.aload_n 0, 1) := by decide +kernel
theorem d_X1_add_76 : decode prog_3_method_5_code 76 = .ok (.getfield 45, 3) := by decide +kernel
theorem d_X1_add_79 : decode prog_3_method_5_code 79 = .ok (.iconst 0, 1) := by decide +kernel
theorem d_X1_add_80 : decode prog_3_method_5_code 80 = .ok (.iastore, 1) := by decide +kernel
theorem d_X1_add_81 : decode prog_3_method_5_code 81 = .ok (.aload_n 0, 1) := by decide +kernel
theorem d_X1_add_82 : decode prog_3_method_5_code 82 = .ok (.getfield 18, 3) := by decide +kernel
theorem d_X1_add_85 : decode prog_3_method_5_code 85 = .ok (.aload_n 0, 1) := by decide +kernel
theorem d_X1_add_86 : decode prog_3_method_5_code 86 = .ok (.getfield 45, 3) := by decide +kernel
theorem d_X1_add_89 : decode prog_3_method_5_code 89 = .ok (.iload_n 2, 1) := by decide +kernel
theorem d_X1_add_90 : decode prog_3_method_5_code 90 = .ok (.iastore, 1) := by decide +kernel
theorem d_X1_add_91 : decode prog_3_method_5_code 91 = .ok (.aload_n 0, 1) := by decide +kernel
theorem d_X1_add_92 : decode prog_3_method_5_code 92 = .ok (.dup, 1) := by decide +kernel
theorem d_X1_add_93 : decode prog_3_method_5_code 93 = .ok (.getfield 45, 3) := by decide +kernel
theorem d_X1_add_96 : decode prog_3_method_5_code 96 = .ok (.iconst 1, 1) := by decide +kernel
theorem d_X1_add_97 : decode prog_3_method_5_code 97 = .ok (.iadd, 1) := by decide +kernel
theorem d_X1_add_98 : decode prog_3_method_5_code 98 = .ok (.putfield 45, 3) := by decide +kernel
theorem d_X1_add_101 : decode prog_3_method_5_code 101 = .ok (.aload_n 0, 1) := by decide +kernel
theorem d_X1_add_102 : decode prog_3_method_5_code 102 = .ok (.invokevirtual 66, 3) := by decide +kernel
theorem d_X1_add_105 : decode prog_3_method_5_code 105 = .ok (.aload_n 0, 1) := by decide +kernel
theorem d_X1_add_106 : decode prog_3_method_5_code 106 = .ok (.invokevirtual 69, 3) := by decide +kernel
theorem d_X1_add_109 : decode prog_3_method_5_code 109 = .ok (.return_, 1) := by decide +kernel
abbrev M_Mesh_add : zMT := (⟨"PeriodSlots$Mesh", "add", "(II)V"⟩, prog_3_method_5_code, 4, none)
theorem k_Mesh_add : zcall M_Mesh_add 2 := ⟨zU_in (i := 293) (by decide +kernel) rfl, m56, ⟨by decide, by decide, by decide +kernel⟩, by decide⟩
def o_Mesh_add (h : zHp) (b : Nat) (period : Int32) (offset : Int32) : zHp :=
  (if (h b 0) < 8 then (o_Mesh_relate (o_Mesh_dropOlds (zup (zup (zup (zrep (fun (i32_4 : Nat) (s32_4 : zHp) => (if (o_Mesh_wrapped s32_4 b (zcn (h b 0)) (nI i32_4)) = 0 then (zup s32_4 (b + 5) (zcn (h b 0)) ((s32_4 (b + 5) (zcn (h b 0))) ||| (zshl 1 (nI i32_4)))) else s32_4)) (zup (zup h (b + 1) (zcn (h b 0)) period) (b + 5) (zcn (h b 0)) 0) 8) (b + 2) (zcn (h b 0)) 0) (b + 3) (zcn (h b 0)) offset) b 0 (((zup (zup (zrep (fun (i32_4 : Nat) (s32_4 : zHp) => (if (o_Mesh_wrapped s32_4 b (zcn (h b 0)) (nI i32_4)) = 0 then (zup s32_4 (b + 5) (zcn (h b 0)) ((s32_4 (b + 5) (zcn (h b 0))) ||| (zshl 1 (nI i32_4)))) else s32_4)) (zup (zup h (b + 1) (zcn (h b 0)) period) (b + 5) (zcn (h b 0)) 0) 8) (b + 2) (zcn (h b 0)) 0) (b + 3) (zcn (h b 0)) offset) b 0) + 1)) b) b) else h)
theorem fr_Mesh_add {h : zHp} {b : Nat} {period : Int32} {offset : Int32} (c k : Nat) (q0 : ¬ (c = b ∧ k = 0)) (q1 : c ≠ b + 1) (q2 : c ≠ b + 2) (q3 : c ≠ b + 3) (q4 : c ≠ b + 4) (q5 : c ≠ b + 5) (q6 : c ≠ b + 6) (q7 : c ≠ b + 7) (q8 : c ≠ b + 8) (q9 : c ≠ b + 9) (q10 : c ≠ b + 10) : (o_Mesh_add h b period offset) c k = h c k := by
  unfold o_Mesh_add
  by_cases f1 : (h b 0) < 8
  · rw [if_pos f1]
    have hI32_4 := zrep_inv (f := (fun (i32_4 : Nat) (s32_4 : zHp) => (if (o_Mesh_wrapped s32_4 b (zcn (h b 0)) (nI i32_4)) = 0 then (zup s32_4 (b + 5) (zcn (h b 0)) ((s32_4 (b + 5) (zcn (h b 0))) ||| (zshl 1 (nI i32_4)))) else s32_4))) (a := (zup (zup h (b + 1) (zcn (h b 0)) period) (b + 5) (zcn (h b 0)) 0)) (fun _ s32_4 => ∀ c k : Nat, c ≠ b + 5 → s32_4 c k = (zup (zup h (b + 1) (zcn (h b 0)) period) (b + 5) (zcn (h b 0)) 0) c k) (8) (fun _ _ _ => rfl) (fun i32_4 s32_4 hi32_4 hI32_4 => (fun c k q0 => (by (try dsimp only); exact (zite_fr (fun _ => ((zup_fr (Or.inl (by assumption))).trans (hI32_4 _ _ (by assumption)))) (fun _ => (hI32_4 _ _ (by assumption)))))))
    first | done | exact ((fr_Mesh_relate _ _ (by assumption) (by assumption) (by assumption)).trans ((fr_Mesh_dropOlds _ _ (by assumption) (by assumption) (by assumption)).trans ((zup_fr (by omega)).trans ((zup_fr (Or.inl (by assumption))).trans ((zup_fr (Or.inl (by assumption))).trans ((hI32_4 _ _ (by assumption)).trans ((zup_fr (Or.inl (by assumption))).trans (zup_fr (Or.inl (by assumption))))))))))
  · rw [if_neg f1]
    first | done | exact rfl
set_option maxHeartbeats 400000 in
set_option maxRecDepth 20000 in
theorem c_Mesh_add (X : zXT) (h : zHp) (g : zLg) (b : Nat) (period : Int32) (offset : Int32) (hb : b = 3 ∨ b = 15 ∨ b = 27) (hf0 : zfit h b 0 8) : zDi X M_Mesh_add 3 [zR X b, .int period, .int offset] h g none (o_Mesh_add h b period offset) g := by
  have hf0_1 := hf0.1
  refine zDi_of "PeriodSlots$Mesh" prog_3_method_5_code 4 none rfl (by decide) [zO X b, zI period, zI offset, none] rfl (fun _ q => q) (Nat.le_of_ble_eq_true rfl) ?_
  intro Γ Q C hQ
  refine zr_aload_n C d_X1_add_0 rfl ?_
  refine gf_Mesh_0 C hb m95 d_X1_add_1 ?_
  refine zr_bipush C (v := 8) d_X1_add_4 (by decide) ?_
  refine zr_icmp_lt C 10 d_X1_add_6 (by decide) (fun c6 => ?_) (fun c6 => ?_)
  · have en1 := zn_lt (a := zcn (h b 0)) (b := 8) hf0.2 rfl c6 (zcn_small _) (by decide)
    refine zr_aload_n C d_X1_add_10 rfl ?_
    refine gf_Mesh_3 C hb m104 d_X1_add_11 ?_
    refine zr_aload_n C d_X1_add_14 rfl ?_
    refine gf_Mesh_0 C hb m95 d_X1_add_15 ?_
    refine zr_iload_n C d_X1_add_18 rfl ?_
    refine zr_iast C (za_mesh_1 hb) (zcn (h b 0)) hf0.2 (by omega) (by decide) d_X1_add_19 ?_
    refine zr_h (fun h2 eh2 => ?_)
    refine zr_aload_n C d_X1_add_20 rfl ?_
    refine gf_Mesh_7 C hb m117 d_X1_add_21 ?_
    refine zr_aload_n C d_X1_add_24 rfl ?_
    refine gf_Mesh_0 C hb m95 d_X1_add_25 ?_
    refine zr_iconst C (v := 0) d_X1_add_28 (by decide) ?_
    refine zr_iast C (za_mesh_5 hb) (zcn (h b 0)) (((congrFun (congrFun eh2.symm _) _).trans (zup_fr (by omega))).trans hf0.2) (by omega) (by decide) d_X1_add_29 ?_
    refine zr_h (fun h3 eh3 => ?_)
    refine zr_iconst C (v := 0) d_X1_add_30 (by decide) ?_
    refine zr_istore_n C [zO X b, zI period, zI offset, zI 0] d_X1_add_31 (Nat.le_of_ble_eq_true rfl) rfl rfl ?_
    refine zr_lv [zO X b, none, zI offset, zI 0] (by simp [zle]) ?_
    refine zfor (f := (fun (i32_4 : Nat) (s32_4 : zHp) => (if (o_Mesh_wrapped s32_4 b (zcn (h b 0)) (nI i32_4)) = 0 then (zup s32_4 (b + 5) (zcn (h b 0)) ((s32_4 (b + 5) (zcn (h b 0))) ||| (zshl 1 (nI i32_4)))) else s32_4))) (a := h3) (fun i32_4 s32_4 => zV X Γ Q 32 [zO X b, none, zI offset, zI (nI i32_4)] [] s32_4 g) (fun _ s32_4 => ∀ c k : Nat, c ≠ b + 5 → s32_4 c k = h3 c k) (8) (fun _ _ _ => rfl) (fun i32_4 s32_4 hi32_4 hI32_4 => ⟨(fun c k q0 => (by (try dsimp only); exact (zite_fr (fun _ => ((zup_fr (Or.inl (by assumption))).trans (hI32_4 _ _ (by assumption)))) (fun _ => (hI32_4 _ _ (by assumption)))))), fun hk32_4 => ?_⟩) (fun r32_4 er32_4 hI32_4 => ?_)
    · refine zr_iload_n C d_X1_add_32 rfl ?_
      refine zr_bipush C (v := 8) d_X1_add_33 (by decide) ?_
      refine zr_icmp_ge C 71 d_X1_add_35 (by decide) (fun c => absurd c (zge_noN (B := 8) rfl (by omega) (by omega))) (fun _ => ?_)
      refine zr_aload_n C d_X1_add_38 rfl ?_
      refine zr_aload_n C d_X1_add_39 rfl ?_
      refine gf_Mesh_0 C hb m95 d_X1_add_40 ?_
      refine zr_iload_n C d_X1_add_43 rfl ?_
      refine zr_callVi (As := [.int (s32_4 b 0), .int (nI i32_4)]) (st := []) (c := b) C (c_Mesh_wrapped X s32_4 g b (zcn (h b 0)) (nI i32_4) (((hI32_4 _ _ (by omega)).trans ((congrFun (congrFun eh3.symm _) _).trans ((zup_fr (by omega)).trans ((congrFun (congrFun eh2.symm _) _).trans (zup_fr (by omega)))))).trans hf0.2) hb (by omega)) k_Mesh_wrapped m294 m295 m296 (by omega) (zC_Mesh hb X _ _) rfl rfl (by decide) rfl (Nat.le_of_ble_eq_true rfl) d_X1_add_44 ?_
      suffices hJ47 : ∀ (h6 : zHp), (if (o_Mesh_wrapped s32_4 b (zcn (h b 0)) (nI i32_4)) = 0 then (zup s32_4 (b + 5) (zcn (h b 0)) ((s32_4 (b + 5) (zcn (h b 0))) ||| (zshl 1 (nI i32_4)))) else s32_4) = h6 → zV X Γ Q 65 [zO X b, none, zI offset, zI (nI i32_4)] [] h6 g by
        refine zr_if_ne C 65 d_X1_add_47 (by decide) (fun c47 => ?_) (fun c47 => ?_)
        · exact hJ47 s32_4 (((if_neg c47)))
        · refine zr_aload_n C d_X1_add_50 rfl ?_
          refine gf_Mesh_7 C hb m117 d_X1_add_51 ?_
          refine zr_aload_n C d_X1_add_54 rfl ?_
          refine gf_Mesh_0 C hb m95 d_X1_add_55 ?_
          refine zr_dup2 C d_X1_add_58 rfl rfl ?_
          refine zr_iald C (za_mesh_5 hb) (zcn (h b 0)) (((hI32_4 _ _ (by omega)).trans ((congrFun (congrFun eh3.symm _) _).trans ((zup_fr (by omega)).trans ((congrFun (congrFun eh2.symm _) _).trans (zup_fr (by omega)))))).trans hf0.2) (by omega) (by decide) d_X1_add_59 ?_
          refine zr_iconst C (v := 1) d_X1_add_60 (by decide) ?_
          refine zr_iload_n C d_X1_add_61 rfl ?_
          refine zr_ishl C d_X1_add_62 ?_
          refine zr_ior C d_X1_add_63 ?_
          refine zr_iast C (za_mesh_5 hb) (zcn (h b 0)) (((hI32_4 _ _ (by omega)).trans ((congrFun (congrFun eh3.symm _) _).trans ((zup_fr (by omega)).trans ((congrFun (congrFun eh2.symm _) _).trans (zup_fr (by omega)))))).trans hf0.2) (by omega) (by decide) d_X1_add_64 ?_
          refine zr_h (fun h5 eh5 => ?_)
          exact hJ47 h5 (by subst eh5; exact ((if_pos c47)))
      intro h6 eh6
      refine zr_iinc C [zO X b, none, zI offset, zI (nI (i32_4 + 1))] (v := (nI (i32_4 + 1))) d_X1_add_65 rfl (zn_add rfl rfl) (Nat.le_of_ble_eq_true rfl) rfl rfl ?_
      refine zr_goto C 32 d_X1_add_68 (by decide) ?_
      exact hk32_4 h6 (by subst eh6; exact rfl)
    refine zr_iload_n C d_X1_add_32 rfl ?_
    refine zr_bipush C (v := 8) d_X1_add_33 (by decide) ?_
    refine zr_icmp_ge C 71 d_X1_add_35 (by decide) (fun _ => ?_) (fun c => absurd (zge_yesN (B := 8) rfl (by omega) (by omega)) c)
    refine zr_aload_n C d_X1_add_71 rfl ?_
    refine gf_Mesh_4 C hb m107 d_X1_add_72 ?_
    refine zr_aload_n C d_X1_add_75 rfl ?_
    refine gf_Mesh_0 C hb m95 d_X1_add_76 ?_
    refine zr_iconst C (v := 0) d_X1_add_79 (by decide) ?_
    refine zr_iast C (za_mesh_2 hb) (zcn (h b 0)) (((hI32_4 _ _ (by omega)).trans ((congrFun (congrFun eh3.symm _) _).trans ((zup_fr (by omega)).trans ((congrFun (congrFun eh2.symm _) _).trans (zup_fr (by omega)))))).trans hf0.2) (by omega) (by decide) d_X1_add_80 ?_
    refine zr_h (fun h7 eh7 => ?_)
    refine zr_aload_n C d_X1_add_81 rfl ?_
    refine gf_Mesh_5 C hb m111 d_X1_add_82 ?_
    refine zr_aload_n C d_X1_add_85 rfl ?_
    refine gf_Mesh_0 C hb m95 d_X1_add_86 ?_
    refine zr_iload_n C d_X1_add_89 rfl ?_
    refine zr_iast C (za_mesh_3 hb) (zcn (h b 0)) (((congrFun (congrFun eh7.symm _) _).trans ((zup_fr (by omega)).trans ((hI32_4 _ _ (by omega)).trans ((congrFun (congrFun eh3.symm _) _).trans ((zup_fr (by omega)).trans ((congrFun (congrFun eh2.symm _) _).trans (zup_fr (by omega)))))))).trans hf0.2) (by omega) (by decide) d_X1_add_90 ?_
    refine zr_h (fun h8 eh8 => ?_)
    refine zr_aload_n C d_X1_add_91 rfl ?_
    refine zr_dup C d_X1_add_92 rfl ?_
    refine gf_Mesh_0 C hb m95 d_X1_add_93 ?_
    refine zr_iconst C (v := 1) d_X1_add_96 (by decide) ?_
    refine zr_iadd C d_X1_add_97 ?_
    refine pf_Mesh_0 C hb m95 d_X1_add_98 ?_
    refine zr_h (fun h9 eh9 => ?_)
    have hfh9 : zfit h9 b 0 8 := zfit_of (m := (zcn (h b 0)) + 1) ((congrFun (congrFun eh9.symm _) _).trans (zup_at.trans (zn_add (((congrFun (congrFun eh8.symm _) _).trans ((zup_fr (by omega)).trans ((congrFun (congrFun eh7.symm _) _).trans ((zup_fr (by omega)).trans ((hI32_4 _ _ (by omega)).trans ((congrFun (congrFun eh3.symm _) _).trans ((zup_fr (by omega)).trans ((congrFun (congrFun eh2.symm _) _).trans (zup_fr (by omega)))))))))).trans hf0.2) rfl))) (by omega) (by decide)
    have hfh9_1 := hfh9.1
    refine zr_aload_n C d_X1_add_101 rfl ?_
    refine zr_callVv (As := []) (st := []) (c := b) C (c_Mesh_dropOlds X h9 g b hb hfh9) k_Mesh_dropOlds m298 m299 m300 (by omega) (zC_Mesh hb X _ _) rfl rfl (by decide) rfl (Nat.le_of_ble_eq_true rfl) d_X1_add_102 ?_
    refine zr_h (fun h10 eh10 => ?_)
    refine zr_aload_n C d_X1_add_105 rfl ?_
    refine zr_callVv (As := []) (st := []) (c := b) C (c_Mesh_relate X h10 g b hb (zfit_fr ((congrFun (congrFun eh10.symm _) _).trans (fr_Mesh_dropOlds _ _ (by omega) (by omega) (by omega))) hfh9)) k_Mesh_relate m313 m314 m315 (by omega) (zC_Mesh hb X _ _) rfl rfl (by decide) rfl (Nat.le_of_ble_eq_true rfl) d_X1_add_106 ?_
    refine zr_h (fun h11 eh11 => ?_)
    have eR : o_Mesh_add h b period offset = h11 := (by subst eh11 eh10 eh9 eh8 eh7 er32_4 eh3 eh2; unfold o_Mesh_add; rw [if_pos c6])
    subst hQ
    rw [eR]
    exact zr_vret C d_X1_add_109
  · have en12 := zn_nlt (a := zcn (h b 0)) (b := 8) hf0.2 rfl c6 (zcn_small _) (by decide)
    have eR : o_Mesh_add h b period offset = h := (by unfold o_Mesh_add; rw [if_neg c6])
    subst hQ
    rw [eR]
    exact zr_vret C d_X1_add_9
theorem d_X1_pairError_0 : decode prog_3_method_7_code 0 = .ok (.aload_n 0, 1) := by decide +kernel
theorem d_X1_pairError_1 : decode prog_3_method_7_code 1 = .ok (.iload_n 1, 1) := by decide +kernel
theorem d_X1_pairError_2 : decode prog_3_method_7_code 2 = .ok (.invokevirtual 72, 3) := by decide +kernel
theorem d_X1_pairError_5 : decode prog_3_method_7_code 5 = .ok (.ifCond .eq 11, 3) := by decide +kernel
theorem d_X1_pairError_8 : decode prog_3_method_7_code 8 = .ok (.aload_n 0, 1) := by decide +kernel
theorem d_X1_pairError_9 : decode prog_3_method_7_code 9 = .ok (.iload_n 2, 1) := by decide +kernel
theorem d_X1_pairError_10 : decode prog_3_method_7_code 10 = .ok (.invokevirtual 72, 3) := by decide +kernel
theorem d_X1_pairError_13 : decode prog_3_method_7_code 13 = .ok (.ifCond .ne 5, 3) := by decide +kernel
theorem d_X1_pairError_16 : decode prog_3_method_7_code 16 = .ok (.iconst (-1), 1) := by decide +kernel
theorem d_X1_pairError_17 : decode prog_3_method_7_code 17 = .ok (.ireturn, 1) := by decide +kernel
theorem d_X1_pairError_18 : decode prog_3_method_7_code 18 = .ok (.iload_n 1, 1) := by decide +kernel
theorem d_X1_pairError_19 : decode prog_3_method_7_code 19 = .ok (.iload_n 2, 1) := by decide +kernel
theorem d_X1_pairError_20 : decode prog_3_method_7_code 20 = .ok (.if_icmp .ne 8, 3) := by decide +kernel
theorem d_X1_pairError_23 : decode prog_3_method_7_code 23 = .ok (.bipush (-2), 2) := by decide +kernel
theorem d_X1_pairError_25 : decode prog_3_method_7_code 25 = .ok (.goto 4, 3) := by decide +kernel
theorem d_X1_pairError_28 : decode prog_3_method_7_code 28 = .ok (.iconst 0, 1) := by decide +kernel
theorem d_X1_pairError_29 : decode prog_3_method_7_code 29 = .ok (.ireturn, 1) := by decide +kernel
abbrev M_Mesh_pairError : zMT := (⟨"PeriodSlots$Mesh", "pairError", "(II)I"⟩, prog_3_method_7_code, 3, (some .int))
theorem k_Mesh_pairError : zcall M_Mesh_pairError 2 := ⟨zU_in (i := 488) (by decide +kernel) rfl, m56, ⟨by decide, by decide, by decide +kernel⟩, by decide⟩
def o_Mesh_pairError (h : zHp) (b : Nat) (i : Int32) (j : Int32) : Int32 :=
  (if (o_Mesh_exists h b i) = true then (if (o_Mesh_exists h b j) = true then (if i = j then (-2) else 0) else (-1)) else (-1))
set_option maxHeartbeats 400000 in
set_option maxRecDepth 20000 in
theorem c_Mesh_pairError (X : zXT) (h : zHp) (g : zLg) (b : Nat) (i : Int32) (j : Int32) (hb : b = 3 ∨ b = 15 ∨ b = 27) : zDi X M_Mesh_pairError 1 [zR X b, .int i, .int j] h g (zI (o_Mesh_pairError h b i j)) h g := by
  refine zDi_of "PeriodSlots$Mesh" prog_3_method_7_code 3 (some .int) rfl (by decide) [zO X b, zI i, zI j] rfl (fun _ q => q) (Nat.le_of_ble_eq_true rfl) ?_
  intro Γ Q C hQ
  refine zr_aload_n C d_X1_pairError_0 rfl ?_
  refine zr_iload_n C d_X1_pairError_1 rfl ?_
  refine zr_callVi (As := [.int i]) (st := []) (c := b) C (c_Mesh_exists X h g b i hb) k_Mesh_exists m489 m359 m360 (by omega) (zC_Mesh hb X _ _) rfl rfl (by decide) rfl (Nat.le_of_ble_eq_true rfl) d_X1_pairError_2 ?_
  refine zr_ifz_eq C 16 d_X1_pairError_5 (by decide) (fun c5 => ?_) (fun c5 => ?_)
  · refine zr_iconst C (v := (-1)) d_X1_pairError_16 (by decide) ?_
    have eR : o_Mesh_pairError h b i j = (-1) := (by unfold o_Mesh_pairError; rw [if_neg (zbf c5)])
    subst hQ
    rw [eR]
    exact zr_ireti C d_X1_pairError_17
  · have ex1 := zex c5
    have ex1_2 := ex1.2
    refine zr_aload_n C d_X1_pairError_8 rfl ?_
    refine zr_iload_n C d_X1_pairError_9 rfl ?_
    refine zr_callVi (As := [.int j]) (st := []) (c := b) C (c_Mesh_exists X h g b j hb) k_Mesh_exists m489 m359 m360 (by omega) (zC_Mesh hb X _ _) rfl rfl (by decide) rfl (Nat.le_of_ble_eq_true rfl) d_X1_pairError_10 ?_
    refine zr_ifz_ne C 18 d_X1_pairError_13 (by decide) (fun c13 => ?_) (fun c13 => ?_)
    · have ex2 := zex c13
      have ex2_2 := ex2.2
      refine zr_iload_n C d_X1_pairError_18 rfl ?_
      refine zr_iload_n C d_X1_pairError_19 rfl ?_
      suffices hJ20 : ∀ (y5 : Int32), (if i = j then (-2) else 0) = y5 → zV X Γ Q 29 [none, none, none] [.int y5] h g by
        refine zr_icmp_ne C 28 d_X1_pairError_20 (by decide) (fun c20 => ?_) (fun c20 => ?_)
        · have en3 := zn_ne (a := zcn i) (b := zcn j) (zix ex1.1) (zix ex2.1) c20 (zcn_small _) (zcn_small _)
          refine zr_iconst C (v := 0) d_X1_pairError_28 (by decide) ?_
          refine zr_lv [none, none, none] (by simp [zle]) ?_
          exact hJ20 0 (((if_neg c20)))
        · have en4 := zn_nne (a := zcn i) (b := zcn j) (zix ex1.1) (zix ex2.1) c20 (zcn_small _) (zcn_small _)
          refine zr_bipush C (v := (-2)) d_X1_pairError_23 (by decide) ?_
          refine zr_goto C 29 d_X1_pairError_25 (by decide) ?_
          refine zr_lv [none, none, none] (by simp [zle]) ?_
          exact hJ20 (-2) (((if_pos c20)))
      intro y5 ey5
      have eR : o_Mesh_pairError h b i j = y5 := (by subst ey5; unfold o_Mesh_pairError; rw [if_pos c5, if_pos c13])
      subst hQ
      rw [eR]
      exact zr_ireti C d_X1_pairError_29
    · refine zr_iconst C (v := (-1)) d_X1_pairError_16 (by decide) ?_
      have eR : o_Mesh_pairError h b i j = (-1) := (by unfold o_Mesh_pairError; rw [if_pos c5, if_neg (zbf c13)])
      subst hQ
      rw [eR]
      exact zr_ireti C d_X1_pairError_17
theorem d_X1_offsetError_0 : decode prog_3_method_8_code 0 = .ok (.aload_n 0, 1) := by decide +kernel
theorem d_X1_offsetError_1 : decode prog_3_method_8_code 1 = .ok (.iload_n 1, 1) := by decide +kernel
theorem d_X1_offsetError_2 : decode prog_3_method_8_code 2 = .ok (.invokevirtual 72, 3) := by decide +kernel
theorem d_X1_offsetError_5 : decode prog_3_method_8_code 5 = .ok (.ifCond .ne 5, 3) := by decide +kernel
theorem d_X1_offsetError_8 : decode prog_3_method_8_code 8 = .ok (.iconst (-1), 1) := by decide +kernel
theorem d_X1_offsetError_9 : decode prog_3_method_8_code 9 = .ok (.ireturn, 1) := by decide +kernel
theorem d_X1_offsetError_10 : decode prog_3_method_8_code 10 = .ok (.iload_n 2, 1) := by decide +kernel
theorem d_X1_offsetError_11 : decode prog_3_method_8_code 11 = .ok (.bipush (-9), 2) := by decide +kernel
theorem d_X1_offsetError_13 : decode prog_3_method_8_code 13 = .ok (.if_icmp .eq 17, 3) := by decide +kernel
theorem d_X1_offsetError_16 : decode prog_3_method_8_code 16 = .ok (.iload_n 2, 1) := by decide +kernel
theorem d_X1_offsetError_17 : decode prog_3_method_8_code 17 = .ok (.ifCond .lt 17, 3) := by decide +kernel
theorem d_X1_offsetError_20 : decode prog_3_method_8_code 20 = .ok (.iload_n 2, 1) := by decide +kernel
theorem d_X1_offsetError_21 : decode prog_3_method_8_code 21 = .ok (.aload_n 0, 1) := by decide +kernel
theorem d_X1_offsetError_22 : decode prog_3_method_8_code 22 = .ok (.getfield 9, 3) := by decide +kernel
theorem d_X1_offsetError_25 : decode prog_3_method_8_code 25 = .ok (.iload_n 1, 1) := by decide +kernel
theorem d_X1_offsetError_26 : decode prog_3_method_8_code 26 = .ok (.iaload, 1) := by decide +kernel
theorem d_X1_offsetError_27 : decode prog_3_method_8_code 27 = .ok (.if_icmp .ge 7, 3) := by decide +kernel
theorem d_X1_offsetError_30 : decode prog_3_method_8_code 30 = .ok (.iconst 0, 1) := by decide +kernel
theorem d_X1_offsetError_31 : decode prog_3_method_8_code 31 = .ok (.goto 5, 3) := by decide +kernel
theorem d_X1_offsetError_34 : decode prog_3_method_8_code 34 = .ok (.bipush (-2), 2) := by decide +kernel
theorem d_X1_offsetError_36 : decode prog_3_method_8_code 36 = .ok (.ireturn, 1) := by decide +kernel
abbrev M_Mesh_offsetError : zMT := (⟨"PeriodSlots$Mesh", "offsetError", "(II)I"⟩, prog_3_method_8_code, 3, (some .int))
theorem k_Mesh_offsetError : zcall M_Mesh_offsetError 2 := ⟨zU_in (i := 499) (by decide +kernel) rfl, m56, ⟨by decide, by decide, by decide +kernel⟩, by decide⟩
def o_Mesh_offsetError (h : zHp) (b : Nat) (v : Int32) (offset : Int32) : Int32 :=
  (if (o_Mesh_exists h b v) = true then (if offset = (-9) then 0 else (if offset < 0 then (-2) else (if (h (b + 1) (zcn v)) ≤ offset then (-2) else 0))) else (-1))
set_option maxHeartbeats 400000 in
set_option maxRecDepth 20000 in
theorem c_Mesh_offsetError (X : zXT) (h : zHp) (g : zLg) (b : Nat) (v : Int32) (offset : Int32) (hb : b = 3 ∨ b = 15 ∨ b = 27) (hf0 : zfit h b 0 8) : zDi X M_Mesh_offsetError 1 [zR X b, .int v, .int offset] h g (zI (o_Mesh_offsetError h b v offset)) h g := by
  have hf0_1 := hf0.1
  refine zDi_of "PeriodSlots$Mesh" prog_3_method_8_code 3 (some .int) rfl (by decide) [zO X b, zI v, zI offset] rfl (fun _ q => q) (Nat.le_of_ble_eq_true rfl) ?_
  intro Γ Q C hQ
  refine zr_aload_n C d_X1_offsetError_0 rfl ?_
  refine zr_iload_n C d_X1_offsetError_1 rfl ?_
  refine zr_callVi (As := [.int v]) (st := []) (c := b) C (c_Mesh_exists X h g b v hb) k_Mesh_exists m489 m359 m360 (by omega) (zC_Mesh hb X _ _) rfl rfl (by decide) rfl (Nat.le_of_ble_eq_true rfl) d_X1_offsetError_2 ?_
  refine zr_ifz_ne C 10 d_X1_offsetError_5 (by decide) (fun c5 => ?_) (fun c5 => ?_)
  · have ex1 := zex c5
    have ex1_2 := ex1.2
    have ex1_b := (hf0).1
    refine zr_iload_n C d_X1_offsetError_10 rfl ?_
    refine zr_bipush C (v := (-9)) d_X1_offsetError_11 (by decide) ?_
    suffices hJ13 : ∀ (y2 : Int32), (if offset = (-9) then 0 else (if offset < 0 then (-2) else (if (h (b + 1) (zcn v)) ≤ offset then (-2) else 0))) = y2 → zV X Γ Q 36 [none, none, none] [.int y2] h g by
      refine zr_icmp_eq C 30 d_X1_offsetError_13 (by decide) (fun c13 => ?_) (fun c13 => ?_)
      · refine zr_iconst C (v := 0) d_X1_offsetError_30 (by decide) ?_
        refine zr_goto C 36 d_X1_offsetError_31 (by decide) ?_
        refine zr_lv [none, none, none] (by simp [zle]) ?_
        exact hJ13 0 (((if_pos c13)))
      · refine zr_iload_n C d_X1_offsetError_16 rfl ?_
        refine zr_if_lt C 34 d_X1_offsetError_17 (by decide) (fun c17 => ?_) (fun c17 => ?_)
        · refine zr_bipush C (v := (-2)) d_X1_offsetError_34 (by decide) ?_
          refine zr_lv [none, none, none] (by simp [zle]) ?_
          exact hJ13 (-2) (((if_neg c13).trans ((if_pos c17))))
        · refine zr_iload_n C d_X1_offsetError_20 rfl ?_
          refine zr_aload_n C d_X1_offsetError_21 rfl ?_
          refine gf_Mesh_3 C hb m104 d_X1_offsetError_22 ?_
          refine zr_iload_n C d_X1_offsetError_25 rfl ?_
          refine zr_iald C (za_mesh_1 hb) (zcn v) (zix ex1.1) (by omega) (by decide) d_X1_offsetError_26 ?_
          refine zr_icmp_ge C 34 d_X1_offsetError_27 (by decide) (fun c27 => ?_) (fun c27 => ?_)
          · refine zr_bipush C (v := (-2)) d_X1_offsetError_34 (by decide) ?_
            refine zr_lv [none, none, none] (by simp [zle]) ?_
            exact hJ13 (-2) (((if_neg c13).trans ((if_neg c17).trans ((if_pos c27)))))
          · refine zr_iconst C (v := 0) d_X1_offsetError_30 (by decide) ?_
            refine zr_goto C 36 d_X1_offsetError_31 (by decide) ?_
            refine zr_lv [none, none, none] (by simp [zle]) ?_
            exact hJ13 0 (((if_neg c13).trans ((if_neg c17).trans ((if_neg c27)))))
    intro y2 ey2
    have eR : o_Mesh_offsetError h b v offset = y2 := (by subst ey2; unfold o_Mesh_offsetError; rw [if_pos c5])
    subst hQ
    rw [eR]
    exact zr_ireti C d_X1_offsetError_36
  · refine zr_iconst C (v := (-1)) d_X1_offsetError_8 (by decide) ?_
    have eR : o_Mesh_offsetError h b v offset = (-1) := (by unfold o_Mesh_offsetError; rw [if_neg (zbf c5)])
    subst hQ
    rw [eR]
    exact zr_ireti C d_X1_offsetError_9
theorem d_X1_distanceError_0 : decode prog_3_method_9_code 0 = .ok (.aload_n 0, 1) := by decide +kernel
theorem d_X1_distanceError_1 : decode prog_3_method_9_code 1 = .ok (.iload_n 1, 1) := by decide +kernel
theorem d_X1_distanceError_2 : decode prog_3_method_9_code 2 = .ok (.invokevirtual 72, 3) := by decide +kernel
theorem d_X1_distanceError_5 : decode prog_3_method_9_code 5 = .ok (.ifCond .ne 5, 3) := by decide +kernel
theorem d_X1_distanceError_8 : decode prog_3_method_9_code 8 = .ok (.iconst (-1), 1) := by decide +kernel
theorem d_X1_distanceError_9 : decode prog_3_method_9_code 9 = .ok (.ireturn, 1) := by decide +kernel
theorem d_X1_distanceError_10 : decode prog_3_method_9_code 10 = .ok (.iload_n 2, 1) := by decide +kernel
theorem d_X1_distanceError_11 : decode prog_3_method_9_code 11 = .ok (.ifCond .lt 13, 3) := by decide +kernel
theorem d_X1_distanceError_14 : decode prog_3_method_9_code 14 = .ok (.iload_n 2, 1) := by decide +kernel
theorem d_X1_distanceError_15 : decode prog_3_method_9_code 15 = .ok (.bipush 8, 2) := by decide +kernel
theorem d_X1_distanceError_17 : decode prog_3_method_9_code 17 = .ok (.if_icmp .ge 7, 3) := by decide +kernel
theorem d_X1_distanceError_20 : decode prog_3_method_9_code 20 = .ok (.iconst 0, 1) := by decide +kernel
theorem d_X1_distanceError_21 : decode prog_3_method_9_code 21 = .ok (.goto 5, 3) := by decide +kernel
theorem d_X1_distanceError_24 : decode prog_3_method_9_code 24 = .ok (.bipush (-2), 2) := by decide +kernel
theorem d_X1_distanceError_26 : decode prog_3_method_9_code 26 = .ok (.ireturn, 1) := by decide +kernel
abbrev M_Mesh_distanceError : zMT := (⟨"PeriodSlots$Mesh", "distanceError", "(II)I"⟩, prog_3_method_9_code, 3, (some .int))
theorem k_Mesh_distanceError : zcall M_Mesh_distanceError 2 := ⟨zU_in (i := 511) (by decide +kernel) rfl, m56, ⟨by decide, by decide, by decide +kernel⟩, by decide⟩
def o_Mesh_distanceError (h : zHp) (b : Nat) (v : Int32) (d : Int32) : Int32 :=
  (if (o_Mesh_exists h b v) = true then (if d < 0 then (-2) else (if 8 ≤ d then (-2) else 0)) else (-1))
set_option maxHeartbeats 400000 in
set_option maxRecDepth 20000 in
theorem c_Mesh_distanceError (X : zXT) (h : zHp) (g : zLg) (b : Nat) (v : Int32) (d : Int32) (hb : b = 3 ∨ b = 15 ∨ b = 27) : zDi X M_Mesh_distanceError 1 [zR X b, .int v, .int d] h g (zI (o_Mesh_distanceError h b v d)) h g := by
  refine zDi_of "PeriodSlots$Mesh" prog_3_method_9_code 3 (some .int) rfl (by decide) [zO X b, zI v, zI d] rfl (fun _ q => q) (Nat.le_of_ble_eq_true rfl) ?_
  intro Γ Q C hQ
  refine zr_aload_n C d_X1_distanceError_0 rfl ?_
  refine zr_iload_n C d_X1_distanceError_1 rfl ?_
  refine zr_callVi (As := [.int v]) (st := []) (c := b) C (c_Mesh_exists X h g b v hb) k_Mesh_exists m489 m359 m360 (by omega) (zC_Mesh hb X _ _) rfl rfl (by decide) rfl (Nat.le_of_ble_eq_true rfl) d_X1_distanceError_2 ?_
  refine zr_ifz_ne C 10 d_X1_distanceError_5 (by decide) (fun c5 => ?_) (fun c5 => ?_)
  · have ex1 := zex c5
    have ex1_2 := ex1.2
    refine zr_iload_n C d_X1_distanceError_10 rfl ?_
    suffices hJ11 : ∀ (y4 : Int32), (if d < 0 then (-2) else (if 8 ≤ d then (-2) else 0)) = y4 → zV X Γ Q 26 [none, none, none] [.int y4] h g by
      refine zr_if_lt C 24 d_X1_distanceError_11 (by decide) (fun c11 => ?_) (fun c11 => ?_)
      · refine zr_bipush C (v := (-2)) d_X1_distanceError_24 (by decide) ?_
        refine zr_lv [none, none, none] (by simp [zle]) ?_
        exact hJ11 (-2) (((if_pos c11)))
      · refine zr_iload_n C d_X1_distanceError_14 rfl ?_
        refine zr_bipush C (v := 8) d_X1_distanceError_15 (by decide) ?_
        refine zr_icmp_ge C 24 d_X1_distanceError_17 (by decide) (fun c17 => ?_) (fun c17 => ?_)
        · have en2 := zn_ge (a := zcn d) (b := 8) (zix c11) rfl c17 (zcn_small _) (by decide)
          refine zr_bipush C (v := (-2)) d_X1_distanceError_24 (by decide) ?_
          refine zr_lv [none, none, none] (by simp [zle]) ?_
          exact hJ11 (-2) (((if_neg c11).trans ((if_pos c17))))
        · have en3 := zn_nge (a := zcn d) (b := 8) (zix c11) rfl c17 (zcn_small _) (by decide)
          refine zr_iconst C (v := 0) d_X1_distanceError_20 (by decide) ?_
          refine zr_goto C 26 d_X1_distanceError_21 (by decide) ?_
          refine zr_lv [none, none, none] (by simp [zle]) ?_
          exact hJ11 0 (((if_neg c11).trans ((if_neg c17))))
    intro y4 ey4
    have eR : o_Mesh_distanceError h b v d = y4 := (by subst ey4; unfold o_Mesh_distanceError; rw [if_pos c5])
    subst hQ
    rw [eR]
    exact zr_ireti C d_X1_distanceError_26
  · refine zr_iconst C (v := (-1)) d_X1_distanceError_8 (by decide) ?_
    have eR : o_Mesh_distanceError h b v d = (-1) := (by unfold o_Mesh_distanceError; rw [if_neg (zbf c5)])
    subst hQ
    rw [eR]
    exact zr_ireti C d_X1_distanceError_9
theorem d_X1_flipLink_0 : decode prog_3_method_10_code 0 = .ok (.aload_n 0, 1) := by decide +kernel
theorem d_X1_flipLink_1 : decode prog_3_method_10_code 1 = .ok (.getfield 15, 3) := by decide +kernel
theorem d_X1_flipLink_4 : decode prog_3_method_10_code 4 = .ok (.iload_n 1, 1) := by decide +kernel
theorem d_X1_flipLink_5 : decode prog_3_method_10_code 5 = .ok (.dup2, 1) := by decide +kernel
theorem d_X1_flipLink_6 : decode prog_3_method_10_code 6 = .ok (.iaload, 1) := by decide +kernel
theorem d_X1_flipLink_7 : decode prog_3_method_10_code 7 = .ok (.iconst 1, 1) := by decide +kernel
theorem d_X1_flipLink_8 : decode prog_3_method_10_code 8 = .ok (.iload_n 2, 1) := by decide +kernel
theorem d_X1_flipLink_9 : decode prog_3_method_10_code 9 = .ok (.ishl, 1) := by decide +kernel
theorem d_X1_flipLink_10 : decode prog_3_method_10_code 10 = .ok (.ixor, 1) := by decide +kernel
theorem d_X1_flipLink_11 : decode prog_3_method_10_code 11 = .ok (.iastore, 1) := by decide +kernel
theorem d_X1_flipLink_12 : decode prog_3_method_10_code 12 = .ok (.aload_n 0, 1) := by decide +kernel
theorem d_X1_flipLink_13 : decode prog_3_method_10_code 13 = .ok (.getfield 15, 3) := by decide +kernel
theorem d_X1_flipLink_16 : decode prog_3_method_10_code 16 = .ok (.iload_n 2, 1) := by decide +kernel
theorem d_X1_flipLink_17 : decode prog_3_method_10_code 17 = .ok (.dup2, 1) := by decide +kernel
theorem d_X1_flipLink_18 : decode prog_3_method_10_code 18 = .ok (.iaload, 1) := by decide +kernel
theorem d_X1_flipLink_19 : decode prog_3_method_10_code 19 = .ok (.iconst 1, 1) := by decide +kernel
theorem d_X1_flipLink_20 : decode prog_3_method_10_code 20 = .ok (.iload_n 1, 1) := by decide +kernel
theorem d_X1_flipLink_21 : decode prog_3_method_10_code 21 = .ok (.ishl, 1) := by decide +kernel
theorem d_X1_flipLink_22 : decode prog_3_method_10_code 22 = .ok (.ixor, 1) := by decide +kernel
theorem d_X1_flipLink_23 : decode prog_3_method_10_code 23 = .ok (.iastore, 1) := by decide +kernel
theorem d_X1_flipLink_24 : decode prog_3_method_10_code 24 = .ok (.aload_n 0, 1) := by decide +kernel
theorem d_X1_flipLink_25 : decode prog_3_method_10_code 25 = .ok (.invokevirtual 66, 3) := by decide +kernel
theorem d_X1_flipLink_28 : decode prog_3_method_10_code 28 = .ok (.aload_n 0, 1) := by decide +kernel
theorem d_X1_flipLink_29 : decode prog_3_method_10_code 29 = .ok (.invokevirtual 69, 3) := by decide +kernel
theorem d_X1_flipLink_32 : decode prog_3_method_10_code 32 = .ok (.return_, 1) := by decide +kernel
abbrev M_Mesh_flipLink : zMT := (⟨"PeriodSlots$Mesh", "flipLink", "(II)V"⟩, prog_3_method_10_code, 3, none)
theorem k_Mesh_flipLink : zcall M_Mesh_flipLink 2 := ⟨zU_in (i := 370) (by decide +kernel) rfl, m56, ⟨by decide, by decide, by decide +kernel⟩, by decide⟩
def o_Mesh_flipLink (h : zHp) (b : Nat) (i : Nat) (j : Nat) : zHp :=
  (o_Mesh_relate (o_Mesh_dropOlds (zup (zup h (b + 2) i ((h (b + 2) i) ^^^ (zshl 1 (nI j)))) (b + 2) j (((zup h (b + 2) i ((h (b + 2) i) ^^^ (zshl 1 (nI j)))) (b + 2) j) ^^^ (zshl 1 (nI i)))) b) b)
theorem fr_Mesh_flipLink {h : zHp} {b : Nat} {i : Nat} {j : Nat} (c k : Nat) (q0 : c ≠ b + 2) (q1 : c ≠ b + 4) (q2 : c ≠ b + 6) (q3 : c ≠ b + 7) (q4 : c ≠ b + 8) (q5 : c ≠ b + 9) (q6 : c ≠ b + 10) : (o_Mesh_flipLink h b i j) c k = h c k := by
  unfold o_Mesh_flipLink
  first | done | exact ((fr_Mesh_relate _ _ (by assumption) (by assumption) (by assumption)).trans ((fr_Mesh_dropOlds _ _ (by assumption) (by assumption) (by assumption)).trans ((zup_fr (Or.inl (by assumption))).trans (zup_fr (Or.inl (by assumption))))))
set_option maxHeartbeats 400000 in
set_option maxRecDepth 20000 in
theorem c_Mesh_flipLink (X : zXT) (h : zHp) (g : zLg) (b : Nat) (i : Nat) (j : Nat) {x_i : Int32} (e_i : x_i = nI i) {x_j : Int32} (e_j : x_j = nI j) (hb : b = 3 ∨ b = 15 ∨ b = 27) (hf0 : zfit h b 0 8) (hl1 : i < 8) (hl2 : j < 8) : zDi X M_Mesh_flipLink 3 [zR X b, .int x_i, .int x_j] h g none (o_Mesh_flipLink h b i j) g := by
  subst e_i
  subst e_j
  have hf0_1 := hf0.1
  refine zDi_of "PeriodSlots$Mesh" prog_3_method_10_code 3 none rfl (by decide) [zO X b, zI (nI i), zI (nI j)] rfl (fun _ q => q) (Nat.le_of_ble_eq_true rfl) ?_
  intro Γ Q C hQ
  refine zr_aload_n C d_X1_flipLink_0 rfl ?_
  refine gf_Mesh_4 C hb m107 d_X1_flipLink_1 ?_
  refine zr_iload_n C d_X1_flipLink_4 rfl ?_
  refine zr_dup2 C d_X1_flipLink_5 rfl rfl ?_
  refine zr_iald C (za_mesh_2 hb) (i) rfl (by omega) (by decide) d_X1_flipLink_6 ?_
  refine zr_iconst C (v := 1) d_X1_flipLink_7 (by decide) ?_
  refine zr_iload_n C d_X1_flipLink_8 rfl ?_
  refine zr_ishl C d_X1_flipLink_9 ?_
  refine zr_ixor C d_X1_flipLink_10 ?_
  refine zr_iast C (za_mesh_2 hb) (i) rfl (by omega) (by decide) d_X1_flipLink_11 ?_
  refine zr_h (fun h1 eh1 => ?_)
  refine zr_aload_n C d_X1_flipLink_12 rfl ?_
  refine gf_Mesh_4 C hb m107 d_X1_flipLink_13 ?_
  refine zr_iload_n C d_X1_flipLink_16 rfl ?_
  refine zr_dup2 C d_X1_flipLink_17 rfl rfl ?_
  refine zr_iald C (za_mesh_2 hb) (j) rfl (by omega) (by decide) d_X1_flipLink_18 ?_
  refine zr_iconst C (v := 1) d_X1_flipLink_19 (by decide) ?_
  refine zr_iload_n C d_X1_flipLink_20 rfl ?_
  refine zr_ishl C d_X1_flipLink_21 ?_
  refine zr_ixor C d_X1_flipLink_22 ?_
  refine zr_iast C (za_mesh_2 hb) (j) rfl (by omega) (by decide) d_X1_flipLink_23 ?_
  refine zr_h (fun h2 eh2 => ?_)
  refine zr_aload_n C d_X1_flipLink_24 rfl ?_
  refine zr_callVv (As := []) (st := []) (c := b) C (c_Mesh_dropOlds X h2 g b hb (zfit_fr ((congrFun (congrFun eh2.symm _) _).trans ((zup_fr (by omega)).trans ((congrFun (congrFun eh1.symm _) _).trans (zup_fr (by omega))))) hf0)) k_Mesh_dropOlds m298 m299 m300 (by omega) (zC_Mesh hb X _ _) rfl rfl (by decide) rfl (Nat.le_of_ble_eq_true rfl) d_X1_flipLink_25 ?_
  refine zr_h (fun h3 eh3 => ?_)
  refine zr_aload_n C d_X1_flipLink_28 rfl ?_
  refine zr_callVv (As := []) (st := []) (c := b) C (c_Mesh_relate X h3 g b hb (zfit_fr ((congrFun (congrFun eh3.symm _) _).trans ((fr_Mesh_dropOlds _ _ (by omega) (by omega) (by omega)).trans ((congrFun (congrFun eh2.symm _) _).trans ((zup_fr (by omega)).trans ((congrFun (congrFun eh1.symm _) _).trans (zup_fr (by omega))))))) hf0)) k_Mesh_relate m313 m314 m315 (by omega) (zC_Mesh hb X _ _) rfl rfl (by decide) rfl (Nat.le_of_ble_eq_true rfl) d_X1_flipLink_29 ?_
  refine zr_h (fun h4 eh4 => ?_)
  have eR : o_Mesh_flipLink h b i j = h4 := (by subst eh4 eh3 eh2 eh1; unfold o_Mesh_flipLink; exact rfl)
  subst hQ
  rw [eR]
  exact zr_vret C d_X1_flipLink_32
theorem d_X1_linkCount_0 : decode prog_3_method_11_code 0 = .ok (.iconst 0, 1) := by decide +kernel
theorem d_X1_linkCount_1 : decode prog_3_method_11_code 1 = .ok (.istore_n 1, 1) := by decide +kernel
theorem d_X1_linkCount_2 : decode prog_3_method_11_code 2 = .ok (.iconst 0, 1) := by decide +kernel
theorem d_X1_linkCount_3 : decode prog_3_method_11_code 3 = .ok (.istore_n 2, 1) := by decide +kernel
theorem d_X1_linkCount_4 : decode prog_3_method_11_code 4 = .ok (.iload_n 2, 1) := by decide +kernel
theorem d_X1_linkCount_5 : decode prog_3_method_11_code 5 = .ok (.aload_n 0, 1) := by decide +kernel
theorem d_X1_linkCount_6 : decode prog_3_method_11_code 6 = .ok (.getfield 45, 3) := by decide +kernel
theorem d_X1_linkCount_9 : decode prog_3_method_11_code 9 = .ok (.if_icmp .ge 21, 3) := by decide +kernel
theorem d_X1_linkCount_12 : decode prog_3_method_11_code 12 = .ok (.iload_n 1, 1) := by decide +kernel
theorem d_X1_linkCount_13 : decode prog_3_method_11_code 13 = .ok (.aload_n 0, 1) := by decide +kernel
theorem d_X1_linkCount_14 : decode prog_3_method_11_code 14 = .ok (.getfield 15, 3) := by decide +kernel
theorem d_X1_linkCount_17 : decode prog_3_method_11_code 17 = .ok (.iload_n 2, 1) := by decide +kernel
theorem d_X1_linkCount_18 : decode prog_3_method_11_code 18 = .ok (.iaload, 1) := by decide +kernel
theorem d_X1_linkCount_19 : decode prog_3_method_11_code 19 = .ok (.invokestatic 76, 3) := by decide +kernel
theorem d_X1_linkCount_22 : decode prog_3_method_11_code 22 = .ok (.iadd, 1) := by decide +kernel
theorem d_X1_linkCount_23 : decode prog_3_method_11_code 23 = .ok (.istore_n 1, 1) := by decide +kernel
theorem d_X1_linkCount_24 : decode prog_3_method_11_code 24 = .ok (.iinc 2 1, 3) := by decide +kernel
theorem d_X1_linkCount_27 : decode prog_3_method_11_code 27 = .ok (.goto (-23), 3) := by decide +kernel
theorem d_X1_linkCount_30 : decode prog_3_method_11_code 30 = .ok (.iload_n 1, 1) := by decide +kernel
theorem d_X1_linkCount_31 : decode prog_3_method_11_code 31 = .ok (.iconst 2, 1) := by decide +kernel
theorem d_X1_linkCount_32 : decode prog_3_method_11_code 32 = .ok (.idiv, 1) := by decide +kernel
theorem d_X1_linkCount_33 : decode prog_3_method_11_code 33 = .ok (.ireturn, 1) := by decide +kernel
abbrev M_Mesh_linkCount : zMT := (⟨"PeriodSlots$Mesh", "linkCount", "()I"⟩, prog_3_method_11_code, 3, (some .int))
theorem k_Mesh_linkCount : zcall M_Mesh_linkCount 0 := ⟨zU_in (i := 347) (by decide +kernel) rfl, m56, ⟨by decide, by decide, by decide +kernel⟩, by decide⟩
def o_Mesh_linkCount (h : zHp) (b : Nat) : Int32 :=
  ((zrep (fun (i4_1 : Nat) (s4_1 : Int32) => (s4_1 + (o_Int_bitCount (h (b + 2) i4_1)))) 0 (zcn (h b 0))) / 2)
set_option maxHeartbeats 400000 in
set_option maxRecDepth 20000 in
theorem c_Mesh_linkCount (X : zXT) (h : zHp) (g : zLg) (b : Nat) (hb : b = 3 ∨ b = 15 ∨ b = 27) (hf0 : zfit h b 0 8) : zDi X M_Mesh_linkCount 1 [zR X b] h g (zI (o_Mesh_linkCount h b)) h g := by
  have hf0_1 := hf0.1
  refine zDi_of "PeriodSlots$Mesh" prog_3_method_11_code 3 (some .int) rfl (by decide) [zO X b, none, none] rfl (fun _ q => q) (Nat.le_of_ble_eq_true rfl) ?_
  intro Γ Q C hQ
  refine zr_iconst C (v := 0) d_X1_linkCount_0 (by decide) ?_
  refine zr_istore_n C [zO X b, zI 0, none] d_X1_linkCount_1 (Nat.le_of_ble_eq_true rfl) rfl rfl ?_
  refine zr_iconst C (v := 0) d_X1_linkCount_2 (by decide) ?_
  refine zr_istore_n C [zO X b, zI 0, zI 0] d_X1_linkCount_3 (Nat.le_of_ble_eq_true rfl) rfl rfl ?_
  refine zfor (f := (fun (i4_1 : Nat) (s4_1 : Int32) => (s4_1 + (o_Int_bitCount (h (b + 2) i4_1))))) (a := 0) (fun i4_1 s4_1 => zV X Γ Q 4 [zO X b, zI s4_1, zI (nI i4_1)] [] h g) (fun _ _ => True) (zcn (h b 0)) trivial (fun i4_1 s4_1 hi4_1 hI4_1 => ⟨trivial, fun hk4_1 => ?_⟩) (fun r4_1 er4_1 hI4_1 => ?_)
  · refine zr_iload_n C d_X1_linkCount_4 rfl ?_
    refine zr_aload_n C d_X1_linkCount_5 rfl ?_
    refine gf_Mesh_0 C hb m95 d_X1_linkCount_6 ?_
    refine zr_icmp_ge C 30 d_X1_linkCount_9 (by decide) (fun c => absurd c (zge_no rfl (by omega))) (fun _ => ?_)
    refine zr_iload_n C d_X1_linkCount_12 rfl ?_
    refine zr_aload_n C d_X1_linkCount_13 rfl ?_
    refine gf_Mesh_4 C hb m107 d_X1_linkCount_14 ?_
    refine zr_iload_n C d_X1_linkCount_17 rfl ?_
    refine zr_iald C (za_mesh_2 hb) (i4_1) rfl (by omega) (by decide) d_X1_linkCount_18 ?_
    refine zr_callSi (As := [.int (h (b + 2) i4_1)]) (st := [.int s4_1]) C (c_Int_bitCount X h g (h (b + 2) i4_1)) k_Int_bitCount m348 m349 rfl (by decide) rfl (Nat.le_of_ble_eq_true rfl) d_X1_linkCount_19 ?_
    refine zr_iadd C d_X1_linkCount_22 ?_
    refine zr_istore_n C [zO X b, zI (s4_1 + (o_Int_bitCount (h (b + 2) i4_1))), zI (nI i4_1)] d_X1_linkCount_23 (Nat.le_of_ble_eq_true rfl) rfl rfl ?_
    refine zr_iinc C [zO X b, zI (s4_1 + (o_Int_bitCount (h (b + 2) i4_1))), zI (nI (i4_1 + 1))] (v := (nI (i4_1 + 1))) d_X1_linkCount_24 rfl (zn_add rfl rfl) (Nat.le_of_ble_eq_true rfl) rfl rfl ?_
    refine zr_goto C 4 d_X1_linkCount_27 (by decide) ?_
    exact hk4_1 (s4_1 + (o_Int_bitCount (h (b + 2) i4_1))) rfl
  refine zr_iload_n C d_X1_linkCount_4 rfl ?_
  refine zr_aload_n C d_X1_linkCount_5 rfl ?_
  refine gf_Mesh_0 C hb m95 d_X1_linkCount_6 ?_
  refine zr_icmp_ge C 30 d_X1_linkCount_9 (by decide) (fun _ => ?_) (fun c => absurd (zge_yes rfl (by omega) (by have := zcn_small (h b 0); omega)) c)
  refine zr_iload_n C d_X1_linkCount_30 rfl ?_
  refine zr_iconst C (v := 2) d_X1_linkCount_31 (by decide) ?_
  refine zr_idiv C d_X1_linkCount_32 (by decide) ?_
  have eR : o_Mesh_linkCount h b = (r4_1 / 2) := (by subst er4_1; unfold o_Mesh_linkCount; exact rfl)
  subst hQ
  rw [eR]
  exact zr_ireti C d_X1_linkCount_33
theorem d_X1_lacksLink_0 : decode prog_3_method_12_code 0 = .ok (.aload_n 0, 1) := by decide +kernel
theorem d_X1_lacksLink_1 : decode prog_3_method_12_code 1 = .ok (.invokevirtual 82, 3) := by decide +kernel
theorem d_X1_lacksLink_4 : decode prog_3_method_12_code 4 = .ok (.aload_n 0, 1) := by decide +kernel
theorem d_X1_lacksLink_5 : decode prog_3_method_12_code 5 = .ok (.getfield 45, 3) := by decide +kernel
theorem d_X1_lacksLink_8 : decode prog_3_method_12_code 8 = .ok (.aload_n 0, 1) := by decide +kernel
theorem d_X1_lacksLink_9 : decode prog_3_method_12_code 9 = .ok (.getfield 45, 3) := by decide +kernel
theorem d_X1_lacksLink_12 : decode prog_3_method_12_code 12 = .ok (.iconst 1, 1) := by decide +kernel
theorem d_X1_lacksLink_13 : decode prog_3_method_12_code 13 = .ok (.isub, 1) := by decide +kernel
theorem d_X1_lacksLink_14 : decode prog_3_method_12_code 14 = .ok (.imul, 1) := by decide +kernel
theorem d_X1_lacksLink_15 : decode prog_3_method_12_code 15 = .ok (.iconst 2, 1) := by decide +kernel
theorem d_X1_lacksLink_16 : decode prog_3_method_12_code 16 = .ok (.idiv, 1) := by decide +kernel
theorem d_X1_lacksLink_17 : decode prog_3_method_12_code 17 = .ok (.if_icmp .ge 7, 3) := by decide +kernel
theorem d_X1_lacksLink_20 : decode prog_3_method_12_code 20 = .ok (.iconst 1, 1) := by decide +kernel
theorem d_X1_lacksLink_21 : decode prog_3_method_12_code 21 = .ok (.goto 4, 3) := by decide +kernel
theorem d_X1_lacksLink_24 : decode prog_3_method_12_code 24 = .ok (.iconst 0, 1) := by decide +kernel
theorem d_X1_lacksLink_25 : decode prog_3_method_12_code 25 = .ok (.ireturn, 1) := by decide +kernel
abbrev M_Mesh_lacksLink : zMT := (⟨"PeriodSlots$Mesh", "lacksLink", "()Z"⟩, prog_3_method_12_code, 1, (some .boolean))
theorem k_Mesh_lacksLink : zcall M_Mesh_lacksLink 0 := ⟨zU_in (i := 343) (by decide +kernel) rfl, m56, ⟨by decide, by decide, by decide +kernel⟩, by decide⟩
def o_Mesh_lacksLink (h : zHp) (b : Nat) : Bool :=
  (!(decide ((((h b 0) * ((h b 0) - 1)) / 2) ≤ (o_Mesh_linkCount h b))))
set_option maxHeartbeats 400000 in
set_option maxRecDepth 20000 in
theorem c_Mesh_lacksLink (X : zXT) (h : zHp) (g : zLg) (b : Nat) (hb : b = 3 ∨ b = 15 ∨ b = 27) (hf0 : zfit h b 0 8) : zDi X M_Mesh_lacksLink 2 [zR X b] h g (zI (zb (o_Mesh_lacksLink h b))) h g := by
  have hf0_1 := hf0.1
  refine zDi_of "PeriodSlots$Mesh" prog_3_method_12_code 1 (some .boolean) rfl (by decide) [zO X b] rfl (fun _ q => q) (Nat.le_of_ble_eq_true rfl) ?_
  intro Γ Q C hQ
  refine zr_aload_n C d_X1_lacksLink_0 rfl ?_
  refine zr_callVi (As := []) (st := []) (c := b) C (c_Mesh_linkCount X h g b hb hf0) k_Mesh_linkCount m344 m345 m346 (by omega) (zC_Mesh hb X _ _) rfl rfl (by decide) rfl (Nat.le_of_ble_eq_true rfl) d_X1_lacksLink_1 ?_
  refine zr_aload_n C d_X1_lacksLink_4 rfl ?_
  refine gf_Mesh_0 C hb m95 d_X1_lacksLink_5 ?_
  refine zr_aload_n C d_X1_lacksLink_8 rfl ?_
  refine gf_Mesh_0 C hb m95 d_X1_lacksLink_9 ?_
  refine zr_iconst C (v := 1) d_X1_lacksLink_12 (by decide) ?_
  refine zr_isub C d_X1_lacksLink_13 ?_
  refine zr_imul C d_X1_lacksLink_14 ?_
  refine zr_iconst C (v := 2) d_X1_lacksLink_15 (by decide) ?_
  refine zr_idiv C d_X1_lacksLink_16 (by decide) ?_
  suffices hJ17 : ∀ (y1 : Bool), (!(decide ((((h b 0) * ((h b 0) - 1)) / 2) ≤ (o_Mesh_linkCount h b)))) = y1 → zV X Γ Q 25 [none] [.int (zb y1)] h g by
    refine zr_icmp_ge C 24 d_X1_lacksLink_17 (by decide) (fun c17 => ?_) (fun c17 => ?_)
    · refine zr_iconst C (v := 0) d_X1_lacksLink_24 (by decide) ?_
      refine zr_lv [none] (by simp [zle]) ?_
      exact hJ17 false (by simp [c17])
    · refine zr_iconst C (v := 1) d_X1_lacksLink_20 (by decide) ?_
      refine zr_goto C 25 d_X1_lacksLink_21 (by decide) ?_
      refine zr_lv [none] (by simp [zle]) ?_
      exact hJ17 true (by simp [c17])
  intro y1 ey1
  have eR : o_Mesh_lacksLink h b = y1 := (by subst ey1; unfold o_Mesh_lacksLink; exact rfl)
  subst hQ
  rw [eR]
  exact zr_iretz C (zb_01 _) d_X1_lacksLink_25
theorem d_X1_isLinkedWithAll_0 : decode prog_3_method_13_code 0 = .ok (.aload_n 0, 1) := by decide +kernel
theorem d_X1_isLinkedWithAll_1 : decode prog_3_method_13_code 1 = .ok (.getfield 15, 3) := by decide +kernel
theorem d_X1_isLinkedWithAll_4 : decode prog_3_method_13_code 4 = .ok (.iload_n 1, 1) := by decide +kernel
theorem d_X1_isLinkedWithAll_5 : decode prog_3_method_13_code 5 = .ok (.iaload, 1) := by decide +kernel
theorem d_X1_isLinkedWithAll_6 : decode prog_3_method_13_code 6 = .ok (.invokestatic 76, 3) := by decide +kernel
theorem d_X1_isLinkedWithAll_9 : decode prog_3_method_13_code 9 = .ok (.aload_n 0, 1) := by decide +kernel
theorem d_X1_isLinkedWithAll_10 : decode prog_3_method_13_code 10 = .ok (.getfield 45, 3) := by decide +kernel
theorem d_X1_isLinkedWithAll_13 : decode prog_3_method_13_code 13 = .ok (.iconst 1, 1) := by decide +kernel
theorem d_X1_isLinkedWithAll_14 : decode prog_3_method_13_code 14 = .ok (.isub, 1) := by decide +kernel
theorem d_X1_isLinkedWithAll_15 : decode prog_3_method_13_code 15 = .ok (.if_icmp .ne 7, 3) := by decide +kernel
theorem d_X1_isLinkedWithAll_18 : decode prog_3_method_13_code 18 = .ok (.iconst 1, 1) := by decide +kernel
theorem d_X1_isLinkedWithAll_19 : decode prog_3_method_13_code 19 = .ok (.goto 4, 3) := by decide +kernel
theorem d_X1_isLinkedWithAll_22 : decode prog_3_method_13_code 22 = .ok (.iconst 0, 1) := by decide +kernel
theorem d_X1_isLinkedWithAll_23 : decode prog_3_method_13_code 23 = .ok (.ireturn, 1) := by decide +kernel
abbrev M_Mesh_isLinkedWithAll : zMT := (⟨"PeriodSlots$Mesh", "isLinkedWithAll", "(I)Z"⟩, prog_3_method_13_code, 2, (some .boolean))
theorem k_Mesh_isLinkedWithAll : zcall M_Mesh_isLinkedWithAll 1 := ⟨zU_in (i := 365) (by decide +kernel) rfl, m56, ⟨by decide, by decide, by decide +kernel⟩, by decide⟩
def o_Mesh_isLinkedWithAll (h : zHp) (b : Nat) (v : Nat) : Bool :=
  (decide ((o_Int_bitCount (h (b + 2) v)) = ((h b 0) - 1)))
set_option maxHeartbeats 400000 in
set_option maxRecDepth 20000 in
theorem c_Mesh_isLinkedWithAll (X : zXT) (h : zHp) (g : zLg) (b : Nat) (v : Nat) {x_v : Int32} (e_v : x_v = nI v) (hb : b = 3 ∨ b = 15 ∨ b = 27) (hf0 : zfit h b 0 8) (hl1 : v < 8) : zDi X M_Mesh_isLinkedWithAll 1 [zR X b, .int x_v] h g (zI (zb (o_Mesh_isLinkedWithAll h b v))) h g := by
  subst e_v
  have hf0_1 := hf0.1
  refine zDi_of "PeriodSlots$Mesh" prog_3_method_13_code 2 (some .boolean) rfl (by decide) [zO X b, zI (nI v)] rfl (fun _ q => q) (Nat.le_of_ble_eq_true rfl) ?_
  intro Γ Q C hQ
  refine zr_aload_n C d_X1_isLinkedWithAll_0 rfl ?_
  refine gf_Mesh_4 C hb m107 d_X1_isLinkedWithAll_1 ?_
  refine zr_iload_n C d_X1_isLinkedWithAll_4 rfl ?_
  refine zr_iald C (za_mesh_2 hb) (v) rfl (by omega) (by decide) d_X1_isLinkedWithAll_5 ?_
  refine zr_callSi (As := [.int (h (b + 2) v)]) (st := []) C (c_Int_bitCount X h g (h (b + 2) v)) k_Int_bitCount m348 m349 rfl (by decide) rfl (Nat.le_of_ble_eq_true rfl) d_X1_isLinkedWithAll_6 ?_
  refine zr_aload_n C d_X1_isLinkedWithAll_9 rfl ?_
  refine gf_Mesh_0 C hb m95 d_X1_isLinkedWithAll_10 ?_
  refine zr_iconst C (v := 1) d_X1_isLinkedWithAll_13 (by decide) ?_
  refine zr_isub C d_X1_isLinkedWithAll_14 ?_
  suffices hJ15 : ∀ (y1 : Bool), (decide ((o_Int_bitCount (h (b + 2) v)) = ((h b 0) - 1))) = y1 → zV X Γ Q 23 [none, none] [.int (zb y1)] h g by
    refine zr_icmp_ne C 22 d_X1_isLinkedWithAll_15 (by decide) (fun c15 => ?_) (fun c15 => ?_)
    · refine zr_iconst C (v := 0) d_X1_isLinkedWithAll_22 (by decide) ?_
      refine zr_lv [none, none] (by simp [zle]) ?_
      exact hJ15 false (by simp [c15])
    · refine zr_iconst C (v := 1) d_X1_isLinkedWithAll_18 (by decide) ?_
      refine zr_goto C 23 d_X1_isLinkedWithAll_19 (by decide) ?_
      refine zr_lv [none, none] (by simp [zle]) ?_
      exact hJ15 true (by simp [c15])
  intro y1 ey1
  have eR : o_Mesh_isLinkedWithAll h b v = y1 := (by subst ey1; unfold o_Mesh_isLinkedWithAll; exact rfl)
  subst hQ
  rw [eR]
  exact zr_iretz C (zb_01 _) d_X1_isLinkedWithAll_23
theorem d_X1_netOf_0 : decode prog_3_method_14_code 0 = .ok (.iconst 1, 1) := by decide +kernel
theorem d_X1_netOf_1 : decode prog_3_method_14_code 1 = .ok (.iload_n 1, 1) := by decide +kernel
theorem d_X1_netOf_2 : decode prog_3_method_14_code 2 = .ok (.ishl, 1) := by decide +kernel
theorem d_X1_netOf_3 : decode prog_3_method_14_code 3 = .ok (.istore_n 2, 1) := by decide +kernel
theorem d_X1_netOf_4 : decode prog_3_method_14_code 4 = .ok (.iconst 1, 1) := by decide +kernel
theorem d_X1_netOf_5 : decode prog_3_method_14_code 5 = .ok (.istore_n 3, 1) := by decide +kernel
theorem d_X1_netOf_6 : decode prog_3_method_14_code 6 = .ok (.iload_n 3, 1) := by decide +kernel
theorem d_X1_netOf_7 : decode prog_3_method_14_code 7 = .ok (.aload_n 0, 1) := by decide +kernel
theorem d_X1_netOf_8 : decode prog_3_method_14_code 8 = .ok (.getfield 45, 3) := by decide +kernel
theorem d_X1_netOf_11 : decode prog_3_method_14_code 11 = .ok (.if_icmp .ge 17, 3) := by decide +kernel
theorem d_X1_netOf_14 : decode prog_3_method_14_code 14 = .ok (.iload_n 2, 1) := by decide +kernel
theorem d_X1_netOf_15 : decode prog_3_method_14_code 15 = .ok (.aload_n 0, 1) := by decide +kernel
theorem d_X1_netOf_16 : decode prog_3_method_14_code 16 = .ok (.iload_n 2, 1) := by decide +kernel
theorem d_X1_netOf_17 : decode prog_3_method_14_code 17 = .ok (.invokevirtual 86, 3) := by decide +kernel
theorem d_X1_netOf_20 : decode prog_3_method_14_code 20 = .ok (.ior, 1) := by decide +kernel
theorem d_X1_netOf_21 : decode prog_3_method_14_code 21 = .ok (.istore_n 2, 1) := by decide +kernel
theorem d_X1_netOf_22 : decode prog_3_method_14_code 22 = .ok (.iinc 3 1, 3) := by decide +kernel
theorem d_X1_netOf_25 : decode prog_3_method_14_code 25 = .ok (.goto (-19), 3) := by decide +kernel
theorem d_X1_netOf_28 : decode prog_3_method_14_code 28 = .ok (.iload_n 2, 1) := by decide +kernel
theorem d_X1_netOf_29 : decode prog_3_method_14_code 29 = .ok (.ireturn, 1) := by decide +kernel
abbrev M_Mesh_netOf : zMT := (⟨"PeriodSlots$Mesh", "netOf", "(I)I"⟩, prog_3_method_14_code, 4, (some .int))
theorem k_Mesh_netOf : zcall M_Mesh_netOf 1 := ⟨zU_in (i := 438) (by decide +kernel) rfl, m56, ⟨by decide, by decide, by decide +kernel⟩, by decide⟩
def o_Mesh_netOf (h : zHp) (b : Nat) (v : Int32) : Int32 :=
  (zrep (fun (i6_1 : Nat) (s6_1 : Int32) => (s6_1 ||| (o_Mesh_neighboursOf h b s6_1))) (zshl 1 v) (zcn (h b 0) - 1))
set_option maxHeartbeats 400000 in
set_option maxRecDepth 20000 in
theorem c_Mesh_netOf (X : zXT) (h : zHp) (g : zLg) (b : Nat) (v : Int32) (hb : b = 3 ∨ b = 15 ∨ b = 27) (hf0 : zfit h b 0 8) : zDi X M_Mesh_netOf 2 [zR X b, .int v] h g (zI (o_Mesh_netOf h b v)) h g := by
  have hf0_1 := hf0.1
  refine zDi_of "PeriodSlots$Mesh" prog_3_method_14_code 4 (some .int) rfl (by decide) [zO X b, zI v, none, none] rfl (fun _ q => q) (Nat.le_of_ble_eq_true rfl) ?_
  intro Γ Q C hQ
  refine zr_iconst C (v := 1) d_X1_netOf_0 (by decide) ?_
  refine zr_iload_n C d_X1_netOf_1 rfl ?_
  refine zr_ishl C d_X1_netOf_2 ?_
  refine zr_istore_n C [zO X b, zI v, zI (zshl 1 v), none] d_X1_netOf_3 (Nat.le_of_ble_eq_true rfl) rfl rfl ?_
  refine zr_iconst C (v := 1) d_X1_netOf_4 (by decide) ?_
  refine zr_istore_n C [zO X b, zI v, zI (zshl 1 v), zI 1] d_X1_netOf_5 (Nat.le_of_ble_eq_true rfl) rfl rfl ?_
  refine zr_lv [zO X b, none, zI (zshl 1 v), zI 1] (by simp [zle]) ?_
  refine zfor (f := (fun (i6_1 : Nat) (s6_1 : Int32) => (s6_1 ||| (o_Mesh_neighboursOf h b s6_1)))) (a := (zshl 1 v)) (fun i6_1 s6_1 => zV X Γ Q 6 [zO X b, none, zI s6_1, zI (nI (1 + i6_1))] [] h g) (fun _ _ => True) (zcn (h b 0) - 1) trivial (fun i6_1 s6_1 hi6_1 hI6_1 => ⟨trivial, fun hk6_1 => ?_⟩) (fun r6_1 er6_1 hI6_1 => ?_)
  · refine zr_iload_n C d_X1_netOf_6 rfl ?_
    refine zr_aload_n C d_X1_netOf_7 rfl ?_
    refine gf_Mesh_0 C hb m95 d_X1_netOf_8 ?_
    refine zr_icmp_ge C 28 d_X1_netOf_11 (by decide) (fun c => absurd c (zge_no rfl (by omega))) (fun _ => ?_)
    refine zr_iload_n C d_X1_netOf_14 rfl ?_
    refine zr_aload_n C d_X1_netOf_15 rfl ?_
    refine zr_iload_n C d_X1_netOf_16 rfl ?_
    refine zr_callVi (As := [.int s6_1]) (st := [.int s6_1]) (c := b) C (c_Mesh_neighboursOf X h g b s6_1 hb hf0) k_Mesh_neighboursOf m317 m319 m2 (by omega) (zC_Mesh hb X _ _) rfl rfl (by decide) rfl (Nat.le_of_ble_eq_true rfl) d_X1_netOf_17 ?_
    refine zr_ior C d_X1_netOf_20 ?_
    refine zr_istore_n C [zO X b, none, zI (s6_1 ||| (o_Mesh_neighboursOf h b s6_1)), zI (nI (1 + i6_1))] d_X1_netOf_21 (Nat.le_of_ble_eq_true rfl) rfl rfl ?_
    refine zr_iinc C [zO X b, none, zI (s6_1 ||| (o_Mesh_neighboursOf h b s6_1)), zI (nI ((1 + i6_1) + 1))] (v := (nI ((1 + i6_1) + 1))) d_X1_netOf_22 rfl (zn_add rfl rfl) (Nat.le_of_ble_eq_true rfl) rfl rfl ?_
    refine zr_goto C 6 d_X1_netOf_25 (by decide) ?_
    exact hk6_1 (s6_1 ||| (o_Mesh_neighboursOf h b s6_1)) rfl
  refine zr_iload_n C d_X1_netOf_6 rfl ?_
  refine zr_aload_n C d_X1_netOf_7 rfl ?_
  refine gf_Mesh_0 C hb m95 d_X1_netOf_8 ?_
  refine zr_icmp_ge C 28 d_X1_netOf_11 (by decide) (fun _ => ?_) (fun c => absurd (zge_yes rfl (by omega) (by have := zcn_small (h b 0); omega)) c)
  refine zr_iload_n C d_X1_netOf_28 rfl ?_
  have eR : o_Mesh_netOf h b v = r6_1 := (by subst er6_1; unfold o_Mesh_netOf; exact rfl)
  subst hQ
  rw [eR]
  exact zr_ireti C d_X1_netOf_29
theorem d_X1_isLowestOfNet_0 : decode prog_3_method_16_code 0 = .ok (.aload_n 0, 1) := by decide +kernel
theorem d_X1_isLowestOfNet_1 : decode prog_3_method_16_code 1 = .ok (.iload_n 1, 1) := by decide +kernel
theorem d_X1_isLowestOfNet_2 : decode prog_3_method_16_code 2 = .ok (.invokevirtual 93, 3) := by decide +kernel
theorem d_X1_isLowestOfNet_5 : decode prog_3_method_16_code 5 = .ok (.invokestatic 96, 3) := by decide +kernel
theorem d_X1_isLowestOfNet_8 : decode prog_3_method_16_code 8 = .ok (.iconst 1, 1) := by decide +kernel
theorem d_X1_isLowestOfNet_9 : decode prog_3_method_16_code 9 = .ok (.iload_n 1, 1) := by decide +kernel
theorem d_X1_isLowestOfNet_10 : decode prog_3_method_16_code 10 = .ok (.ishl, 1) := by decide +kernel
theorem d_X1_isLowestOfNet_11 : decode prog_3_method_16_code 11 = .ok (.if_icmp .ne 7, 3) := by decide +kernel
theorem d_X1_isLowestOfNet_14 : decode prog_3_method_16_code 14 = .ok (.iconst 1, 1) := by decide +kernel
theorem d_X1_isLowestOfNet_15 : decode prog_3_method_16_code 15 = .ok (.goto 4, 3) := by decide +kernel
theorem d_X1_isLowestOfNet_18 : decode prog_3_method_16_code 18 = .ok (.iconst 0, 1) := by decide +kernel
theorem d_X1_isLowestOfNet_19 : decode prog_3_method_16_code 19 = .ok (.ireturn, 1) := by decide +kernel
abbrev M_Mesh_isLowestOfNet : zMT := (⟨"PeriodSlots$Mesh", "isLowestOfNet", "(I)Z"⟩, prog_3_method_16_code, 2, (some .boolean))
theorem k_Mesh_isLowestOfNet : zcall M_Mesh_isLowestOfNet 1 := ⟨zU_in (i := 434) (by decide +kernel) rfl, m56, ⟨by decide, by decide, by decide +kernel⟩, by decide⟩
def o_Mesh_isLowestOfNet (h : zHp) (b : Nat) (v : Int32) : Bool :=
  (decide ((o_Int_lowestOneBit (o_Mesh_netOf h b v)) = (zshl 1 v)))
set_option maxHeartbeats 400000 in
set_option maxRecDepth 20000 in
theorem c_Mesh_isLowestOfNet (X : zXT) (h : zHp) (g : zLg) (b : Nat) (v : Int32) (hb : b = 3 ∨ b = 15 ∨ b = 27) (hf0 : zfit h b 0 8) : zDi X M_Mesh_isLowestOfNet 3 [zR X b, .int v] h g (zI (zb (o_Mesh_isLowestOfNet h b v))) h g := by
  have hf0_1 := hf0.1
  refine zDi_of "PeriodSlots$Mesh" prog_3_method_16_code 2 (some .boolean) rfl (by decide) [zO X b, zI v] rfl (fun _ q => q) (Nat.le_of_ble_eq_true rfl) ?_
  intro Γ Q C hQ
  refine zr_aload_n C d_X1_isLowestOfNet_0 rfl ?_
  refine zr_iload_n C d_X1_isLowestOfNet_1 rfl ?_
  refine zr_callVi (As := [.int v]) (st := []) (c := b) C (c_Mesh_netOf X h g b v hb hf0) k_Mesh_netOf m435 m436 m437 (by omega) (zC_Mesh hb X _ _) rfl rfl (by decide) rfl (Nat.le_of_ble_eq_true rfl) d_X1_isLowestOfNet_2 ?_
  refine zr_callSi (As := [.int (o_Mesh_netOf h b v)]) (st := []) C (c_Int_lowestOneBit X h g (o_Mesh_netOf h b v)) k_Int_lowestOneBit m439 m440 rfl (by decide) rfl (Nat.le_of_ble_eq_true rfl) d_X1_isLowestOfNet_5 ?_
  refine zr_iconst C (v := 1) d_X1_isLowestOfNet_8 (by decide) ?_
  refine zr_iload_n C d_X1_isLowestOfNet_9 rfl ?_
  refine zr_ishl C d_X1_isLowestOfNet_10 ?_
  suffices hJ11 : ∀ (y1 : Bool), (decide ((o_Int_lowestOneBit (o_Mesh_netOf h b v)) = (zshl 1 v))) = y1 → zV X Γ Q 19 [none, none] [.int (zb y1)] h g by
    refine zr_icmp_ne C 18 d_X1_isLowestOfNet_11 (by decide) (fun c11 => ?_) (fun c11 => ?_)
    · refine zr_iconst C (v := 0) d_X1_isLowestOfNet_18 (by decide) ?_
      refine zr_lv [none, none] (by simp [zle]) ?_
      exact hJ11 false (by simp [c11])
    · refine zr_iconst C (v := 1) d_X1_isLowestOfNet_14 (by decide) ?_
      refine zr_goto C 19 d_X1_isLowestOfNet_15 (by decide) ?_
      refine zr_lv [none, none] (by simp [zle]) ?_
      exact hJ11 true (by simp [c11])
  intro y1 ey1
  have eR : o_Mesh_isLowestOfNet h b v = y1 := (by subst ey1; unfold o_Mesh_isLowestOfNet; exact rfl)
  subst hQ
  rw [eR]
  exact zr_iretz C (zb_01 _) d_X1_isLowestOfNet_19
theorem d_X1_netCount_0 : decode prog_3_method_17_code 0 = .ok (.iconst 0, 1) := by decide +kernel
theorem d_X1_netCount_1 : decode prog_3_method_17_code 1 = .ok (.istore_n 1, 1) := by decide +kernel
theorem d_X1_netCount_2 : decode prog_3_method_17_code 2 = .ok (.iconst 0, 1) := by decide +kernel
theorem d_X1_netCount_3 : decode prog_3_method_17_code 3 = .ok (.istore_n 2, 1) := by decide +kernel
theorem d_X1_netCount_4 : decode prog_3_method_17_code 4 = .ok (.iload_n 2, 1) := by decide +kernel
theorem d_X1_netCount_5 : decode prog_3_method_17_code 5 = .ok (.aload_n 0, 1) := by decide +kernel
theorem d_X1_netCount_6 : decode prog_3_method_17_code 6 = .ok (.getfield 45, 3) := by decide +kernel
theorem d_X1_netCount_9 : decode prog_3_method_17_code 9 = .ok (.if_icmp .ge 20, 3) := by decide +kernel
theorem d_X1_netCount_12 : decode prog_3_method_17_code 12 = .ok (.aload_n 0, 1) := by decide +kernel
theorem d_X1_netCount_13 : decode prog_3_method_17_code 13 = .ok (.iload_n 2, 1) := by decide +kernel
theorem d_X1_netCount_14 : decode prog_3_method_17_code 14 = .ok (.invokevirtual 99, 3) := by decide +kernel
theorem d_X1_netCount_17 : decode prog_3_method_17_code 17 = .ok (.ifCond .eq 6, 3) := by decide +kernel
theorem d_X1_netCount_20 : decode prog_3_method_17_code 20 = .ok (.iinc 1 1, 3) := by decide +kernel
theorem d_X1_netCount_23 : decode prog_3_method_17_code 23 = .ok (.iinc 2 1, 3) := by decide +kernel
theorem d_X1_netCount_26 : decode prog_3_method_17_code 26 = .ok (.goto (-22), 3) := by decide +kernel
theorem d_X1_netCount_29 : decode prog_3_method_17_code 29 = .ok (.iload_n 1, 1) := by decide +kernel
theorem d_X1_netCount_30 : decode prog_3_method_17_code 30 = .ok (.ireturn, 1) := by decide +kernel
abbrev M_Mesh_netCount : zMT := (⟨"PeriodSlots$Mesh", "netCount", "()I"⟩, prog_3_method_17_code, 3, (some .int))
theorem k_Mesh_netCount : zcall M_Mesh_netCount 0 := ⟨zU_in (i := 430) (by decide +kernel) rfl, m56, ⟨by decide, by decide, by decide +kernel⟩, by decide⟩
def o_Mesh_netCount (h : zHp) (b : Nat) : Int32 :=
  (zrep (fun (i4_1 : Nat) (s4_1 : Int32) => (if (o_Mesh_isLowestOfNet h b (nI i4_1)) = true then (s4_1 + 1) else s4_1)) 0 (zcn (h b 0)))
set_option maxHeartbeats 400000 in
set_option maxRecDepth 20000 in
theorem c_Mesh_netCount (X : zXT) (h : zHp) (g : zLg) (b : Nat) (hb : b = 3 ∨ b = 15 ∨ b = 27) (hf0 : zfit h b 0 8) : zDi X M_Mesh_netCount 4 [zR X b] h g (zI (o_Mesh_netCount h b)) h g := by
  have hf0_1 := hf0.1
  refine zDi_of "PeriodSlots$Mesh" prog_3_method_17_code 3 (some .int) rfl (by decide) [zO X b, none, none] rfl (fun _ q => q) (Nat.le_of_ble_eq_true rfl) ?_
  intro Γ Q C hQ
  refine zr_iconst C (v := 0) d_X1_netCount_0 (by decide) ?_
  refine zr_istore_n C [zO X b, zI 0, none] d_X1_netCount_1 (Nat.le_of_ble_eq_true rfl) rfl rfl ?_
  refine zr_iconst C (v := 0) d_X1_netCount_2 (by decide) ?_
  refine zr_istore_n C [zO X b, zI 0, zI 0] d_X1_netCount_3 (Nat.le_of_ble_eq_true rfl) rfl rfl ?_
  refine zfor (f := (fun (i4_1 : Nat) (s4_1 : Int32) => (if (o_Mesh_isLowestOfNet h b (nI i4_1)) = true then (s4_1 + 1) else s4_1))) (a := 0) (fun i4_1 s4_1 => zV X Γ Q 4 [zO X b, zI s4_1, zI (nI i4_1)] [] h g) (fun _ _ => True) (zcn (h b 0)) trivial (fun i4_1 s4_1 hi4_1 hI4_1 => ⟨trivial, fun hk4_1 => ?_⟩) (fun r4_1 er4_1 hI4_1 => ?_)
  · refine zr_iload_n C d_X1_netCount_4 rfl ?_
    refine zr_aload_n C d_X1_netCount_5 rfl ?_
    refine gf_Mesh_0 C hb m95 d_X1_netCount_6 ?_
    refine zr_icmp_ge C 29 d_X1_netCount_9 (by decide) (fun c => absurd c (zge_no rfl (by omega))) (fun _ => ?_)
    refine zr_aload_n C d_X1_netCount_12 rfl ?_
    refine zr_iload_n C d_X1_netCount_13 rfl ?_
    refine zr_callVi (As := [.int (nI i4_1)]) (st := []) (c := b) C (c_Mesh_isLowestOfNet X h g b (nI i4_1) hb hf0) k_Mesh_isLowestOfNet m431 m432 m433 (by omega) (zC_Mesh hb X _ _) rfl rfl (by decide) rfl (Nat.le_of_ble_eq_true rfl) d_X1_netCount_14 ?_
    suffices hJ17 : ∀ (y2 : Int32), (if (o_Mesh_isLowestOfNet h b (nI i4_1)) = true then (s4_1 + 1) else s4_1) = y2 → zV X Γ Q 23 [zO X b, zI y2, zI (nI i4_1)] [] h g by
      refine zr_ifz_eq C 23 d_X1_netCount_17 (by decide) (fun c17 => ?_) (fun c17 => ?_)
      · exact hJ17 s4_1 (((if_neg (zbf c17))))
      · refine zr_iinc C [zO X b, zI (s4_1 + 1), zI (nI i4_1)] (v := (s4_1 + 1)) d_X1_netCount_20 rfl rfl (Nat.le_of_ble_eq_true rfl) rfl rfl ?_
        exact hJ17 (s4_1 + 1) (((if_pos c17)))
    intro y2 ey2
    refine zr_iinc C [zO X b, zI y2, zI (nI (i4_1 + 1))] (v := (nI (i4_1 + 1))) d_X1_netCount_23 rfl (zn_add rfl rfl) (Nat.le_of_ble_eq_true rfl) rfl rfl ?_
    refine zr_goto C 4 d_X1_netCount_26 (by decide) ?_
    exact hk4_1 y2 (by subst ey2; exact rfl)
  refine zr_iload_n C d_X1_netCount_4 rfl ?_
  refine zr_aload_n C d_X1_netCount_5 rfl ?_
  refine gf_Mesh_0 C hb m95 d_X1_netCount_6 ?_
  refine zr_icmp_ge C 29 d_X1_netCount_9 (by decide) (fun _ => ?_) (fun c => absurd (zge_yes rfl (by omega) (by have := zcn_small (h b 0); omega)) c)
  refine zr_iload_n C d_X1_netCount_29 rfl ?_
  have eR : o_Mesh_netCount h b = r4_1 := (by subst er4_1; unfold o_Mesh_netCount; exact rfl)
  subst hQ
  rw [eR]
  exact zr_ireti C d_X1_netCount_30
theorem d_X1_occupiedByAny_0 : decode prog_3_method_25_code 0 = .ok (.iconst 0, 1) := by decide +kernel
theorem d_X1_occupiedByAny_1 : decode prog_3_method_25_code 1 = .ok (.istore_n 2, 1) := by decide +kernel
theorem d_X1_occupiedByAny_2 : decode prog_3_method_25_code 2 = .ok (.iconst 0, 1) := by decide +kernel
theorem d_X1_occupiedByAny_3 : decode prog_3_method_25_code 3 = .ok (.istore_n 3, 1) := by decide +kernel
theorem d_X1_occupiedByAny_4 : decode prog_3_method_25_code 4 = .ok (.iload_n 3, 1) := by decide +kernel
theorem d_X1_occupiedByAny_5 : decode prog_3_method_25_code 5 = .ok (.aload_n 0, 1) := by decide +kernel
theorem d_X1_occupiedByAny_6 : decode prog_3_method_25_code 6 = .ok (.getfield 45, 3) := by decide +kernel
theorem d_X1_occupiedByAny_9 : decode prog_3_method_25_code 9 = .ok (.if_icmp .ge 26, 3) := by decide +kernel
theorem d_X1_occupiedByAny_12 : decode prog_3_method_25_code 12 = .ok (.iload_n 1, 1) := by decide +kernel
theorem d_X1_occupiedByAny_13 : decode prog_3_method_25_code 13 = .ok (.iload_n 3, 1) := by decide +kernel
theorem d_X1_occupiedByAny_14 : decode prog_3_method_25_code 14 = .ok (.invokestatic 89, 3) := by decide +kernel
theorem d_X1_occupiedByAny_17 : decode prog_3_method_25_code 17 = .ok (.ifCond .eq 12, 3) := by decide +kernel
theorem d_X1_occupiedByAny_20 : decode prog_3_method_25_code 20 = .ok (.iload_n 2, 1) := by decide +kernel
theorem d_X1_occupiedByAny_21 : decode prog_3_method_25_code 21 = .ok (.aload_n 0, 1) := by decide +kernel
theorem d_X1_occupiedByAny_22 : decode prog_3_method_25_code 22 = .ok (.getfield 39, 3) := by decide +kernel
theorem d_X1_occupiedByAny_25 : decode prog_3_method_25_code 25 = .ok (.iload_n 3, 1) := by decide +kernel
theorem d_X1_occupiedByAny_26 : decode prog_3_method_25_code 26 = .ok (.iaload, 1) := by decide +kernel
theorem d_X1_occupiedByAny_27 : decode prog_3_method_25_code 27 = .ok (.ior, 1) := by decide +kernel
theorem d_X1_occupiedByAny_28 : decode prog_3_method_25_code 28 = .ok (.istore_n 2, 1) := by decide +kernel
theorem d_X1_occupiedByAny_29 : decode prog_3_method_25_code 29 = .ok (.iinc 3 1, 3) := by decide +kernel
theorem d_X1_occupiedByAny_32 : decode prog_3_method_25_code 32 = .ok (.goto (-28), 3) := by decide +kernel
theorem d_X1_occupiedByAny_35 : decode prog_3_method_25_code 35 = .ok (.iload_n 2, 1) := by decide +kernel
theorem d_X1_occupiedByAny_36 : decode prog_3_method_25_code 36 = .ok (.ireturn, 1) := by decide +kernel
abbrev M_Mesh_occupiedByAny : zMT := (⟨"PeriodSlots$Mesh", "occupiedByAny", "(I)I"⟩, prog_3_method_25_code, 4, (some .int))
theorem k_Mesh_occupiedByAny : zcall M_Mesh_occupiedByAny 1 := ⟨zU_in (i := 409) (by decide +kernel) rfl, m56, ⟨by decide, by decide, by decide +kernel⟩, by decide⟩
def o_Mesh_occupiedByAny (h : zHp) (b : Nat) (set : Int32) : Int32 :=
  (zrep (fun (i4_1 : Nat) (s4_1 : Int32) => (if (o_Slots_has set (nI i4_1)) = true then (s4_1 ||| (h (b + 10) i4_1)) else s4_1)) 0 (zcn (h b 0)))
set_option maxHeartbeats 400000 in
set_option maxRecDepth 20000 in
theorem c_Mesh_occupiedByAny (X : zXT) (h : zHp) (g : zLg) (b : Nat) (set : Int32) (hb : b = 3 ∨ b = 15 ∨ b = 27) (hf0 : zfit h b 0 8) : zDi X M_Mesh_occupiedByAny 1 [zR X b, .int set] h g (zI (o_Mesh_occupiedByAny h b set)) h g := by
  have hf0_1 := hf0.1
  refine zDi_of "PeriodSlots$Mesh" prog_3_method_25_code 4 (some .int) rfl (by decide) [zO X b, zI set, none, none] rfl (fun _ q => q) (Nat.le_of_ble_eq_true rfl) ?_
  intro Γ Q C hQ
  refine zr_iconst C (v := 0) d_X1_occupiedByAny_0 (by decide) ?_
  refine zr_istore_n C [zO X b, zI set, zI 0, none] d_X1_occupiedByAny_1 (Nat.le_of_ble_eq_true rfl) rfl rfl ?_
  refine zr_iconst C (v := 0) d_X1_occupiedByAny_2 (by decide) ?_
  refine zr_istore_n C [zO X b, zI set, zI 0, zI 0] d_X1_occupiedByAny_3 (Nat.le_of_ble_eq_true rfl) rfl rfl ?_
  refine zfor (f := (fun (i4_1 : Nat) (s4_1 : Int32) => (if (o_Slots_has set (nI i4_1)) = true then (s4_1 ||| (h (b + 10) i4_1)) else s4_1))) (a := 0) (fun i4_1 s4_1 => zV X Γ Q 4 [zO X b, zI set, zI s4_1, zI (nI i4_1)] [] h g) (fun _ _ => True) (zcn (h b 0)) trivial (fun i4_1 s4_1 hi4_1 hI4_1 => ⟨trivial, fun hk4_1 => ?_⟩) (fun r4_1 er4_1 hI4_1 => ?_)
  · refine zr_iload_n C d_X1_occupiedByAny_4 rfl ?_
    refine zr_aload_n C d_X1_occupiedByAny_5 rfl ?_
    refine gf_Mesh_0 C hb m95 d_X1_occupiedByAny_6 ?_
    refine zr_icmp_ge C 35 d_X1_occupiedByAny_9 (by decide) (fun c => absurd c (zge_no rfl (by omega))) (fun _ => ?_)
    refine zr_iload_n C d_X1_occupiedByAny_12 rfl ?_
    refine zr_iload_n C d_X1_occupiedByAny_13 rfl ?_
    refine zr_callNi (As := [.int set, .int (nI i4_1)]) (st := []) C (c_Slots_has X h g set (nI i4_1)) k_Slots_has (by simp [zNest]) m322 rfl (by decide) rfl (Nat.le_of_ble_eq_true rfl) d_X1_occupiedByAny_14 ?_
    suffices hJ17 : ∀ (y2 : Int32), (if (o_Slots_has set (nI i4_1)) = true then (s4_1 ||| (h (b + 10) i4_1)) else s4_1) = y2 → zV X Γ Q 29 [zO X b, zI set, zI y2, zI (nI i4_1)] [] h g by
      refine zr_ifz_eq C 29 d_X1_occupiedByAny_17 (by decide) (fun c17 => ?_) (fun c17 => ?_)
      · exact hJ17 s4_1 (((if_neg (zbf c17))))
      · refine zr_iload_n C d_X1_occupiedByAny_20 rfl ?_
        refine zr_aload_n C d_X1_occupiedByAny_21 rfl ?_
        refine gf_Mesh_12 C hb m126 d_X1_occupiedByAny_22 ?_
        refine zr_iload_n C d_X1_occupiedByAny_25 rfl ?_
        refine zr_iald C (za_mesh_10 hb) (i4_1) rfl (by omega) (by decide) d_X1_occupiedByAny_26 ?_
        refine zr_ior C d_X1_occupiedByAny_27 ?_
        refine zr_istore_n C [zO X b, zI set, zI (s4_1 ||| (h (b + 10) i4_1)), zI (nI i4_1)] d_X1_occupiedByAny_28 (Nat.le_of_ble_eq_true rfl) rfl rfl ?_
        exact hJ17 (s4_1 ||| (h (b + 10) i4_1)) (((if_pos c17)))
    intro y2 ey2
    refine zr_iinc C [zO X b, zI set, zI y2, zI (nI (i4_1 + 1))] (v := (nI (i4_1 + 1))) d_X1_occupiedByAny_29 rfl (zn_add rfl rfl) (Nat.le_of_ble_eq_true rfl) rfl rfl ?_
    refine zr_goto C 4 d_X1_occupiedByAny_32 (by decide) ?_
    exact hk4_1 y2 (by subst ey2; exact rfl)
  refine zr_iload_n C d_X1_occupiedByAny_4 rfl ?_
  refine zr_aload_n C d_X1_occupiedByAny_5 rfl ?_
  refine gf_Mesh_0 C hb m95 d_X1_occupiedByAny_6 ?_
  refine zr_icmp_ge C 35 d_X1_occupiedByAny_9 (by decide) (fun _ => ?_) (fun c => absurd (zge_yes rfl (by omega) (by have := zcn_small (h b 0); omega)) c)
  refine zr_iload_n C d_X1_occupiedByAny_35 rfl ?_
  have eR : o_Mesh_occupiedByAny h b set = r4_1 := (by subst er4_1; unfold o_Mesh_occupiedByAny; exact rfl)
  subst hQ
  rw [eR]
  exact zr_ireti C d_X1_occupiedByAny_36
theorem d_X1_offsetsOutside_0 : decode prog_3_method_26_code 0 = .ok (.iconst 0, 1) := by decide +kernel
theorem d_X1_offsetsOutside_1 : decode prog_3_method_26_code 1 = .ok (.istore_n 3, 1) := by decide +kernel
theorem d_X1_offsetsOutside_2 : decode prog_3_method_26_code 2 = .ok (.iconst 0, 1) := by decide +kernel
theorem d_X1_offsetsOutside_3 : decode prog_3_method_26_code 3 = .ok (.istore 4, 2) := by decide +kernel
theorem d_X1_offsetsOutside_5 : decode prog_3_method_26_code 5 = .ok (.iload 4, 2) := by decide +kernel
theorem d_X1_offsetsOutside_7 : decode prog_3_method_26_code 7 = .ok (.aload_n 0, 1) := by decide +kernel
theorem d_X1_offsetsOutside_8 : decode prog_3_method_26_code 8 = .ok (.getfield 9, 3) := by decide +kernel
theorem d_X1_offsetsOutside_11 : decode prog_3_method_26_code 11 = .ok (.iload_n 1, 1) := by decide +kernel
theorem d_X1_offsetsOutside_12 : decode prog_3_method_26_code 12 = .ok (.iaload, 1) := by decide +kernel
theorem d_X1_offsetsOutside_13 : decode prog_3_method_26_code 13 = .ok (.if_icmp .ge 30, 3) := by decide +kernel
theorem d_X1_offsetsOutside_16 : decode prog_3_method_26_code 16 = .ok (.aload_n 0, 1) := by decide +kernel
theorem d_X1_offsetsOutside_17 : decode prog_3_method_26_code 17 = .ok (.getfield 24, 3) := by decide +kernel
theorem d_X1_offsetsOutside_20 : decode prog_3_method_26_code 20 = .ok (.iload_n 1, 1) := by decide +kernel
theorem d_X1_offsetsOutside_21 : decode prog_3_method_26_code 21 = .ok (.iaload, 1) := by decide +kernel
theorem d_X1_offsetsOutside_22 : decode prog_3_method_26_code 22 = .ok (.iload 4, 2) := by decide +kernel
theorem d_X1_offsetsOutside_24 : decode prog_3_method_26_code 24 = .ok (.ishl, 1) := by decide +kernel
theorem d_X1_offsetsOutside_25 : decode prog_3_method_26_code 25 = .ok (.iload_n 2, 1) := by decide +kernel
theorem d_X1_offsetsOutside_26 : decode prog_3_method_26_code 26 = .ok (.iand, 1) := by decide +kernel
theorem d_X1_offsetsOutside_27 : decode prog_3_method_26_code 27 = .ok (.ifCond .ne 10, 3) := by decide +kernel
theorem d_X1_offsetsOutside_30 : decode prog_3_method_26_code 30 = .ok (.iload_n 3, 1) := by decide +kernel
theorem d_X1_offsetsOutside_31 : decode prog_3_method_26_code 31 = .ok (.iconst 1, 1) := by decide +kernel
theorem d_X1_offsetsOutside_32 : decode prog_3_method_26_code 32 = .ok (.iload 4, 2) := by decide +kernel
theorem d_X1_offsetsOutside_34 : decode prog_3_method_26_code 34 = .ok (.ishl, 1) := by decide +kernel
theorem d_X1_offsetsOutside_35 : decode prog_3_method_26_code 35 = .ok (.ior, 1) := by decide +kernel
theorem d_X1_offsetsOutside_36 : decode prog_3_method_26_code 36 = .ok (.istore_n 3, 1) := by decide +kernel
theorem d_X1_offsetsOutside_37 : decode prog_3_method_26_code 37 = .ok (.iinc 4 1, 3) := by decide +kernel
theorem d_X1_offsetsOutside_40 : decode prog_3_method_26_code 40 = .ok (.goto (-35), 3) := by decide +kernel
theorem d_X1_offsetsOutside_43 : decode prog_3_method_26_code 43 = .ok (.iload_n 3, 1) := by decide +kernel
theorem d_X1_offsetsOutside_44 : decode prog_3_method_26_code 44 = .ok (.ireturn, 1) := by decide +kernel
abbrev M_Mesh_offsetsOutside : zMT := (⟨"PeriodSlots$Mesh", "offsetsOutside", "(II)I"⟩, prog_3_method_26_code, 5, (some .int))
theorem k_Mesh_offsetsOutside : zcall M_Mesh_offsetsOutside 2 := ⟨zU_in (i := 426) (by decide +kernel) rfl, m56, ⟨by decide, by decide, by decide +kernel⟩, by decide⟩
def o_Mesh_offsetsOutside (h : zHp) (b : Nat) (v : Nat) (taken : Int32) : Int32 :=
  (zrep (fun (i5_1 : Nat) (s5_1 : Int32) => (if ((zshl (h (b + 5) v) (nI i5_1)) &&& taken) = 0 then (s5_1 ||| (zshl 1 (nI i5_1))) else s5_1)) 0 (zcn (h (b + 1) v)))
set_option maxHeartbeats 400000 in
set_option maxRecDepth 20000 in
theorem c_Mesh_offsetsOutside (X : zXT) (h : zHp) (g : zLg) (b : Nat) (v : Nat) (taken : Int32) {x_v : Int32} (e_v : x_v = nI v) (hb : b = 3 ∨ b = 15 ∨ b = 27) (hl0 : v < 8) : zDi X M_Mesh_offsetsOutside 0 [zR X b, .int x_v, .int taken] h g (zI (o_Mesh_offsetsOutside h b v taken)) h g := by
  subst e_v
  refine zDi_of "PeriodSlots$Mesh" prog_3_method_26_code 5 (some .int) rfl (by decide) [zO X b, zI (nI v), zI taken, none, none] rfl (fun _ q => q) (Nat.le_of_ble_eq_true rfl) ?_
  intro Γ Q C hQ
  refine zr_iconst C (v := 0) d_X1_offsetsOutside_0 (by decide) ?_
  refine zr_istore_n C [zO X b, zI (nI v), zI taken, zI 0, none] d_X1_offsetsOutside_1 (Nat.le_of_ble_eq_true rfl) rfl rfl ?_
  refine zr_iconst C (v := 0) d_X1_offsetsOutside_2 (by decide) ?_
  refine zr_istore C [zO X b, zI (nI v), zI taken, zI 0, zI 0] d_X1_offsetsOutside_3 (Nat.le_of_ble_eq_true rfl) rfl rfl ?_
  refine zfor (f := (fun (i5_1 : Nat) (s5_1 : Int32) => (if ((zshl (h (b + 5) v) (nI i5_1)) &&& taken) = 0 then (s5_1 ||| (zshl 1 (nI i5_1))) else s5_1))) (a := 0) (fun i5_1 s5_1 => zV X Γ Q 5 [zO X b, zI (nI v), zI taken, zI s5_1, zI (nI i5_1)] [] h g) (fun _ _ => True) (zcn (h (b + 1) v)) trivial (fun i5_1 s5_1 hi5_1 hI5_1 => ⟨trivial, fun hk5_1 => ?_⟩) (fun r5_1 er5_1 hI5_1 => ?_)
  · refine zr_iload C d_X1_offsetsOutside_5 rfl ?_
    refine zr_aload_n C d_X1_offsetsOutside_7 rfl ?_
    refine gf_Mesh_3 C hb m104 d_X1_offsetsOutside_8 ?_
    refine zr_iload_n C d_X1_offsetsOutside_11 rfl ?_
    refine zr_iald C (za_mesh_1 hb) (v) rfl (by omega) (by decide) d_X1_offsetsOutside_12 ?_
    refine zr_icmp_ge C 43 d_X1_offsetsOutside_13 (by decide) (fun c => absurd c (zge_no rfl (by omega))) (fun _ => ?_)
    refine zr_aload_n C d_X1_offsetsOutside_16 rfl ?_
    refine gf_Mesh_7 C hb m117 d_X1_offsetsOutside_17 ?_
    refine zr_iload_n C d_X1_offsetsOutside_20 rfl ?_
    refine zr_iald C (za_mesh_5 hb) (v) rfl (by omega) (by decide) d_X1_offsetsOutside_21 ?_
    refine zr_iload C d_X1_offsetsOutside_22 rfl ?_
    refine zr_ishl C d_X1_offsetsOutside_24 ?_
    refine zr_iload_n C d_X1_offsetsOutside_25 rfl ?_
    refine zr_iand C d_X1_offsetsOutside_26 ?_
    suffices hJ27 : ∀ (y2 : Int32), (if ((zshl (h (b + 5) v) (nI i5_1)) &&& taken) = 0 then (s5_1 ||| (zshl 1 (nI i5_1))) else s5_1) = y2 → zV X Γ Q 37 [zO X b, zI (nI v), zI taken, zI y2, zI (nI i5_1)] [] h g by
      refine zr_if_ne C 37 d_X1_offsetsOutside_27 (by decide) (fun c27 => ?_) (fun c27 => ?_)
      · exact hJ27 s5_1 (((if_neg c27)))
      · refine zr_iload_n C d_X1_offsetsOutside_30 rfl ?_
        refine zr_iconst C (v := 1) d_X1_offsetsOutside_31 (by decide) ?_
        refine zr_iload C d_X1_offsetsOutside_32 rfl ?_
        refine zr_ishl C d_X1_offsetsOutside_34 ?_
        refine zr_ior C d_X1_offsetsOutside_35 ?_
        refine zr_istore_n C [zO X b, zI (nI v), zI taken, zI (s5_1 ||| (zshl 1 (nI i5_1))), zI (nI i5_1)] d_X1_offsetsOutside_36 (Nat.le_of_ble_eq_true rfl) rfl rfl ?_
        exact hJ27 (s5_1 ||| (zshl 1 (nI i5_1))) (((if_pos c27)))
    intro y2 ey2
    refine zr_iinc C [zO X b, zI (nI v), zI taken, zI y2, zI (nI (i5_1 + 1))] (v := (nI (i5_1 + 1))) d_X1_offsetsOutside_37 rfl (zn_add rfl rfl) (Nat.le_of_ble_eq_true rfl) rfl rfl ?_
    refine zr_goto C 5 d_X1_offsetsOutside_40 (by decide) ?_
    exact hk5_1 y2 (by subst ey2; exact rfl)
  refine zr_iload C d_X1_offsetsOutside_5 rfl ?_
  refine zr_aload_n C d_X1_offsetsOutside_7 rfl ?_
  refine gf_Mesh_3 C hb m104 d_X1_offsetsOutside_8 ?_
  refine zr_iload_n C d_X1_offsetsOutside_11 rfl ?_
  refine zr_iald C (za_mesh_1 hb) (v) rfl (by omega) (by decide) d_X1_offsetsOutside_12 ?_
  refine zr_icmp_ge C 43 d_X1_offsetsOutside_13 (by decide) (fun _ => ?_) (fun c => absurd (zge_yes rfl (by omega) (by have := zcn_small (h (b + 1) v); omega)) c)
  refine zr_iload_n C d_X1_offsetsOutside_43 rfl ?_
  have eR : o_Mesh_offsetsOutside h b v taken = r5_1 := (by subst er5_1; unfold o_Mesh_offsetsOutside; exact rfl)
  subst hQ
  rw [eR]
  exact zr_ireti C d_X1_offsetsOutside_44
theorem d_X1_freeOffsets_0 : decode prog_3_method_27_code 0 = .ok (.aload_n 0, 1) := by decide +kernel
theorem d_X1_freeOffsets_1 : decode prog_3_method_27_code 1 = .ok (.iload_n 1, 1) := by decide +kernel
theorem d_X1_freeOffsets_2 : decode prog_3_method_27_code 2 = .ok (.aload_n 0, 1) := by decide +kernel
theorem d_X1_freeOffsets_3 : decode prog_3_method_27_code 3 = .ok (.aload_n 0, 1) := by decide +kernel
theorem d_X1_freeOffsets_4 : decode prog_3_method_27_code 4 = .ok (.getfield 27, 3) := by decide +kernel
theorem d_X1_freeOffsets_7 : decode prog_3_method_27_code 7 = .ok (.iload_n 1, 1) := by decide +kernel
theorem d_X1_freeOffsets_8 : decode prog_3_method_27_code 8 = .ok (.iaload, 1) := by decide +kernel
theorem d_X1_freeOffsets_9 : decode prog_3_method_27_code 9 = .ok (.invokevirtual 122, 3) := by decide +kernel
theorem d_X1_freeOffsets_12 : decode prog_3_method_27_code 12 = .ok (.invokevirtual 125, 3) := by decide +kernel
theorem d_X1_freeOffsets_15 : decode prog_3_method_27_code 15 = .ok (.ireturn, 1) := by decide +kernel
abbrev M_Mesh_freeOffsets : zMT := (⟨"PeriodSlots$Mesh", "freeOffsets", "(I)I"⟩, prog_3_method_27_code, 2, (some .int))
theorem k_Mesh_freeOffsets : zcall M_Mesh_freeOffsets 1 := ⟨zU_in (i := 422) (by decide +kernel) rfl, m56, ⟨by decide, by decide, by decide +kernel⟩, by decide⟩
def o_Mesh_freeOffsets (h : zHp) (b : Nat) (v : Nat) : Int32 :=
  (o_Mesh_offsetsOutside h b v (o_Mesh_occupiedByAny h b (h (b + 6) v)))
set_option maxHeartbeats 400000 in
set_option maxRecDepth 20000 in
theorem c_Mesh_freeOffsets (X : zXT) (h : zHp) (g : zLg) (b : Nat) (v : Nat) {x_v : Int32} (e_v : x_v = nI v) (hb : b = 3 ∨ b = 15 ∨ b = 27) (hf0 : zfit h b 0 8) (hl1 : v < 8) : zDi X M_Mesh_freeOffsets 2 [zR X b, .int x_v] h g (zI (o_Mesh_freeOffsets h b v)) h g := by
  subst e_v
  have hf0_1 := hf0.1
  refine zDi_of "PeriodSlots$Mesh" prog_3_method_27_code 2 (some .int) rfl (by decide) [zO X b, zI (nI v)] rfl (fun _ q => q) (Nat.le_of_ble_eq_true rfl) ?_
  intro Γ Q C hQ
  refine zr_aload_n C d_X1_freeOffsets_0 rfl ?_
  refine zr_iload_n C d_X1_freeOffsets_1 rfl ?_
  refine zr_aload_n C d_X1_freeOffsets_2 rfl ?_
  refine zr_aload_n C d_X1_freeOffsets_3 rfl ?_
  refine gf_Mesh_8 C hb m118 d_X1_freeOffsets_4 ?_
  refine zr_iload_n C d_X1_freeOffsets_7 rfl ?_
  refine zr_iald C (za_mesh_6 hb) (v) rfl (by omega) (by decide) d_X1_freeOffsets_8 ?_
  refine zr_callVi (As := [.int (h (b + 6) v)]) (st := [.int (nI v), zR X b]) (c := b) C (c_Mesh_occupiedByAny X h g b (h (b + 6) v) hb hf0) k_Mesh_occupiedByAny m406 m408 m7 (by omega) (zC_Mesh hb X _ _) rfl rfl (by decide) rfl (Nat.le_of_ble_eq_true rfl) d_X1_freeOffsets_9 ?_
  refine zr_callVi (As := [.int (nI v), .int (o_Mesh_occupiedByAny h b (h (b + 6) v))]) (st := []) (c := b) C (c_Mesh_offsetsOutside X h g b v (o_Mesh_occupiedByAny h b (h (b + 6) v)) rfl hb (by omega)) k_Mesh_offsetsOutside m423 m424 m425 (by omega) (zC_Mesh hb X _ _) rfl rfl (by decide) rfl (Nat.le_of_ble_eq_true rfl) d_X1_freeOffsets_12 ?_
  have eR : o_Mesh_freeOffsets h b v = (o_Mesh_offsetsOutside h b v (o_Mesh_occupiedByAny h b (h (b + 6) v))) := (by unfold o_Mesh_freeOffsets; exact rfl)
  subst hQ
  rw [eR]
  exact zr_ireti C d_X1_freeOffsets_15
theorem d_X1_placedSet_0 : decode prog_3_method_28_code 0 = .ok (.iconst 0, 1) := by decide +kernel
theorem d_X1_placedSet_1 : decode prog_3_method_28_code 1 = .ok (.istore_n 1, 1) := by decide +kernel
theorem d_X1_placedSet_2 : decode prog_3_method_28_code 2 = .ok (.iconst 0, 1) := by decide +kernel
theorem d_X1_placedSet_3 : decode prog_3_method_28_code 3 = .ok (.istore_n 2, 1) := by decide +kernel
theorem d_X1_placedSet_4 : decode prog_3_method_28_code 4 = .ok (.iload_n 2, 1) := by decide +kernel
theorem d_X1_placedSet_5 : decode prog_3_method_28_code 5 = .ok (.aload_n 0, 1) := by decide +kernel
theorem d_X1_placedSet_6 : decode prog_3_method_28_code 6 = .ok (.getfield 45, 3) := by decide +kernel
theorem d_X1_placedSet_9 : decode prog_3_method_28_code 9 = .ok (.if_icmp .ge 26, 3) := by decide +kernel
theorem d_X1_placedSet_12 : decode prog_3_method_28_code 12 = .ok (.aload_n 0, 1) := by decide +kernel
theorem d_X1_placedSet_13 : decode prog_3_method_28_code 13 = .ok (.getfield 18, 3) := by decide +kernel
theorem d_X1_placedSet_16 : decode prog_3_method_28_code 16 = .ok (.iload_n 2, 1) := by decide +kernel
theorem d_X1_placedSet_17 : decode prog_3_method_28_code 17 = .ok (.iaload, 1) := by decide +kernel
theorem d_X1_placedSet_18 : decode prog_3_method_28_code 18 = .ok (.bipush (-9), 2) := by decide +kernel
theorem d_X1_placedSet_20 : decode prog_3_method_28_code 20 = .ok (.if_icmp .eq 9, 3) := by decide +kernel
theorem d_X1_placedSet_23 : decode prog_3_method_28_code 23 = .ok (.iload_n 1, 1) := by decide +kernel
theorem d_X1_placedSet_24 : decode prog_3_method_28_code 24 = .ok (.iconst 1, 1) := by decide +kernel
theorem d_X1_placedSet_25 : decode prog_3_method_28_code 25 = .ok (.iload_n 2, 1) := by decide +kernel
theorem d_X1_placedSet_26 : decode prog_3_method_28_code 26 = .ok (.ishl, 1) := by decide +kernel
theorem d_X1_placedSet_27 : decode prog_3_method_28_code 27 = .ok (.ior, 1) := by decide +kernel
theorem d_X1_placedSet_28 : decode prog_3_method_28_code 28 = .ok (.istore_n 1, 1) := by decide +kernel
theorem d_X1_placedSet_29 : decode prog_3_method_28_code 29 = .ok (.iinc 2 1, 3) := by decide +kernel
theorem d_X1_placedSet_32 : decode prog_3_method_28_code 32 = .ok (.goto (-28), 3) := by decide +kernel
theorem d_X1_placedSet_35 : decode prog_3_method_28_code 35 = .ok (.iload_n 1, 1) := by decide +kernel
theorem d_X1_placedSet_36 : decode prog_3_method_28_code 36 = .ok (.ireturn, 1) := by decide +kernel
abbrev M_Mesh_placedSet : zMT := (⟨"PeriodSlots$Mesh", "placedSet", "()I"⟩, prog_3_method_28_code, 3, (some .int))
theorem k_Mesh_placedSet : zcall M_Mesh_placedSet 0 := ⟨zU_in (i := 413) (by decide +kernel) rfl, m56, ⟨by decide, by decide, by decide +kernel⟩, by decide⟩
def o_Mesh_placedSet (h : zHp) (b : Nat) : Int32 :=
  (zrep (fun (i4_1 : Nat) (s4_1 : Int32) => (if (h (b + 3) i4_1) = (-9) then s4_1 else (s4_1 ||| (zshl 1 (nI i4_1))))) 0 (zcn (h b 0)))
set_option maxHeartbeats 400000 in
set_option maxRecDepth 20000 in
theorem c_Mesh_placedSet (X : zXT) (h : zHp) (g : zLg) (b : Nat) (hb : b = 3 ∨ b = 15 ∨ b = 27) (hf0 : zfit h b 0 8) : zDi X M_Mesh_placedSet 0 [zR X b] h g (zI (o_Mesh_placedSet h b)) h g := by
  have hf0_1 := hf0.1
  refine zDi_of "PeriodSlots$Mesh" prog_3_method_28_code 3 (some .int) rfl (by decide) [zO X b, none, none] rfl (fun _ q => q) (Nat.le_of_ble_eq_true rfl) ?_
  intro Γ Q C hQ
  refine zr_iconst C (v := 0) d_X1_placedSet_0 (by decide) ?_
  refine zr_istore_n C [zO X b, zI 0, none] d_X1_placedSet_1 (Nat.le_of_ble_eq_true rfl) rfl rfl ?_
  refine zr_iconst C (v := 0) d_X1_placedSet_2 (by decide) ?_
  refine zr_istore_n C [zO X b, zI 0, zI 0] d_X1_placedSet_3 (Nat.le_of_ble_eq_true rfl) rfl rfl ?_
  refine zfor (f := (fun (i4_1 : Nat) (s4_1 : Int32) => (if (h (b + 3) i4_1) = (-9) then s4_1 else (s4_1 ||| (zshl 1 (nI i4_1)))))) (a := 0) (fun i4_1 s4_1 => zV X Γ Q 4 [zO X b, zI s4_1, zI (nI i4_1)] [] h g) (fun _ _ => True) (zcn (h b 0)) trivial (fun i4_1 s4_1 hi4_1 hI4_1 => ⟨trivial, fun hk4_1 => ?_⟩) (fun r4_1 er4_1 hI4_1 => ?_)
  · refine zr_iload_n C d_X1_placedSet_4 rfl ?_
    refine zr_aload_n C d_X1_placedSet_5 rfl ?_
    refine gf_Mesh_0 C hb m95 d_X1_placedSet_6 ?_
    refine zr_icmp_ge C 35 d_X1_placedSet_9 (by decide) (fun c => absurd c (zge_no rfl (by omega))) (fun _ => ?_)
    refine zr_aload_n C d_X1_placedSet_12 rfl ?_
    refine gf_Mesh_5 C hb m111 d_X1_placedSet_13 ?_
    refine zr_iload_n C d_X1_placedSet_16 rfl ?_
    refine zr_iald C (za_mesh_3 hb) (i4_1) rfl (by omega) (by decide) d_X1_placedSet_17 ?_
    refine zr_bipush C (v := (-9)) d_X1_placedSet_18 (by decide) ?_
    suffices hJ20 : ∀ (y2 : Int32), (if (h (b + 3) i4_1) = (-9) then s4_1 else (s4_1 ||| (zshl 1 (nI i4_1)))) = y2 → zV X Γ Q 29 [zO X b, zI y2, zI (nI i4_1)] [] h g by
      refine zr_icmp_eq C 29 d_X1_placedSet_20 (by decide) (fun c20 => ?_) (fun c20 => ?_)
      · exact hJ20 s4_1 (((if_pos c20)))
      · refine zr_iload_n C d_X1_placedSet_23 rfl ?_
        refine zr_iconst C (v := 1) d_X1_placedSet_24 (by decide) ?_
        refine zr_iload_n C d_X1_placedSet_25 rfl ?_
        refine zr_ishl C d_X1_placedSet_26 ?_
        refine zr_ior C d_X1_placedSet_27 ?_
        refine zr_istore_n C [zO X b, zI (s4_1 ||| (zshl 1 (nI i4_1))), zI (nI i4_1)] d_X1_placedSet_28 (Nat.le_of_ble_eq_true rfl) rfl rfl ?_
        exact hJ20 (s4_1 ||| (zshl 1 (nI i4_1))) (((if_neg c20)))
    intro y2 ey2
    refine zr_iinc C [zO X b, zI y2, zI (nI (i4_1 + 1))] (v := (nI (i4_1 + 1))) d_X1_placedSet_29 rfl (zn_add rfl rfl) (Nat.le_of_ble_eq_true rfl) rfl rfl ?_
    refine zr_goto C 4 d_X1_placedSet_32 (by decide) ?_
    exact hk4_1 y2 (by subst ey2; exact rfl)
  refine zr_iload_n C d_X1_placedSet_4 rfl ?_
  refine zr_aload_n C d_X1_placedSet_5 rfl ?_
  refine gf_Mesh_0 C hb m95 d_X1_placedSet_6 ?_
  refine zr_icmp_ge C 35 d_X1_placedSet_9 (by decide) (fun _ => ?_) (fun c => absurd (zge_yes rfl (by omega) (by have := zcn_small (h b 0); omega)) c)
  refine zr_iload_n C d_X1_placedSet_35 rfl ?_
  have eR : o_Mesh_placedSet h b = r4_1 := (by subst er4_1; unfold o_Mesh_placedSet; exact rfl)
  subst hQ
  rw [eR]
  exact zr_ireti C d_X1_placedSet_36
theorem d_X1_differenceTo_0 : decode prog_3_method_29_code 0 = .ok (.iconst 0, 1) := by decide +kernel
theorem d_X1_differenceTo_1 : decode prog_3_method_29_code 1 = .ok (.istore_n 2, 1) := by decide +kernel
theorem d_X1_differenceTo_2 : decode prog_3_method_29_code 2 = .ok (.iconst 0, 1) := by decide +kernel
theorem d_X1_differenceTo_3 : decode prog_3_method_29_code 3 = .ok (.istore_n 3, 1) := by decide +kernel
theorem d_X1_differenceTo_4 : decode prog_3_method_29_code 4 = .ok (.iload_n 3, 1) := by decide +kernel
theorem d_X1_differenceTo_5 : decode prog_3_method_29_code 5 = .ok (.aload_n 0, 1) := by decide +kernel
theorem d_X1_differenceTo_6 : decode prog_3_method_29_code 6 = .ok (.getfield 45, 3) := by decide +kernel
theorem d_X1_differenceTo_9 : decode prog_3_method_29_code 9 = .ok (.if_icmp .ge 30, 3) := by decide +kernel
theorem d_X1_differenceTo_12 : decode prog_3_method_29_code 12 = .ok (.aload_n 0, 1) := by decide +kernel
theorem d_X1_differenceTo_13 : decode prog_3_method_29_code 13 = .ok (.getfield 18, 3) := by decide +kernel
theorem d_X1_differenceTo_16 : decode prog_3_method_29_code 16 = .ok (.iload_n 3, 1) := by decide +kernel
theorem d_X1_differenceTo_17 : decode prog_3_method_29_code 17 = .ok (.iaload, 1) := by decide +kernel
theorem d_X1_differenceTo_18 : decode prog_3_method_29_code 18 = .ok (.aload_n 1, 1) := by decide +kernel
theorem d_X1_differenceTo_19 : decode prog_3_method_29_code 19 = .ok (.getfield 18, 3) := by decide +kernel
theorem d_X1_differenceTo_22 : decode prog_3_method_29_code 22 = .ok (.iload_n 3, 1) := by decide +kernel
theorem d_X1_differenceTo_23 : decode prog_3_method_29_code 23 = .ok (.iaload, 1) := by decide +kernel
theorem d_X1_differenceTo_24 : decode prog_3_method_29_code 24 = .ok (.if_icmp .eq 9, 3) := by decide +kernel
theorem d_X1_differenceTo_27 : decode prog_3_method_29_code 27 = .ok (.iload_n 2, 1) := by decide +kernel
theorem d_X1_differenceTo_28 : decode prog_3_method_29_code 28 = .ok (.iconst 1, 1) := by decide +kernel
theorem d_X1_differenceTo_29 : decode prog_3_method_29_code 29 = .ok (.iload_n 3, 1) := by decide +kernel
theorem d_X1_differenceTo_30 : decode prog_3_method_29_code 30 = .ok (.ishl, 1) := by decide +kernel
theorem d_X1_differenceTo_31 : decode prog_3_method_29_code 31 = .ok (.ior, 1) := by decide +kernel
theorem d_X1_differenceTo_32 : decode prog_3_method_29_code 32 = .ok (.istore_n 2, 1) := by decide +kernel
theorem d_X1_differenceTo_33 : decode prog_3_method_29_code 33 = .ok (.iinc 3 1, 3) := by decide +kernel
theorem d_X1_differenceTo_36 : decode prog_3_method_29_code 36 = .ok (.goto (-32), 3) := by decide +kernel
theorem d_X1_differenceTo_39 : decode prog_3_method_29_code 39 = .ok (.iload_n 2, 1) := by decide +kernel
theorem d_X1_differenceTo_40 : decode prog_3_method_29_code 40 = .ok (.ireturn, 1) := by decide +kernel
abbrev M_Mesh_differenceTo : zMT := (⟨"PeriodSlots$Mesh", "differenceTo", "(LPeriodSlots$Mesh;)I"⟩, prog_3_method_29_code, 4, (some .int))
theorem k_Mesh_differenceTo : zcall M_Mesh_differenceTo 1 := ⟨zU_in (i := 571) (by decide +kernel) rfl, m56, ⟨by decide, by decide, by decide +kernel⟩, by decide⟩
def o_Mesh_differenceTo (h : zHp) (b : Nat) (o : Nat) : Int32 :=
  (zrep (fun (i4_1 : Nat) (s4_1 : Int32) => (if (h (b + 3) i4_1) = (h (o + 3) i4_1) then s4_1 else (s4_1 ||| (zshl 1 (nI i4_1))))) 0 (zcn (h b 0)))
set_option maxHeartbeats 400000 in
set_option maxRecDepth 20000 in
theorem c_Mesh_differenceTo (X : zXT) (h : zHp) (g : zLg) (b : Nat) (o : Nat) (hb : b = 3 ∨ b = 15 ∨ b = 27) (ho : o = 3 ∨ o = 15 ∨ o = 27) (hf0 : zfit h b 0 8) : zDi X M_Mesh_differenceTo 0 [zR X b, zR X o] h g (zI (o_Mesh_differenceTo h b o)) h g := by
  have hf0_1 := hf0.1
  refine zDi_of "PeriodSlots$Mesh" prog_3_method_29_code 4 (some .int) rfl (by decide) [zO X b, zO X o, none, none] rfl (fun _ q => q) (Nat.le_of_ble_eq_true rfl) ?_
  intro Γ Q C hQ
  refine zr_iconst C (v := 0) d_X1_differenceTo_0 (by decide) ?_
  refine zr_istore_n C [zO X b, zO X o, zI 0, none] d_X1_differenceTo_1 (Nat.le_of_ble_eq_true rfl) rfl rfl ?_
  refine zr_iconst C (v := 0) d_X1_differenceTo_2 (by decide) ?_
  refine zr_istore_n C [zO X b, zO X o, zI 0, zI 0] d_X1_differenceTo_3 (Nat.le_of_ble_eq_true rfl) rfl rfl ?_
  refine zfor (f := (fun (i4_1 : Nat) (s4_1 : Int32) => (if (h (b + 3) i4_1) = (h (o + 3) i4_1) then s4_1 else (s4_1 ||| (zshl 1 (nI i4_1)))))) (a := 0) (fun i4_1 s4_1 => zV X Γ Q 4 [zO X b, zO X o, zI s4_1, zI (nI i4_1)] [] h g) (fun _ _ => True) (zcn (h b 0)) trivial (fun i4_1 s4_1 hi4_1 hI4_1 => ⟨trivial, fun hk4_1 => ?_⟩) (fun r4_1 er4_1 hI4_1 => ?_)
  · refine zr_iload_n C d_X1_differenceTo_4 rfl ?_
    refine zr_aload_n C d_X1_differenceTo_5 rfl ?_
    refine gf_Mesh_0 C hb m95 d_X1_differenceTo_6 ?_
    refine zr_icmp_ge C 39 d_X1_differenceTo_9 (by decide) (fun c => absurd c (zge_no rfl (by omega))) (fun _ => ?_)
    refine zr_aload_n C d_X1_differenceTo_12 rfl ?_
    refine gf_Mesh_5 C hb m111 d_X1_differenceTo_13 ?_
    refine zr_iload_n C d_X1_differenceTo_16 rfl ?_
    refine zr_iald C (za_mesh_3 hb) (i4_1) rfl (by omega) (by decide) d_X1_differenceTo_17 ?_
    refine zr_aload_n C d_X1_differenceTo_18 rfl ?_
    refine gf_Mesh_5 C ho m111 d_X1_differenceTo_19 ?_
    refine zr_iload_n C d_X1_differenceTo_22 rfl ?_
    refine zr_iald C (za_mesh_3 ho) (i4_1) rfl (by omega) (by decide) d_X1_differenceTo_23 ?_
    suffices hJ24 : ∀ (y2 : Int32), (if (h (b + 3) i4_1) = (h (o + 3) i4_1) then s4_1 else (s4_1 ||| (zshl 1 (nI i4_1)))) = y2 → zV X Γ Q 33 [zO X b, zO X o, zI y2, zI (nI i4_1)] [] h g by
      refine zr_icmp_eq C 33 d_X1_differenceTo_24 (by decide) (fun c24 => ?_) (fun c24 => ?_)
      · exact hJ24 s4_1 (((if_pos c24)))
      · refine zr_iload_n C d_X1_differenceTo_27 rfl ?_
        refine zr_iconst C (v := 1) d_X1_differenceTo_28 (by decide) ?_
        refine zr_iload_n C d_X1_differenceTo_29 rfl ?_
        refine zr_ishl C d_X1_differenceTo_30 ?_
        refine zr_ior C d_X1_differenceTo_31 ?_
        refine zr_istore_n C [zO X b, zO X o, zI (s4_1 ||| (zshl 1 (nI i4_1))), zI (nI i4_1)] d_X1_differenceTo_32 (Nat.le_of_ble_eq_true rfl) rfl rfl ?_
        exact hJ24 (s4_1 ||| (zshl 1 (nI i4_1))) (((if_neg c24)))
    intro y2 ey2
    refine zr_iinc C [zO X b, zO X o, zI y2, zI (nI (i4_1 + 1))] (v := (nI (i4_1 + 1))) d_X1_differenceTo_33 rfl (zn_add rfl rfl) (Nat.le_of_ble_eq_true rfl) rfl rfl ?_
    refine zr_goto C 4 d_X1_differenceTo_36 (by decide) ?_
    exact hk4_1 y2 (by subst ey2; exact rfl)
  refine zr_iload_n C d_X1_differenceTo_4 rfl ?_
  refine zr_aload_n C d_X1_differenceTo_5 rfl ?_
  refine gf_Mesh_0 C hb m95 d_X1_differenceTo_6 ?_
  refine zr_icmp_ge C 39 d_X1_differenceTo_9 (by decide) (fun _ => ?_) (fun c => absurd (zge_yes rfl (by omega) (by have := zcn_small (h b 0); omega)) c)
  refine zr_iload_n C d_X1_differenceTo_39 rfl ?_
  have eR : o_Mesh_differenceTo h b o = r4_1 := (by subst er4_1; unfold o_Mesh_differenceTo; exact rfl)
  subst hQ
  rw [eR]
  exact zr_ireti C d_X1_differenceTo_40
theorem d_X1_conflicts_0 : decode prog_3_method_30_code 0 = .ok (.iconst 0, 1) := by decide +kernel
theorem d_X1_conflicts_1 : decode prog_3_method_30_code 1 = .ok (.istore_n 1, 1) := by decide +kernel
theorem d_X1_conflicts_2 : decode prog_3_method_30_code 2 = .ok (.iconst 0, 1) := by decide +kernel
theorem d_X1_conflicts_3 : decode prog_3_method_30_code 3 = .ok (.istore_n 2, 1) := by decide +kernel
theorem d_X1_conflicts_4 : decode prog_3_method_30_code 4 = .ok (.iload_n 2, 1) := by decide +kernel
theorem d_X1_conflicts_5 : decode prog_3_method_30_code 5 = .ok (.aload_n 0, 1) := by decide +kernel
theorem d_X1_conflicts_6 : decode prog_3_method_30_code 6 = .ok (.getfield 45, 3) := by decide +kernel
theorem d_X1_conflicts_9 : decode prog_3_method_30_code 9 = .ok (.if_icmp .ge 54, 3) := by decide +kernel
theorem d_X1_conflicts_12 : decode prog_3_method_30_code 12 = .ok (.iconst 0, 1) := by decide +kernel
theorem d_X1_conflicts_13 : decode prog_3_method_30_code 13 = .ok (.istore_n 3, 1) := by decide +kernel
theorem d_X1_conflicts_14 : decode prog_3_method_30_code 14 = .ok (.iload_n 3, 1) := by decide +kernel
theorem d_X1_conflicts_15 : decode prog_3_method_30_code 15 = .ok (.iload_n 2, 1) := by decide +kernel
theorem d_X1_conflicts_16 : decode prog_3_method_30_code 16 = .ok (.if_icmp .ge 41, 3) := by decide +kernel
theorem d_X1_conflicts_19 : decode prog_3_method_30_code 19 = .ok (.aload_n 0, 1) := by decide +kernel
theorem d_X1_conflicts_20 : decode prog_3_method_30_code 20 = .ok (.getfield 27, 3) := by decide +kernel
theorem d_X1_conflicts_23 : decode prog_3_method_30_code 23 = .ok (.iload_n 2, 1) := by decide +kernel
theorem d_X1_conflicts_24 : decode prog_3_method_30_code 24 = .ok (.iaload, 1) := by decide +kernel
theorem d_X1_conflicts_25 : decode prog_3_method_30_code 25 = .ok (.iload_n 3, 1) := by decide +kernel
theorem d_X1_conflicts_26 : decode prog_3_method_30_code 26 = .ok (.invokestatic 89, 3) := by decide +kernel
theorem d_X1_conflicts_29 : decode prog_3_method_30_code 29 = .ok (.ifCond .eq 22, 3) := by decide +kernel
theorem d_X1_conflicts_32 : decode prog_3_method_30_code 32 = .ok (.aload_n 0, 1) := by decide +kernel
theorem d_X1_conflicts_33 : decode prog_3_method_30_code 33 = .ok (.getfield 36, 3) := by decide +kernel
theorem d_X1_conflicts_36 : decode prog_3_method_30_code 36 = .ok (.iload_n 3, 1) := by decide +kernel
theorem d_X1_conflicts_37 : decode prog_3_method_30_code 37 = .ok (.iaload, 1) := by decide +kernel
theorem d_X1_conflicts_38 : decode prog_3_method_30_code 38 = .ok (.aload_n 0, 1) := by decide +kernel
theorem d_X1_conflicts_39 : decode prog_3_method_30_code 39 = .ok (.getfield 36, 3) := by decide +kernel
theorem d_X1_conflicts_42 : decode prog_3_method_30_code 42 = .ok (.iload_n 2, 1) := by decide +kernel
theorem d_X1_conflicts_43 : decode prog_3_method_30_code 43 = .ok (.iaload, 1) := by decide +kernel
theorem d_X1_conflicts_44 : decode prog_3_method_30_code 44 = .ok (.iand, 1) := by decide +kernel
theorem d_X1_conflicts_45 : decode prog_3_method_30_code 45 = .ok (.ifCond .eq 6, 3) := by decide +kernel
theorem d_X1_conflicts_48 : decode prog_3_method_30_code 48 = .ok (.iinc 1 1, 3) := by decide +kernel
theorem d_X1_conflicts_51 : decode prog_3_method_30_code 51 = .ok (.iinc 3 1, 3) := by decide +kernel
theorem d_X1_conflicts_54 : decode prog_3_method_30_code 54 = .ok (.goto (-40), 3) := by decide +kernel
theorem d_X1_conflicts_57 : decode prog_3_method_30_code 57 = .ok (.iinc 2 1, 3) := by decide +kernel
theorem d_X1_conflicts_60 : decode prog_3_method_30_code 60 = .ok (.goto (-56), 3) := by decide +kernel
theorem d_X1_conflicts_63 : decode prog_3_method_30_code 63 = .ok (.iload_n 1, 1) := by decide +kernel
theorem d_X1_conflicts_64 : decode prog_3_method_30_code 64 = .ok (.ireturn, 1) := by decide +kernel
abbrev M_Mesh_conflicts : zMT := (⟨"PeriodSlots$Mesh", "conflicts", "()I"⟩, prog_3_method_30_code, 4, (some .int))
theorem k_Mesh_conflicts : zcall M_Mesh_conflicts 0 := ⟨zU_in (i := 401) (by decide +kernel) rfl, m56, ⟨by decide, by decide, by decide +kernel⟩, by decide⟩
def o_Mesh_conflicts (h : zHp) (b : Nat) : Int32 :=
  (zrep (fun (i4_1 : Nat) (s4_1 : Int32) => (zrep (fun (i14_2 : Nat) (s14_2 : Int32) => (if (o_Slots_has (h (b + 6) i4_1) (nI i14_2)) = true then (if ((h (b + 9) i14_2) &&& (h (b + 9) i4_1)) = 0 then s14_2 else (s14_2 + 1)) else s14_2)) s4_1 i4_1)) 0 (zcn (h b 0)))
set_option maxHeartbeats 400000 in
set_option maxRecDepth 20000 in
theorem c_Mesh_conflicts (X : zXT) (h : zHp) (g : zLg) (b : Nat) (hb : b = 3 ∨ b = 15 ∨ b = 27) (hf0 : zfit h b 0 8) : zDi X M_Mesh_conflicts 1 [zR X b] h g (zI (o_Mesh_conflicts h b)) h g := by
  have hf0_1 := hf0.1
  refine zDi_of "PeriodSlots$Mesh" prog_3_method_30_code 4 (some .int) rfl (by decide) [zO X b, none, none, none] rfl (fun _ q => q) (Nat.le_of_ble_eq_true rfl) ?_
  intro Γ Q C hQ
  refine zr_iconst C (v := 0) d_X1_conflicts_0 (by decide) ?_
  refine zr_istore_n C [zO X b, zI 0, none, none] d_X1_conflicts_1 (Nat.le_of_ble_eq_true rfl) rfl rfl ?_
  refine zr_iconst C (v := 0) d_X1_conflicts_2 (by decide) ?_
  refine zr_istore_n C [zO X b, zI 0, zI 0, none] d_X1_conflicts_3 (Nat.le_of_ble_eq_true rfl) rfl rfl ?_
  refine zfor (f := (fun (i4_1 : Nat) (s4_1 : Int32) => (zrep (fun (i14_2 : Nat) (s14_2 : Int32) => (if (o_Slots_has (h (b + 6) i4_1) (nI i14_2)) = true then (if ((h (b + 9) i14_2) &&& (h (b + 9) i4_1)) = 0 then s14_2 else (s14_2 + 1)) else s14_2)) s4_1 i4_1))) (a := 0) (fun i4_1 s4_1 => zV X Γ Q 4 [zO X b, zI s4_1, zI (nI i4_1), none] [] h g) (fun _ _ => True) (zcn (h b 0)) trivial (fun i4_1 s4_1 hi4_1 hI4_1 => ⟨trivial, fun hk4_1 => ?_⟩) (fun r4_1 er4_1 hI4_1 => ?_)
  · refine zr_iload_n C d_X1_conflicts_4 rfl ?_
    refine zr_aload_n C d_X1_conflicts_5 rfl ?_
    refine gf_Mesh_0 C hb m95 d_X1_conflicts_6 ?_
    refine zr_icmp_ge C 63 d_X1_conflicts_9 (by decide) (fun c => absurd c (zge_no rfl (by omega))) (fun _ => ?_)
    refine zr_iconst C (v := 0) d_X1_conflicts_12 (by decide) ?_
    refine zr_istore_n C [zO X b, zI s4_1, zI (nI i4_1), zI 0] d_X1_conflicts_13 (Nat.le_of_ble_eq_true rfl) rfl rfl ?_
    refine zfor (f := (fun (i14_2 : Nat) (s14_2 : Int32) => (if (o_Slots_has (h (b + 6) i4_1) (nI i14_2)) = true then (if ((h (b + 9) i14_2) &&& (h (b + 9) i4_1)) = 0 then s14_2 else (s14_2 + 1)) else s14_2))) (a := s4_1) (fun i14_2 s14_2 => zV X Γ Q 14 [zO X b, zI s14_2, zI (nI i4_1), zI (nI i14_2)] [] h g) (fun _ _ => True) (i4_1) trivial (fun i14_2 s14_2 hi14_2 hI14_2 => ⟨trivial, fun hk14_2 => ?_⟩) (fun r14_2 er14_2 hI14_2 => ?_)
    · refine zr_iload_n C d_X1_conflicts_14 rfl ?_
      refine zr_iload_n C d_X1_conflicts_15 rfl ?_
      refine zr_icmp_ge C 57 d_X1_conflicts_16 (by decide) (fun c => absurd c (zge_noN (B := i4_1) rfl (by omega) (by omega))) (fun _ => ?_)
      refine zr_aload_n C d_X1_conflicts_19 rfl ?_
      refine gf_Mesh_8 C hb m118 d_X1_conflicts_20 ?_
      refine zr_iload_n C d_X1_conflicts_23 rfl ?_
      refine zr_iald C (za_mesh_6 hb) (i4_1) rfl (by omega) (by decide) d_X1_conflicts_24 ?_
      refine zr_iload_n C d_X1_conflicts_25 rfl ?_
      refine zr_callNi (As := [.int (h (b + 6) i4_1), .int (nI i14_2)]) (st := []) C (c_Slots_has X h g (h (b + 6) i4_1) (nI i14_2)) k_Slots_has (by simp [zNest]) m322 rfl (by decide) rfl (Nat.le_of_ble_eq_true rfl) d_X1_conflicts_26 ?_
      suffices hJ29 : ∀ (y3 : Int32), (if (o_Slots_has (h (b + 6) i4_1) (nI i14_2)) = true then (if ((h (b + 9) i14_2) &&& (h (b + 9) i4_1)) = 0 then s14_2 else (s14_2 + 1)) else s14_2) = y3 → zV X Γ Q 51 [zO X b, zI y3, zI (nI i4_1), zI (nI i14_2)] [] h g by
        refine zr_ifz_eq C 51 d_X1_conflicts_29 (by decide) (fun c29 => ?_) (fun c29 => ?_)
        · exact hJ29 s14_2 (((if_neg (zbf c29))))
        · refine zr_aload_n C d_X1_conflicts_32 rfl ?_
          refine gf_Mesh_11 C hb m124 d_X1_conflicts_33 ?_
          refine zr_iload_n C d_X1_conflicts_36 rfl ?_
          refine zr_iald C (za_mesh_9 hb) (i14_2) rfl (by omega) (by decide) d_X1_conflicts_37 ?_
          refine zr_aload_n C d_X1_conflicts_38 rfl ?_
          refine gf_Mesh_11 C hb m124 d_X1_conflicts_39 ?_
          refine zr_iload_n C d_X1_conflicts_42 rfl ?_
          refine zr_iald C (za_mesh_9 hb) (i4_1) rfl (by omega) (by decide) d_X1_conflicts_43 ?_
          refine zr_iand C d_X1_conflicts_44 ?_
          refine zr_if_eq C 51 d_X1_conflicts_45 (by decide) (fun c45 => ?_) (fun c45 => ?_)
          · exact hJ29 s14_2 (((if_pos c29).trans ((if_pos c45))))
          · refine zr_iinc C [zO X b, zI (s14_2 + 1), zI (nI i4_1), zI (nI i14_2)] (v := (s14_2 + 1)) d_X1_conflicts_48 rfl rfl (Nat.le_of_ble_eq_true rfl) rfl rfl ?_
            exact hJ29 (s14_2 + 1) (((if_pos c29).trans ((if_neg c45))))
      intro y3 ey3
      refine zr_iinc C [zO X b, zI y3, zI (nI i4_1), zI (nI (i14_2 + 1))] (v := (nI (i14_2 + 1))) d_X1_conflicts_51 rfl (zn_add rfl rfl) (Nat.le_of_ble_eq_true rfl) rfl rfl ?_
      refine zr_goto C 14 d_X1_conflicts_54 (by decide) ?_
      exact hk14_2 y3 (by subst ey3; exact rfl)
    refine zr_iload_n C d_X1_conflicts_14 rfl ?_
    refine zr_iload_n C d_X1_conflicts_15 rfl ?_
    refine zr_icmp_ge C 57 d_X1_conflicts_16 (by decide) (fun _ => ?_) (fun c => absurd (zge_yesN (B := i4_1) rfl (by omega) (by omega)) c)
    refine zr_iinc C [zO X b, zI r14_2, zI (nI (i4_1 + 1)), zI (nI i4_1)] (v := (nI (i4_1 + 1))) d_X1_conflicts_57 rfl (zn_add rfl rfl) (Nat.le_of_ble_eq_true rfl) rfl rfl ?_
    refine zr_goto C 4 d_X1_conflicts_60 (by decide) ?_
    refine zr_lv [zO X b, zI r14_2, zI (nI (i4_1 + 1)), none] (by simp [zle]) ?_
    exact hk4_1 r14_2 (by subst er14_2; exact rfl)
  refine zr_iload_n C d_X1_conflicts_4 rfl ?_
  refine zr_aload_n C d_X1_conflicts_5 rfl ?_
  refine gf_Mesh_0 C hb m95 d_X1_conflicts_6 ?_
  refine zr_icmp_ge C 63 d_X1_conflicts_9 (by decide) (fun _ => ?_) (fun c => absurd (zge_yes rfl (by omega) (by have := zcn_small (h b 0); omega)) c)
  refine zr_iload_n C d_X1_conflicts_63 rfl ?_
  have eR : o_Mesh_conflicts h b = r4_1 := (by subst er4_1; unfold o_Mesh_conflicts; exact rfl)
  subst hQ
  rw [eR]
  exact zr_ireti C d_X1_conflicts_64
theorem d_X1_place_0 : decode prog_3_method_31_code 0 = .ok (.aload_n 0, 1) := by decide +kernel
theorem d_X1_place_1 : decode prog_3_method_31_code 1 = .ok (.getfield 18, 3) := by decide +kernel
theorem d_X1_place_4 : decode prog_3_method_31_code 4 = .ok (.iload_n 1, 1) := by decide +kernel
theorem d_X1_place_5 : decode prog_3_method_31_code 5 = .ok (.iload_n 2, 1) := by decide +kernel
theorem d_X1_place_6 : decode prog_3_method_31_code 6 = .ok (.iastore, 1) := by decide +kernel
theorem d_X1_place_7 : decode prog_3_method_31_code 7 = .ok (.aload_n 0, 1) := by decide +kernel
theorem d_X1_place_8 : decode prog_3_method_31_code 8 = .ok (.invokevirtual 66, 3) := by decide +kernel
theorem d_X1_place_11 : decode prog_3_method_31_code 11 = .ok (.return_, 1) := by decide +kernel
abbrev M_Mesh_place : zMT := (⟨"PeriodSlots$Mesh", "place", "(II)V"⟩, prog_3_method_31_code, 3, none)
theorem k_Mesh_place : zcall M_Mesh_place 2 := ⟨zU_in (i := 503) (by decide +kernel) rfl, m56, ⟨by decide, by decide, by decide +kernel⟩, by decide⟩
def o_Mesh_place (h : zHp) (b : Nat) (v : Nat) (offset : Int32) : zHp :=
  (o_Mesh_dropOlds (zup h (b + 3) v offset) b)
theorem fr_Mesh_place {h : zHp} {b : Nat} {v : Nat} {offset : Int32} (c k : Nat) (q0 : c ≠ b + 3) (q1 : c ≠ b + 4) (q2 : c ≠ b + 9) (q3 : c ≠ b + 10) : (o_Mesh_place h b v offset) c k = h c k := by
  unfold o_Mesh_place
  first | done | exact ((fr_Mesh_dropOlds _ _ (by assumption) (by assumption) (by assumption)).trans (zup_fr (Or.inl (by assumption))))
set_option maxHeartbeats 400000 in
set_option maxRecDepth 20000 in
theorem c_Mesh_place (X : zXT) (h : zHp) (g : zLg) (b : Nat) (v : Nat) (offset : Int32) {x_v : Int32} (e_v : x_v = nI v) (hb : b = 3 ∨ b = 15 ∨ b = 27) (hf0 : zfit h b 0 8) (hl1 : v < 8) : zDi X M_Mesh_place 3 [zR X b, .int x_v, .int offset] h g none (o_Mesh_place h b v offset) g := by
  subst e_v
  have hf0_1 := hf0.1
  refine zDi_of "PeriodSlots$Mesh" prog_3_method_31_code 3 none rfl (by decide) [zO X b, zI (nI v), zI offset] rfl (fun _ q => q) (Nat.le_of_ble_eq_true rfl) ?_
  intro Γ Q C hQ
  refine zr_aload_n C d_X1_place_0 rfl ?_
  refine gf_Mesh_5 C hb m111 d_X1_place_1 ?_
  refine zr_iload_n C d_X1_place_4 rfl ?_
  refine zr_iload_n C d_X1_place_5 rfl ?_
  refine zr_iast C (za_mesh_3 hb) (v) rfl (by omega) (by decide) d_X1_place_6 ?_
  refine zr_h (fun h1 eh1 => ?_)
  refine zr_aload_n C d_X1_place_7 rfl ?_
  refine zr_callVv (As := []) (st := []) (c := b) C (c_Mesh_dropOlds X h1 g b hb (zfit_fr ((congrFun (congrFun eh1.symm _) _).trans (zup_fr (by omega))) hf0)) k_Mesh_dropOlds m298 m299 m300 (by omega) (zC_Mesh hb X _ _) rfl rfl (by decide) rfl (Nat.le_of_ble_eq_true rfl) d_X1_place_8 ?_
  refine zr_h (fun h2 eh2 => ?_)
  have eR : o_Mesh_place h b v offset = h2 := (by subst eh2 eh1; unfold o_Mesh_place; exact rfl)
  subst hQ
  rw [eR]
  exact zr_vret C d_X1_place_11
theorem d_X1_moveAll_0 : decode prog_3_method_32_code 0 = .ok (.iconst 0, 1) := by decide +kernel
theorem d_X1_moveAll_1 : decode prog_3_method_32_code 1 = .ok (.istore_n 3, 1) := by decide +kernel
theorem d_X1_moveAll_2 : decode prog_3_method_32_code 2 = .ok (.iload_n 3, 1) := by decide +kernel
theorem d_X1_moveAll_3 : decode prog_3_method_32_code 3 = .ok (.aload_n 0, 1) := by decide +kernel
theorem d_X1_moveAll_4 : decode prog_3_method_32_code 4 = .ok (.getfield 45, 3) := by decide +kernel
theorem d_X1_moveAll_7 : decode prog_3_method_32_code 7 = .ok (.if_icmp .ge 47, 3) := by decide +kernel
theorem d_X1_moveAll_10 : decode prog_3_method_32_code 10 = .ok (.iload_n 1, 1) := by decide +kernel
theorem d_X1_moveAll_11 : decode prog_3_method_32_code 11 = .ok (.iload_n 3, 1) := by decide +kernel
theorem d_X1_moveAll_12 : decode prog_3_method_32_code 12 = .ok (.invokestatic 89, 3) := by decide +kernel
theorem d_X1_moveAll_15 : decode prog_3_method_32_code 15 = .ok (.ifCond .eq 33, 3) := by decide +kernel
theorem d_X1_moveAll_18 : decode prog_3_method_32_code 18 = .ok (.aload_n 0, 1) := by decide +kernel
theorem d_X1_moveAll_19 : decode prog_3_method_32_code 19 = .ok (.getfield 18, 3) := by decide +kernel
theorem d_X1_moveAll_22 : decode prog_3_method_32_code 22 = .ok (.iload_n 3, 1) := by decide +kernel
theorem d_X1_moveAll_23 : decode prog_3_method_32_code 23 = .ok (.iaload, 1) := by decide +kernel
theorem d_X1_moveAll_24 : decode prog_3_method_32_code 24 = .ok (.bipush (-9), 2) := by decide +kernel
theorem d_X1_moveAll_26 : decode prog_3_method_32_code 26 = .ok (.if_icmp .eq 22, 3) := by decide +kernel
theorem d_X1_moveAll_29 : decode prog_3_method_32_code 29 = .ok (.aload_n 0, 1) := by decide +kernel
theorem d_X1_moveAll_30 : decode prog_3_method_32_code 30 = .ok (.getfield 18, 3) := by decide +kernel
theorem d_X1_moveAll_33 : decode prog_3_method_32_code 33 = .ok (.iload_n 3, 1) := by decide +kernel
theorem d_X1_moveAll_34 : decode prog_3_method_32_code 34 = .ok (.aload_n 0, 1) := by decide +kernel
theorem d_X1_moveAll_35 : decode prog_3_method_32_code 35 = .ok (.iload_n 3, 1) := by decide +kernel
theorem d_X1_moveAll_36 : decode prog_3_method_32_code 36 = .ok (.aload_n 0, 1) := by decide +kernel
theorem d_X1_moveAll_37 : decode prog_3_method_32_code 37 = .ok (.getfield 18, 3) := by decide +kernel
theorem d_X1_moveAll_40 : decode prog_3_method_32_code 40 = .ok (.iload_n 3, 1) := by decide +kernel
theorem d_X1_moveAll_41 : decode prog_3_method_32_code 41 = .ok (.iaload, 1) := by decide +kernel
theorem d_X1_moveAll_42 : decode prog_3_method_32_code 42 = .ok (.iload_n 2, 1) := by decide +kernel
theorem d_X1_moveAll_43 : decode prog_3_method_32_code 43 = .ok (.iadd, 1) := by decide +kernel
theorem d_X1_moveAll_44 : decode prog_3_method_32_code 44 = .ok (.invokevirtual 62, 3) := by decide +kernel
theorem d_X1_moveAll_47 : decode prog_3_method_32_code 47 = .ok (.iastore, 1) := by decide +kernel
theorem d_X1_moveAll_48 : decode prog_3_method_32_code 48 = .ok (.iinc 3 1, 3) := by decide +kernel
theorem d_X1_moveAll_51 : decode prog_3_method_32_code 51 = .ok (.goto (-49), 3) := by decide +kernel
theorem d_X1_moveAll_54 : decode prog_3_method_32_code 54 = .ok (.aload_n 0, 1) := by decide +kernel
theorem d_X1_moveAll_55 : decode prog_3_method_32_code 55 = .ok (.invokevirtual 66, 3) := by decide +kernel
theorem d_X1_moveAll_58 : decode prog_3_method_32_code 58 = .ok (.return_, 1) := by decide +kernel
abbrev M_Mesh_moveAll : zMT := (⟨"PeriodSlots$Mesh", "moveAll", "(II)V"⟩, prog_3_method_32_code, 4, none)
theorem k_Mesh_moveAll : zcall M_Mesh_moveAll 2 := ⟨zU_in (i := 515) (by decide +kernel) rfl, m56, ⟨by decide, by decide, by decide +kernel⟩, by decide⟩
def o_Mesh_moveAll (h : zHp) (b : Nat) (set : Int32) (d : Int32) : zHp :=
  (o_Mesh_dropOlds (zrep (fun (i2_1 : Nat) (s2_1 : zHp) => (if (o_Slots_has set (nI i2_1)) = true then (if (s2_1 (b + 3) i2_1) = (-9) then s2_1 else (zup s2_1 (b + 3) i2_1 (o_Mesh_wrapped s2_1 b i2_1 ((s2_1 (b + 3) i2_1) + d)))) else s2_1)) h (zcn (h b 0))) b)
theorem fr_Mesh_moveAll {h : zHp} {b : Nat} {set : Int32} {d : Int32} (c k : Nat) (q0 : c ≠ b + 3) (q1 : c ≠ b + 4) (q2 : c ≠ b + 9) (q3 : c ≠ b + 10) : (o_Mesh_moveAll h b set d) c k = h c k := by
  unfold o_Mesh_moveAll
  have hI2_1 := zrep_inv (f := (fun (i2_1 : Nat) (s2_1 : zHp) => (if (o_Slots_has set (nI i2_1)) = true then (if (s2_1 (b + 3) i2_1) = (-9) then s2_1 else (zup s2_1 (b + 3) i2_1 (o_Mesh_wrapped s2_1 b i2_1 ((s2_1 (b + 3) i2_1) + d)))) else s2_1))) (a := h) (fun _ s2_1 => ∀ c k : Nat, c ≠ b + 3 → c ≠ b + 4 → c ≠ b + 9 → c ≠ b + 10 → s2_1 c k = h c k) (zcn (h b 0)) (fun _ _ _ _ _ _ => rfl) (fun i2_1 s2_1 hi2_1 hI2_1 => (fun c k q0 q1 q2 q3 => (by (try dsimp only); exact (zite_fr (fun _ => (zite_fr (fun _ => (hI2_1 _ _ (by assumption) (by assumption) (by assumption) (by assumption))) (fun _ => ((zup_fr (Or.inl (by assumption))).trans (hI2_1 _ _ (by assumption) (by assumption) (by assumption) (by assumption)))))) (fun _ => (hI2_1 _ _ (by assumption) (by assumption) (by assumption) (by assumption)))))))
  first | done | exact ((fr_Mesh_dropOlds _ _ (by assumption) (by assumption) (by assumption)).trans (hI2_1 _ _ (by assumption) (by assumption) (by assumption) (by assumption)))
set_option maxHeartbeats 400000 in
set_option maxRecDepth 20000 in
theorem c_Mesh_moveAll (X : zXT) (h : zHp) (g : zLg) (b : Nat) (set : Int32) (d : Int32) (hb : b = 3 ∨ b = 15 ∨ b = 27) (hf0 : zfit h b 0 8) : zDi X M_Mesh_moveAll 3 [zR X b, .int set, .int d] h g none (o_Mesh_moveAll h b set d) g := by
  have hf0_1 := hf0.1
  refine zDi_of "PeriodSlots$Mesh" prog_3_method_32_code 4 none rfl (by decide) [zO X b, zI set, zI d, none] rfl (fun _ q => q) (Nat.le_of_ble_eq_true rfl) ?_
  intro Γ Q C hQ
  refine zr_iconst C (v := 0) d_X1_moveAll_0 (by decide) ?_
  refine zr_istore_n C [zO X b, zI set, zI d, zI 0] d_X1_moveAll_1 (Nat.le_of_ble_eq_true rfl) rfl rfl ?_
  refine zfor (f := (fun (i2_1 : Nat) (s2_1 : zHp) => (if (o_Slots_has set (nI i2_1)) = true then (if (s2_1 (b + 3) i2_1) = (-9) then s2_1 else (zup s2_1 (b + 3) i2_1 (o_Mesh_wrapped s2_1 b i2_1 ((s2_1 (b + 3) i2_1) + d)))) else s2_1))) (a := h) (fun i2_1 s2_1 => zV X Γ Q 2 [zO X b, zI set, zI d, zI (nI i2_1)] [] s2_1 g) (fun _ s2_1 => ∀ c k : Nat, c ≠ b + 3 → c ≠ b + 4 → c ≠ b + 9 → c ≠ b + 10 → s2_1 c k = h c k) (zcn (h b 0)) (fun _ _ _ _ _ _ => rfl) (fun i2_1 s2_1 hi2_1 hI2_1 => ⟨(fun c k q0 q1 q2 q3 => (by (try dsimp only); exact (zite_fr (fun _ => (zite_fr (fun _ => (hI2_1 _ _ (by assumption) (by assumption) (by assumption) (by assumption))) (fun _ => ((zup_fr (Or.inl (by assumption))).trans (hI2_1 _ _ (by assumption) (by assumption) (by assumption) (by assumption)))))) (fun _ => (hI2_1 _ _ (by assumption) (by assumption) (by assumption) (by assumption)))))), fun hk2_1 => ?_⟩) (fun r2_1 er2_1 hI2_1 => ?_)
  · refine zr_iload_n C d_X1_moveAll_2 rfl ?_
    refine zr_aload_n C d_X1_moveAll_3 rfl ?_
    refine gf_Mesh_0 C hb m95 d_X1_moveAll_4 ?_
    refine zr_icmp_ge C 54 d_X1_moveAll_7 (by decide) (fun c => absurd c (zge_no (hI2_1 _ _ (by omega) (by omega) (by omega) (by omega)) (by omega))) (fun _ => ?_)
    refine zr_iload_n C d_X1_moveAll_10 rfl ?_
    refine zr_iload_n C d_X1_moveAll_11 rfl ?_
    refine zr_callNi (As := [.int set, .int (nI i2_1)]) (st := []) C (c_Slots_has X s2_1 g set (nI i2_1)) k_Slots_has (by simp [zNest]) m322 rfl (by decide) rfl (Nat.le_of_ble_eq_true rfl) d_X1_moveAll_12 ?_
    suffices hJ15 : ∀ (h3 : zHp), (if (o_Slots_has set (nI i2_1)) = true then (if (s2_1 (b + 3) i2_1) = (-9) then s2_1 else (zup s2_1 (b + 3) i2_1 (o_Mesh_wrapped s2_1 b i2_1 ((s2_1 (b + 3) i2_1) + d)))) else s2_1) = h3 → zV X Γ Q 48 [zO X b, zI set, zI d, zI (nI i2_1)] [] h3 g by
      refine zr_ifz_eq C 48 d_X1_moveAll_15 (by decide) (fun c15 => ?_) (fun c15 => ?_)
      · exact hJ15 s2_1 (((if_neg (zbf c15))))
      · refine zr_aload_n C d_X1_moveAll_18 rfl ?_
        refine gf_Mesh_5 C hb m111 d_X1_moveAll_19 ?_
        refine zr_iload_n C d_X1_moveAll_22 rfl ?_
        refine zr_iald C (za_mesh_3 hb) (i2_1) rfl (by omega) (by decide) d_X1_moveAll_23 ?_
        refine zr_bipush C (v := (-9)) d_X1_moveAll_24 (by decide) ?_
        refine zr_icmp_eq C 48 d_X1_moveAll_26 (by decide) (fun c26 => ?_) (fun c26 => ?_)
        · exact hJ15 s2_1 (((if_pos c15).trans ((if_pos c26))))
        · refine zr_aload_n C d_X1_moveAll_29 rfl ?_
          refine gf_Mesh_5 C hb m111 d_X1_moveAll_30 ?_
          refine zr_iload_n C d_X1_moveAll_33 rfl ?_
          refine zr_aload_n C d_X1_moveAll_34 rfl ?_
          refine zr_iload_n C d_X1_moveAll_35 rfl ?_
          refine zr_aload_n C d_X1_moveAll_36 rfl ?_
          refine gf_Mesh_5 C hb m111 d_X1_moveAll_37 ?_
          refine zr_iload_n C d_X1_moveAll_40 rfl ?_
          refine zr_iald C (za_mesh_3 hb) (i2_1) rfl (by omega) (by decide) d_X1_moveAll_41 ?_
          refine zr_iload_n C d_X1_moveAll_42 rfl ?_
          refine zr_iadd C d_X1_moveAll_43 ?_
          refine zr_callVi (As := [.int (nI i2_1), .int ((s2_1 (b + 3) i2_1) + d)]) (st := [.int (nI i2_1), zR X (b + 3)]) (c := b) C (c_Mesh_wrapped X s2_1 g b i2_1 ((s2_1 (b + 3) i2_1) + d) rfl hb (by omega)) k_Mesh_wrapped m294 m295 m296 (by omega) (zC_Mesh hb X _ _) rfl rfl (by decide) rfl (Nat.le_of_ble_eq_true rfl) d_X1_moveAll_44 ?_
          refine zr_iast C (za_mesh_3 hb) (i2_1) rfl (by omega) (by decide) d_X1_moveAll_47 ?_
          refine zr_h (fun h2 eh2 => ?_)
          exact hJ15 h2 (by subst eh2; exact ((if_pos c15).trans ((if_neg c26))))
    intro h3 eh3
    refine zr_iinc C [zO X b, zI set, zI d, zI (nI (i2_1 + 1))] (v := (nI (i2_1 + 1))) d_X1_moveAll_48 rfl (zn_add rfl rfl) (Nat.le_of_ble_eq_true rfl) rfl rfl ?_
    refine zr_goto C 2 d_X1_moveAll_51 (by decide) ?_
    exact hk2_1 h3 (by subst eh3; exact rfl)
  refine zr_iload_n C d_X1_moveAll_2 rfl ?_
  refine zr_aload_n C d_X1_moveAll_3 rfl ?_
  refine gf_Mesh_0 C hb m95 d_X1_moveAll_4 ?_
  refine zr_icmp_ge C 54 d_X1_moveAll_7 (by decide) (fun _ => ?_) (fun c => absurd (zge_yes (hI2_1 _ _ (by omega) (by omega) (by omega) (by omega)) (by omega) (by have := zcn_small (h b 0); omega)) c)
  refine zr_aload_n C d_X1_moveAll_54 rfl ?_
  refine zr_callVv (As := []) (st := []) (c := b) C (c_Mesh_dropOlds X r2_1 g b hb (zfit_fr (hI2_1 _ _ (by omega) (by omega) (by omega) (by omega)) hf0)) k_Mesh_dropOlds m298 m299 m300 (by omega) (zC_Mesh hb X _ _) rfl rfl (by decide) rfl (Nat.le_of_ble_eq_true rfl) d_X1_moveAll_55 ?_
  refine zr_h (fun h4 eh4 => ?_)
  have eR : o_Mesh_moveAll h b set d = h4 := (by subst eh4 er2_1; unfold o_Mesh_moveAll; exact rfl)
  subst hQ
  rw [eR]
  exact zr_vret C d_X1_moveAll_58
theorem d_X1_startWithOnly_0 : decode prog_3_method_34_code 0 = .ok (.iconst 0, 1) := by decide +kernel
theorem d_X1_startWithOnly_1 : decode prog_3_method_34_code 1 = .ok (.istore_n 2, 1) := by decide +kernel
theorem d_X1_startWithOnly_2 : decode prog_3_method_34_code 2 = .ok (.iload_n 2, 1) := by decide +kernel
theorem d_X1_startWithOnly_3 : decode prog_3_method_34_code 3 = .ok (.aload_n 0, 1) := by decide +kernel
theorem d_X1_startWithOnly_4 : decode prog_3_method_34_code 4 = .ok (.getfield 45, 3) := by decide +kernel
theorem d_X1_startWithOnly_7 : decode prog_3_method_34_code 7 = .ok (.if_icmp .ge 55, 3) := by decide +kernel
theorem d_X1_startWithOnly_10 : decode prog_3_method_34_code 10 = .ok (.aload_n 0, 1) := by decide +kernel
theorem d_X1_startWithOnly_11 : decode prog_3_method_34_code 11 = .ok (.getfield 15, 3) := by decide +kernel
theorem d_X1_startWithOnly_14 : decode prog_3_method_34_code 14 = .ok (.iload_n 2, 1) := by decide +kernel
theorem d_X1_startWithOnly_15 : decode prog_3_method_34_code 15 = .ok (.iload_n 1, 1) := by decide +kernel
theorem d_X1_startWithOnly_16 : decode prog_3_method_34_code 16 = .ok (.iload_n 2, 1) := by decide +kernel
theorem d_X1_startWithOnly_17 : decode prog_3_method_34_code 17 = .ok (.invokestatic 89, 3) := by decide +kernel
theorem d_X1_startWithOnly_20 : decode prog_3_method_34_code 20 = .ok (.ifCond .eq 14, 3) := by decide +kernel
theorem d_X1_startWithOnly_23 : decode prog_3_method_34_code 23 = .ok (.aload_n 0, 1) := by decide +kernel
theorem d_X1_startWithOnly_24 : decode prog_3_method_34_code 24 = .ok (.getfield 15, 3) := by decide +kernel
theorem d_X1_startWithOnly_27 : decode prog_3_method_34_code 27 = .ok (.iload_n 2, 1) := by decide +kernel
theorem d_X1_startWithOnly_28 : decode prog_3_method_34_code 28 = .ok (.iaload, 1) := by decide +kernel
theorem d_X1_startWithOnly_29 : decode prog_3_method_34_code 29 = .ok (.iload_n 1, 1) := by decide +kernel
theorem d_X1_startWithOnly_30 : decode prog_3_method_34_code 30 = .ok (.iand, 1) := by decide +kernel
theorem d_X1_startWithOnly_31 : decode prog_3_method_34_code 31 = .ok (.goto 4, 3) := by decide +kernel
theorem d_X1_startWithOnly_34 : decode prog_3_method_34_code 34 = .ok (.iconst 0, 1) := by decide +kernel
theorem d_X1_startWithOnly_35 : decode prog_3_method_34_code 35 = .ok (.iastore, 1) := by decide +kernel
theorem d_X1_startWithOnly_36 : decode prog_3_method_34_code 36 = .ok (.aload_n 0, 1) := by decide +kernel
theorem d_X1_startWithOnly_37 : decode prog_3_method_34_code 37 = .ok (.getfield 18, 3) := by decide +kernel
theorem d_X1_startWithOnly_40 : decode prog_3_method_34_code 40 = .ok (.iload_n 2, 1) := by decide +kernel
theorem d_X1_startWithOnly_41 : decode prog_3_method_34_code 41 = .ok (.iload_n 1, 1) := by decide +kernel
theorem d_X1_startWithOnly_42 : decode prog_3_method_34_code 42 = .ok (.iload_n 2, 1) := by decide +kernel
theorem d_X1_startWithOnly_43 : decode prog_3_method_34_code 43 = .ok (.invokestatic 89, 3) := by decide +kernel
theorem d_X1_startWithOnly_46 : decode prog_3_method_34_code 46 = .ok (.ifCond .eq 8, 3) := by decide +kernel
theorem d_X1_startWithOnly_49 : decode prog_3_method_34_code 49 = .ok (.bipush (-9), 2) := by decide +kernel
theorem d_X1_startWithOnly_51 : decode prog_3_method_34_code 51 = .ok (.goto 4, 3) := by decide +kernel
theorem d_X1_startWithOnly_54 : decode prog_3_method_34_code 54 = .ok (.iconst 0, 1) := by decide +kernel
theorem d_X1_startWithOnly_55 : decode prog_3_method_34_code 55 = .ok (.iastore, 1) := by decide +kernel
theorem d_X1_startWithOnly_56 : decode prog_3_method_34_code 56 = .ok (.iinc 2 1, 3) := by decide +kernel
theorem d_X1_startWithOnly_59 : decode prog_3_method_34_code 59 = .ok (.goto (-57), 3) := by decide +kernel
theorem d_X1_startWithOnly_62 : decode prog_3_method_34_code 62 = .ok (.aload_n 0, 1) := by decide +kernel
theorem d_X1_startWithOnly_63 : decode prog_3_method_34_code 63 = .ok (.invokevirtual 66, 3) := by decide +kernel
theorem d_X1_startWithOnly_66 : decode prog_3_method_34_code 66 = .ok (.aload_n 0, 1) := by decide +kernel
theorem d_X1_startWithOnly_67 : decode prog_3_method_34_code 67 = .ok (.iconst 0, 1) := by decide +kernel
theorem d_X1_startWithOnly_68 : decode prog_3_method_34_code 68 = .ok (.putfield 49, 3) := by decide +kernel
theorem d_X1_startWithOnly_71 : decode prog_3_method_34_code 71 = .ok (.aload_n 0, 1) := by decide +kernel
theorem d_X1_startWithOnly_72 : decode prog_3_method_34_code 72 = .ok (.invokevirtual 69, 3) := by decide +kernel
theorem d_X1_startWithOnly_75 : decode prog_3_method_34_code 75 = .ok (.return_, 1) := by decide +kernel
abbrev M_Mesh_startWithOnly : zMT := (⟨"PeriodSlots$Mesh", "startWithOnly", "(I)V"⟩, prog_3_method_34_code, 3, none)
theorem k_Mesh_startWithOnly : zcall M_Mesh_startWithOnly 1 := ⟨zU_in (i := 701) (by decide +kernel) rfl, m56, ⟨by decide, by decide, by decide +kernel⟩, by decide⟩
def o_Mesh_startWithOnly (h : zHp) (b : Nat) (on : Int32) : zHp :=
  (o_Mesh_relate (zup (o_Mesh_dropOlds (zrep (fun (i2_1 : Nat) (s2_1 : zHp) => (zup (zup s2_1 (b + 2) i2_1 (if (o_Slots_has on (nI i2_1)) = true then ((s2_1 (b + 2) i2_1) &&& on) else 0)) (b + 3) i2_1 (if (o_Slots_has on (nI i2_1)) = true then (-9) else 0))) h (zcn (h b 0))) b) b 1 0) b)
theorem fr_Mesh_startWithOnly {h : zHp} {b : Nat} {on : Int32} (c k : Nat) (q0 : ¬ (c = b ∧ k = 1)) (q1 : c ≠ b + 2) (q2 : c ≠ b + 3) (q3 : c ≠ b + 4) (q4 : c ≠ b + 6) (q5 : c ≠ b + 7) (q6 : c ≠ b + 8) (q7 : c ≠ b + 9) (q8 : c ≠ b + 10) : (o_Mesh_startWithOnly h b on) c k = h c k := by
  unfold o_Mesh_startWithOnly
  have hI2_1 := zrep_inv (f := (fun (i2_1 : Nat) (s2_1 : zHp) => (zup (zup s2_1 (b + 2) i2_1 (if (o_Slots_has on (nI i2_1)) = true then ((s2_1 (b + 2) i2_1) &&& on) else 0)) (b + 3) i2_1 (if (o_Slots_has on (nI i2_1)) = true then (-9) else 0)))) (a := h) (fun _ s2_1 => ∀ c k : Nat, ¬ (c = b ∧ k = 1) → c ≠ b + 2 → c ≠ b + 3 → c ≠ b + 4 → c ≠ b + 6 → c ≠ b + 7 → c ≠ b + 8 → c ≠ b + 9 → c ≠ b + 10 → s2_1 c k = h c k) (zcn (h b 0)) (fun _ _ _ _ _ _ _ _ _ _ _ => rfl) (fun i2_1 s2_1 hi2_1 hI2_1 => (fun c k q0 q1 q2 q3 q4 q5 q6 q7 q8 => (by (try dsimp only); exact ((zup_fr (Or.inl (by assumption))).trans ((zup_fr (Or.inl (by assumption))).trans (hI2_1 _ _ (by assumption) (by assumption) (by assumption) (by assumption) (by assumption) (by assumption) (by assumption) (by assumption) (by assumption)))))))
  first | done | exact ((fr_Mesh_relate _ _ (by assumption) (by assumption) (by assumption)).trans ((zup_fr (by omega)).trans ((fr_Mesh_dropOlds _ _ (by assumption) (by assumption) (by assumption)).trans (hI2_1 _ _ (by assumption) (by assumption) (by assumption) (by assumption) (by assumption) (by assumption) (by assumption) (by assumption) (by assumption)))))
set_option maxHeartbeats 400000 in
set_option maxRecDepth 20000 in
theorem c_Mesh_startWithOnly (X : zXT) (h : zHp) (g : zLg) (b : Nat) (on : Int32) (hb : b = 3 ∨ b = 15 ∨ b = 27) (hf0 : zfit h b 0 8) : zDi X M_Mesh_startWithOnly 3 [zR X b, .int on] h g none (o_Mesh_startWithOnly h b on) g := by
  have hf0_1 := hf0.1
  refine zDi_of "PeriodSlots$Mesh" prog_3_method_34_code 3 none rfl (by decide) [zO X b, zI on, none] rfl (fun _ q => q) (Nat.le_of_ble_eq_true rfl) ?_
  intro Γ Q C hQ
  refine zr_iconst C (v := 0) d_X1_startWithOnly_0 (by decide) ?_
  refine zr_istore_n C [zO X b, zI on, zI 0] d_X1_startWithOnly_1 (Nat.le_of_ble_eq_true rfl) rfl rfl ?_
  refine zfor (f := (fun (i2_1 : Nat) (s2_1 : zHp) => (zup (zup s2_1 (b + 2) i2_1 (if (o_Slots_has on (nI i2_1)) = true then ((s2_1 (b + 2) i2_1) &&& on) else 0)) (b + 3) i2_1 (if (o_Slots_has on (nI i2_1)) = true then (-9) else 0)))) (a := h) (fun i2_1 s2_1 => zV X Γ Q 2 [zO X b, zI on, zI (nI i2_1)] [] s2_1 g) (fun _ s2_1 => ∀ c k : Nat, ¬ (c = b ∧ k = 1) → c ≠ b + 2 → c ≠ b + 3 → c ≠ b + 4 → c ≠ b + 6 → c ≠ b + 7 → c ≠ b + 8 → c ≠ b + 9 → c ≠ b + 10 → s2_1 c k = h c k) (zcn (h b 0)) (fun _ _ _ _ _ _ _ _ _ _ _ => rfl) (fun i2_1 s2_1 hi2_1 hI2_1 => ⟨(fun c k q0 q1 q2 q3 q4 q5 q6 q7 q8 => (by (try dsimp only); exact ((zup_fr (Or.inl (by assumption))).trans ((zup_fr (Or.inl (by assumption))).trans (hI2_1 _ _ (by assumption) (by assumption) (by assumption) (by assumption) (by assumption) (by assumption) (by assumption) (by assumption) (by assumption)))))), fun hk2_1 => ?_⟩) (fun r2_1 er2_1 hI2_1 => ?_)
  · refine zr_iload_n C d_X1_startWithOnly_2 rfl ?_
    refine zr_aload_n C d_X1_startWithOnly_3 rfl ?_
    refine gf_Mesh_0 C hb m95 d_X1_startWithOnly_4 ?_
    refine zr_icmp_ge C 62 d_X1_startWithOnly_7 (by decide) (fun c => absurd c (zge_no (hI2_1 _ _ (by omega) (by omega) (by omega) (by omega) (by omega) (by omega) (by omega) (by omega) (by omega)) (by omega))) (fun _ => ?_)
    refine zr_aload_n C d_X1_startWithOnly_10 rfl ?_
    refine gf_Mesh_4 C hb m107 d_X1_startWithOnly_11 ?_
    refine zr_iload_n C d_X1_startWithOnly_14 rfl ?_
    refine zr_iload_n C d_X1_startWithOnly_15 rfl ?_
    refine zr_iload_n C d_X1_startWithOnly_16 rfl ?_
    refine zr_callNi (As := [.int on, .int (nI i2_1)]) (st := [.int (nI i2_1), zR X (b + 2)]) C (c_Slots_has X s2_1 g on (nI i2_1)) k_Slots_has (by simp [zNest]) m322 rfl (by decide) rfl (Nat.le_of_ble_eq_true rfl) d_X1_startWithOnly_17 ?_
    suffices hJ20 : ∀ (y2 : Int32), (if (o_Slots_has on (nI i2_1)) = true then ((s2_1 (b + 2) i2_1) &&& on) else 0) = y2 → zV X Γ Q 35 [zO X b, zI on, zI (nI i2_1)] [.int y2, .int (nI i2_1), zR X (b + 2)] s2_1 g by
      refine zr_ifz_eq C 34 d_X1_startWithOnly_20 (by decide) (fun c20 => ?_) (fun c20 => ?_)
      · refine zr_iconst C (v := 0) d_X1_startWithOnly_34 (by decide) ?_
        exact hJ20 0 (((if_neg (zbf c20))))
      · refine zr_aload_n C d_X1_startWithOnly_23 rfl ?_
        refine gf_Mesh_4 C hb m107 d_X1_startWithOnly_24 ?_
        refine zr_iload_n C d_X1_startWithOnly_27 rfl ?_
        refine zr_iald C (za_mesh_2 hb) (i2_1) rfl (by omega) (by decide) d_X1_startWithOnly_28 ?_
        refine zr_iload_n C d_X1_startWithOnly_29 rfl ?_
        refine zr_iand C d_X1_startWithOnly_30 ?_
        refine zr_goto C 35 d_X1_startWithOnly_31 (by decide) ?_
        exact hJ20 ((s2_1 (b + 2) i2_1) &&& on) (((if_pos c20)))
    intro y2 ey2
    refine zr_iast C (za_mesh_2 hb) (i2_1) rfl (by omega) (by decide) d_X1_startWithOnly_35 ?_
    refine zr_h (fun h3 eh3 => ?_)
    refine zr_aload_n C d_X1_startWithOnly_36 rfl ?_
    refine gf_Mesh_5 C hb m111 d_X1_startWithOnly_37 ?_
    refine zr_iload_n C d_X1_startWithOnly_40 rfl ?_
    refine zr_iload_n C d_X1_startWithOnly_41 rfl ?_
    refine zr_iload_n C d_X1_startWithOnly_42 rfl ?_
    refine zr_callNi (As := [.int on, .int (nI i2_1)]) (st := [.int (nI i2_1), zR X (b + 3)]) C (c_Slots_has X h3 g on (nI i2_1)) k_Slots_has (by simp [zNest]) m322 rfl (by decide) rfl (Nat.le_of_ble_eq_true rfl) d_X1_startWithOnly_43 ?_
    suffices hJ46 : ∀ (y4 : Int32), (if (o_Slots_has on (nI i2_1)) = true then (-9) else 0) = y4 → zV X Γ Q 55 [zO X b, zI on, zI (nI i2_1)] [.int y4, .int (nI i2_1), zR X (b + 3)] h3 g by
      refine zr_ifz_eq C 54 d_X1_startWithOnly_46 (by decide) (fun c46 => ?_) (fun c46 => ?_)
      · refine zr_iconst C (v := 0) d_X1_startWithOnly_54 (by decide) ?_
        exact hJ46 0 (((if_neg (zbf c46))))
      · refine zr_bipush C (v := (-9)) d_X1_startWithOnly_49 (by decide) ?_
        refine zr_goto C 55 d_X1_startWithOnly_51 (by decide) ?_
        exact hJ46 (-9) (((if_pos c46)))
    intro y4 ey4
    refine zr_iast C (za_mesh_3 hb) (i2_1) rfl (by omega) (by decide) d_X1_startWithOnly_55 ?_
    refine zr_h (fun h5 eh5 => ?_)
    refine zr_iinc C [zO X b, zI on, zI (nI (i2_1 + 1))] (v := (nI (i2_1 + 1))) d_X1_startWithOnly_56 rfl (zn_add rfl rfl) (Nat.le_of_ble_eq_true rfl) rfl rfl ?_
    refine zr_goto C 2 d_X1_startWithOnly_59 (by decide) ?_
    exact hk2_1 h5 (by subst eh5 ey4 eh3 ey2; exact rfl)
  refine zr_iload_n C d_X1_startWithOnly_2 rfl ?_
  refine zr_aload_n C d_X1_startWithOnly_3 rfl ?_
  refine gf_Mesh_0 C hb m95 d_X1_startWithOnly_4 ?_
  refine zr_icmp_ge C 62 d_X1_startWithOnly_7 (by decide) (fun _ => ?_) (fun c => absurd (zge_yes (hI2_1 _ _ (by omega) (by omega) (by omega) (by omega) (by omega) (by omega) (by omega) (by omega) (by omega)) (by omega) (by have := zcn_small (h b 0); omega)) c)
  refine zr_aload_n C d_X1_startWithOnly_62 rfl ?_
  refine zr_callVv (As := []) (st := []) (c := b) C (c_Mesh_dropOlds X r2_1 g b hb (zfit_fr (hI2_1 _ _ (by omega) (by omega) (by omega) (by omega) (by omega) (by omega) (by omega) (by omega) (by omega)) hf0)) k_Mesh_dropOlds m298 m299 m300 (by omega) (zC_Mesh hb X _ _) rfl rfl (by decide) rfl (Nat.le_of_ble_eq_true rfl) d_X1_startWithOnly_63 ?_
  refine zr_h (fun h6 eh6 => ?_)
  refine zr_aload_n C d_X1_startWithOnly_66 rfl ?_
  refine zr_iconst C (v := 0) d_X1_startWithOnly_67 (by decide) ?_
  refine pf_Mesh_1 C hb m99 d_X1_startWithOnly_68 ?_
  refine zr_h (fun h7 eh7 => ?_)
  refine zr_aload_n C d_X1_startWithOnly_71 rfl ?_
  refine zr_callVv (As := []) (st := []) (c := b) C (c_Mesh_relate X h7 g b hb (zfit_fr ((congrFun (congrFun eh7.symm _) _).trans ((zup_fr (by omega)).trans ((congrFun (congrFun eh6.symm _) _).trans ((fr_Mesh_dropOlds _ _ (by omega) (by omega) (by omega)).trans (hI2_1 _ _ (by omega) (by omega) (by omega) (by omega) (by omega) (by omega) (by omega) (by omega) (by omega)))))) hf0)) k_Mesh_relate m313 m314 m315 (by omega) (zC_Mesh hb X _ _) rfl rfl (by decide) rfl (Nat.le_of_ble_eq_true rfl) d_X1_startWithOnly_72 ?_
  refine zr_h (fun h8 eh8 => ?_)
  have eR : o_Mesh_startWithOnly h b on = h8 := (by subst eh8 eh7 eh6 er2_1; unfold o_Mesh_startWithOnly; exact rfl)
  subst hQ
  rw [eR]
  exact zr_vret C d_X1_startWithOnly_75
end
section
/-! Walks of methods, by program (wip/whole/gen). -/
theorem d_X1_unsettledSet_0 : decode prog_3_method_35_code 0 = .ok (.iconst 0, 1) := by decide +kernel
theorem d_X1_unsettledSet_1 : decode prog_3_method_35_code 1 = .ok (.istore_n 1, 1) := by decide +kernel
theorem d_X1_unsettledSet_2 : decode prog_3_method_35_code 2 = .ok (.iconst 0, 1) := by decide +kernel
theorem d_X1_unsettledSet_3 : decode prog_3_method_35_code 3 = .ok (.istore_n 2, 1) := by decide +kernel
theorem d_X1_unsettledSet_4 : decode prog_3_method_35_code 4 = .ok (.iload_n 2, 1) := by decide +kernel
theorem d_X1_unsettledSet_5 : decode prog_3_method_35_code 5 = .ok (.aload_n 0, 1) := by decide +kernel
theorem d_X1_unsettledSet_6 : decode prog_3_method_35_code 6 = .ok (.getfield 45, 3) := by decide +kernel
theorem d_X1_unsettledSet_9 : decode prog_3_method_35_code 9 = .ok (.if_icmp .ge 46, 3) := by decide +kernel
theorem d_X1_unsettledSet_12 : decode prog_3_method_35_code 12 = .ok (.aload_n 0, 1) := by decide +kernel
theorem d_X1_unsettledSet_13 : decode prog_3_method_35_code 13 = .ok (.getfield 18, 3) := by decide +kernel
theorem d_X1_unsettledSet_16 : decode prog_3_method_35_code 16 = .ok (.iload_n 2, 1) := by decide +kernel
theorem d_X1_unsettledSet_17 : decode prog_3_method_35_code 17 = .ok (.iaload, 1) := by decide +kernel
theorem d_X1_unsettledSet_18 : decode prog_3_method_35_code 18 = .ok (.bipush (-9), 2) := by decide +kernel
theorem d_X1_unsettledSet_20 : decode prog_3_method_35_code 20 = .ok (.if_icmp .eq 23, 3) := by decide +kernel
theorem d_X1_unsettledSet_23 : decode prog_3_method_35_code 23 = .ok (.aload_n 0, 1) := by decide +kernel
theorem d_X1_unsettledSet_24 : decode prog_3_method_35_code 24 = .ok (.getfield 36, 3) := by decide +kernel
theorem d_X1_unsettledSet_27 : decode prog_3_method_35_code 27 = .ok (.iload_n 2, 1) := by decide +kernel
theorem d_X1_unsettledSet_28 : decode prog_3_method_35_code 28 = .ok (.iaload, 1) := by decide +kernel
theorem d_X1_unsettledSet_29 : decode prog_3_method_35_code 29 = .ok (.aload_n 0, 1) := by decide +kernel
theorem d_X1_unsettledSet_30 : decode prog_3_method_35_code 30 = .ok (.aload_n 0, 1) := by decide +kernel
theorem d_X1_unsettledSet_31 : decode prog_3_method_35_code 31 = .ok (.getfield 33, 3) := by decide +kernel
theorem d_X1_unsettledSet_34 : decode prog_3_method_35_code 34 = .ok (.iload_n 2, 1) := by decide +kernel
theorem d_X1_unsettledSet_35 : decode prog_3_method_35_code 35 = .ok (.iaload, 1) := by decide +kernel
theorem d_X1_unsettledSet_36 : decode prog_3_method_35_code 36 = .ok (.invokevirtual 122, 3) := by decide +kernel
theorem d_X1_unsettledSet_39 : decode prog_3_method_35_code 39 = .ok (.iand, 1) := by decide +kernel
theorem d_X1_unsettledSet_40 : decode prog_3_method_35_code 40 = .ok (.ifCond .eq 9, 3) := by decide +kernel
theorem d_X1_unsettledSet_43 : decode prog_3_method_35_code 43 = .ok (.iload_n 1, 1) := by decide +kernel
theorem d_X1_unsettledSet_44 : decode prog_3_method_35_code 44 = .ok (.iconst 1, 1) := by decide +kernel
theorem d_X1_unsettledSet_45 : decode prog_3_method_35_code 45 = .ok (.iload_n 2, 1) := by decide +kernel
theorem d_X1_unsettledSet_46 : decode prog_3_method_35_code 46 = .ok (.ishl, 1) := by decide +kernel
theorem d_X1_unsettledSet_47 : decode prog_3_method_35_code 47 = .ok (.ior, 1) := by decide +kernel
theorem d_X1_unsettledSet_48 : decode prog_3_method_35_code 48 = .ok (.istore_n 1, 1) := by decide +kernel
theorem d_X1_unsettledSet_49 : decode prog_3_method_35_code 49 = .ok (.iinc 2 1, 3) := by decide +kernel
theorem d_X1_unsettledSet_52 : decode prog_3_method_35_code 52 = .ok (.goto (-48), 3) := by decide +kernel
theorem d_X1_unsettledSet_55 : decode prog_3_method_35_code 55 = .ok (.iload_n 1, 1) := by decide +kernel
theorem d_X1_unsettledSet_56 : decode prog_3_method_35_code 56 = .ok (.ireturn, 1) := by decide +kernel
abbrev M_Mesh_unsettledSet : zMT := (⟨"PeriodSlots$Mesh", "unsettledSet", "()I"⟩, prog_3_method_35_code, 3, (some .int))
theorem k_Mesh_unsettledSet : zcall M_Mesh_unsettledSet 0 := ⟨zU_in (i := 405) (by decide +kernel) rfl, m56, ⟨by decide, by decide, by decide +kernel⟩, by decide⟩
def o_Mesh_unsettledSet (h : zHp) (b : Nat) : Int32 :=
  (zrep (fun (i4_1 : Nat) (s4_1 : Int32) => (if (h (b + 3) i4_1) = (-9) then (s4_1 ||| (zshl 1 (nI i4_1))) else (if ((h (b + 9) i4_1) &&& (o_Mesh_occupiedByAny h b (h (b + 8) i4_1))) = 0 then s4_1 else (s4_1 ||| (zshl 1 (nI i4_1)))))) 0 (zcn (h b 0)))
set_option maxHeartbeats 400000 in
set_option maxRecDepth 20000 in
theorem c_Mesh_unsettledSet (X : zXT) (h : zHp) (g : zLg) (b : Nat) (hb : b = 3 ∨ b = 15 ∨ b = 27) (hf0 : zfit h b 0 8) : zDi X M_Mesh_unsettledSet 2 [zR X b] h g (zI (o_Mesh_unsettledSet h b)) h g := by
  have hf0_1 := hf0.1
  refine zDi_of "PeriodSlots$Mesh" prog_3_method_35_code 3 (some .int) rfl (by decide) [zO X b, none, none] rfl (fun _ q => q) (Nat.le_of_ble_eq_true rfl) ?_
  intro Γ Q C hQ
  refine zr_iconst C (v := 0) d_X1_unsettledSet_0 (by decide) ?_
  refine zr_istore_n C [zO X b, zI 0, none] d_X1_unsettledSet_1 (Nat.le_of_ble_eq_true rfl) rfl rfl ?_
  refine zr_iconst C (v := 0) d_X1_unsettledSet_2 (by decide) ?_
  refine zr_istore_n C [zO X b, zI 0, zI 0] d_X1_unsettledSet_3 (Nat.le_of_ble_eq_true rfl) rfl rfl ?_
  refine zfor (f := (fun (i4_1 : Nat) (s4_1 : Int32) => (if (h (b + 3) i4_1) = (-9) then (s4_1 ||| (zshl 1 (nI i4_1))) else (if ((h (b + 9) i4_1) &&& (o_Mesh_occupiedByAny h b (h (b + 8) i4_1))) = 0 then s4_1 else (s4_1 ||| (zshl 1 (nI i4_1))))))) (a := 0) (fun i4_1 s4_1 => zV X Γ Q 4 [zO X b, zI s4_1, zI (nI i4_1)] [] h g) (fun _ _ => True) (zcn (h b 0)) trivial (fun i4_1 s4_1 hi4_1 hI4_1 => ⟨trivial, fun hk4_1 => ?_⟩) (fun r4_1 er4_1 hI4_1 => ?_)
  · refine zr_iload_n C d_X1_unsettledSet_4 rfl ?_
    refine zr_aload_n C d_X1_unsettledSet_5 rfl ?_
    refine gf_Mesh_0 C hb m95 d_X1_unsettledSet_6 ?_
    refine zr_icmp_ge C 55 d_X1_unsettledSet_9 (by decide) (fun c => absurd c (zge_no rfl (by omega))) (fun _ => ?_)
    refine zr_aload_n C d_X1_unsettledSet_12 rfl ?_
    refine gf_Mesh_5 C hb m111 d_X1_unsettledSet_13 ?_
    refine zr_iload_n C d_X1_unsettledSet_16 rfl ?_
    refine zr_iald C (za_mesh_3 hb) (i4_1) rfl (by omega) (by decide) d_X1_unsettledSet_17 ?_
    refine zr_bipush C (v := (-9)) d_X1_unsettledSet_18 (by decide) ?_
    suffices hJ20 : ∀ (y2 : Int32), (if (h (b + 3) i4_1) = (-9) then (s4_1 ||| (zshl 1 (nI i4_1))) else (if ((h (b + 9) i4_1) &&& (o_Mesh_occupiedByAny h b (h (b + 8) i4_1))) = 0 then s4_1 else (s4_1 ||| (zshl 1 (nI i4_1))))) = y2 → zV X Γ Q 49 [zO X b, zI y2, zI (nI i4_1)] [] h g by
      refine zr_icmp_eq C 43 d_X1_unsettledSet_20 (by decide) (fun c20 => ?_) (fun c20 => ?_)
      · refine zr_iload_n C d_X1_unsettledSet_43 rfl ?_
        refine zr_iconst C (v := 1) d_X1_unsettledSet_44 (by decide) ?_
        refine zr_iload_n C d_X1_unsettledSet_45 rfl ?_
        refine zr_ishl C d_X1_unsettledSet_46 ?_
        refine zr_ior C d_X1_unsettledSet_47 ?_
        refine zr_istore_n C [zO X b, zI (s4_1 ||| (zshl 1 (nI i4_1))), zI (nI i4_1)] d_X1_unsettledSet_48 (Nat.le_of_ble_eq_true rfl) rfl rfl ?_
        exact hJ20 (s4_1 ||| (zshl 1 (nI i4_1))) (((if_pos c20)))
      · refine zr_aload_n C d_X1_unsettledSet_23 rfl ?_
        refine gf_Mesh_11 C hb m124 d_X1_unsettledSet_24 ?_
        refine zr_iload_n C d_X1_unsettledSet_27 rfl ?_
        refine zr_iald C (za_mesh_9 hb) (i4_1) rfl (by omega) (by decide) d_X1_unsettledSet_28 ?_
        refine zr_aload_n C d_X1_unsettledSet_29 rfl ?_
        refine zr_aload_n C d_X1_unsettledSet_30 rfl ?_
        refine gf_Mesh_10 C hb m123 d_X1_unsettledSet_31 ?_
        refine zr_iload_n C d_X1_unsettledSet_34 rfl ?_
        refine zr_iald C (za_mesh_8 hb) (i4_1) rfl (by omega) (by decide) d_X1_unsettledSet_35 ?_
        refine zr_callVi (As := [.int (h (b + 8) i4_1)]) (st := [.int (h (b + 9) i4_1)]) (c := b) C (c_Mesh_occupiedByAny X h g b (h (b + 8) i4_1) hb hf0) k_Mesh_occupiedByAny m406 m408 m7 (by omega) (zC_Mesh hb X _ _) rfl rfl (by decide) rfl (Nat.le_of_ble_eq_true rfl) d_X1_unsettledSet_36 ?_
        refine zr_iand C d_X1_unsettledSet_39 ?_
        refine zr_if_eq C 49 d_X1_unsettledSet_40 (by decide) (fun c40 => ?_) (fun c40 => ?_)
        · exact hJ20 s4_1 (((if_neg c20).trans ((if_pos c40))))
        · refine zr_iload_n C d_X1_unsettledSet_43 rfl ?_
          refine zr_iconst C (v := 1) d_X1_unsettledSet_44 (by decide) ?_
          refine zr_iload_n C d_X1_unsettledSet_45 rfl ?_
          refine zr_ishl C d_X1_unsettledSet_46 ?_
          refine zr_ior C d_X1_unsettledSet_47 ?_
          refine zr_istore_n C [zO X b, zI (s4_1 ||| (zshl 1 (nI i4_1))), zI (nI i4_1)] d_X1_unsettledSet_48 (Nat.le_of_ble_eq_true rfl) rfl rfl ?_
          exact hJ20 (s4_1 ||| (zshl 1 (nI i4_1))) (((if_neg c20).trans ((if_neg c40))))
    intro y2 ey2
    refine zr_iinc C [zO X b, zI y2, zI (nI (i4_1 + 1))] (v := (nI (i4_1 + 1))) d_X1_unsettledSet_49 rfl (zn_add rfl rfl) (Nat.le_of_ble_eq_true rfl) rfl rfl ?_
    refine zr_goto C 4 d_X1_unsettledSet_52 (by decide) ?_
    exact hk4_1 y2 (by subst ey2; exact rfl)
  refine zr_iload_n C d_X1_unsettledSet_4 rfl ?_
  refine zr_aload_n C d_X1_unsettledSet_5 rfl ?_
  refine gf_Mesh_0 C hb m95 d_X1_unsettledSet_6 ?_
  refine zr_icmp_ge C 55 d_X1_unsettledSet_9 (by decide) (fun _ => ?_) (fun c => absurd (zge_yes rfl (by omega) (by have := zcn_small (h b 0); omega)) c)
  refine zr_iload_n C d_X1_unsettledSet_55 rfl ?_
  have eR : o_Mesh_unsettledSet h b = r4_1 := (by subst er4_1; unfold o_Mesh_unsettledSet; exact rfl)
  subst hQ
  rw [eR]
  exact zr_ireti C d_X1_unsettledSet_56
theorem d_X1_isQuiet_0 : decode prog_3_method_36_code 0 = .ok (.aload_n 0, 1) := by decide +kernel
theorem d_X1_isQuiet_1 : decode prog_3_method_36_code 1 = .ok (.invokevirtual 137, 3) := by decide +kernel
theorem d_X1_isQuiet_4 : decode prog_3_method_36_code 4 = .ok (.istore_n 1, 1) := by decide +kernel
theorem d_X1_isQuiet_5 : decode prog_3_method_36_code 5 = .ok (.iconst 0, 1) := by decide +kernel
theorem d_X1_isQuiet_6 : decode prog_3_method_36_code 6 = .ok (.istore_n 2, 1) := by decide +kernel
theorem d_X1_isQuiet_7 : decode prog_3_method_36_code 7 = .ok (.iload_n 2, 1) := by decide +kernel
theorem d_X1_isQuiet_8 : decode prog_3_method_36_code 8 = .ok (.aload_n 0, 1) := by decide +kernel
theorem d_X1_isQuiet_9 : decode prog_3_method_36_code 9 = .ok (.getfield 45, 3) := by decide +kernel
theorem d_X1_isQuiet_12 : decode prog_3_method_36_code 12 = .ok (.if_icmp .ge 59, 3) := by decide +kernel
theorem d_X1_isQuiet_15 : decode prog_3_method_36_code 15 = .ok (.aload_n 0, 1) := by decide +kernel
theorem d_X1_isQuiet_16 : decode prog_3_method_36_code 16 = .ok (.getfield 18, 3) := by decide +kernel
theorem d_X1_isQuiet_19 : decode prog_3_method_36_code 19 = .ok (.iload_n 2, 1) := by decide +kernel
theorem d_X1_isQuiet_20 : decode prog_3_method_36_code 20 = .ok (.iaload, 1) := by decide +kernel
theorem d_X1_isQuiet_21 : decode prog_3_method_36_code 21 = .ok (.bipush (-9), 2) := by decide +kernel
theorem d_X1_isQuiet_23 : decode prog_3_method_36_code 23 = .ok (.if_icmp .ne 15, 3) := by decide +kernel
theorem d_X1_isQuiet_26 : decode prog_3_method_36_code 26 = .ok (.aload_n 0, 1) := by decide +kernel
theorem d_X1_isQuiet_27 : decode prog_3_method_36_code 27 = .ok (.iload_n 2, 1) := by decide +kernel
theorem d_X1_isQuiet_28 : decode prog_3_method_36_code 28 = .ok (.invokevirtual 140, 3) := by decide +kernel
theorem d_X1_isQuiet_31 : decode prog_3_method_36_code 31 = .ok (.ifCond .ne 7, 3) := by decide +kernel
theorem d_X1_isQuiet_34 : decode prog_3_method_36_code 34 = .ok (.iconst 1, 1) := by decide +kernel
theorem d_X1_isQuiet_35 : decode prog_3_method_36_code 35 = .ok (.goto 4, 3) := by decide +kernel
theorem d_X1_isQuiet_38 : decode prog_3_method_36_code 38 = .ok (.iconst 0, 1) := by decide +kernel
theorem d_X1_isQuiet_39 : decode prog_3_method_36_code 39 = .ok (.istore_n 3, 1) := by decide +kernel
theorem d_X1_isQuiet_40 : decode prog_3_method_36_code 40 = .ok (.aload_n 0, 1) := by decide +kernel
theorem d_X1_isQuiet_41 : decode prog_3_method_36_code 41 = .ok (.getfield 21, 3) := by decide +kernel
theorem d_X1_isQuiet_44 : decode prog_3_method_36_code 44 = .ok (.iload_n 2, 1) := by decide +kernel
theorem d_X1_isQuiet_45 : decode prog_3_method_36_code 45 = .ok (.iaload, 1) := by decide +kernel
theorem d_X1_isQuiet_46 : decode prog_3_method_36_code 46 = .ok (.bipush (-9), 2) := by decide +kernel
theorem d_X1_isQuiet_48 : decode prog_3_method_36_code 48 = .ok (.if_icmp .ne 15, 3) := by decide +kernel
theorem d_X1_isQuiet_51 : decode prog_3_method_36_code 51 = .ok (.iload_n 1, 1) := by decide +kernel
theorem d_X1_isQuiet_52 : decode prog_3_method_36_code 52 = .ok (.iload_n 2, 1) := by decide +kernel
theorem d_X1_isQuiet_53 : decode prog_3_method_36_code 53 = .ok (.invokestatic 89, 3) := by decide +kernel
theorem d_X1_isQuiet_56 : decode prog_3_method_36_code 56 = .ok (.ifCond .eq 9, 3) := by decide +kernel
theorem d_X1_isQuiet_59 : decode prog_3_method_36_code 59 = .ok (.iload_n 3, 1) := by decide +kernel
theorem d_X1_isQuiet_60 : decode prog_3_method_36_code 60 = .ok (.ifCond .ne 5, 3) := by decide +kernel
theorem d_X1_isQuiet_63 : decode prog_3_method_36_code 63 = .ok (.iconst 0, 1) := by decide +kernel
theorem d_X1_isQuiet_64 : decode prog_3_method_36_code 64 = .ok (.ireturn, 1) := by decide +kernel
theorem d_X1_isQuiet_65 : decode prog_3_method_36_code 65 = .ok (.iinc 2 1, 3) := by decide +kernel
theorem d_X1_isQuiet_68 : decode prog_3_method_36_code 68 = .ok (.goto (-61), 3) := by decide +kernel
theorem d_X1_isQuiet_71 : decode prog_3_method_36_code 71 = .ok (.iconst 1, 1) := by decide +kernel
theorem d_X1_isQuiet_72 : decode prog_3_method_36_code 72 = .ok (.ireturn, 1) := by decide +kernel
abbrev M_Mesh_isQuiet : zMT := (⟨"PeriodSlots$Mesh", "isQuiet", "()Z"⟩, prog_3_method_36_code, 4, (some .boolean))
theorem k_Mesh_isQuiet : zcall M_Mesh_isQuiet 0 := ⟨zU_in (i := 417) (by decide +kernel) rfl, m56, ⟨by decide, by decide, by decide +kernel⟩, by decide⟩
def o_Mesh_isQuiet (h : zHp) (b : Nat) : Bool :=
  (Sum.elim (fun r7_1 => true) (fun q7_1 => q7_1) (zrex (fun (i7_1 : Nat) (s7_1 : Unit) => ((if (h (b + 4) i7_1) = (-9) then (if (o_Slots_has (o_Mesh_unsettledSet h b) (nI i7_1)) = true then (if ((decide ((h (b + 3) i7_1) = (-9))) && (decide ((o_Mesh_freeOffsets h b i7_1) = 0))) = true then .inl () else .inr false) else .inl ()) else .inr false) : (Unit) ⊕ (Bool))) () (zcn (h b 0))))
set_option maxHeartbeats 400000 in
set_option maxRecDepth 20000 in
theorem c_Mesh_isQuiet (X : zXT) (h : zHp) (g : zLg) (b : Nat) (hb : b = 3 ∨ b = 15 ∨ b = 27) (hf0 : zfit h b 0 8) : zDi X M_Mesh_isQuiet 3 [zR X b] h g (zI (zb (o_Mesh_isQuiet h b))) h g := by
  have hf0_1 := hf0.1
  refine zDi_of "PeriodSlots$Mesh" prog_3_method_36_code 4 (some .boolean) rfl (by decide) [zO X b, none, none, none] rfl (fun _ q => q) (Nat.le_of_ble_eq_true rfl) ?_
  intro Γ Q C hQ
  refine zr_aload_n C d_X1_isQuiet_0 rfl ?_
  refine zr_callVi (As := []) (st := []) (c := b) C (c_Mesh_unsettledSet X h g b hb hf0) k_Mesh_unsettledSet m418 m403 m404 (by omega) (zC_Mesh hb X _ _) rfl rfl (by decide) rfl (Nat.le_of_ble_eq_true rfl) d_X1_isQuiet_1 ?_
  refine zr_istore_n C [zO X b, zI (o_Mesh_unsettledSet h b), none, none] d_X1_isQuiet_4 (Nat.le_of_ble_eq_true rfl) rfl rfl ?_
  refine zr_iconst C (v := 0) d_X1_isQuiet_5 (by decide) ?_
  refine zr_istore_n C [zO X b, zI (o_Mesh_unsettledSet h b), zI 0, none] d_X1_isQuiet_6 (Nat.le_of_ble_eq_true rfl) rfl rfl ?_
  refine zforx (f := (fun (i7_1 : Nat) (s7_1 : Unit) => ((if (h (b + 4) i7_1) = (-9) then (if (o_Slots_has (o_Mesh_unsettledSet h b) (nI i7_1)) = true then (if ((decide ((h (b + 3) i7_1) = (-9))) && (decide ((o_Mesh_freeOffsets h b i7_1) = 0))) = true then .inl () else .inr false) else .inl ()) else .inr false) : (Unit) ⊕ (Bool)))) (a := ()) (fun i7_1 s7_1 => zV X Γ Q 7 [zO X b, zI (o_Mesh_unsettledSet h b), zI (nI i7_1), none] [] h g) (fun _ _ => True) (zcn (h b 0)) trivial (fun i7_1 s7_1 hi7_1 hI7_1 => ⟨(fun _ _ => trivial), fun hk7_1 hx7_1 => ?_⟩) (fun r7_1 er7_1 hI7_1 => ?_)
  · refine zr_iload_n C d_X1_isQuiet_7 rfl ?_
    refine zr_aload_n C d_X1_isQuiet_8 rfl ?_
    refine gf_Mesh_0 C hb m95 d_X1_isQuiet_9 ?_
    refine zr_icmp_ge C 71 d_X1_isQuiet_12 (by decide) (fun c => absurd c (zge_no rfl (by omega))) (fun _ => ?_)
    refine zr_aload_n C d_X1_isQuiet_15 rfl ?_
    refine gf_Mesh_5 C hb m111 d_X1_isQuiet_16 ?_
    refine zr_iload_n C d_X1_isQuiet_19 rfl ?_
    refine zr_iald C (za_mesh_3 hb) (i7_1) rfl (by omega) (by decide) d_X1_isQuiet_20 ?_
    refine zr_bipush C (v := (-9)) d_X1_isQuiet_21 (by decide) ?_
    suffices hJ23 : ∀ (y2 : Bool), ((decide ((h (b + 3) i7_1) = (-9))) && (decide ((o_Mesh_freeOffsets h b i7_1) = 0))) = y2 → zV X Γ Q 39 [zO X b, zI (o_Mesh_unsettledSet h b), zI (nI i7_1), none] [.int (zb y2)] h g by
      refine zr_icmp_ne C 38 d_X1_isQuiet_23 (by decide) (fun c23 => ?_) (fun c23 => ?_)
      · refine zr_iconst C (v := 0) d_X1_isQuiet_38 (by decide) ?_
        exact hJ23 false (by simp [c23])
      · refine zr_aload_n C d_X1_isQuiet_26 rfl ?_
        refine zr_iload_n C d_X1_isQuiet_27 rfl ?_
        refine zr_callVi (As := [.int (nI i7_1)]) (st := []) (c := b) C (c_Mesh_freeOffsets X h g b i7_1 rfl hb hf0 (by omega)) k_Mesh_freeOffsets m419 m420 m421 (by omega) (zC_Mesh hb X _ _) rfl rfl (by decide) rfl (Nat.le_of_ble_eq_true rfl) d_X1_isQuiet_28 ?_
        refine zr_if_ne C 38 d_X1_isQuiet_31 (by decide) (fun c31 => ?_) (fun c31 => ?_)
        · refine zr_iconst C (v := 0) d_X1_isQuiet_38 (by decide) ?_
          exact hJ23 false (by simp [c23, c31])
        · refine zr_iconst C (v := 1) d_X1_isQuiet_34 (by decide) ?_
          refine zr_goto C 39 d_X1_isQuiet_35 (by decide) ?_
          exact hJ23 true (by simp [c23, c31])
    intro y2 ey2
    refine zr_istore_n C [zO X b, zI (o_Mesh_unsettledSet h b), zI (nI i7_1), zI (zb y2)] d_X1_isQuiet_39 (Nat.le_of_ble_eq_true rfl) rfl rfl ?_
    refine zr_aload_n C d_X1_isQuiet_40 rfl ?_
    refine gf_Mesh_6 C hb m114 d_X1_isQuiet_41 ?_
    refine zr_iload_n C d_X1_isQuiet_44 rfl ?_
    refine zr_iald C (za_mesh_4 hb) (i7_1) rfl (by omega) (by decide) d_X1_isQuiet_45 ?_
    refine zr_bipush C (v := (-9)) d_X1_isQuiet_46 (by decide) ?_
    refine zr_icmp_ne C 63 d_X1_isQuiet_48 (by decide) (fun c48 => ?_) (fun c48 => ?_)
    · refine zr_iconst C (v := 0) d_X1_isQuiet_63 (by decide) ?_
      have hr7_1 := hx7_1 (false) (by subst ey2; exact ((if_neg c48)))
      have eR : o_Mesh_isQuiet h b = false := (by subst ey2; unfold o_Mesh_isQuiet; exact ((congrArg (Sum.elim _ _) hr7_1)))
      subst hQ
      rw [eR]
      exact zr_iretz C (Or.inl rfl) d_X1_isQuiet_64
    · refine zr_iload_n C d_X1_isQuiet_51 rfl ?_
      refine zr_iload_n C d_X1_isQuiet_52 rfl ?_
      refine zr_callNi (As := [.int (o_Mesh_unsettledSet h b), .int (nI i7_1)]) (st := []) C (c_Slots_has X h g (o_Mesh_unsettledSet h b) (nI i7_1)) k_Slots_has (by simp [zNest]) m322 rfl (by decide) rfl (Nat.le_of_ble_eq_true rfl) d_X1_isQuiet_53 ?_
      refine zr_ifz_eq C 65 d_X1_isQuiet_56 (by decide) (fun c56 => ?_) (fun c56 => ?_)
      · refine zr_iinc C [zO X b, zI (o_Mesh_unsettledSet h b), zI (nI (i7_1 + 1)), zI (zb y2)] (v := (nI (i7_1 + 1))) d_X1_isQuiet_65 rfl (zn_add rfl rfl) (Nat.le_of_ble_eq_true rfl) rfl rfl ?_
        refine zr_goto C 7 d_X1_isQuiet_68 (by decide) ?_
        refine zr_lv [zO X b, zI (o_Mesh_unsettledSet h b), zI (nI (i7_1 + 1)), none] (by simp [zle]) ?_
        exact hk7_1 () (by subst ey2; exact ((if_pos c48).trans ((if_neg (zbf c56)))))
      · refine zr_iload_n C d_X1_isQuiet_59 rfl ?_
        refine zr_ifz_ne C 65 d_X1_isQuiet_60 (by decide) (fun c60 => ?_) (fun c60 => ?_)
        · refine zr_iinc C [zO X b, zI (o_Mesh_unsettledSet h b), zI (nI (i7_1 + 1)), zI (zb y2)] (v := (nI (i7_1 + 1))) d_X1_isQuiet_65 rfl (zn_add rfl rfl) (Nat.le_of_ble_eq_true rfl) rfl rfl ?_
          refine zr_goto C 7 d_X1_isQuiet_68 (by decide) ?_
          refine zr_lv [zO X b, zI (o_Mesh_unsettledSet h b), zI (nI (i7_1 + 1)), none] (by simp [zle]) ?_
          exact hk7_1 () (by subst ey2; exact ((if_pos c48).trans ((if_pos c56).trans ((if_pos c60)))))
        · refine zr_iconst C (v := 0) d_X1_isQuiet_63 (by decide) ?_
          have hr7_1 := hx7_1 (false) (by subst ey2; exact ((if_pos c48).trans ((if_pos c56).trans ((if_neg (zbf c60))))))
          have eR : o_Mesh_isQuiet h b = false := (by subst ey2; unfold o_Mesh_isQuiet; exact ((congrArg (Sum.elim _ _) hr7_1)))
          subst hQ
          rw [eR]
          exact zr_iretz C (Or.inl rfl) d_X1_isQuiet_64
  refine zr_iload_n C d_X1_isQuiet_7 rfl ?_
  refine zr_aload_n C d_X1_isQuiet_8 rfl ?_
  refine gf_Mesh_0 C hb m95 d_X1_isQuiet_9 ?_
  refine zr_icmp_ge C 71 d_X1_isQuiet_12 (by decide) (fun _ => ?_) (fun c => absurd (zge_yes rfl (by omega) (by have := zcn_small (h b 0); omega)) c)
  refine zr_iconst C (v := 1) d_X1_isQuiet_71 (by decide) ?_
  have eR : o_Mesh_isQuiet h b = true := (by unfold o_Mesh_isQuiet; exact ((congrArg (Sum.elim _ _) er7_1)))
  subst hQ
  rw [eR]
  exact zr_iretz C (Or.inr rfl) d_X1_isQuiet_72
theorem d_X1_moveToNext_0 : decode prog_3_method_38_code 0 = .ok (.iconst 0, 1) := by decide +kernel
theorem d_X1_moveToNext_1 : decode prog_3_method_38_code 1 = .ok (.istore_n 2, 1) := by decide +kernel
theorem d_X1_moveToNext_2 : decode prog_3_method_38_code 2 = .ok (.iconst 0, 1) := by decide +kernel
theorem d_X1_moveToNext_3 : decode prog_3_method_38_code 3 = .ok (.istore_n 3, 1) := by decide +kernel
theorem d_X1_moveToNext_4 : decode prog_3_method_38_code 4 = .ok (.iload_n 3, 1) := by decide +kernel
theorem d_X1_moveToNext_5 : decode prog_3_method_38_code 5 = .ok (.aload_n 0, 1) := by decide +kernel
theorem d_X1_moveToNext_6 : decode prog_3_method_38_code 6 = .ok (.getfield 45, 3) := by decide +kernel
theorem d_X1_moveToNext_9 : decode prog_3_method_38_code 9 = .ok (.if_icmp .ge 86, 3) := by decide +kernel
theorem d_X1_moveToNext_12 : decode prog_3_method_38_code 12 = .ok (.aload_n 0, 1) := by decide +kernel
theorem d_X1_moveToNext_13 : decode prog_3_method_38_code 13 = .ok (.getfield 21, 3) := by decide +kernel
theorem d_X1_moveToNext_16 : decode prog_3_method_38_code 16 = .ok (.iload_n 3, 1) := by decide +kernel
theorem d_X1_moveToNext_17 : decode prog_3_method_38_code 17 = .ok (.bipush (-9), 2) := by decide +kernel
theorem d_X1_moveToNext_19 : decode prog_3_method_38_code 19 = .ok (.iastore, 1) := by decide +kernel
theorem d_X1_moveToNext_20 : decode prog_3_method_38_code 20 = .ok (.iload_n 1, 1) := by decide +kernel
theorem d_X1_moveToNext_21 : decode prog_3_method_38_code 21 = .ok (.iload_n 3, 1) := by decide +kernel
theorem d_X1_moveToNext_22 : decode prog_3_method_38_code 22 = .ok (.invokestatic 89, 3) := by decide +kernel
theorem d_X1_moveToNext_25 : decode prog_3_method_38_code 25 = .ok (.ifCond .eq 64, 3) := by decide +kernel
theorem d_X1_moveToNext_28 : decode prog_3_method_38_code 28 = .ok (.aload_n 0, 1) := by decide +kernel
theorem d_X1_moveToNext_29 : decode prog_3_method_38_code 29 = .ok (.getfield 42, 3) := by decide +kernel
theorem d_X1_moveToNext_32 : decode prog_3_method_38_code 32 = .ok (.iload_n 3, 1) := by decide +kernel
theorem d_X1_moveToNext_33 : decode prog_3_method_38_code 33 = .ok (.iaload, 1) := by decide +kernel
theorem d_X1_moveToNext_34 : decode prog_3_method_38_code 34 = .ok (.aload_n 0, 1) := by decide +kernel
theorem d_X1_moveToNext_35 : decode prog_3_method_38_code 35 = .ok (.getfield 18, 3) := by decide +kernel
theorem d_X1_moveToNext_38 : decode prog_3_method_38_code 38 = .ok (.iload_n 3, 1) := by decide +kernel
theorem d_X1_moveToNext_39 : decode prog_3_method_38_code 39 = .ok (.iaload, 1) := by decide +kernel
theorem d_X1_moveToNext_40 : decode prog_3_method_38_code 40 = .ok (.if_icmp .eq 49, 3) := by decide +kernel
theorem d_X1_moveToNext_43 : decode prog_3_method_38_code 43 = .ok (.aload_n 0, 1) := by decide +kernel
theorem d_X1_moveToNext_44 : decode prog_3_method_38_code 44 = .ok (.getfield 21, 3) := by decide +kernel
theorem d_X1_moveToNext_47 : decode prog_3_method_38_code 47 = .ok (.iload_n 3, 1) := by decide +kernel
theorem d_X1_moveToNext_48 : decode prog_3_method_38_code 48 = .ok (.aload_n 0, 1) := by decide +kernel
theorem d_X1_moveToNext_49 : decode prog_3_method_38_code 49 = .ok (.getfield 42, 3) := by decide +kernel
theorem d_X1_moveToNext_52 : decode prog_3_method_38_code 52 = .ok (.iload_n 3, 1) := by decide +kernel
theorem d_X1_moveToNext_53 : decode prog_3_method_38_code 53 = .ok (.iaload, 1) := by decide +kernel
theorem d_X1_moveToNext_54 : decode prog_3_method_38_code 54 = .ok (.bipush (-9), 2) := by decide +kernel
theorem d_X1_moveToNext_56 : decode prog_3_method_38_code 56 = .ok (.if_icmp .ne 8, 3) := by decide +kernel
theorem d_X1_moveToNext_59 : decode prog_3_method_38_code 59 = .ok (.bipush (-9), 2) := by decide +kernel
theorem d_X1_moveToNext_61 : decode prog_3_method_38_code 61 = .ok (.goto 9, 3) := by decide +kernel
theorem d_X1_moveToNext_64 : decode prog_3_method_38_code 64 = .ok (.aload_n 0, 1) := by decide +kernel
theorem d_X1_moveToNext_65 : decode prog_3_method_38_code 65 = .ok (.getfield 18, 3) := by decide +kernel
theorem d_X1_moveToNext_68 : decode prog_3_method_38_code 68 = .ok (.iload_n 3, 1) := by decide +kernel
theorem d_X1_moveToNext_69 : decode prog_3_method_38_code 69 = .ok (.iaload, 1) := by decide +kernel
theorem d_X1_moveToNext_70 : decode prog_3_method_38_code 70 = .ok (.iastore, 1) := by decide +kernel
theorem d_X1_moveToNext_71 : decode prog_3_method_38_code 71 = .ok (.aload_n 0, 1) := by decide +kernel
theorem d_X1_moveToNext_72 : decode prog_3_method_38_code 72 = .ok (.getfield 18, 3) := by decide +kernel
theorem d_X1_moveToNext_75 : decode prog_3_method_38_code 75 = .ok (.iload_n 3, 1) := by decide +kernel
theorem d_X1_moveToNext_76 : decode prog_3_method_38_code 76 = .ok (.aload_n 0, 1) := by decide +kernel
theorem d_X1_moveToNext_77 : decode prog_3_method_38_code 77 = .ok (.getfield 42, 3) := by decide +kernel
theorem d_X1_moveToNext_80 : decode prog_3_method_38_code 80 = .ok (.iload_n 3, 1) := by decide +kernel
theorem d_X1_moveToNext_81 : decode prog_3_method_38_code 81 = .ok (.iaload, 1) := by decide +kernel
theorem d_X1_moveToNext_82 : decode prog_3_method_38_code 82 = .ok (.iastore, 1) := by decide +kernel
theorem d_X1_moveToNext_83 : decode prog_3_method_38_code 83 = .ok (.iload_n 2, 1) := by decide +kernel
theorem d_X1_moveToNext_84 : decode prog_3_method_38_code 84 = .ok (.iconst 1, 1) := by decide +kernel
theorem d_X1_moveToNext_85 : decode prog_3_method_38_code 85 = .ok (.iload_n 3, 1) := by decide +kernel
theorem d_X1_moveToNext_86 : decode prog_3_method_38_code 86 = .ok (.ishl, 1) := by decide +kernel
theorem d_X1_moveToNext_87 : decode prog_3_method_38_code 87 = .ok (.ior, 1) := by decide +kernel
theorem d_X1_moveToNext_88 : decode prog_3_method_38_code 88 = .ok (.istore_n 2, 1) := by decide +kernel
theorem d_X1_moveToNext_89 : decode prog_3_method_38_code 89 = .ok (.iinc 3 1, 3) := by decide +kernel
theorem d_X1_moveToNext_92 : decode prog_3_method_38_code 92 = .ok (.goto (-88), 3) := by decide +kernel
theorem d_X1_moveToNext_95 : decode prog_3_method_38_code 95 = .ok (.aload_n 0, 1) := by decide +kernel
theorem d_X1_moveToNext_96 : decode prog_3_method_38_code 96 = .ok (.invokevirtual 134, 3) := by decide +kernel
theorem d_X1_moveToNext_99 : decode prog_3_method_38_code 99 = .ok (.iload_n 2, 1) := by decide +kernel
theorem d_X1_moveToNext_100 : decode prog_3_method_38_code 100 = .ok (.ireturn, 1) := by decide +kernel
abbrev M_Mesh_moveToNext : zMT := (⟨"PeriodSlots$Mesh", "moveToNext", "(I)I"⟩, prog_3_method_38_code, 4, (some .int))
theorem k_Mesh_moveToNext : zcall M_Mesh_moveToNext 1 := ⟨zU_in (i := 479) (by decide +kernel) rfl, m56, ⟨by decide, by decide, by decide +kernel⟩, by decide⟩
def o_Mesh_moveToNext (h : zHp) (b : Nat) (moving : Int32) : Int32 × zHp :=
  ((zrep (fun (i4_1 : Nat) (s4_1 : Int32 × zHp) => ((if (o_Slots_has moving (nI i4_1)) = true then (if ((zup s4_1.2 (b + 4) i4_1 (-9)) (b + 11) i4_1) = ((zup s4_1.2 (b + 4) i4_1 (-9)) (b + 3) i4_1) then s4_1.1 else (s4_1.1 ||| (zshl 1 (nI i4_1)))) else s4_1.1), (if (o_Slots_has moving (nI i4_1)) = true then (if ((zup s4_1.2 (b + 4) i4_1 (-9)) (b + 11) i4_1) = ((zup s4_1.2 (b + 4) i4_1 (-9)) (b + 3) i4_1) then (zup s4_1.2 (b + 4) i4_1 (-9)) else (zup (zup (zup s4_1.2 (b + 4) i4_1 (-9)) (b + 4) i4_1 (if ((zup s4_1.2 (b + 4) i4_1 (-9)) (b + 11) i4_1) = (-9) then (-9) else ((zup s4_1.2 (b + 4) i4_1 (-9)) (b + 3) i4_1))) (b + 3) i4_1 ((zup (zup s4_1.2 (b + 4) i4_1 (-9)) (b + 4) i4_1 (if ((zup s4_1.2 (b + 4) i4_1 (-9)) (b + 11) i4_1) = (-9) then (-9) else ((zup s4_1.2 (b + 4) i4_1 (-9)) (b + 3) i4_1))) (b + 11) i4_1))) else (zup s4_1.2 (b + 4) i4_1 (-9))))) (0, h) (zcn (h b 0))).1, (o_Mesh_markTicks (zrep (fun (i4_1 : Nat) (s4_1 : Int32 × zHp) => ((if (o_Slots_has moving (nI i4_1)) = true then (if ((zup s4_1.2 (b + 4) i4_1 (-9)) (b + 11) i4_1) = ((zup s4_1.2 (b + 4) i4_1 (-9)) (b + 3) i4_1) then s4_1.1 else (s4_1.1 ||| (zshl 1 (nI i4_1)))) else s4_1.1), (if (o_Slots_has moving (nI i4_1)) = true then (if ((zup s4_1.2 (b + 4) i4_1 (-9)) (b + 11) i4_1) = ((zup s4_1.2 (b + 4) i4_1 (-9)) (b + 3) i4_1) then (zup s4_1.2 (b + 4) i4_1 (-9)) else (zup (zup (zup s4_1.2 (b + 4) i4_1 (-9)) (b + 4) i4_1 (if ((zup s4_1.2 (b + 4) i4_1 (-9)) (b + 11) i4_1) = (-9) then (-9) else ((zup s4_1.2 (b + 4) i4_1 (-9)) (b + 3) i4_1))) (b + 3) i4_1 ((zup (zup s4_1.2 (b + 4) i4_1 (-9)) (b + 4) i4_1 (if ((zup s4_1.2 (b + 4) i4_1 (-9)) (b + 11) i4_1) = (-9) then (-9) else ((zup s4_1.2 (b + 4) i4_1 (-9)) (b + 3) i4_1))) (b + 11) i4_1))) else (zup s4_1.2 (b + 4) i4_1 (-9))))) (0, h) (zcn (h b 0))).2 b))
theorem fr_Mesh_moveToNext {h : zHp} {b : Nat} {moving : Int32} (c k : Nat) (q0 : c ≠ b + 3) (q1 : c ≠ b + 4) (q2 : c ≠ b + 9) (q3 : c ≠ b + 10) : (o_Mesh_moveToNext h b moving).2 c k = h c k := by
  unfold o_Mesh_moveToNext
  have hI4_1 := zrep_inv (f := (fun (i4_1 : Nat) (s4_1 : Int32 × zHp) => ((if (o_Slots_has moving (nI i4_1)) = true then (if ((zup s4_1.2 (b + 4) i4_1 (-9)) (b + 11) i4_1) = ((zup s4_1.2 (b + 4) i4_1 (-9)) (b + 3) i4_1) then s4_1.1 else (s4_1.1 ||| (zshl 1 (nI i4_1)))) else s4_1.1), (if (o_Slots_has moving (nI i4_1)) = true then (if ((zup s4_1.2 (b + 4) i4_1 (-9)) (b + 11) i4_1) = ((zup s4_1.2 (b + 4) i4_1 (-9)) (b + 3) i4_1) then (zup s4_1.2 (b + 4) i4_1 (-9)) else (zup (zup (zup s4_1.2 (b + 4) i4_1 (-9)) (b + 4) i4_1 (if ((zup s4_1.2 (b + 4) i4_1 (-9)) (b + 11) i4_1) = (-9) then (-9) else ((zup s4_1.2 (b + 4) i4_1 (-9)) (b + 3) i4_1))) (b + 3) i4_1 ((zup (zup s4_1.2 (b + 4) i4_1 (-9)) (b + 4) i4_1 (if ((zup s4_1.2 (b + 4) i4_1 (-9)) (b + 11) i4_1) = (-9) then (-9) else ((zup s4_1.2 (b + 4) i4_1 (-9)) (b + 3) i4_1))) (b + 11) i4_1))) else (zup s4_1.2 (b + 4) i4_1 (-9)))))) (a := (0, h)) (fun _ s4_1 => ∀ c k : Nat, c ≠ b + 3 → c ≠ b + 4 → c ≠ b + 9 → c ≠ b + 10 → s4_1.2 c k = h c k) (zcn (h b 0)) (fun _ _ _ _ _ _ => (by dsimp only)) (fun i4_1 s4_1 hi4_1 hI4_1 => (fun c k q0 q1 q2 q3 => (by (try dsimp only); exact (zite_fr (fun _ => (zite_fr (fun _ => ((zup_fr (Or.inl (by assumption))).trans (hI4_1 _ _ (by assumption) (by assumption) (by assumption) (by assumption)))) (fun _ => ((zup_fr (Or.inl (by assumption))).trans ((zup_fr (Or.inl (by assumption))).trans ((zup_fr (Or.inl (by assumption))).trans (hI4_1 _ _ (by assumption) (by assumption) (by assumption) (by assumption)))))))) (fun _ => ((zup_fr (Or.inl (by assumption))).trans (hI4_1 _ _ (by assumption) (by assumption) (by assumption) (by assumption))))))))
  try dsimp only
  first | done | exact ((fr_Mesh_markTicks _ _ (by assumption) (by assumption)).trans (hI4_1 _ _ (by assumption) (by assumption) (by assumption) (by assumption)))
set_option maxHeartbeats 400000 in
set_option maxRecDepth 20000 in
theorem c_Mesh_moveToNext (X : zXT) (h : zHp) (g : zLg) (b : Nat) (moving : Int32) (hb : b = 3 ∨ b = 15 ∨ b = 27) (hf0 : zfit h b 0 8) : zDi X M_Mesh_moveToNext 2 [zR X b, .int moving] h g (zI ((o_Mesh_moveToNext h b moving).1)) ((o_Mesh_moveToNext h b moving).2) g := by
  have hf0_1 := hf0.1
  refine zDi_of "PeriodSlots$Mesh" prog_3_method_38_code 4 (some .int) rfl (by decide) [zO X b, zI moving, none, none] rfl (fun _ q => q) (Nat.le_of_ble_eq_true rfl) ?_
  intro Γ Q C hQ
  refine zr_iconst C (v := 0) d_X1_moveToNext_0 (by decide) ?_
  refine zr_istore_n C [zO X b, zI moving, zI 0, none] d_X1_moveToNext_1 (Nat.le_of_ble_eq_true rfl) rfl rfl ?_
  refine zr_iconst C (v := 0) d_X1_moveToNext_2 (by decide) ?_
  refine zr_istore_n C [zO X b, zI moving, zI 0, zI 0] d_X1_moveToNext_3 (Nat.le_of_ble_eq_true rfl) rfl rfl ?_
  refine zfor (f := (fun (i4_1 : Nat) (s4_1 : Int32 × zHp) => ((if (o_Slots_has moving (nI i4_1)) = true then (if ((zup s4_1.2 (b + 4) i4_1 (-9)) (b + 11) i4_1) = ((zup s4_1.2 (b + 4) i4_1 (-9)) (b + 3) i4_1) then s4_1.1 else (s4_1.1 ||| (zshl 1 (nI i4_1)))) else s4_1.1), (if (o_Slots_has moving (nI i4_1)) = true then (if ((zup s4_1.2 (b + 4) i4_1 (-9)) (b + 11) i4_1) = ((zup s4_1.2 (b + 4) i4_1 (-9)) (b + 3) i4_1) then (zup s4_1.2 (b + 4) i4_1 (-9)) else (zup (zup (zup s4_1.2 (b + 4) i4_1 (-9)) (b + 4) i4_1 (if ((zup s4_1.2 (b + 4) i4_1 (-9)) (b + 11) i4_1) = (-9) then (-9) else ((zup s4_1.2 (b + 4) i4_1 (-9)) (b + 3) i4_1))) (b + 3) i4_1 ((zup (zup s4_1.2 (b + 4) i4_1 (-9)) (b + 4) i4_1 (if ((zup s4_1.2 (b + 4) i4_1 (-9)) (b + 11) i4_1) = (-9) then (-9) else ((zup s4_1.2 (b + 4) i4_1 (-9)) (b + 3) i4_1))) (b + 11) i4_1))) else (zup s4_1.2 (b + 4) i4_1 (-9)))))) (a := (0, h)) (fun i4_1 s4_1 => zV X Γ Q 4 [zO X b, zI moving, zI s4_1.1, zI (nI i4_1)] [] s4_1.2 g) (fun _ s4_1 => ∀ c k : Nat, c ≠ b + 3 → c ≠ b + 4 → c ≠ b + 9 → c ≠ b + 10 → s4_1.2 c k = h c k) (zcn (h b 0)) (fun _ _ _ _ _ _ => (by dsimp only)) (fun i4_1 s4_1 hi4_1 hI4_1 => ⟨(fun c k q0 q1 q2 q3 => (by (try dsimp only); exact (zite_fr (fun _ => (zite_fr (fun _ => ((zup_fr (Or.inl (by assumption))).trans (hI4_1 _ _ (by assumption) (by assumption) (by assumption) (by assumption)))) (fun _ => ((zup_fr (Or.inl (by assumption))).trans ((zup_fr (Or.inl (by assumption))).trans ((zup_fr (Or.inl (by assumption))).trans (hI4_1 _ _ (by assumption) (by assumption) (by assumption) (by assumption)))))))) (fun _ => ((zup_fr (Or.inl (by assumption))).trans (hI4_1 _ _ (by assumption) (by assumption) (by assumption) (by assumption))))))), fun hk4_1 => ?_⟩) (fun r4_1 er4_1 hI4_1 => ?_)
  · refine zr_iload_n C d_X1_moveToNext_4 rfl ?_
    refine zr_aload_n C d_X1_moveToNext_5 rfl ?_
    refine gf_Mesh_0 C hb m95 d_X1_moveToNext_6 ?_
    refine zr_icmp_ge C 95 d_X1_moveToNext_9 (by decide) (fun c => absurd c (zge_no (hI4_1 _ _ (by omega) (by omega) (by omega) (by omega)) (by omega))) (fun _ => ?_)
    refine zr_aload_n C d_X1_moveToNext_12 rfl ?_
    refine gf_Mesh_6 C hb m114 d_X1_moveToNext_13 ?_
    refine zr_iload_n C d_X1_moveToNext_16 rfl ?_
    refine zr_bipush C (v := (-9)) d_X1_moveToNext_17 (by decide) ?_
    refine zr_iast C (za_mesh_4 hb) (i4_1) rfl (by omega) (by decide) d_X1_moveToNext_19 ?_
    refine zr_h (fun h2 eh2 => ?_)
    refine zr_iload_n C d_X1_moveToNext_20 rfl ?_
    refine zr_iload_n C d_X1_moveToNext_21 rfl ?_
    refine zr_callNi (As := [.int moving, .int (nI i4_1)]) (st := []) C (c_Slots_has X h2 g moving (nI i4_1)) k_Slots_has (by simp [zNest]) m322 rfl (by decide) rfl (Nat.le_of_ble_eq_true rfl) d_X1_moveToNext_22 ?_
    suffices hJ25 : ∀ (y6 : Int32) (h7 : zHp), (if (o_Slots_has moving (nI i4_1)) = true then (if (h2 (b + 11) i4_1) = (h2 (b + 3) i4_1) then s4_1.1 else (s4_1.1 ||| (zshl 1 (nI i4_1)))) else s4_1.1) = y6 → (if (o_Slots_has moving (nI i4_1)) = true then (if (h2 (b + 11) i4_1) = (h2 (b + 3) i4_1) then h2 else (zup (zup h2 (b + 4) i4_1 (if (h2 (b + 11) i4_1) = (-9) then (-9) else (h2 (b + 3) i4_1))) (b + 3) i4_1 ((zup h2 (b + 4) i4_1 (if (h2 (b + 11) i4_1) = (-9) then (-9) else (h2 (b + 3) i4_1))) (b + 11) i4_1))) else h2) = h7 → zV X Γ Q 89 [zO X b, zI moving, zI y6, zI (nI i4_1)] [] h7 g by
      refine zr_ifz_eq C 89 d_X1_moveToNext_25 (by decide) (fun c25 => ?_) (fun c25 => ?_)
      · exact hJ25 s4_1.1 h2 (((if_neg (zbf c25)))) (((if_neg (zbf c25))))
      · refine zr_aload_n C d_X1_moveToNext_28 rfl ?_
        refine gf_Mesh_13 C hb m128 d_X1_moveToNext_29 ?_
        refine zr_iload_n C d_X1_moveToNext_32 rfl ?_
        refine zr_iald C (za_mesh_11 hb) (i4_1) rfl (by omega) (by decide) d_X1_moveToNext_33 ?_
        refine zr_aload_n C d_X1_moveToNext_34 rfl ?_
        refine gf_Mesh_5 C hb m111 d_X1_moveToNext_35 ?_
        refine zr_iload_n C d_X1_moveToNext_38 rfl ?_
        refine zr_iald C (za_mesh_3 hb) (i4_1) rfl (by omega) (by decide) d_X1_moveToNext_39 ?_
        refine zr_icmp_eq C 89 d_X1_moveToNext_40 (by decide) (fun c40 => ?_) (fun c40 => ?_)
        · exact hJ25 s4_1.1 h2 (((if_pos c25).trans ((if_pos c40)))) (((if_pos c25).trans ((if_pos c40))))
        · refine zr_aload_n C d_X1_moveToNext_43 rfl ?_
          refine gf_Mesh_6 C hb m114 d_X1_moveToNext_44 ?_
          refine zr_iload_n C d_X1_moveToNext_47 rfl ?_
          refine zr_aload_n C d_X1_moveToNext_48 rfl ?_
          refine gf_Mesh_13 C hb m128 d_X1_moveToNext_49 ?_
          refine zr_iload_n C d_X1_moveToNext_52 rfl ?_
          refine zr_iald C (za_mesh_11 hb) (i4_1) rfl (by omega) (by decide) d_X1_moveToNext_53 ?_
          refine zr_bipush C (v := (-9)) d_X1_moveToNext_54 (by decide) ?_
          suffices hJ56 : ∀ (y3 : Int32), (if (h2 (b + 11) i4_1) = (-9) then (-9) else (h2 (b + 3) i4_1)) = y3 → zV X Γ Q 70 [zO X b, zI moving, zI s4_1.1, zI (nI i4_1)] [.int y3, .int (nI i4_1), zR X (b + 4)] h2 g by
            refine zr_icmp_ne C 64 d_X1_moveToNext_56 (by decide) (fun c56 => ?_) (fun c56 => ?_)
            · refine zr_aload_n C d_X1_moveToNext_64 rfl ?_
              refine gf_Mesh_5 C hb m111 d_X1_moveToNext_65 ?_
              refine zr_iload_n C d_X1_moveToNext_68 rfl ?_
              refine zr_iald C (za_mesh_3 hb) (i4_1) rfl (by omega) (by decide) d_X1_moveToNext_69 ?_
              exact hJ56 (h2 (b + 3) i4_1) (((if_neg c56)))
            · refine zr_bipush C (v := (-9)) d_X1_moveToNext_59 (by decide) ?_
              refine zr_goto C 70 d_X1_moveToNext_61 (by decide) ?_
              exact hJ56 (-9) (((if_pos c56)))
          intro y3 ey3
          refine zr_iast C (za_mesh_4 hb) (i4_1) rfl (by omega) (by decide) d_X1_moveToNext_70 ?_
          refine zr_h (fun h4 eh4 => ?_)
          refine zr_aload_n C d_X1_moveToNext_71 rfl ?_
          refine gf_Mesh_5 C hb m111 d_X1_moveToNext_72 ?_
          refine zr_iload_n C d_X1_moveToNext_75 rfl ?_
          refine zr_aload_n C d_X1_moveToNext_76 rfl ?_
          refine gf_Mesh_13 C hb m128 d_X1_moveToNext_77 ?_
          refine zr_iload_n C d_X1_moveToNext_80 rfl ?_
          refine zr_iald C (za_mesh_11 hb) (i4_1) rfl (by omega) (by decide) d_X1_moveToNext_81 ?_
          refine zr_iast C (za_mesh_3 hb) (i4_1) rfl (by omega) (by decide) d_X1_moveToNext_82 ?_
          refine zr_h (fun h5 eh5 => ?_)
          refine zr_iload_n C d_X1_moveToNext_83 rfl ?_
          refine zr_iconst C (v := 1) d_X1_moveToNext_84 (by decide) ?_
          refine zr_iload_n C d_X1_moveToNext_85 rfl ?_
          refine zr_ishl C d_X1_moveToNext_86 ?_
          refine zr_ior C d_X1_moveToNext_87 ?_
          refine zr_istore_n C [zO X b, zI moving, zI (s4_1.1 ||| (zshl 1 (nI i4_1))), zI (nI i4_1)] d_X1_moveToNext_88 (Nat.le_of_ble_eq_true rfl) rfl rfl ?_
          exact hJ25 (s4_1.1 ||| (zshl 1 (nI i4_1))) h5 (by subst eh5 eh4 ey3; exact ((if_pos c25).trans ((if_neg c40)))) (by subst eh5 eh4 ey3; exact ((if_pos c25).trans ((if_neg c40))))
    intro y6 h7 ey6 eh7
    refine zr_iinc C [zO X b, zI moving, zI y6, zI (nI (i4_1 + 1))] (v := (nI (i4_1 + 1))) d_X1_moveToNext_89 rfl (zn_add rfl rfl) (Nat.le_of_ble_eq_true rfl) rfl rfl ?_
    refine zr_goto C 4 d_X1_moveToNext_92 (by decide) ?_
    exact hk4_1 (y6, h7) (by subst eh7 ey6 eh2; exact rfl)
  refine zr_iload_n C d_X1_moveToNext_4 rfl ?_
  refine zr_aload_n C d_X1_moveToNext_5 rfl ?_
  refine gf_Mesh_0 C hb m95 d_X1_moveToNext_6 ?_
  refine zr_icmp_ge C 95 d_X1_moveToNext_9 (by decide) (fun _ => ?_) (fun c => absurd (zge_yes (hI4_1 _ _ (by omega) (by omega) (by omega) (by omega)) (by omega) (by have := zcn_small (h b 0); omega)) c)
  refine zr_aload_n C d_X1_moveToNext_95 rfl ?_
  refine zr_callVv (As := []) (st := []) (c := b) C (c_Mesh_markTicks X r4_1.2 g b hb (zfit_fr (hI4_1 _ _ (by omega) (by omega) (by omega) (by omega)) hf0)) k_Mesh_markTicks m305 m306 m307 (by omega) (zC_Mesh hb X _ _) rfl rfl (by decide) rfl (Nat.le_of_ble_eq_true rfl) d_X1_moveToNext_96 ?_
  refine zr_h (fun h8 eh8 => ?_)
  refine zr_iload_n C d_X1_moveToNext_99 rfl ?_
  have eR : o_Mesh_moveToNext h b moving = (r4_1.1, h8) := (by subst eh8 er4_1; unfold o_Mesh_moveToNext; exact rfl)
  subst hQ
  exact zTQ_Ih eR (zr_ireti C d_X1_moveToNext_100)
theorem d_X1_advance_0 : decode prog_3_method_37_code 0 = .ok (.aload_n 0, 1) := by decide +kernel
theorem d_X1_advance_1 : decode prog_3_method_37_code 1 = .ok (.invokevirtual 137, 3) := by decide +kernel
theorem d_X1_advance_4 : decode prog_3_method_37_code 4 = .ok (.istore_n 1, 1) := by decide +kernel
theorem d_X1_advance_5 : decode prog_3_method_37_code 5 = .ok (.iconst 0, 1) := by decide +kernel
theorem d_X1_advance_6 : decode prog_3_method_37_code 6 = .ok (.istore_n 2, 1) := by decide +kernel
theorem d_X1_advance_7 : decode prog_3_method_37_code 7 = .ok (.iconst 0, 1) := by decide +kernel
theorem d_X1_advance_8 : decode prog_3_method_37_code 8 = .ok (.istore_n 3, 1) := by decide +kernel
theorem d_X1_advance_9 : decode prog_3_method_37_code 9 = .ok (.iload_n 3, 1) := by decide +kernel
theorem d_X1_advance_10 : decode prog_3_method_37_code 10 = .ok (.aload_n 0, 1) := by decide +kernel
theorem d_X1_advance_11 : decode prog_3_method_37_code 11 = .ok (.getfield 45, 3) := by decide +kernel
theorem d_X1_advance_14 : decode prog_3_method_37_code 14 = .ok (.if_icmp .ge 48, 3) := by decide +kernel
theorem d_X1_advance_17 : decode prog_3_method_37_code 17 = .ok (.iload_n 1, 1) := by decide +kernel
theorem d_X1_advance_18 : decode prog_3_method_37_code 18 = .ok (.iload_n 3, 1) := by decide +kernel
theorem d_X1_advance_19 : decode prog_3_method_37_code 19 = .ok (.invokestatic 89, 3) := by decide +kernel
theorem d_X1_advance_22 : decode prog_3_method_37_code 22 = .ok (.ifCond .eq 34, 3) := by decide +kernel
theorem d_X1_advance_25 : decode prog_3_method_37_code 25 = .ok (.aload_n 0, 1) := by decide +kernel
theorem d_X1_advance_26 : decode prog_3_method_37_code 26 = .ok (.getfield 33, 3) := by decide +kernel
theorem d_X1_advance_29 : decode prog_3_method_37_code 29 = .ok (.iload_n 3, 1) := by decide +kernel
theorem d_X1_advance_30 : decode prog_3_method_37_code 30 = .ok (.iaload, 1) := by decide +kernel
theorem d_X1_advance_31 : decode prog_3_method_37_code 31 = .ok (.iload_n 1, 1) := by decide +kernel
theorem d_X1_advance_32 : decode prog_3_method_37_code 32 = .ok (.iand, 1) := by decide +kernel
theorem d_X1_advance_33 : decode prog_3_method_37_code 33 = .ok (.ifCond .ne 23, 3) := by decide +kernel
theorem d_X1_advance_36 : decode prog_3_method_37_code 36 = .ok (.iload_n 2, 1) := by decide +kernel
theorem d_X1_advance_37 : decode prog_3_method_37_code 37 = .ok (.iconst 1, 1) := by decide +kernel
theorem d_X1_advance_38 : decode prog_3_method_37_code 38 = .ok (.iload_n 3, 1) := by decide +kernel
theorem d_X1_advance_39 : decode prog_3_method_37_code 39 = .ok (.ishl, 1) := by decide +kernel
theorem d_X1_advance_40 : decode prog_3_method_37_code 40 = .ok (.ior, 1) := by decide +kernel
theorem d_X1_advance_41 : decode prog_3_method_37_code 41 = .ok (.istore_n 2, 1) := by decide +kernel
theorem d_X1_advance_42 : decode prog_3_method_37_code 42 = .ok (.aload_n 0, 1) := by decide +kernel
theorem d_X1_advance_43 : decode prog_3_method_37_code 43 = .ok (.getfield 42, 3) := by decide +kernel
theorem d_X1_advance_46 : decode prog_3_method_37_code 46 = .ok (.iload_n 3, 1) := by decide +kernel
theorem d_X1_advance_47 : decode prog_3_method_37_code 47 = .ok (.aload_n 0, 1) := by decide +kernel
theorem d_X1_advance_48 : decode prog_3_method_37_code 48 = .ok (.iload_n 3, 1) := by decide +kernel
theorem d_X1_advance_49 : decode prog_3_method_37_code 49 = .ok (.invokevirtual 140, 3) := by decide +kernel
theorem d_X1_advance_52 : decode prog_3_method_37_code 52 = .ok (.invokestatic 143, 3) := by decide +kernel
theorem d_X1_advance_55 : decode prog_3_method_37_code 55 = .ok (.iastore, 1) := by decide +kernel
theorem d_X1_advance_56 : decode prog_3_method_37_code 56 = .ok (.iinc 3 1, 3) := by decide +kernel
theorem d_X1_advance_59 : decode prog_3_method_37_code 59 = .ok (.goto (-50), 3) := by decide +kernel
theorem d_X1_advance_62 : decode prog_3_method_37_code 62 = .ok (.aload_n 0, 1) := by decide +kernel
theorem d_X1_advance_63 : decode prog_3_method_37_code 63 = .ok (.iload_n 2, 1) := by decide +kernel
theorem d_X1_advance_64 : decode prog_3_method_37_code 64 = .ok (.invokevirtual 146, 3) := by decide +kernel
theorem d_X1_advance_67 : decode prog_3_method_37_code 67 = .ok (.istore_n 3, 1) := by decide +kernel
theorem d_X1_advance_68 : decode prog_3_method_37_code 68 = .ok (.aload_n 0, 1) := by decide +kernel
theorem d_X1_advance_69 : decode prog_3_method_37_code 69 = .ok (.dup, 1) := by decide +kernel
theorem d_X1_advance_70 : decode prog_3_method_37_code 70 = .ok (.getfield 49, 3) := by decide +kernel
theorem d_X1_advance_73 : decode prog_3_method_37_code 73 = .ok (.iconst 1, 1) := by decide +kernel
theorem d_X1_advance_74 : decode prog_3_method_37_code 74 = .ok (.iadd, 1) := by decide +kernel
theorem d_X1_advance_75 : decode prog_3_method_37_code 75 = .ok (.putfield 49, 3) := by decide +kernel
theorem d_X1_advance_78 : decode prog_3_method_37_code 78 = .ok (.aload_n 0, 1) := by decide +kernel
theorem d_X1_advance_79 : decode prog_3_method_37_code 79 = .ok (.invokevirtual 102, 3) := by decide +kernel
theorem d_X1_advance_82 : decode prog_3_method_37_code 82 = .ok (.iload_n 3, 1) := by decide +kernel
theorem d_X1_advance_83 : decode prog_3_method_37_code 83 = .ok (.ireturn, 1) := by decide +kernel
abbrev M_Mesh_advance : zMT := (⟨"PeriodSlots$Mesh", "advance", "()I"⟩, prog_3_method_37_code, 4, (some .int))
theorem k_Mesh_advance : zcall M_Mesh_advance 0 := ⟨zU_in (i := 468) (by decide +kernel) rfl, m56, ⟨by decide, by decide, by decide +kernel⟩, by decide⟩
def o_Mesh_advance (h : zHp) (b : Nat) : Int32 × zHp :=
  (((o_Mesh_moveToNext (zrep (fun (i9_1 : Nat) (s9_1 : Int32 × zHp) => ((if (o_Slots_has (o_Mesh_unsettledSet h b) (nI i9_1)) = true then (if ((s9_1.2 (b + 8) i9_1) &&& (o_Mesh_unsettledSet h b)) = 0 then (s9_1.1 ||| (zshl 1 (nI i9_1))) else s9_1.1) else s9_1.1), (if (o_Slots_has (o_Mesh_unsettledSet h b) (nI i9_1)) = true then (if ((s9_1.2 (b + 8) i9_1) &&& (o_Mesh_unsettledSet h b)) = 0 then (zup s9_1.2 (b + 11) i9_1 (o_Slots_lowestOrNone (o_Mesh_freeOffsets s9_1.2 b i9_1))) else s9_1.2) else s9_1.2))) (0, h) (zcn (h b 0))).2 b (zrep (fun (i9_1 : Nat) (s9_1 : Int32 × zHp) => ((if (o_Slots_has (o_Mesh_unsettledSet h b) (nI i9_1)) = true then (if ((s9_1.2 (b + 8) i9_1) &&& (o_Mesh_unsettledSet h b)) = 0 then (s9_1.1 ||| (zshl 1 (nI i9_1))) else s9_1.1) else s9_1.1), (if (o_Slots_has (o_Mesh_unsettledSet h b) (nI i9_1)) = true then (if ((s9_1.2 (b + 8) i9_1) &&& (o_Mesh_unsettledSet h b)) = 0 then (zup s9_1.2 (b + 11) i9_1 (o_Slots_lowestOrNone (o_Mesh_freeOffsets s9_1.2 b i9_1))) else s9_1.2) else s9_1.2))) (0, h) (zcn (h b 0))).1).1), (o_Mesh_rank (zup ((o_Mesh_moveToNext (zrep (fun (i9_1 : Nat) (s9_1 : Int32 × zHp) => ((if (o_Slots_has (o_Mesh_unsettledSet h b) (nI i9_1)) = true then (if ((s9_1.2 (b + 8) i9_1) &&& (o_Mesh_unsettledSet h b)) = 0 then (s9_1.1 ||| (zshl 1 (nI i9_1))) else s9_1.1) else s9_1.1), (if (o_Slots_has (o_Mesh_unsettledSet h b) (nI i9_1)) = true then (if ((s9_1.2 (b + 8) i9_1) &&& (o_Mesh_unsettledSet h b)) = 0 then (zup s9_1.2 (b + 11) i9_1 (o_Slots_lowestOrNone (o_Mesh_freeOffsets s9_1.2 b i9_1))) else s9_1.2) else s9_1.2))) (0, h) (zcn (h b 0))).2 b (zrep (fun (i9_1 : Nat) (s9_1 : Int32 × zHp) => ((if (o_Slots_has (o_Mesh_unsettledSet h b) (nI i9_1)) = true then (if ((s9_1.2 (b + 8) i9_1) &&& (o_Mesh_unsettledSet h b)) = 0 then (s9_1.1 ||| (zshl 1 (nI i9_1))) else s9_1.1) else s9_1.1), (if (o_Slots_has (o_Mesh_unsettledSet h b) (nI i9_1)) = true then (if ((s9_1.2 (b + 8) i9_1) &&& (o_Mesh_unsettledSet h b)) = 0 then (zup s9_1.2 (b + 11) i9_1 (o_Slots_lowestOrNone (o_Mesh_freeOffsets s9_1.2 b i9_1))) else s9_1.2) else s9_1.2))) (0, h) (zcn (h b 0))).1).2) b 1 ((((o_Mesh_moveToNext (zrep (fun (i9_1 : Nat) (s9_1 : Int32 × zHp) => ((if (o_Slots_has (o_Mesh_unsettledSet h b) (nI i9_1)) = true then (if ((s9_1.2 (b + 8) i9_1) &&& (o_Mesh_unsettledSet h b)) = 0 then (s9_1.1 ||| (zshl 1 (nI i9_1))) else s9_1.1) else s9_1.1), (if (o_Slots_has (o_Mesh_unsettledSet h b) (nI i9_1)) = true then (if ((s9_1.2 (b + 8) i9_1) &&& (o_Mesh_unsettledSet h b)) = 0 then (zup s9_1.2 (b + 11) i9_1 (o_Slots_lowestOrNone (o_Mesh_freeOffsets s9_1.2 b i9_1))) else s9_1.2) else s9_1.2))) (0, h) (zcn (h b 0))).2 b (zrep (fun (i9_1 : Nat) (s9_1 : Int32 × zHp) => ((if (o_Slots_has (o_Mesh_unsettledSet h b) (nI i9_1)) = true then (if ((s9_1.2 (b + 8) i9_1) &&& (o_Mesh_unsettledSet h b)) = 0 then (s9_1.1 ||| (zshl 1 (nI i9_1))) else s9_1.1) else s9_1.1), (if (o_Slots_has (o_Mesh_unsettledSet h b) (nI i9_1)) = true then (if ((s9_1.2 (b + 8) i9_1) &&& (o_Mesh_unsettledSet h b)) = 0 then (zup s9_1.2 (b + 11) i9_1 (o_Slots_lowestOrNone (o_Mesh_freeOffsets s9_1.2 b i9_1))) else s9_1.2) else s9_1.2))) (0, h) (zcn (h b 0))).1).2) b 1) + 1)) b))
theorem fr_Mesh_advance {h : zHp} {b : Nat} (c k : Nat) (q0 : ¬ (c = b ∧ k = 1)) (q1 : c ≠ b + 3) (q2 : c ≠ b + 4) (q3 : c ≠ b + 7) (q4 : c ≠ b + 8) (q5 : c ≠ b + 9) (q6 : c ≠ b + 10) (q7 : c ≠ b + 11) : (o_Mesh_advance h b).2 c k = h c k := by
  unfold o_Mesh_advance
  have hI9_1 := zrep_inv (f := (fun (i9_1 : Nat) (s9_1 : Int32 × zHp) => ((if (o_Slots_has (o_Mesh_unsettledSet h b) (nI i9_1)) = true then (if ((s9_1.2 (b + 8) i9_1) &&& (o_Mesh_unsettledSet h b)) = 0 then (s9_1.1 ||| (zshl 1 (nI i9_1))) else s9_1.1) else s9_1.1), (if (o_Slots_has (o_Mesh_unsettledSet h b) (nI i9_1)) = true then (if ((s9_1.2 (b + 8) i9_1) &&& (o_Mesh_unsettledSet h b)) = 0 then (zup s9_1.2 (b + 11) i9_1 (o_Slots_lowestOrNone (o_Mesh_freeOffsets s9_1.2 b i9_1))) else s9_1.2) else s9_1.2)))) (a := (0, h)) (fun _ s9_1 => ∀ c k : Nat, ¬ (c = b ∧ k = 1) → c ≠ b + 3 → c ≠ b + 4 → c ≠ b + 7 → c ≠ b + 8 → c ≠ b + 9 → c ≠ b + 10 → c ≠ b + 11 → s9_1.2 c k = h c k) (zcn (h b 0)) (fun _ _ _ _ _ _ _ _ _ _ => (by dsimp only)) (fun i9_1 s9_1 hi9_1 hI9_1 => (fun c k q0 q1 q2 q3 q4 q5 q6 q7 => (by (try dsimp only); exact (zite_fr (fun _ => (zite_fr (fun _ => ((zup_fr (Or.inl (by assumption))).trans (hI9_1 _ _ (by assumption) (by assumption) (by assumption) (by assumption) (by assumption) (by assumption) (by assumption) (by assumption)))) (fun _ => (hI9_1 _ _ (by assumption) (by assumption) (by assumption) (by assumption) (by assumption) (by assumption) (by assumption) (by assumption))))) (fun _ => (hI9_1 _ _ (by assumption) (by assumption) (by assumption) (by assumption) (by assumption) (by assumption) (by assumption) (by assumption)))))))
  try dsimp only
  first | done | exact ((fr_Mesh_rank _ _ (by assumption) (by assumption)).trans ((zup_fr (by omega)).trans ((fr_Mesh_moveToNext _ _ (by assumption) (by assumption) (by assumption) (by assumption)).trans (hI9_1 _ _ (by assumption) (by assumption) (by assumption) (by assumption) (by assumption) (by assumption) (by assumption) (by assumption)))))
set_option maxHeartbeats 400000 in
set_option maxRecDepth 20000 in
theorem c_Mesh_advance (X : zXT) (h : zHp) (g : zLg) (b : Nat) (hb : b = 3 ∨ b = 15 ∨ b = 27) (hf0 : zfit h b 0 8) : zDi X M_Mesh_advance 3 [zR X b] h g (zI ((o_Mesh_advance h b).1)) ((o_Mesh_advance h b).2) g := by
  have hf0_1 := hf0.1
  refine zDi_of "PeriodSlots$Mesh" prog_3_method_37_code 4 (some .int) rfl (by decide) [zO X b, none, none, none] rfl (fun _ q => q) (Nat.le_of_ble_eq_true rfl) ?_
  intro Γ Q C hQ
  refine zr_aload_n C d_X1_advance_0 rfl ?_
  refine zr_callVi (As := []) (st := []) (c := b) C (c_Mesh_unsettledSet X h g b hb hf0) k_Mesh_unsettledSet m418 m403 m404 (by omega) (zC_Mesh hb X _ _) rfl rfl (by decide) rfl (Nat.le_of_ble_eq_true rfl) d_X1_advance_1 ?_
  refine zr_istore_n C [zO X b, zI (o_Mesh_unsettledSet h b), none, none] d_X1_advance_4 (Nat.le_of_ble_eq_true rfl) rfl rfl ?_
  refine zr_iconst C (v := 0) d_X1_advance_5 (by decide) ?_
  refine zr_istore_n C [zO X b, zI (o_Mesh_unsettledSet h b), zI 0, none] d_X1_advance_6 (Nat.le_of_ble_eq_true rfl) rfl rfl ?_
  refine zr_iconst C (v := 0) d_X1_advance_7 (by decide) ?_
  refine zr_istore_n C [zO X b, zI (o_Mesh_unsettledSet h b), zI 0, zI 0] d_X1_advance_8 (Nat.le_of_ble_eq_true rfl) rfl rfl ?_
  refine zfor (f := (fun (i9_1 : Nat) (s9_1 : Int32 × zHp) => ((if (o_Slots_has (o_Mesh_unsettledSet h b) (nI i9_1)) = true then (if ((s9_1.2 (b + 8) i9_1) &&& (o_Mesh_unsettledSet h b)) = 0 then (s9_1.1 ||| (zshl 1 (nI i9_1))) else s9_1.1) else s9_1.1), (if (o_Slots_has (o_Mesh_unsettledSet h b) (nI i9_1)) = true then (if ((s9_1.2 (b + 8) i9_1) &&& (o_Mesh_unsettledSet h b)) = 0 then (zup s9_1.2 (b + 11) i9_1 (o_Slots_lowestOrNone (o_Mesh_freeOffsets s9_1.2 b i9_1))) else s9_1.2) else s9_1.2)))) (a := (0, h)) (fun i9_1 s9_1 => zV X Γ Q 9 [zO X b, zI (o_Mesh_unsettledSet h b), zI s9_1.1, zI (nI i9_1)] [] s9_1.2 g) (fun _ s9_1 => ∀ c k : Nat, ¬ (c = b ∧ k = 1) → c ≠ b + 3 → c ≠ b + 4 → c ≠ b + 7 → c ≠ b + 8 → c ≠ b + 9 → c ≠ b + 10 → c ≠ b + 11 → s9_1.2 c k = h c k) (zcn (h b 0)) (fun _ _ _ _ _ _ _ _ _ _ => (by dsimp only)) (fun i9_1 s9_1 hi9_1 hI9_1 => ⟨(fun c k q0 q1 q2 q3 q4 q5 q6 q7 => (by (try dsimp only); exact (zite_fr (fun _ => (zite_fr (fun _ => ((zup_fr (Or.inl (by assumption))).trans (hI9_1 _ _ (by assumption) (by assumption) (by assumption) (by assumption) (by assumption) (by assumption) (by assumption) (by assumption)))) (fun _ => (hI9_1 _ _ (by assumption) (by assumption) (by assumption) (by assumption) (by assumption) (by assumption) (by assumption) (by assumption))))) (fun _ => (hI9_1 _ _ (by assumption) (by assumption) (by assumption) (by assumption) (by assumption) (by assumption) (by assumption) (by assumption)))))), fun hk9_1 => ?_⟩) (fun r9_1 er9_1 hI9_1 => ?_)
  · refine zr_iload_n C d_X1_advance_9 rfl ?_
    refine zr_aload_n C d_X1_advance_10 rfl ?_
    refine gf_Mesh_0 C hb m95 d_X1_advance_11 ?_
    refine zr_icmp_ge C 62 d_X1_advance_14 (by decide) (fun c => absurd c (zge_no (hI9_1 _ _ (by omega) (by omega) (by omega) (by omega) (by omega) (by omega) (by omega) (by omega)) (by omega))) (fun _ => ?_)
    refine zr_iload_n C d_X1_advance_17 rfl ?_
    refine zr_iload_n C d_X1_advance_18 rfl ?_
    refine zr_callNi (As := [.int (o_Mesh_unsettledSet h b), .int (nI i9_1)]) (st := []) C (c_Slots_has X s9_1.2 g (o_Mesh_unsettledSet h b) (nI i9_1)) k_Slots_has (by simp [zNest]) m322 rfl (by decide) rfl (Nat.le_of_ble_eq_true rfl) d_X1_advance_19 ?_
    suffices hJ22 : ∀ (y3 : Int32) (h4 : zHp), (if (o_Slots_has (o_Mesh_unsettledSet h b) (nI i9_1)) = true then (if ((s9_1.2 (b + 8) i9_1) &&& (o_Mesh_unsettledSet h b)) = 0 then (s9_1.1 ||| (zshl 1 (nI i9_1))) else s9_1.1) else s9_1.1) = y3 → (if (o_Slots_has (o_Mesh_unsettledSet h b) (nI i9_1)) = true then (if ((s9_1.2 (b + 8) i9_1) &&& (o_Mesh_unsettledSet h b)) = 0 then (zup s9_1.2 (b + 11) i9_1 (o_Slots_lowestOrNone (o_Mesh_freeOffsets s9_1.2 b i9_1))) else s9_1.2) else s9_1.2) = h4 → zV X Γ Q 56 [zO X b, zI (o_Mesh_unsettledSet h b), zI y3, zI (nI i9_1)] [] h4 g by
      refine zr_ifz_eq C 56 d_X1_advance_22 (by decide) (fun c22 => ?_) (fun c22 => ?_)
      · exact hJ22 s9_1.1 s9_1.2 (((if_neg (zbf c22)))) (((if_neg (zbf c22))))
      · refine zr_aload_n C d_X1_advance_25 rfl ?_
        refine gf_Mesh_10 C hb m123 d_X1_advance_26 ?_
        refine zr_iload_n C d_X1_advance_29 rfl ?_
        refine zr_iald C (za_mesh_8 hb) (i9_1) rfl (by omega) (by decide) d_X1_advance_30 ?_
        refine zr_iload_n C d_X1_advance_31 rfl ?_
        refine zr_iand C d_X1_advance_32 ?_
        refine zr_if_ne C 56 d_X1_advance_33 (by decide) (fun c33 => ?_) (fun c33 => ?_)
        · exact hJ22 s9_1.1 s9_1.2 (((if_pos c22).trans ((if_neg c33)))) (((if_pos c22).trans ((if_neg c33))))
        · refine zr_iload_n C d_X1_advance_36 rfl ?_
          refine zr_iconst C (v := 1) d_X1_advance_37 (by decide) ?_
          refine zr_iload_n C d_X1_advance_38 rfl ?_
          refine zr_ishl C d_X1_advance_39 ?_
          refine zr_ior C d_X1_advance_40 ?_
          refine zr_istore_n C [zO X b, zI (o_Mesh_unsettledSet h b), zI (s9_1.1 ||| (zshl 1 (nI i9_1))), zI (nI i9_1)] d_X1_advance_41 (Nat.le_of_ble_eq_true rfl) rfl rfl ?_
          refine zr_aload_n C d_X1_advance_42 rfl ?_
          refine gf_Mesh_13 C hb m128 d_X1_advance_43 ?_
          refine zr_iload_n C d_X1_advance_46 rfl ?_
          refine zr_aload_n C d_X1_advance_47 rfl ?_
          refine zr_iload_n C d_X1_advance_48 rfl ?_
          refine zr_callVi (As := [.int (nI i9_1)]) (st := [.int (nI i9_1), zR X (b + 11)]) (c := b) C (c_Mesh_freeOffsets X s9_1.2 g b i9_1 rfl hb (zfit_fr (hI9_1 _ _ (by omega) (by omega) (by omega) (by omega) (by omega) (by omega) (by omega) (by omega)) hf0) (by omega)) k_Mesh_freeOffsets m419 m420 m421 (by omega) (zC_Mesh hb X _ _) rfl rfl (by decide) rfl (Nat.le_of_ble_eq_true rfl) d_X1_advance_49 ?_
          refine zr_callNi (As := [.int (o_Mesh_freeOffsets s9_1.2 b i9_1)]) (st := [.int (nI i9_1), zR X (b + 11)]) C (c_Slots_lowestOrNone X s9_1.2 g (o_Mesh_freeOffsets s9_1.2 b i9_1)) k_Slots_lowestOrNone (by simp [zNest]) m470 rfl (by decide) rfl (Nat.le_of_ble_eq_true rfl) d_X1_advance_52 ?_
          refine zr_iast C (za_mesh_11 hb) (i9_1) rfl (by omega) (by decide) d_X1_advance_55 ?_
          refine zr_h (fun h2 eh2 => ?_)
          exact hJ22 (s9_1.1 ||| (zshl 1 (nI i9_1))) h2 (by subst eh2; exact ((if_pos c22).trans ((if_pos c33)))) (by subst eh2; exact ((if_pos c22).trans ((if_pos c33))))
    intro y3 h4 ey3 eh4
    refine zr_iinc C [zO X b, zI (o_Mesh_unsettledSet h b), zI y3, zI (nI (i9_1 + 1))] (v := (nI (i9_1 + 1))) d_X1_advance_56 rfl (zn_add rfl rfl) (Nat.le_of_ble_eq_true rfl) rfl rfl ?_
    refine zr_goto C 9 d_X1_advance_59 (by decide) ?_
    exact hk9_1 (y3, h4) (by subst eh4 ey3; exact rfl)
  refine zr_iload_n C d_X1_advance_9 rfl ?_
  refine zr_aload_n C d_X1_advance_10 rfl ?_
  refine gf_Mesh_0 C hb m95 d_X1_advance_11 ?_
  refine zr_icmp_ge C 62 d_X1_advance_14 (by decide) (fun _ => ?_) (fun c => absurd (zge_yes (hI9_1 _ _ (by omega) (by omega) (by omega) (by omega) (by omega) (by omega) (by omega) (by omega)) (by omega) (by have := zcn_small (h b 0); omega)) c)
  refine zr_aload_n C d_X1_advance_62 rfl ?_
  refine zr_iload_n C d_X1_advance_63 rfl ?_
  refine zr_callVi (As := [.int r9_1.1]) (st := []) (c := b) C (c_Mesh_moveToNext X r9_1.2 g b r9_1.1 hb (zfit_fr (hI9_1 _ _ (by omega) (by omega) (by omega) (by omega) (by omega) (by omega) (by omega) (by omega)) hf0)) k_Mesh_moveToNext m476 m478 m8 (by omega) (zC_Mesh hb X _ _) rfl rfl (by decide) rfl (Nat.le_of_ble_eq_true rfl) d_X1_advance_64 ?_
  refine zr_vi (fun y5 ey5 => ?_)
  refine zr_h (fun h6 eh6 => ?_)
  refine zr_istore_n C [zO X b, zI (o_Mesh_unsettledSet h b), zI r9_1.1, zI y5] d_X1_advance_67 (Nat.le_of_ble_eq_true rfl) rfl rfl ?_
  refine zr_aload_n C d_X1_advance_68 rfl ?_
  refine zr_dup C d_X1_advance_69 rfl ?_
  refine gf_Mesh_1 C hb m99 d_X1_advance_70 ?_
  refine zr_iconst C (v := 1) d_X1_advance_73 (by decide) ?_
  refine zr_iadd C d_X1_advance_74 ?_
  refine pf_Mesh_1 C hb m99 d_X1_advance_75 ?_
  refine zr_h (fun h7 eh7 => ?_)
  refine zr_aload_n C d_X1_advance_78 rfl ?_
  refine zr_callVv (As := []) (st := []) (c := b) C (c_Mesh_rank X h7 g b hb (zfit_fr ((congrFun (congrFun eh7.symm _) _).trans ((zup_fr (by omega)).trans ((congrFun (congrFun eh6.symm _) _).trans ((fr_Mesh_moveToNext _ _ (by omega) (by omega) (by omega) (by omega)).trans (hI9_1 _ _ (by omega) (by omega) (by omega) (by omega) (by omega) (by omega) (by omega) (by omega)))))) hf0)) k_Mesh_rank m324 m326 m3 (by omega) (zC_Mesh hb X _ _) rfl rfl (by decide) rfl (Nat.le_of_ble_eq_true rfl) d_X1_advance_79 ?_
  refine zr_h (fun h8 eh8 => ?_)
  refine zr_iload_n C d_X1_advance_82 rfl ?_
  have eR : o_Mesh_advance h b = (y5, h8) := (by subst eh8 eh7 eh6 ey5 er9_1; unfold o_Mesh_advance; exact rfl)
  subst hQ
  exact zTQ_Ih eR (zr_ireti C d_X1_advance_83)
theorem d_X1_settle_0 : decode prog_3_method_39_code 0 = .ok (.aload_n 0, 1) := by decide +kernel
theorem d_X1_settle_1 : decode prog_3_method_39_code 1 = .ok (.iconst 0, 1) := by decide +kernel
theorem d_X1_settle_2 : decode prog_3_method_39_code 2 = .ok (.putfield 149, 3) := by decide +kernel
theorem d_X1_settle_5 : decode prog_3_method_39_code 5 = .ok (.iconst 0, 1) := by decide +kernel
theorem d_X1_settle_6 : decode prog_3_method_39_code 6 = .ok (.istore_n 1, 1) := by decide +kernel
theorem d_X1_settle_7 : decode prog_3_method_39_code 7 = .ok (.iload_n 1, 1) := by decide +kernel
theorem d_X1_settle_8 : decode prog_3_method_39_code 8 = .ok (.bipush 40, 2) := by decide +kernel
theorem d_X1_settle_10 : decode prog_3_method_39_code 10 = .ok (.if_icmp .ge 40, 3) := by decide +kernel
theorem d_X1_settle_13 : decode prog_3_method_39_code 13 = .ok (.aload_n 0, 1) := by decide +kernel
theorem d_X1_settle_14 : decode prog_3_method_39_code 14 = .ok (.invokevirtual 152, 3) := by decide +kernel
theorem d_X1_settle_17 : decode prog_3_method_39_code 17 = .ok (.ifCond .eq 5, 3) := by decide +kernel
theorem d_X1_settle_20 : decode prog_3_method_39_code 20 = .ok (.iload_n 1, 1) := by decide +kernel
theorem d_X1_settle_21 : decode prog_3_method_39_code 21 = .ok (.ireturn, 1) := by decide +kernel
theorem d_X1_settle_22 : decode prog_3_method_39_code 22 = .ok (.aload_n 0, 1) := by decide +kernel
theorem d_X1_settle_23 : decode prog_3_method_39_code 23 = .ok (.invokevirtual 156, 3) := by decide +kernel
theorem d_X1_settle_26 : decode prog_3_method_39_code 26 = .ok (.aload_n 0, 1) := by decide +kernel
theorem d_X1_settle_27 : decode prog_3_method_39_code 27 = .ok (.invokevirtual 159, 3) := by decide +kernel
theorem d_X1_settle_30 : decode prog_3_method_39_code 30 = .ok (.iand, 1) := by decide +kernel
theorem d_X1_settle_31 : decode prog_3_method_39_code 31 = .ok (.ifCond .eq 13, 3) := by decide +kernel
theorem d_X1_settle_34 : decode prog_3_method_39_code 34 = .ok (.aload_n 0, 1) := by decide +kernel
theorem d_X1_settle_35 : decode prog_3_method_39_code 35 = .ok (.dup, 1) := by decide +kernel
theorem d_X1_settle_36 : decode prog_3_method_39_code 36 = .ok (.getfield 149, 3) := by decide +kernel
theorem d_X1_settle_39 : decode prog_3_method_39_code 39 = .ok (.iconst 1, 1) := by decide +kernel
theorem d_X1_settle_40 : decode prog_3_method_39_code 40 = .ok (.iadd, 1) := by decide +kernel
theorem d_X1_settle_41 : decode prog_3_method_39_code 41 = .ok (.putfield 149, 3) := by decide +kernel
theorem d_X1_settle_44 : decode prog_3_method_39_code 44 = .ok (.iinc 1 1, 3) := by decide +kernel
theorem d_X1_settle_47 : decode prog_3_method_39_code 47 = .ok (.goto (-40), 3) := by decide +kernel
theorem d_X1_settle_50 : decode prog_3_method_39_code 50 = .ok (.aload_n 0, 1) := by decide +kernel
theorem d_X1_settle_51 : decode prog_3_method_39_code 51 = .ok (.invokevirtual 152, 3) := by decide +kernel
theorem d_X1_settle_54 : decode prog_3_method_39_code 54 = .ok (.ifCond .eq 8, 3) := by decide +kernel
theorem d_X1_settle_57 : decode prog_3_method_39_code 57 = .ok (.bipush 40, 2) := by decide +kernel
theorem d_X1_settle_59 : decode prog_3_method_39_code 59 = .ok (.goto 5, 3) := by decide +kernel
theorem d_X1_settle_62 : decode prog_3_method_39_code 62 = .ok (.bipush (-9), 2) := by decide +kernel
theorem d_X1_settle_64 : decode prog_3_method_39_code 64 = .ok (.ireturn, 1) := by decide +kernel
abbrev M_Mesh_settle : zMT := (⟨"PeriodSlots$Mesh", "settle", "()I"⟩, prog_3_method_39_code, 2, (some .int))
theorem k_Mesh_settle : zcall M_Mesh_settle 0 := ⟨zU_in (i := 539) (by decide +kernel) rfl, m56, ⟨by decide, by decide, by decide +kernel⟩, by decide⟩
def o_Mesh_settle (h : zHp) (b : Nat) : Int32 × zHp :=
  (Sum.elim (fun r7_2 => ((if (o_Mesh_isQuiet r7_2 b) = true then 40 else (-9)), r7_2)) (fun q7_2 => q7_2) (zrex (fun (i7_2 : Nat) (s7_2 : zHp) => ((if (o_Mesh_isQuiet s7_2 b) = true then .inr ((nI i7_2), s7_2) else .inl (if (((o_Mesh_advance s7_2 b).1) &&& (o_Mesh_placedSet ((o_Mesh_advance s7_2 b).2) b)) = 0 then ((o_Mesh_advance s7_2 b).2) else (zup ((o_Mesh_advance s7_2 b).2) b 2 ((((o_Mesh_advance s7_2 b).2) b 2) + 1)))) : (zHp) ⊕ (Int32 × zHp))) (zup h b 2 0) 40))
theorem fr_Mesh_settle {h : zHp} {b : Nat} (c k : Nat) (q0 : ¬ (c = b ∧ k = 1)) (q1 : ¬ (c = b ∧ k = 2)) (q2 : c ≠ b + 3) (q3 : c ≠ b + 4) (q4 : c ≠ b + 7) (q5 : c ≠ b + 8) (q6 : c ≠ b + 9) (q7 : c ≠ b + 10) (q8 : c ≠ b + 11) : (o_Mesh_settle h b).2 c k = h c k := by
  unfold o_Mesh_settle
  have hX := zrex_inv (f := (fun (i7_2 : Nat) (s7_2 : zHp) => ((if (o_Mesh_isQuiet s7_2 b) = true then .inr ((nI i7_2), s7_2) else .inl (if (((o_Mesh_advance s7_2 b).1) &&& (o_Mesh_placedSet ((o_Mesh_advance s7_2 b).2) b)) = 0 then ((o_Mesh_advance s7_2 b).2) else (zup ((o_Mesh_advance s7_2 b).2) b 2 ((((o_Mesh_advance s7_2 b).2) b 2) + 1)))) : (zHp) ⊕ (Int32 × zHp)))) (a := (zup h b 2 0)) (fun _ s7_2 => ∀ c k : Nat, ¬ (c = b ∧ k = 1) → ¬ (c = b ∧ k = 2) → c ≠ b + 3 → c ≠ b + 4 → c ≠ b + 7 → c ≠ b + 8 → c ≠ b + 9 → c ≠ b + 10 → c ≠ b + 11 → s7_2 c k = (zup h b 2 0) c k) (fun q7_2 => ∀ c k : Nat, ¬ (c = b ∧ k = 1) → ¬ (c = b ∧ k = 2) → c ≠ b + 3 → c ≠ b + 4 → c ≠ b + 7 → c ≠ b + 8 → c ≠ b + 9 → c ≠ b + 10 → c ≠ b + 11 → q7_2.2 c k = (zup h b 2 0) c k) (40) (fun _ _ _ _ _ _ _ _ _ _ _ => rfl) (fun i7_2 s7_2 hi7_2 hI7_2 => ⟨(by intro s2 hs; (try dsimp only at hs); by_cases cc : (o_Mesh_isQuiet s7_2 b) = true; (rw [if_pos cc] at hs; cases hs); (rw [if_neg cc] at hs; cases hs; exact fun c k q0 q1 q2 q3 q4 q5 q6 q7 q8 => (by (try dsimp only); exact (zite_fr (fun _ => ((fr_Mesh_advance _ _ (by assumption) (by assumption) (by assumption) (by assumption) (by assumption) (by assumption) (by assumption) (by assumption)).trans (hI7_2 _ _ (by assumption) (by assumption) (by assumption) (by assumption) (by assumption) (by assumption) (by assumption) (by assumption) (by assumption)))) (fun _ => ((zup_fr (by omega)).trans ((fr_Mesh_advance _ _ (by assumption) (by assumption) (by assumption) (by assumption) (by assumption) (by assumption) (by assumption) (by assumption)).trans (hI7_2 _ _ (by assumption) (by assumption) (by assumption) (by assumption) (by assumption) (by assumption) (by assumption) (by assumption) (by assumption))))))))), (by intro r hs; (try dsimp only at hs); by_cases cc : (o_Mesh_isQuiet s7_2 b) = true; (rw [if_pos cc] at hs; cases hs; exact fun c k q0 q1 q2 q3 q4 q5 q6 q7 q8 => (by (try dsimp only); exact (hI7_2 _ _ (by assumption) (by assumption) (by assumption) (by assumption) (by assumption) (by assumption) (by assumption) (by assumption) (by assumption)))); (rw [if_neg cc] at hs; cases hs))⟩)
  cases hz : (zrex (fun (i7_2 : Nat) (s7_2 : zHp) => ((if (o_Mesh_isQuiet s7_2 b) = true then .inr ((nI i7_2), s7_2) else .inl (if (((o_Mesh_advance s7_2 b).1) &&& (o_Mesh_placedSet ((o_Mesh_advance s7_2 b).2) b)) = 0 then ((o_Mesh_advance s7_2 b).2) else (zup ((o_Mesh_advance s7_2 b).2) b 2 ((((o_Mesh_advance s7_2 b).2) b 2) + 1)))) : (zHp) ⊕ (Int32 × zHp))) (zup h b 2 0) 40) with
  | inl r7_2 =>
    have hI7_2 := hX.1 r7_2 hz
    simp only [Sum.elim_inl]
    try dsimp only
    first | done | exact ((hI7_2 _ _ (by assumption) (by assumption) (by assumption) (by assumption) (by assumption) (by assumption) (by assumption) (by assumption) (by assumption)).trans (zup_fr (by omega)))
  | inr q7_2 =>
    exact (hX.2 q7_2 hz c k (by assumption) (by assumption) (by assumption) (by assumption) (by assumption) (by assumption) (by assumption) (by assumption) (by assumption)).trans (zup_fr (by omega))
set_option maxHeartbeats 400000 in
set_option maxRecDepth 20000 in
theorem c_Mesh_settle (X : zXT) (h : zHp) (g : zLg) (b : Nat) (hb : b = 3 ∨ b = 15 ∨ b = 27) (hf0 : zfit h b 0 8) : zDi X M_Mesh_settle 4 [zR X b] h g (zI ((o_Mesh_settle h b).1)) ((o_Mesh_settle h b).2) g := by
  have hf0_1 := hf0.1
  refine zDi_of "PeriodSlots$Mesh" prog_3_method_39_code 2 (some .int) rfl (by decide) [zO X b, none] rfl (fun _ q => q) (Nat.le_of_ble_eq_true rfl) ?_
  intro Γ Q C hQ
  refine zr_aload_n C d_X1_settle_0 rfl ?_
  refine zr_iconst C (v := 0) d_X1_settle_1 (by decide) ?_
  refine pf_Mesh_2 C hb m103 d_X1_settle_2 ?_
  refine zr_h (fun h1 eh1 => ?_)
  refine zr_iconst C (v := 0) d_X1_settle_5 (by decide) ?_
  refine zr_istore_n C [zO X b, zI 0] d_X1_settle_6 (Nat.le_of_ble_eq_true rfl) rfl rfl ?_
  refine zforx (f := (fun (i7_2 : Nat) (s7_2 : zHp) => ((if (o_Mesh_isQuiet s7_2 b) = true then .inr ((nI i7_2), s7_2) else .inl (if (((o_Mesh_advance s7_2 b).1) &&& (o_Mesh_placedSet ((o_Mesh_advance s7_2 b).2) b)) = 0 then ((o_Mesh_advance s7_2 b).2) else (zup ((o_Mesh_advance s7_2 b).2) b 2 ((((o_Mesh_advance s7_2 b).2) b 2) + 1)))) : (zHp) ⊕ (Int32 × zHp)))) (a := h1) (fun i7_2 s7_2 => zV X Γ Q 7 [zO X b, zI (nI i7_2)] [] s7_2 g) (fun _ s7_2 => ∀ c k : Nat, ¬ (c = b ∧ k = 1) → ¬ (c = b ∧ k = 2) → c ≠ b + 3 → c ≠ b + 4 → c ≠ b + 7 → c ≠ b + 8 → c ≠ b + 9 → c ≠ b + 10 → c ≠ b + 11 → s7_2 c k = h1 c k) (40) (fun _ _ _ _ _ _ _ _ _ _ _ => rfl) (fun i7_2 s7_2 hi7_2 hI7_2 => ⟨(by intro s2 hs; (try dsimp only at hs); by_cases cc : (o_Mesh_isQuiet s7_2 b) = true; (rw [if_pos cc] at hs; cases hs); (rw [if_neg cc] at hs; cases hs; exact fun c k q0 q1 q2 q3 q4 q5 q6 q7 q8 => (by (try dsimp only); exact (zite_fr (fun _ => ((fr_Mesh_advance _ _ (by assumption) (by assumption) (by assumption) (by assumption) (by assumption) (by assumption) (by assumption) (by assumption)).trans (hI7_2 _ _ (by assumption) (by assumption) (by assumption) (by assumption) (by assumption) (by assumption) (by assumption) (by assumption) (by assumption)))) (fun _ => ((zup_fr (by omega)).trans ((fr_Mesh_advance _ _ (by assumption) (by assumption) (by assumption) (by assumption) (by assumption) (by assumption) (by assumption) (by assumption)).trans (hI7_2 _ _ (by assumption) (by assumption) (by assumption) (by assumption) (by assumption) (by assumption) (by assumption) (by assumption) (by assumption))))))))), fun hk7_2 hx7_2 => ?_⟩) (fun r7_2 er7_2 hI7_2 => ?_)
  · refine zr_iload_n C d_X1_settle_7 rfl ?_
    refine zr_bipush C (v := 40) d_X1_settle_8 (by decide) ?_
    refine zr_icmp_ge C 50 d_X1_settle_10 (by decide) (fun c => absurd c (zge_noN (B := 40) rfl (by omega) (by omega))) (fun _ => ?_)
    refine zr_aload_n C d_X1_settle_13 rfl ?_
    refine zr_callVi (As := []) (st := []) (c := b) C (c_Mesh_isQuiet X s7_2 g b hb (zfit_fr ((hI7_2 _ _ (by omega) (by omega) (by omega) (by omega) (by omega) (by omega) (by omega) (by omega) (by omega)).trans ((congrFun (congrFun eh1.symm _) _).trans (zup_fr (by omega)))) hf0)) k_Mesh_isQuiet m540 m415 m416 (by omega) (zC_Mesh hb X _ _) rfl rfl (by decide) rfl (Nat.le_of_ble_eq_true rfl) d_X1_settle_14 ?_
    refine zr_ifz_eq C 22 d_X1_settle_17 (by decide) (fun c17 => ?_) (fun c17 => ?_)
    · refine zr_aload_n C d_X1_settle_22 rfl ?_
      refine zr_callVi (As := []) (st := []) (c := b) C (c_Mesh_advance X s7_2 g b hb (zfit_fr ((hI7_2 _ _ (by omega) (by omega) (by omega) (by omega) (by omega) (by omega) (by omega) (by omega) (by omega)).trans ((congrFun (congrFun eh1.symm _) _).trans (zup_fr (by omega)))) hf0)) k_Mesh_advance m541 m466 m467 (by omega) (zC_Mesh hb X _ _) rfl rfl (by decide) rfl (Nat.le_of_ble_eq_true rfl) d_X1_settle_23 ?_
      refine zr_vi (fun y3 ey3 => ?_)
      refine zr_h (fun h4 eh4 => ?_)
      refine zr_aload_n C d_X1_settle_26 rfl ?_
      refine zr_callVi (As := []) (st := [.int y3]) (c := b) C (c_Mesh_placedSet X h4 g b hb (zfit_fr ((congrFun (congrFun eh4.symm _) _).trans ((fr_Mesh_advance _ _ (by omega) (by omega) (by omega) (by omega) (by omega) (by omega) (by omega) (by omega)).trans ((hI7_2 _ _ (by omega) (by omega) (by omega) (by omega) (by omega) (by omega) (by omega) (by omega) (by omega)).trans ((congrFun (congrFun eh1.symm _) _).trans (zup_fr (by omega)))))) hf0)) k_Mesh_placedSet m542 m411 m412 (by omega) (zC_Mesh hb X _ _) rfl rfl (by decide) rfl (Nat.le_of_ble_eq_true rfl) d_X1_settle_27 ?_
      refine zr_iand C d_X1_settle_30 ?_
      suffices hJ31 : ∀ (h6 : zHp), (if (y3 &&& (o_Mesh_placedSet h4 b)) = 0 then h4 else (zup h4 b 2 ((h4 b 2) + 1))) = h6 → zV X Γ Q 44 [zO X b, zI (nI i7_2)] [] h6 g by
        refine zr_if_eq C 44 d_X1_settle_31 (by decide) (fun c31 => ?_) (fun c31 => ?_)
        · exact hJ31 h4 (((if_pos c31)))
        · refine zr_aload_n C d_X1_settle_34 rfl ?_
          refine zr_dup C d_X1_settle_35 rfl ?_
          refine gf_Mesh_2 C hb m103 d_X1_settle_36 ?_
          refine zr_iconst C (v := 1) d_X1_settle_39 (by decide) ?_
          refine zr_iadd C d_X1_settle_40 ?_
          refine pf_Mesh_2 C hb m103 d_X1_settle_41 ?_
          refine zr_h (fun h5 eh5 => ?_)
          exact hJ31 h5 (by subst eh5; exact ((if_neg c31)))
      intro h6 eh6
      refine zr_iinc C [zO X b, zI (nI (i7_2 + 1))] (v := (nI (i7_2 + 1))) d_X1_settle_44 rfl (zn_add rfl rfl) (Nat.le_of_ble_eq_true rfl) rfl rfl ?_
      refine zr_goto C 7 d_X1_settle_47 (by decide) ?_
      exact hk7_2 h6 (by subst eh6 eh4 ey3; exact ((if_neg (zbf c17))))
    · refine zr_iload_n C d_X1_settle_20 rfl ?_
      have hr7_2 := hx7_2 (((nI i7_2), s7_2)) (((if_pos c17)))
      have eR : o_Mesh_settle h b = ((nI i7_2), s7_2) := (by subst eh1; unfold o_Mesh_settle; exact ((congrArg (Sum.elim _ _) hr7_2)))
      subst hQ
      exact zTQ_Ih eR (zr_ireti C d_X1_settle_21)
  refine zr_iload_n C d_X1_settle_7 rfl ?_
  refine zr_bipush C (v := 40) d_X1_settle_8 (by decide) ?_
  refine zr_icmp_ge C 50 d_X1_settle_10 (by decide) (fun _ => ?_) (fun c => absurd (zge_yesN (B := 40) rfl (by omega) (by omega)) c)
  refine zr_aload_n C d_X1_settle_50 rfl ?_
  refine zr_callVi (As := []) (st := []) (c := b) C (c_Mesh_isQuiet X r7_2 g b hb (zfit_fr ((hI7_2 _ _ (by omega) (by omega) (by omega) (by omega) (by omega) (by omega) (by omega) (by omega) (by omega)).trans ((congrFun (congrFun eh1.symm _) _).trans (zup_fr (by omega)))) hf0)) k_Mesh_isQuiet m540 m415 m416 (by omega) (zC_Mesh hb X _ _) rfl rfl (by decide) rfl (Nat.le_of_ble_eq_true rfl) d_X1_settle_51 ?_
  suffices hJ54 : ∀ (y7 : Int32), (if (o_Mesh_isQuiet r7_2 b) = true then 40 else (-9)) = y7 → zV X Γ Q 64 [none, none] [.int y7] r7_2 g by
    refine zr_ifz_eq C 62 d_X1_settle_54 (by decide) (fun c54 => ?_) (fun c54 => ?_)
    · refine zr_bipush C (v := (-9)) d_X1_settle_62 (by decide) ?_
      refine zr_lv [none, none] (by simp [zle]) ?_
      exact hJ54 (-9) (((if_neg (zbf c54))))
    · refine zr_bipush C (v := 40) d_X1_settle_57 (by decide) ?_
      refine zr_goto C 64 d_X1_settle_59 (by decide) ?_
      refine zr_lv [none, none] (by simp [zle]) ?_
      exact hJ54 40 (((if_pos c54)))
  intro y7 ey7
  have eR : o_Mesh_settle h b = (y7, r7_2) := (by subst ey7 eh1; unfold o_Mesh_settle; exact ((congrArg (Sum.elim _ _) er7_2)))
  subst hQ
  exact zTQ_Ih eR (zr_ireti C d_X1_settle_64)
theorem d_X1_neighboursAt_0 : decode prog_3_method_40_code 0 = .ok (.iconst 0, 1) := by decide +kernel
theorem d_X1_neighboursAt_1 : decode prog_3_method_40_code 1 = .ok (.istore_n 3, 1) := by decide +kernel
theorem d_X1_neighboursAt_2 : decode prog_3_method_40_code 2 = .ok (.iconst 0, 1) := by decide +kernel
theorem d_X1_neighboursAt_3 : decode prog_3_method_40_code 3 = .ok (.istore 4, 2) := by decide +kernel
theorem d_X1_neighboursAt_5 : decode prog_3_method_40_code 5 = .ok (.iload 4, 2) := by decide +kernel
theorem d_X1_neighboursAt_7 : decode prog_3_method_40_code 7 = .ok (.aload_n 0, 1) := by decide +kernel
theorem d_X1_neighboursAt_8 : decode prog_3_method_40_code 8 = .ok (.getfield 45, 3) := by decide +kernel
theorem d_X1_neighboursAt_11 : decode prog_3_method_40_code 11 = .ok (.if_icmp .ge 44, 3) := by decide +kernel
theorem d_X1_neighboursAt_14 : decode prog_3_method_40_code 14 = .ok (.aload_n 0, 1) := by decide +kernel
theorem d_X1_neighboursAt_15 : decode prog_3_method_40_code 15 = .ok (.getfield 15, 3) := by decide +kernel
theorem d_X1_neighboursAt_18 : decode prog_3_method_40_code 18 = .ok (.iload_n 1, 1) := by decide +kernel
theorem d_X1_neighboursAt_19 : decode prog_3_method_40_code 19 = .ok (.iaload, 1) := by decide +kernel
theorem d_X1_neighboursAt_20 : decode prog_3_method_40_code 20 = .ok (.iload 4, 2) := by decide +kernel
theorem d_X1_neighboursAt_22 : decode prog_3_method_40_code 22 = .ok (.invokestatic 89, 3) := by decide +kernel
theorem d_X1_neighboursAt_25 : decode prog_3_method_40_code 25 = .ok (.ifCond .eq 24, 3) := by decide +kernel
theorem d_X1_neighboursAt_28 : decode prog_3_method_40_code 28 = .ok (.aload_n 0, 1) := by decide +kernel
theorem d_X1_neighboursAt_29 : decode prog_3_method_40_code 29 = .ok (.getfield 36, 3) := by decide +kernel
theorem d_X1_neighboursAt_32 : decode prog_3_method_40_code 32 = .ok (.iload 4, 2) := by decide +kernel
theorem d_X1_neighboursAt_34 : decode prog_3_method_40_code 34 = .ok (.iaload, 1) := by decide +kernel
theorem d_X1_neighboursAt_35 : decode prog_3_method_40_code 35 = .ok (.iload_n 2, 1) := by decide +kernel
theorem d_X1_neighboursAt_36 : decode prog_3_method_40_code 36 = .ok (.invokestatic 89, 3) := by decide +kernel
theorem d_X1_neighboursAt_39 : decode prog_3_method_40_code 39 = .ok (.ifCond .eq 10, 3) := by decide +kernel
theorem d_X1_neighboursAt_42 : decode prog_3_method_40_code 42 = .ok (.iload_n 3, 1) := by decide +kernel
theorem d_X1_neighboursAt_43 : decode prog_3_method_40_code 43 = .ok (.iconst 1, 1) := by decide +kernel
theorem d_X1_neighboursAt_44 : decode prog_3_method_40_code 44 = .ok (.iload 4, 2) := by decide +kernel
theorem d_X1_neighboursAt_46 : decode prog_3_method_40_code 46 = .ok (.ishl, 1) := by decide +kernel
theorem d_X1_neighboursAt_47 : decode prog_3_method_40_code 47 = .ok (.ior, 1) := by decide +kernel
theorem d_X1_neighboursAt_48 : decode prog_3_method_40_code 48 = .ok (.istore_n 3, 1) := by decide +kernel
theorem d_X1_neighboursAt_49 : decode prog_3_method_40_code 49 = .ok (.iinc 4 1, 3) := by decide +kernel
theorem d_X1_neighboursAt_52 : decode prog_3_method_40_code 52 = .ok (.goto (-47), 3) := by decide +kernel
theorem d_X1_neighboursAt_55 : decode prog_3_method_40_code 55 = .ok (.iload_n 3, 1) := by decide +kernel
theorem d_X1_neighboursAt_56 : decode prog_3_method_40_code 56 = .ok (.ireturn, 1) := by decide +kernel
abbrev M_Mesh_neighboursAt : zMT := (⟨"PeriodSlots$Mesh", "neighboursAt", "(II)I"⟩, prog_3_method_40_code, 5, (some .int))
theorem k_Mesh_neighboursAt : zcall M_Mesh_neighboursAt 2 := ⟨zU_in (i := 622) (by decide +kernel) rfl, m56, ⟨by decide, by decide, by decide +kernel⟩, by decide⟩
def o_Mesh_neighboursAt (h : zHp) (b : Nat) (v : Nat) (tick : Int32) : Int32 :=
  (zrep (fun (i5_1 : Nat) (s5_1 : Int32) => (if (o_Slots_has (h (b + 2) v) (nI i5_1)) = true then (if (o_Slots_has (h (b + 9) i5_1) tick) = true then (s5_1 ||| (zshl 1 (nI i5_1))) else s5_1) else s5_1)) 0 (zcn (h b 0)))
set_option maxHeartbeats 400000 in
set_option maxRecDepth 20000 in
theorem c_Mesh_neighboursAt (X : zXT) (h : zHp) (g : zLg) (b : Nat) (v : Nat) (tick : Int32) {x_v : Int32} (e_v : x_v = nI v) (hb : b = 3 ∨ b = 15 ∨ b = 27) (hf0 : zfit h b 0 8) (hl1 : v < 8) : zDi X M_Mesh_neighboursAt 1 [zR X b, .int x_v, .int tick] h g (zI (o_Mesh_neighboursAt h b v tick)) h g := by
  subst e_v
  have hf0_1 := hf0.1
  refine zDi_of "PeriodSlots$Mesh" prog_3_method_40_code 5 (some .int) rfl (by decide) [zO X b, zI (nI v), zI tick, none, none] rfl (fun _ q => q) (Nat.le_of_ble_eq_true rfl) ?_
  intro Γ Q C hQ
  refine zr_iconst C (v := 0) d_X1_neighboursAt_0 (by decide) ?_
  refine zr_istore_n C [zO X b, zI (nI v), zI tick, zI 0, none] d_X1_neighboursAt_1 (Nat.le_of_ble_eq_true rfl) rfl rfl ?_
  refine zr_iconst C (v := 0) d_X1_neighboursAt_2 (by decide) ?_
  refine zr_istore C [zO X b, zI (nI v), zI tick, zI 0, zI 0] d_X1_neighboursAt_3 (Nat.le_of_ble_eq_true rfl) rfl rfl ?_
  refine zfor (f := (fun (i5_1 : Nat) (s5_1 : Int32) => (if (o_Slots_has (h (b + 2) v) (nI i5_1)) = true then (if (o_Slots_has (h (b + 9) i5_1) tick) = true then (s5_1 ||| (zshl 1 (nI i5_1))) else s5_1) else s5_1))) (a := 0) (fun i5_1 s5_1 => zV X Γ Q 5 [zO X b, zI (nI v), zI tick, zI s5_1, zI (nI i5_1)] [] h g) (fun _ _ => True) (zcn (h b 0)) trivial (fun i5_1 s5_1 hi5_1 hI5_1 => ⟨trivial, fun hk5_1 => ?_⟩) (fun r5_1 er5_1 hI5_1 => ?_)
  · refine zr_iload C d_X1_neighboursAt_5 rfl ?_
    refine zr_aload_n C d_X1_neighboursAt_7 rfl ?_
    refine gf_Mesh_0 C hb m95 d_X1_neighboursAt_8 ?_
    refine zr_icmp_ge C 55 d_X1_neighboursAt_11 (by decide) (fun c => absurd c (zge_no rfl (by omega))) (fun _ => ?_)
    refine zr_aload_n C d_X1_neighboursAt_14 rfl ?_
    refine gf_Mesh_4 C hb m107 d_X1_neighboursAt_15 ?_
    refine zr_iload_n C d_X1_neighboursAt_18 rfl ?_
    refine zr_iald C (za_mesh_2 hb) (v) rfl (by omega) (by decide) d_X1_neighboursAt_19 ?_
    refine zr_iload C d_X1_neighboursAt_20 rfl ?_
    refine zr_callNi (As := [.int (h (b + 2) v), .int (nI i5_1)]) (st := []) C (c_Slots_has X h g (h (b + 2) v) (nI i5_1)) k_Slots_has (by simp [zNest]) m322 rfl (by decide) rfl (Nat.le_of_ble_eq_true rfl) d_X1_neighboursAt_22 ?_
    suffices hJ25 : ∀ (y2 : Int32), (if (o_Slots_has (h (b + 2) v) (nI i5_1)) = true then (if (o_Slots_has (h (b + 9) i5_1) tick) = true then (s5_1 ||| (zshl 1 (nI i5_1))) else s5_1) else s5_1) = y2 → zV X Γ Q 49 [zO X b, zI (nI v), zI tick, zI y2, zI (nI i5_1)] [] h g by
      refine zr_ifz_eq C 49 d_X1_neighboursAt_25 (by decide) (fun c25 => ?_) (fun c25 => ?_)
      · exact hJ25 s5_1 (((if_neg (zbf c25))))
      · refine zr_aload_n C d_X1_neighboursAt_28 rfl ?_
        refine gf_Mesh_11 C hb m124 d_X1_neighboursAt_29 ?_
        refine zr_iload C d_X1_neighboursAt_32 rfl ?_
        refine zr_iald C (za_mesh_9 hb) (i5_1) rfl (by omega) (by decide) d_X1_neighboursAt_34 ?_
        refine zr_iload_n C d_X1_neighboursAt_35 rfl ?_
        refine zr_callNi (As := [.int (h (b + 9) i5_1), .int tick]) (st := []) C (c_Slots_has X h g (h (b + 9) i5_1) tick) k_Slots_has (by simp [zNest]) m322 rfl (by decide) rfl (Nat.le_of_ble_eq_true rfl) d_X1_neighboursAt_36 ?_
        refine zr_ifz_eq C 49 d_X1_neighboursAt_39 (by decide) (fun c39 => ?_) (fun c39 => ?_)
        · exact hJ25 s5_1 (((if_pos c25).trans ((if_neg (zbf c39)))))
        · refine zr_iload_n C d_X1_neighboursAt_42 rfl ?_
          refine zr_iconst C (v := 1) d_X1_neighboursAt_43 (by decide) ?_
          refine zr_iload C d_X1_neighboursAt_44 rfl ?_
          refine zr_ishl C d_X1_neighboursAt_46 ?_
          refine zr_ior C d_X1_neighboursAt_47 ?_
          refine zr_istore_n C [zO X b, zI (nI v), zI tick, zI (s5_1 ||| (zshl 1 (nI i5_1))), zI (nI i5_1)] d_X1_neighboursAt_48 (Nat.le_of_ble_eq_true rfl) rfl rfl ?_
          exact hJ25 (s5_1 ||| (zshl 1 (nI i5_1))) (((if_pos c25).trans ((if_pos c39))))
    intro y2 ey2
    refine zr_iinc C [zO X b, zI (nI v), zI tick, zI y2, zI (nI (i5_1 + 1))] (v := (nI (i5_1 + 1))) d_X1_neighboursAt_49 rfl (zn_add rfl rfl) (Nat.le_of_ble_eq_true rfl) rfl rfl ?_
    refine zr_goto C 5 d_X1_neighboursAt_52 (by decide) ?_
    exact hk5_1 y2 (by subst ey2; exact rfl)
  refine zr_iload C d_X1_neighboursAt_5 rfl ?_
  refine zr_aload_n C d_X1_neighboursAt_7 rfl ?_
  refine gf_Mesh_0 C hb m95 d_X1_neighboursAt_8 ?_
  refine zr_icmp_ge C 55 d_X1_neighboursAt_11 (by decide) (fun _ => ?_) (fun c => absurd (zge_yes rfl (by omega) (by have := zcn_small (h b 0); omega)) c)
  refine zr_iload_n C d_X1_neighboursAt_55 rfl ?_
  have eR : o_Mesh_neighboursAt h b v tick = r5_1 := (by subst er5_1; unfold o_Mesh_neighboursAt; exact rfl)
  subst hQ
  rw [eR]
  exact zr_ireti C d_X1_neighboursAt_56
theorem d_X1_heardBy_0 : decode prog_3_method_41_code 0 = .ok (.aload_n 0, 1) := by decide +kernel
theorem d_X1_heardBy_1 : decode prog_3_method_41_code 1 = .ok (.iload_n 1, 1) := by decide +kernel
theorem d_X1_heardBy_2 : decode prog_3_method_41_code 2 = .ok (.iload_n 2, 1) := by decide +kernel
theorem d_X1_heardBy_3 : decode prog_3_method_41_code 3 = .ok (.invokevirtual 162, 3) := by decide +kernel
theorem d_X1_heardBy_6 : decode prog_3_method_41_code 6 = .ok (.istore_n 3, 1) := by decide +kernel
theorem d_X1_heardBy_7 : decode prog_3_method_41_code 7 = .ok (.aload_n 0, 1) := by decide +kernel
theorem d_X1_heardBy_8 : decode prog_3_method_41_code 8 = .ok (.getfield 36, 3) := by decide +kernel
theorem d_X1_heardBy_11 : decode prog_3_method_41_code 11 = .ok (.iload_n 1, 1) := by decide +kernel
theorem d_X1_heardBy_12 : decode prog_3_method_41_code 12 = .ok (.iaload, 1) := by decide +kernel
theorem d_X1_heardBy_13 : decode prog_3_method_41_code 13 = .ok (.iload_n 2, 1) := by decide +kernel
theorem d_X1_heardBy_14 : decode prog_3_method_41_code 14 = .ok (.invokestatic 89, 3) := by decide +kernel
theorem d_X1_heardBy_17 : decode prog_3_method_41_code 17 = .ok (.ifCond .ne 11, 3) := by decide +kernel
theorem d_X1_heardBy_20 : decode prog_3_method_41_code 20 = .ok (.iload_n 3, 1) := by decide +kernel
theorem d_X1_heardBy_21 : decode prog_3_method_41_code 21 = .ok (.invokestatic 76, 3) := by decide +kernel
theorem d_X1_heardBy_24 : decode prog_3_method_41_code 24 = .ok (.iconst 1, 1) := by decide +kernel
theorem d_X1_heardBy_25 : decode prog_3_method_41_code 25 = .ok (.if_icmp .eq 7, 3) := by decide +kernel
theorem d_X1_heardBy_28 : decode prog_3_method_41_code 28 = .ok (.iconst 0, 1) := by decide +kernel
theorem d_X1_heardBy_29 : decode prog_3_method_41_code 29 = .ok (.goto 4, 3) := by decide +kernel
theorem d_X1_heardBy_32 : decode prog_3_method_41_code 32 = .ok (.iload_n 3, 1) := by decide +kernel
theorem d_X1_heardBy_33 : decode prog_3_method_41_code 33 = .ok (.ireturn, 1) := by decide +kernel
abbrev M_Mesh_heardBy : zMT := (⟨"PeriodSlots$Mesh", "heardBy", "(II)I"⟩, prog_3_method_41_code, 4, (some .int))
theorem k_Mesh_heardBy : zcall M_Mesh_heardBy 2 := ⟨zU_in (i := 618) (by decide +kernel) rfl, m56, ⟨by decide, by decide, by decide +kernel⟩, by decide⟩
def o_Mesh_heardBy (h : zHp) (b : Nat) (v : Nat) (tick : Int32) : Int32 :=
  (if (o_Slots_has (h (b + 9) v) tick) = true then 0 else (if (o_Int_bitCount (o_Mesh_neighboursAt h b v tick)) = 1 then (o_Mesh_neighboursAt h b v tick) else 0))
set_option maxHeartbeats 400000 in
set_option maxRecDepth 20000 in
theorem c_Mesh_heardBy (X : zXT) (h : zHp) (g : zLg) (b : Nat) (v : Nat) (tick : Int32) {x_v : Int32} (e_v : x_v = nI v) (hb : b = 3 ∨ b = 15 ∨ b = 27) (hf0 : zfit h b 0 8) (hl1 : v < 8) : zDi X M_Mesh_heardBy 2 [zR X b, .int x_v, .int tick] h g (zI (o_Mesh_heardBy h b v tick)) h g := by
  subst e_v
  have hf0_1 := hf0.1
  refine zDi_of "PeriodSlots$Mesh" prog_3_method_41_code 4 (some .int) rfl (by decide) [zO X b, zI (nI v), zI tick, none] rfl (fun _ q => q) (Nat.le_of_ble_eq_true rfl) ?_
  intro Γ Q C hQ
  refine zr_aload_n C d_X1_heardBy_0 rfl ?_
  refine zr_iload_n C d_X1_heardBy_1 rfl ?_
  refine zr_iload_n C d_X1_heardBy_2 rfl ?_
  refine zr_callVi (As := [.int (nI v), .int tick]) (st := []) (c := b) C (c_Mesh_neighboursAt X h g b v tick rfl hb hf0 (by omega)) k_Mesh_neighboursAt m619 m620 m621 (by omega) (zC_Mesh hb X _ _) rfl rfl (by decide) rfl (Nat.le_of_ble_eq_true rfl) d_X1_heardBy_3 ?_
  refine zr_istore_n C [zO X b, zI (nI v), zI tick, zI (o_Mesh_neighboursAt h b v tick)] d_X1_heardBy_6 (Nat.le_of_ble_eq_true rfl) rfl rfl ?_
  refine zr_aload_n C d_X1_heardBy_7 rfl ?_
  refine gf_Mesh_11 C hb m124 d_X1_heardBy_8 ?_
  refine zr_iload_n C d_X1_heardBy_11 rfl ?_
  refine zr_iald C (za_mesh_9 hb) (v) rfl (by omega) (by decide) d_X1_heardBy_12 ?_
  refine zr_iload_n C d_X1_heardBy_13 rfl ?_
  refine zr_callNi (As := [.int (h (b + 9) v), .int tick]) (st := []) C (c_Slots_has X h g (h (b + 9) v) tick) k_Slots_has (by simp [zNest]) m322 rfl (by decide) rfl (Nat.le_of_ble_eq_true rfl) d_X1_heardBy_14 ?_
  suffices hJ17 : ∀ (y1 : Int32), (if (o_Slots_has (h (b + 9) v) tick) = true then 0 else (if (o_Int_bitCount (o_Mesh_neighboursAt h b v tick)) = 1 then (o_Mesh_neighboursAt h b v tick) else 0)) = y1 → zV X Γ Q 33 [none, none, none, none] [.int y1] h g by
    refine zr_ifz_ne C 28 d_X1_heardBy_17 (by decide) (fun c17 => ?_) (fun c17 => ?_)
    · refine zr_iconst C (v := 0) d_X1_heardBy_28 (by decide) ?_
      refine zr_goto C 33 d_X1_heardBy_29 (by decide) ?_
      refine zr_lv [none, none, none, none] (by simp [zle]) ?_
      exact hJ17 0 (((if_pos c17)))
    · refine zr_iload_n C d_X1_heardBy_20 rfl ?_
      refine zr_callSi (As := [.int (o_Mesh_neighboursAt h b v tick)]) (st := []) C (c_Int_bitCount X h g (o_Mesh_neighboursAt h b v tick)) k_Int_bitCount m348 m349 rfl (by decide) rfl (Nat.le_of_ble_eq_true rfl) d_X1_heardBy_21 ?_
      refine zr_iconst C (v := 1) d_X1_heardBy_24 (by decide) ?_
      refine zr_icmp_eq C 32 d_X1_heardBy_25 (by decide) (fun c25 => ?_) (fun c25 => ?_)
      · refine zr_iload_n C d_X1_heardBy_32 rfl ?_
        refine zr_lv [none, none, none, none] (by simp [zle]) ?_
        exact hJ17 (o_Mesh_neighboursAt h b v tick) (((if_neg (zbf c17)).trans ((if_pos c25))))
      · refine zr_iconst C (v := 0) d_X1_heardBy_28 (by decide) ?_
        refine zr_goto C 33 d_X1_heardBy_29 (by decide) ?_
        refine zr_lv [none, none, none, none] (by simp [zle]) ?_
        exact hJ17 0 (((if_neg (zbf c17)).trans ((if_neg c25))))
  intro y1 ey1
  have eR : o_Mesh_heardBy h b v tick = y1 := (by subst ey1; unfold o_Mesh_heardBy; exact rfl)
  subst hQ
  rw [eR]
  exact zr_ireti C d_X1_heardBy_33
theorem d_X1_hearersOf_0 : decode prog_3_method_42_code 0 = .ok (.iconst 0, 1) := by decide +kernel
theorem d_X1_hearersOf_1 : decode prog_3_method_42_code 1 = .ok (.istore_n 3, 1) := by decide +kernel
theorem d_X1_hearersOf_2 : decode prog_3_method_42_code 2 = .ok (.iconst 0, 1) := by decide +kernel
theorem d_X1_hearersOf_3 : decode prog_3_method_42_code 3 = .ok (.istore 4, 2) := by decide +kernel
theorem d_X1_hearersOf_5 : decode prog_3_method_42_code 5 = .ok (.iload 4, 2) := by decide +kernel
theorem d_X1_hearersOf_7 : decode prog_3_method_42_code 7 = .ok (.aload_n 0, 1) := by decide +kernel
theorem d_X1_hearersOf_8 : decode prog_3_method_42_code 8 = .ok (.getfield 45, 3) := by decide +kernel
theorem d_X1_hearersOf_11 : decode prog_3_method_42_code 11 = .ok (.if_icmp .ge 28, 3) := by decide +kernel
theorem d_X1_hearersOf_14 : decode prog_3_method_42_code 14 = .ok (.aload_n 0, 1) := by decide +kernel
theorem d_X1_hearersOf_15 : decode prog_3_method_42_code 15 = .ok (.iload 4, 2) := by decide +kernel
theorem d_X1_hearersOf_17 : decode prog_3_method_42_code 17 = .ok (.iload_n 2, 1) := by decide +kernel
theorem d_X1_hearersOf_18 : decode prog_3_method_42_code 18 = .ok (.invokevirtual 165, 3) := by decide +kernel
theorem d_X1_hearersOf_21 : decode prog_3_method_42_code 21 = .ok (.iload_n 1, 1) := by decide +kernel
theorem d_X1_hearersOf_22 : decode prog_3_method_42_code 22 = .ok (.iand, 1) := by decide +kernel
theorem d_X1_hearersOf_23 : decode prog_3_method_42_code 23 = .ok (.ifCond .eq 10, 3) := by decide +kernel
theorem d_X1_hearersOf_26 : decode prog_3_method_42_code 26 = .ok (.iload_n 3, 1) := by decide +kernel
theorem d_X1_hearersOf_27 : decode prog_3_method_42_code 27 = .ok (.iconst 1, 1) := by decide +kernel
theorem d_X1_hearersOf_28 : decode prog_3_method_42_code 28 = .ok (.iload 4, 2) := by decide +kernel
theorem d_X1_hearersOf_30 : decode prog_3_method_42_code 30 = .ok (.ishl, 1) := by decide +kernel
theorem d_X1_hearersOf_31 : decode prog_3_method_42_code 31 = .ok (.ior, 1) := by decide +kernel
theorem d_X1_hearersOf_32 : decode prog_3_method_42_code 32 = .ok (.istore_n 3, 1) := by decide +kernel
theorem d_X1_hearersOf_33 : decode prog_3_method_42_code 33 = .ok (.iinc 4 1, 3) := by decide +kernel
theorem d_X1_hearersOf_36 : decode prog_3_method_42_code 36 = .ok (.goto (-31), 3) := by decide +kernel
theorem d_X1_hearersOf_39 : decode prog_3_method_42_code 39 = .ok (.iload_n 3, 1) := by decide +kernel
theorem d_X1_hearersOf_40 : decode prog_3_method_42_code 40 = .ok (.ireturn, 1) := by decide +kernel
abbrev M_Mesh_hearersOf : zMT := (⟨"PeriodSlots$Mesh", "hearersOf", "(II)I"⟩, prog_3_method_42_code, 5, (some .int))
theorem k_Mesh_hearersOf : zcall M_Mesh_hearersOf 2 := ⟨zU_in (i := 630) (by decide +kernel) rfl, m56, ⟨by decide, by decide, by decide +kernel⟩, by decide⟩
def o_Mesh_hearersOf (h : zHp) (b : Nat) (senders : Int32) (tick : Int32) : Int32 :=
  (zrep (fun (i5_1 : Nat) (s5_1 : Int32) => (if ((o_Mesh_heardBy h b i5_1 tick) &&& senders) = 0 then s5_1 else (s5_1 ||| (zshl 1 (nI i5_1))))) 0 (zcn (h b 0)))
set_option maxHeartbeats 400000 in
set_option maxRecDepth 20000 in
theorem c_Mesh_hearersOf (X : zXT) (h : zHp) (g : zLg) (b : Nat) (senders : Int32) (tick : Int32) (hb : b = 3 ∨ b = 15 ∨ b = 27) (hf0 : zfit h b 0 8) : zDi X M_Mesh_hearersOf 3 [zR X b, .int senders, .int tick] h g (zI (o_Mesh_hearersOf h b senders tick)) h g := by
  have hf0_1 := hf0.1
  refine zDi_of "PeriodSlots$Mesh" prog_3_method_42_code 5 (some .int) rfl (by decide) [zO X b, zI senders, zI tick, none, none] rfl (fun _ q => q) (Nat.le_of_ble_eq_true rfl) ?_
  intro Γ Q C hQ
  refine zr_iconst C (v := 0) d_X1_hearersOf_0 (by decide) ?_
  refine zr_istore_n C [zO X b, zI senders, zI tick, zI 0, none] d_X1_hearersOf_1 (Nat.le_of_ble_eq_true rfl) rfl rfl ?_
  refine zr_iconst C (v := 0) d_X1_hearersOf_2 (by decide) ?_
  refine zr_istore C [zO X b, zI senders, zI tick, zI 0, zI 0] d_X1_hearersOf_3 (Nat.le_of_ble_eq_true rfl) rfl rfl ?_
  refine zfor (f := (fun (i5_1 : Nat) (s5_1 : Int32) => (if ((o_Mesh_heardBy h b i5_1 tick) &&& senders) = 0 then s5_1 else (s5_1 ||| (zshl 1 (nI i5_1)))))) (a := 0) (fun i5_1 s5_1 => zV X Γ Q 5 [zO X b, zI senders, zI tick, zI s5_1, zI (nI i5_1)] [] h g) (fun _ _ => True) (zcn (h b 0)) trivial (fun i5_1 s5_1 hi5_1 hI5_1 => ⟨trivial, fun hk5_1 => ?_⟩) (fun r5_1 er5_1 hI5_1 => ?_)
  · refine zr_iload C d_X1_hearersOf_5 rfl ?_
    refine zr_aload_n C d_X1_hearersOf_7 rfl ?_
    refine gf_Mesh_0 C hb m95 d_X1_hearersOf_8 ?_
    refine zr_icmp_ge C 39 d_X1_hearersOf_11 (by decide) (fun c => absurd c (zge_no rfl (by omega))) (fun _ => ?_)
    refine zr_aload_n C d_X1_hearersOf_14 rfl ?_
    refine zr_iload C d_X1_hearersOf_15 rfl ?_
    refine zr_iload_n C d_X1_hearersOf_17 rfl ?_
    refine zr_callVi (As := [.int (nI i5_1), .int tick]) (st := []) (c := b) C (c_Mesh_heardBy X h g b i5_1 tick rfl hb hf0 (by omega)) k_Mesh_heardBy m615 m617 m11 (by omega) (zC_Mesh hb X _ _) rfl rfl (by decide) rfl (Nat.le_of_ble_eq_true rfl) d_X1_hearersOf_18 ?_
    refine zr_iload_n C d_X1_hearersOf_21 rfl ?_
    refine zr_iand C d_X1_hearersOf_22 ?_
    suffices hJ23 : ∀ (y2 : Int32), (if ((o_Mesh_heardBy h b i5_1 tick) &&& senders) = 0 then s5_1 else (s5_1 ||| (zshl 1 (nI i5_1)))) = y2 → zV X Γ Q 33 [zO X b, zI senders, zI tick, zI y2, zI (nI i5_1)] [] h g by
      refine zr_if_eq C 33 d_X1_hearersOf_23 (by decide) (fun c23 => ?_) (fun c23 => ?_)
      · exact hJ23 s5_1 (((if_pos c23)))
      · refine zr_iload_n C d_X1_hearersOf_26 rfl ?_
        refine zr_iconst C (v := 1) d_X1_hearersOf_27 (by decide) ?_
        refine zr_iload C d_X1_hearersOf_28 rfl ?_
        refine zr_ishl C d_X1_hearersOf_30 ?_
        refine zr_ior C d_X1_hearersOf_31 ?_
        refine zr_istore_n C [zO X b, zI senders, zI tick, zI (s5_1 ||| (zshl 1 (nI i5_1))), zI (nI i5_1)] d_X1_hearersOf_32 (Nat.le_of_ble_eq_true rfl) rfl rfl ?_
        exact hJ23 (s5_1 ||| (zshl 1 (nI i5_1))) (((if_neg c23)))
    intro y2 ey2
    refine zr_iinc C [zO X b, zI senders, zI tick, zI y2, zI (nI (i5_1 + 1))] (v := (nI (i5_1 + 1))) d_X1_hearersOf_33 rfl (zn_add rfl rfl) (Nat.le_of_ble_eq_true rfl) rfl rfl ?_
    refine zr_goto C 5 d_X1_hearersOf_36 (by decide) ?_
    exact hk5_1 y2 (by subst ey2; exact rfl)
  refine zr_iload C d_X1_hearersOf_5 rfl ?_
  refine zr_aload_n C d_X1_hearersOf_7 rfl ?_
  refine gf_Mesh_0 C hb m95 d_X1_hearersOf_8 ?_
  refine zr_icmp_ge C 39 d_X1_hearersOf_11 (by decide) (fun _ => ?_) (fun c => absurd (zge_yes rfl (by omega) (by have := zcn_small (h b 0); omega)) c)
  refine zr_iload_n C d_X1_hearersOf_39 rfl ?_
  have eR : o_Mesh_hearersOf h b senders tick = r5_1 := (by subst er5_1; unfold o_Mesh_hearersOf; exact rfl)
  subst hQ
  rw [eR]
  exact zr_ireti C d_X1_hearersOf_40
theorem d_X1_hearingTicks_0 : decode prog_3_method_43_code 0 = .ok (.iconst 0, 1) := by decide +kernel
theorem d_X1_hearingTicks_1 : decode prog_3_method_43_code 1 = .ok (.istore_n 2, 1) := by decide +kernel
theorem d_X1_hearingTicks_2 : decode prog_3_method_43_code 2 = .ok (.iconst 0, 1) := by decide +kernel
theorem d_X1_hearingTicks_3 : decode prog_3_method_43_code 3 = .ok (.istore_n 3, 1) := by decide +kernel
theorem d_X1_hearingTicks_4 : decode prog_3_method_43_code 4 = .ok (.iload_n 3, 1) := by decide +kernel
theorem d_X1_hearingTicks_5 : decode prog_3_method_43_code 5 = .ok (.bipush 8, 2) := by decide +kernel
theorem d_X1_hearingTicks_7 : decode prog_3_method_43_code 7 = .ok (.if_icmp .ge 24, 3) := by decide +kernel
theorem d_X1_hearingTicks_10 : decode prog_3_method_43_code 10 = .ok (.aload_n 0, 1) := by decide +kernel
theorem d_X1_hearingTicks_11 : decode prog_3_method_43_code 11 = .ok (.iload_n 1, 1) := by decide +kernel
theorem d_X1_hearingTicks_12 : decode prog_3_method_43_code 12 = .ok (.iload_n 3, 1) := by decide +kernel
theorem d_X1_hearingTicks_13 : decode prog_3_method_43_code 13 = .ok (.invokevirtual 165, 3) := by decide +kernel
theorem d_X1_hearingTicks_16 : decode prog_3_method_43_code 16 = .ok (.ifCond .eq 9, 3) := by decide +kernel
theorem d_X1_hearingTicks_19 : decode prog_3_method_43_code 19 = .ok (.iload_n 2, 1) := by decide +kernel
theorem d_X1_hearingTicks_20 : decode prog_3_method_43_code 20 = .ok (.iconst 1, 1) := by decide +kernel
theorem d_X1_hearingTicks_21 : decode prog_3_method_43_code 21 = .ok (.iload_n 3, 1) := by decide +kernel
theorem d_X1_hearingTicks_22 : decode prog_3_method_43_code 22 = .ok (.ishl, 1) := by decide +kernel
theorem d_X1_hearingTicks_23 : decode prog_3_method_43_code 23 = .ok (.ior, 1) := by decide +kernel
theorem d_X1_hearingTicks_24 : decode prog_3_method_43_code 24 = .ok (.istore_n 2, 1) := by decide +kernel
theorem d_X1_hearingTicks_25 : decode prog_3_method_43_code 25 = .ok (.iinc 3 1, 3) := by decide +kernel
theorem d_X1_hearingTicks_28 : decode prog_3_method_43_code 28 = .ok (.goto (-24), 3) := by decide +kernel
theorem d_X1_hearingTicks_31 : decode prog_3_method_43_code 31 = .ok (.iload_n 2, 1) := by decide +kernel
theorem d_X1_hearingTicks_32 : decode prog_3_method_43_code 32 = .ok (.ireturn, 1) := by decide +kernel
abbrev M_Mesh_hearingTicks : zMT := (⟨"PeriodSlots$Mesh", "hearingTicks", "(I)I"⟩, prog_3_method_43_code, 4, (some .int))
theorem k_Mesh_hearingTicks : zcall M_Mesh_hearingTicks 1 := ⟨zU_in (i := 614) (by decide +kernel) rfl, m56, ⟨by decide, by decide, by decide +kernel⟩, by decide⟩
def o_Mesh_hearingTicks (h : zHp) (b : Nat) (v : Nat) : Int32 :=
  (zrep (fun (i4_1 : Nat) (s4_1 : Int32) => (if (o_Mesh_heardBy h b v (nI i4_1)) = 0 then s4_1 else (s4_1 ||| (zshl 1 (nI i4_1))))) 0 8)
set_option maxHeartbeats 400000 in
set_option maxRecDepth 20000 in
theorem c_Mesh_hearingTicks (X : zXT) (h : zHp) (g : zLg) (b : Nat) (v : Nat) {x_v : Int32} (e_v : x_v = nI v) (hb : b = 3 ∨ b = 15 ∨ b = 27) (hf0 : zfit h b 0 8) (hl1 : v < 8) : zDi X M_Mesh_hearingTicks 3 [zR X b, .int x_v] h g (zI (o_Mesh_hearingTicks h b v)) h g := by
  subst e_v
  have hf0_1 := hf0.1
  refine zDi_of "PeriodSlots$Mesh" prog_3_method_43_code 4 (some .int) rfl (by decide) [zO X b, zI (nI v), none, none] rfl (fun _ q => q) (Nat.le_of_ble_eq_true rfl) ?_
  intro Γ Q C hQ
  refine zr_iconst C (v := 0) d_X1_hearingTicks_0 (by decide) ?_
  refine zr_istore_n C [zO X b, zI (nI v), zI 0, none] d_X1_hearingTicks_1 (Nat.le_of_ble_eq_true rfl) rfl rfl ?_
  refine zr_iconst C (v := 0) d_X1_hearingTicks_2 (by decide) ?_
  refine zr_istore_n C [zO X b, zI (nI v), zI 0, zI 0] d_X1_hearingTicks_3 (Nat.le_of_ble_eq_true rfl) rfl rfl ?_
  refine zfor (f := (fun (i4_1 : Nat) (s4_1 : Int32) => (if (o_Mesh_heardBy h b v (nI i4_1)) = 0 then s4_1 else (s4_1 ||| (zshl 1 (nI i4_1)))))) (a := 0) (fun i4_1 s4_1 => zV X Γ Q 4 [zO X b, zI (nI v), zI s4_1, zI (nI i4_1)] [] h g) (fun _ _ => True) (8) trivial (fun i4_1 s4_1 hi4_1 hI4_1 => ⟨trivial, fun hk4_1 => ?_⟩) (fun r4_1 er4_1 hI4_1 => ?_)
  · refine zr_iload_n C d_X1_hearingTicks_4 rfl ?_
    refine zr_bipush C (v := 8) d_X1_hearingTicks_5 (by decide) ?_
    refine zr_icmp_ge C 31 d_X1_hearingTicks_7 (by decide) (fun c => absurd c (zge_noN (B := 8) rfl (by omega) (by omega))) (fun _ => ?_)
    refine zr_aload_n C d_X1_hearingTicks_10 rfl ?_
    refine zr_iload_n C d_X1_hearingTicks_11 rfl ?_
    refine zr_iload_n C d_X1_hearingTicks_12 rfl ?_
    refine zr_callVi (As := [.int (nI v), .int (nI i4_1)]) (st := []) (c := b) C (c_Mesh_heardBy X h g b v (nI i4_1) rfl hb hf0 (by omega)) k_Mesh_heardBy m615 m617 m11 (by omega) (zC_Mesh hb X _ _) rfl rfl (by decide) rfl (Nat.le_of_ble_eq_true rfl) d_X1_hearingTicks_13 ?_
    suffices hJ16 : ∀ (y2 : Int32), (if (o_Mesh_heardBy h b v (nI i4_1)) = 0 then s4_1 else (s4_1 ||| (zshl 1 (nI i4_1)))) = y2 → zV X Γ Q 25 [zO X b, zI (nI v), zI y2, zI (nI i4_1)] [] h g by
      refine zr_if_eq C 25 d_X1_hearingTicks_16 (by decide) (fun c16 => ?_) (fun c16 => ?_)
      · exact hJ16 s4_1 (((if_pos c16)))
      · refine zr_iload_n C d_X1_hearingTicks_19 rfl ?_
        refine zr_iconst C (v := 1) d_X1_hearingTicks_20 (by decide) ?_
        refine zr_iload_n C d_X1_hearingTicks_21 rfl ?_
        refine zr_ishl C d_X1_hearingTicks_22 ?_
        refine zr_ior C d_X1_hearingTicks_23 ?_
        refine zr_istore_n C [zO X b, zI (nI v), zI (s4_1 ||| (zshl 1 (nI i4_1))), zI (nI i4_1)] d_X1_hearingTicks_24 (Nat.le_of_ble_eq_true rfl) rfl rfl ?_
        exact hJ16 (s4_1 ||| (zshl 1 (nI i4_1))) (((if_neg c16)))
    intro y2 ey2
    refine zr_iinc C [zO X b, zI (nI v), zI y2, zI (nI (i4_1 + 1))] (v := (nI (i4_1 + 1))) d_X1_hearingTicks_25 rfl (zn_add rfl rfl) (Nat.le_of_ble_eq_true rfl) rfl rfl ?_
    refine zr_goto C 4 d_X1_hearingTicks_28 (by decide) ?_
    exact hk4_1 y2 (by subst ey2; exact rfl)
  refine zr_iload_n C d_X1_hearingTicks_4 rfl ?_
  refine zr_bipush C (v := 8) d_X1_hearingTicks_5 (by decide) ?_
  refine zr_icmp_ge C 31 d_X1_hearingTicks_7 (by decide) (fun _ => ?_) (fun c => absurd (zge_yesN (B := 8) rfl (by omega) (by omega)) c)
  refine zr_iload_n C d_X1_hearingTicks_31 rfl ?_
  have eR : o_Mesh_hearingTicks h b v = r4_1 := (by subst er4_1; unfold o_Mesh_hearingTicks; exact rfl)
  subst hQ
  rw [eR]
  exact zr_ireti C d_X1_hearingTicks_32
theorem d_X1_awakeTicks_0 : decode prog_3_method_44_code 0 = .ok (.aload_n 0, 1) := by decide +kernel
theorem d_X1_awakeTicks_1 : decode prog_3_method_44_code 1 = .ok (.getfield 36, 3) := by decide +kernel
theorem d_X1_awakeTicks_4 : decode prog_3_method_44_code 4 = .ok (.iload_n 1, 1) := by decide +kernel
theorem d_X1_awakeTicks_5 : decode prog_3_method_44_code 5 = .ok (.iaload, 1) := by decide +kernel
theorem d_X1_awakeTicks_6 : decode prog_3_method_44_code 6 = .ok (.istore_n 2, 1) := by decide +kernel
theorem d_X1_awakeTicks_7 : decode prog_3_method_44_code 7 = .ok (.iconst 0, 1) := by decide +kernel
theorem d_X1_awakeTicks_8 : decode prog_3_method_44_code 8 = .ok (.istore_n 3, 1) := by decide +kernel
theorem d_X1_awakeTicks_9 : decode prog_3_method_44_code 9 = .ok (.iload_n 3, 1) := by decide +kernel
theorem d_X1_awakeTicks_10 : decode prog_3_method_44_code 10 = .ok (.aload_n 0, 1) := by decide +kernel
theorem d_X1_awakeTicks_11 : decode prog_3_method_44_code 11 = .ok (.getfield 45, 3) := by decide +kernel
theorem d_X1_awakeTicks_14 : decode prog_3_method_44_code 14 = .ok (.if_icmp .ge 31, 3) := by decide +kernel
theorem d_X1_awakeTicks_17 : decode prog_3_method_44_code 17 = .ok (.aload_n 0, 1) := by decide +kernel
theorem d_X1_awakeTicks_18 : decode prog_3_method_44_code 18 = .ok (.getfield 15, 3) := by decide +kernel
theorem d_X1_awakeTicks_21 : decode prog_3_method_44_code 21 = .ok (.iload_n 1, 1) := by decide +kernel
theorem d_X1_awakeTicks_22 : decode prog_3_method_44_code 22 = .ok (.iaload, 1) := by decide +kernel
theorem d_X1_awakeTicks_23 : decode prog_3_method_44_code 23 = .ok (.iload_n 3, 1) := by decide +kernel
theorem d_X1_awakeTicks_24 : decode prog_3_method_44_code 24 = .ok (.invokestatic 89, 3) := by decide +kernel
theorem d_X1_awakeTicks_27 : decode prog_3_method_44_code 27 = .ok (.ifCond .eq 12, 3) := by decide +kernel
theorem d_X1_awakeTicks_30 : decode prog_3_method_44_code 30 = .ok (.iload_n 2, 1) := by decide +kernel
theorem d_X1_awakeTicks_31 : decode prog_3_method_44_code 31 = .ok (.aload_n 0, 1) := by decide +kernel
theorem d_X1_awakeTicks_32 : decode prog_3_method_44_code 32 = .ok (.getfield 36, 3) := by decide +kernel
theorem d_X1_awakeTicks_35 : decode prog_3_method_44_code 35 = .ok (.iload_n 3, 1) := by decide +kernel
theorem d_X1_awakeTicks_36 : decode prog_3_method_44_code 36 = .ok (.iaload, 1) := by decide +kernel
theorem d_X1_awakeTicks_37 : decode prog_3_method_44_code 37 = .ok (.ior, 1) := by decide +kernel
theorem d_X1_awakeTicks_38 : decode prog_3_method_44_code 38 = .ok (.istore_n 2, 1) := by decide +kernel
theorem d_X1_awakeTicks_39 : decode prog_3_method_44_code 39 = .ok (.iinc 3 1, 3) := by decide +kernel
theorem d_X1_awakeTicks_42 : decode prog_3_method_44_code 42 = .ok (.goto (-33), 3) := by decide +kernel
theorem d_X1_awakeTicks_45 : decode prog_3_method_44_code 45 = .ok (.iload_n 2, 1) := by decide +kernel
theorem d_X1_awakeTicks_46 : decode prog_3_method_44_code 46 = .ok (.ireturn, 1) := by decide +kernel
abbrev M_Mesh_awakeTicks : zMT := (⟨"PeriodSlots$Mesh", "awakeTicks", "(I)I"⟩, prog_3_method_44_code, 4, (some .int))
theorem k_Mesh_awakeTicks : zcall M_Mesh_awakeTicks 1 := ⟨zU_in (i := 607) (by decide +kernel) rfl, m56, ⟨by decide, by decide, by decide +kernel⟩, by decide⟩
def o_Mesh_awakeTicks (h : zHp) (b : Nat) (v : Nat) : Int32 :=
  (zrep (fun (i9_1 : Nat) (s9_1 : Int32) => (if (o_Slots_has (h (b + 2) v) (nI i9_1)) = true then (s9_1 ||| (h (b + 9) i9_1)) else s9_1)) (h (b + 9) v) (zcn (h b 0)))
set_option maxHeartbeats 400000 in
set_option maxRecDepth 20000 in
theorem c_Mesh_awakeTicks (X : zXT) (h : zHp) (g : zLg) (b : Nat) (v : Nat) {x_v : Int32} (e_v : x_v = nI v) (hb : b = 3 ∨ b = 15 ∨ b = 27) (hf0 : zfit h b 0 8) (hl1 : v < 8) : zDi X M_Mesh_awakeTicks 1 [zR X b, .int x_v] h g (zI (o_Mesh_awakeTicks h b v)) h g := by
  subst e_v
  have hf0_1 := hf0.1
  refine zDi_of "PeriodSlots$Mesh" prog_3_method_44_code 4 (some .int) rfl (by decide) [zO X b, zI (nI v), none, none] rfl (fun _ q => q) (Nat.le_of_ble_eq_true rfl) ?_
  intro Γ Q C hQ
  refine zr_aload_n C d_X1_awakeTicks_0 rfl ?_
  refine gf_Mesh_11 C hb m124 d_X1_awakeTicks_1 ?_
  refine zr_iload_n C d_X1_awakeTicks_4 rfl ?_
  refine zr_iald C (za_mesh_9 hb) (v) rfl (by omega) (by decide) d_X1_awakeTicks_5 ?_
  refine zr_istore_n C [zO X b, zI (nI v), zI (h (b + 9) v), none] d_X1_awakeTicks_6 (Nat.le_of_ble_eq_true rfl) rfl rfl ?_
  refine zr_iconst C (v := 0) d_X1_awakeTicks_7 (by decide) ?_
  refine zr_istore_n C [zO X b, zI (nI v), zI (h (b + 9) v), zI 0] d_X1_awakeTicks_8 (Nat.le_of_ble_eq_true rfl) rfl rfl ?_
  refine zfor (f := (fun (i9_1 : Nat) (s9_1 : Int32) => (if (o_Slots_has (h (b + 2) v) (nI i9_1)) = true then (s9_1 ||| (h (b + 9) i9_1)) else s9_1))) (a := (h (b + 9) v)) (fun i9_1 s9_1 => zV X Γ Q 9 [zO X b, zI (nI v), zI s9_1, zI (nI i9_1)] [] h g) (fun _ _ => True) (zcn (h b 0)) trivial (fun i9_1 s9_1 hi9_1 hI9_1 => ⟨trivial, fun hk9_1 => ?_⟩) (fun r9_1 er9_1 hI9_1 => ?_)
  · refine zr_iload_n C d_X1_awakeTicks_9 rfl ?_
    refine zr_aload_n C d_X1_awakeTicks_10 rfl ?_
    refine gf_Mesh_0 C hb m95 d_X1_awakeTicks_11 ?_
    refine zr_icmp_ge C 45 d_X1_awakeTicks_14 (by decide) (fun c => absurd c (zge_no rfl (by omega))) (fun _ => ?_)
    refine zr_aload_n C d_X1_awakeTicks_17 rfl ?_
    refine gf_Mesh_4 C hb m107 d_X1_awakeTicks_18 ?_
    refine zr_iload_n C d_X1_awakeTicks_21 rfl ?_
    refine zr_iald C (za_mesh_2 hb) (v) rfl (by omega) (by decide) d_X1_awakeTicks_22 ?_
    refine zr_iload_n C d_X1_awakeTicks_23 rfl ?_
    refine zr_callNi (As := [.int (h (b + 2) v), .int (nI i9_1)]) (st := []) C (c_Slots_has X h g (h (b + 2) v) (nI i9_1)) k_Slots_has (by simp [zNest]) m322 rfl (by decide) rfl (Nat.le_of_ble_eq_true rfl) d_X1_awakeTicks_24 ?_
    suffices hJ27 : ∀ (y2 : Int32), (if (o_Slots_has (h (b + 2) v) (nI i9_1)) = true then (s9_1 ||| (h (b + 9) i9_1)) else s9_1) = y2 → zV X Γ Q 39 [zO X b, zI (nI v), zI y2, zI (nI i9_1)] [] h g by
      refine zr_ifz_eq C 39 d_X1_awakeTicks_27 (by decide) (fun c27 => ?_) (fun c27 => ?_)
      · exact hJ27 s9_1 (((if_neg (zbf c27))))
      · refine zr_iload_n C d_X1_awakeTicks_30 rfl ?_
        refine zr_aload_n C d_X1_awakeTicks_31 rfl ?_
        refine gf_Mesh_11 C hb m124 d_X1_awakeTicks_32 ?_
        refine zr_iload_n C d_X1_awakeTicks_35 rfl ?_
        refine zr_iald C (za_mesh_9 hb) (i9_1) rfl (by omega) (by decide) d_X1_awakeTicks_36 ?_
        refine zr_ior C d_X1_awakeTicks_37 ?_
        refine zr_istore_n C [zO X b, zI (nI v), zI (s9_1 ||| (h (b + 9) i9_1)), zI (nI i9_1)] d_X1_awakeTicks_38 (Nat.le_of_ble_eq_true rfl) rfl rfl ?_
        exact hJ27 (s9_1 ||| (h (b + 9) i9_1)) (((if_pos c27)))
    intro y2 ey2
    refine zr_iinc C [zO X b, zI (nI v), zI y2, zI (nI (i9_1 + 1))] (v := (nI (i9_1 + 1))) d_X1_awakeTicks_39 rfl (zn_add rfl rfl) (Nat.le_of_ble_eq_true rfl) rfl rfl ?_
    refine zr_goto C 9 d_X1_awakeTicks_42 (by decide) ?_
    exact hk9_1 y2 (by subst ey2; exact rfl)
  refine zr_iload_n C d_X1_awakeTicks_9 rfl ?_
  refine zr_aload_n C d_X1_awakeTicks_10 rfl ?_
  refine gf_Mesh_0 C hb m95 d_X1_awakeTicks_11 ?_
  refine zr_icmp_ge C 45 d_X1_awakeTicks_14 (by decide) (fun _ => ?_) (fun c => absurd (zge_yes rfl (by omega) (by have := zcn_small (h b 0); omega)) c)
  refine zr_iload_n C d_X1_awakeTicks_45 rfl ?_
  have eR : o_Mesh_awakeTicks h b v = r9_1 := (by subst er9_1; unfold o_Mesh_awakeTicks; exact rfl)
  subst hQ
  rw [eR]
  exact zr_ireti C d_X1_awakeTicks_46
end
section
/-! Walks of methods, by program (wip/whole/gen). -/
theorem d_X5_append_0 : decode prog_7_method_2_code 0 = .ok (.aload_n 0, 1) := by decide +kernel
theorem d_X5_append_1 : decode prog_7_method_2_code 1 = .ok (.getfield 15, 3) := by decide +kernel
theorem d_X5_append_4 : decode prog_7_method_2_code 4 = .ok (.aload_n 0, 1) := by decide +kernel
theorem d_X5_append_5 : decode prog_7_method_2_code 5 = .ok (.getfield 9, 3) := by decide +kernel
theorem d_X5_append_8 : decode prog_7_method_2_code 8 = .ok (.arraylength, 1) := by decide +kernel
theorem d_X5_append_9 : decode prog_7_method_2_code 9 = .ok (.if_icmp .ge 23, 3) := by decide +kernel
theorem d_X5_append_12 : decode prog_7_method_2_code 12 = .ok (.aload_n 0, 1) := by decide +kernel
theorem d_X5_append_13 : decode prog_7_method_2_code 13 = .ok (.getfield 9, 3) := by decide +kernel
theorem d_X5_append_16 : decode prog_7_method_2_code 16 = .ok (.aload_n 0, 1) := by decide +kernel
theorem d_X5_append_17 : decode prog_7_method_2_code 17 = .ok (.getfield 15, 3) := by decide +kernel
theorem d_X5_append_20 : decode prog_7_method_2_code 20 = .ok (.iload_n 1, 1) := by decide +kernel
theorem d_X5_append_21 : decode prog_7_method_2_code 21 = .ok (.iastore, 1) := by decide +kernel
theorem d_X5_append_22 : decode prog_7_method_2_code 22 = .ok (.aload_n 0, 1) := by decide +kernel
theorem d_X5_append_23 : decode prog_7_method_2_code 23 = .ok (.dup, 1) := by decide +kernel
theorem d_X5_append_24 : decode prog_7_method_2_code 24 = .ok (.getfield 15, 3) := by decide +kernel
theorem d_X5_append_27 : decode prog_7_method_2_code 27 = .ok (.iconst 1, 1) := by decide +kernel
theorem d_X5_append_28 : decode prog_7_method_2_code 28 = .ok (.iadd, 1) := by decide +kernel
theorem d_X5_append_29 : decode prog_7_method_2_code 29 = .ok (.putfield 15, 3) := by decide +kernel
theorem d_X5_append_32 : decode prog_7_method_2_code 32 = .ok (.return_, 1) := by decide +kernel
abbrev M_Text_append : zMT := (⟨"PeriodSlots$Text", "append", "(I)V"⟩, prog_7_method_2_code, 2, none)
theorem k_Text_append : zcall M_Text_append 1 := ⟨zU_in (i := 265) (by decide +kernel) rfl, m55, ⟨by decide, by decide, by decide +kernel⟩, by decide⟩
def o_Text_append (h : zHp) (letter : Int32) : zHp :=
  (if (nI 110) ≤ (h 1 0) then h else (zup (zup h 2 (zcn (h 1 0)) letter) 1 0 (((zup h 2 (zcn (h 1 0)) letter) 1 0) + 1)))
theorem fr_Text_append {h : zHp} {letter : Int32} (c k : Nat) (q0 : ¬ (c = 1 ∧ k = 0)) (q1 : c ≠ 2) : (o_Text_append h letter) c k = h c k := by
  unfold o_Text_append
  first | done | exact (zite_fr (fun _ => rfl) (fun _ => ((zup_fr (by omega)).trans (zup_fr (Or.inl (by assumption))))))
set_option maxHeartbeats 400000 in
set_option maxRecDepth 20000 in
theorem c_Text_append (X : zXT) (h : zHp) (g : zLg) (letter : Int32) (hf0 : zfit h 1 0 110) : zDi X M_Text_append 0 [zR X 1, .int letter] h g none (o_Text_append h letter) g := by
  have hf0_1 := hf0.1
  refine zDi_of "PeriodSlots$Text" prog_7_method_2_code 2 none rfl (by decide) [zO X 1, zI letter] rfl (fun _ q => q) (Nat.le_of_ble_eq_true rfl) ?_
  intro Γ Q C hQ
  refine zr_aload_n C d_X5_append_0 rfl ?_
  refine gf_Text_1 C m81 d_X5_append_1 ?_
  refine zr_aload_n C d_X5_append_4 rfl ?_
  refine gf_Text_0 C m80 d_X5_append_5 ?_
  refine zr_alen C za_2 d_X5_append_8 ?_
  suffices hJ9 : ∀ (h5 : zHp), (if (nI 110) ≤ (h 1 0) then h else (zup (zup h 2 (zcn (h 1 0)) letter) 1 0 (((zup h 2 (zcn (h 1 0)) letter) 1 0) + 1))) = h5 → zV X Γ Q 32 [none, none] [] h5 g by
    refine zr_icmp_ge C 32 d_X5_append_9 (by decide) (fun c9 => ?_) (fun c9 => ?_)
    · have en1 := zn_ge (a := zcn (h 1 0)) (b := 110) hf0.2 rfl c9 (zcn_small _) (by decide)
      refine zr_lv [none, none] (by simp [zle]) ?_
      exact hJ9 h (((if_pos c9)))
    · have en2 := zn_nge (a := zcn (h 1 0)) (b := 110) hf0.2 rfl c9 (zcn_small _) (by decide)
      refine zr_aload_n C d_X5_append_12 rfl ?_
      refine gf_Text_0 C m80 d_X5_append_13 ?_
      refine zr_aload_n C d_X5_append_16 rfl ?_
      refine gf_Text_1 C m81 d_X5_append_17 ?_
      refine zr_iload_n C d_X5_append_20 rfl ?_
      refine zr_iast C za_2 (zcn (h 1 0)) hf0.2 (by omega) (by decide) d_X5_append_21 ?_
      refine zr_h (fun h3 eh3 => ?_)
      refine zr_aload_n C d_X5_append_22 rfl ?_
      refine zr_dup C d_X5_append_23 rfl ?_
      refine gf_Text_1 C m81 d_X5_append_24 ?_
      refine zr_iconst C (v := 1) d_X5_append_27 (by decide) ?_
      refine zr_iadd C d_X5_append_28 ?_
      refine pf_Text_1 C m81 d_X5_append_29 ?_
      refine zr_h (fun h4 eh4 => ?_)
      have hfh4 : zfit h4 1 0 110 := zfit_of (m := (zcn (h 1 0)) + 1) ((congrFun (congrFun eh4.symm _) _).trans (zup_at.trans (zn_add (((congrFun (congrFun eh3.symm _) _).trans (zup_fr (by omega))).trans hf0.2) rfl))) (by omega) (by decide)
      have hfh4_1 := hfh4.1
      refine zr_lv [none, none] (by simp [zle]) ?_
      exact hJ9 h4 (by subst eh4 eh3; exact ((if_neg c9)))
  intro h5 eh5
  have eR : o_Text_append h letter = h5 := (by subst eh5; unfold o_Text_append; exact rfl)
  subst hQ
  rw [eR]
  exact zr_vret C d_X5_append_32
theorem d_X5_byteAt_0 : decode prog_7_method_6_code 0 = .ok (.iload_n 1, 1) := by decide +kernel
theorem d_X5_byteAt_1 : decode prog_7_method_6_code 1 = .ok (.ifCond .lt 29, 3) := by decide +kernel
theorem d_X5_byteAt_4 : decode prog_7_method_6_code 4 = .ok (.iload_n 1, 1) := by decide +kernel
theorem d_X5_byteAt_5 : decode prog_7_method_6_code 5 = .ok (.aload_n 0, 1) := by decide +kernel
theorem d_X5_byteAt_6 : decode prog_7_method_6_code 6 = .ok (.getfield 15, 3) := by decide +kernel
theorem d_X5_byteAt_9 : decode prog_7_method_6_code 9 = .ok (.if_icmp .ge 21, 3) := by decide +kernel
theorem d_X5_byteAt_12 : decode prog_7_method_6_code 12 = .ok (.iload_n 1, 1) := by decide +kernel
theorem d_X5_byteAt_13 : decode prog_7_method_6_code 13 = .ok (.aload_n 0, 1) := by decide +kernel
theorem d_X5_byteAt_14 : decode prog_7_method_6_code 14 = .ok (.getfield 9, 3) := by decide +kernel
theorem d_X5_byteAt_17 : decode prog_7_method_6_code 17 = .ok (.arraylength, 1) := by decide +kernel
theorem d_X5_byteAt_18 : decode prog_7_method_6_code 18 = .ok (.if_icmp .ge 12, 3) := by decide +kernel
theorem d_X5_byteAt_21 : decode prog_7_method_6_code 21 = .ok (.aload_n 0, 1) := by decide +kernel
theorem d_X5_byteAt_22 : decode prog_7_method_6_code 22 = .ok (.getfield 9, 3) := by decide +kernel
theorem d_X5_byteAt_25 : decode prog_7_method_6_code 25 = .ok (.iload_n 1, 1) := by decide +kernel
theorem d_X5_byteAt_26 : decode prog_7_method_6_code 26 = .ok (.iaload, 1) := by decide +kernel
theorem d_X5_byteAt_27 : decode prog_7_method_6_code 27 = .ok (.goto 4, 3) := by decide +kernel
theorem d_X5_byteAt_30 : decode prog_7_method_6_code 30 = .ok (.iconst (-1), 1) := by decide +kernel
theorem d_X5_byteAt_31 : decode prog_7_method_6_code 31 = .ok (.ireturn, 1) := by decide +kernel
abbrev M_Text_byteAt : zMT := (⟨"PeriodSlots$Text", "byteAt", "(I)I"⟩, prog_7_method_6_code, 2, (some .int))
theorem k_Text_byteAt : zcall M_Text_byteAt 1 := ⟨zU_in (i := 285) (by decide +kernel) rfl, m55, ⟨by decide, by decide, by decide +kernel⟩, by decide⟩
def o_Text_byteAt (h : zHp) (p : Int32) : Int32 :=
  (if p < 0 then (-1) else (if (h 1 0) ≤ p then (-1) else (if (nI 110) ≤ p then (-1) else (h 2 (zcn p)))))
set_option maxHeartbeats 400000 in
set_option maxRecDepth 20000 in
theorem c_Text_byteAt (X : zXT) (h : zHp) (g : zLg) (p : Int32) : zDi X M_Text_byteAt 0 [zR X 1, .int p] h g (zI (o_Text_byteAt h p)) h g := by
  refine zDi_of "PeriodSlots$Text" prog_7_method_6_code 2 (some .int) rfl (by decide) [zO X 1, zI p] rfl (fun _ q => q) (Nat.le_of_ble_eq_true rfl) ?_
  intro Γ Q C hQ
  refine zr_iload_n C d_X5_byteAt_0 rfl ?_
  suffices hJ1 : ∀ (y3 : Int32), (if p < 0 then (-1) else (if (h 1 0) ≤ p then (-1) else (if (nI 110) ≤ p then (-1) else (h 2 (zcn p))))) = y3 → zV X Γ Q 31 [none, none] [.int y3] h g by
    refine zr_if_lt C 30 d_X5_byteAt_1 (by decide) (fun c1 => ?_) (fun c1 => ?_)
    · refine zr_iconst C (v := (-1)) d_X5_byteAt_30 (by decide) ?_
      refine zr_lv [none, none] (by simp [zle]) ?_
      exact hJ1 (-1) (((if_pos c1)))
    · refine zr_iload_n C d_X5_byteAt_4 rfl ?_
      refine zr_aload_n C d_X5_byteAt_5 rfl ?_
      refine gf_Text_1 C m81 d_X5_byteAt_6 ?_
      refine zr_icmp_ge C 30 d_X5_byteAt_9 (by decide) (fun c9 => ?_) (fun c9 => ?_)
      · refine zr_iconst C (v := (-1)) d_X5_byteAt_30 (by decide) ?_
        refine zr_lv [none, none] (by simp [zle]) ?_
        exact hJ1 (-1) (((if_neg c1).trans ((if_pos c9))))
      · refine zr_iload_n C d_X5_byteAt_12 rfl ?_
        refine zr_aload_n C d_X5_byteAt_13 rfl ?_
        refine gf_Text_0 C m80 d_X5_byteAt_14 ?_
        refine zr_alen C za_2 d_X5_byteAt_17 ?_
        refine zr_icmp_ge C 30 d_X5_byteAt_18 (by decide) (fun c18 => ?_) (fun c18 => ?_)
        · have en1 := zn_ge (a := zcn p) (b := 110) (zix c1) rfl c18 (zcn_small _) (by decide)
          refine zr_iconst C (v := (-1)) d_X5_byteAt_30 (by decide) ?_
          refine zr_lv [none, none] (by simp [zle]) ?_
          exact hJ1 (-1) (((if_neg c1).trans ((if_neg c9).trans ((if_pos c18)))))
        · have en2 := zn_nge (a := zcn p) (b := 110) (zix c1) rfl c18 (zcn_small _) (by decide)
          refine zr_aload_n C d_X5_byteAt_21 rfl ?_
          refine gf_Text_0 C m80 d_X5_byteAt_22 ?_
          refine zr_iload_n C d_X5_byteAt_25 rfl ?_
          refine zr_iald C za_2 (zcn p) (zix c1) (zcn_ltN c18 c1 rfl (by decide)) (by decide) d_X5_byteAt_26 ?_
          refine zr_goto C 31 d_X5_byteAt_27 (by decide) ?_
          refine zr_lv [none, none] (by simp [zle]) ?_
          exact hJ1 (h 2 (zcn p)) (((if_neg c1).trans ((if_neg c9).trans ((if_neg c18)))))
  intro y3 ey3
  have eR : o_Text_byteAt h p = y3 := (by subst ey3; unfold o_Text_byteAt; exact rfl)
  subst hQ
  rw [eR]
  exact zr_ireti C d_X5_byteAt_31
theorem pf_add {h : zHp} {b : Nat} {p o : Int32} (f : zfit h b 0 8) : zfit (o_Mesh_add h b p o) b 0 8 := by
  unfold o_Mesh_add
  by_cases c6 : h b 0 < 8
  · rw [if_pos c6]
    have en := zn_lt (a := zcn (h b 0)) (b := 8) f.2 rfl c6 (zcn_small _) (by decide)
    refine zfit_of (m := zcn (h b 0) + 1) ?_ (by omega) (by decide)
    rw [fr_Mesh_relate _ _ (by omega) (by omega) (by omega), fr_Mesh_dropOlds _ _ (by omega) (by omega) (by omega), zup_at, zup_fr (by omega), zup_fr (by omega)]
    have hI := zrep_inv (f := (fun (i : Nat) (s : zHp) => (if (o_Mesh_wrapped s b (zcn (h b 0)) (nI i)) = 0 then (zup s (b + 5) (zcn (h b 0)) ((s (b + 5) (zcn (h b 0))) ||| (zshl 1 (nI i)))) else s))) (a := (zup (zup h (b + 1) (zcn (h b 0)) p) (b + 5) (zcn (h b 0)) 0)) (fun _ s => s b 0 = h b 0) 8 ((zup_fr (by omega)).trans (zup_fr (by omega))) (fun i s _ hI => zite_fr (fun _ => (zup_fr (by omega)).trans hI) (fun _ => hI))
    rw [hI]
    exact zn_add f.2 rfl
  · rw [if_neg c6]
    exact f

theorem d_X5_readStation_0 : decode prog_7_method_4_code 0 = .ok (.aload_n 0, 1) := by decide +kernel
theorem d_X5_readStation_1 : decode prog_7_method_4_code 1 = .ok (.iload_n 1, 1) := by decide +kernel
theorem d_X5_readStation_2 : decode prog_7_method_4_code 2 = .ok (.iconst 1, 1) := by decide +kernel
theorem d_X5_readStation_3 : decode prog_7_method_4_code 3 = .ok (.iadd, 1) := by decide +kernel
theorem d_X5_readStation_4 : decode prog_7_method_4_code 4 = .ok (.invokevirtual 24, 3) := by decide +kernel
theorem d_X5_readStation_7 : decode prog_7_method_4_code 7 = .ok (.bipush 48, 2) := by decide +kernel
theorem d_X5_readStation_9 : decode prog_7_method_4_code 9 = .ok (.isub, 1) := by decide +kernel
theorem d_X5_readStation_10 : decode prog_7_method_4_code 10 = .ok (.istore_n 3, 1) := by decide +kernel
theorem d_X5_readStation_11 : decode prog_7_method_4_code 11 = .ok (.iload_n 3, 1) := by decide +kernel
theorem d_X5_readStation_12 : decode prog_7_method_4_code 12 = .ok (.iconst 1, 1) := by decide +kernel
theorem d_X5_readStation_13 : decode prog_7_method_4_code 13 = .ok (.if_icmp .lt 8, 3) := by decide +kernel
theorem d_X5_readStation_16 : decode prog_7_method_4_code 16 = .ok (.iload_n 3, 1) := by decide +kernel
theorem d_X5_readStation_17 : decode prog_7_method_4_code 17 = .ok (.iconst 3, 1) := by decide +kernel
theorem d_X5_readStation_18 : decode prog_7_method_4_code 18 = .ok (.if_icmp .le 5, 3) := by decide +kernel
theorem d_X5_readStation_21 : decode prog_7_method_4_code 21 = .ok (.iconst 1, 1) := by decide +kernel
theorem d_X5_readStation_22 : decode prog_7_method_4_code 22 = .ok (.ireturn, 1) := by decide +kernel
theorem d_X5_readStation_23 : decode prog_7_method_4_code 23 = .ok (.iconst 1, 1) := by decide +kernel
theorem d_X5_readStation_24 : decode prog_7_method_4_code 24 = .ok (.iload_n 3, 1) := by decide +kernel
theorem d_X5_readStation_25 : decode prog_7_method_4_code 25 = .ok (.ishl, 1) := by decide +kernel
theorem d_X5_readStation_26 : decode prog_7_method_4_code 26 = .ok (.istore 4, 2) := by decide +kernel
theorem d_X5_readStation_28 : decode prog_7_method_4_code 28 = .ok (.aload_n 0, 1) := by decide +kernel
theorem d_X5_readStation_29 : decode prog_7_method_4_code 29 = .ok (.iload_n 1, 1) := by decide +kernel
theorem d_X5_readStation_30 : decode prog_7_method_4_code 30 = .ok (.iconst 2, 1) := by decide +kernel
theorem d_X5_readStation_31 : decode prog_7_method_4_code 31 = .ok (.iadd, 1) := by decide +kernel
theorem d_X5_readStation_32 : decode prog_7_method_4_code 32 = .ok (.invokevirtual 24, 3) := by decide +kernel
theorem d_X5_readStation_35 : decode prog_7_method_4_code 35 = .ok (.istore 5, 2) := by decide +kernel
theorem d_X5_readStation_37 : decode prog_7_method_4_code 37 = .ok (.iload 5, 2) := by decide +kernel
theorem d_X5_readStation_39 : decode prog_7_method_4_code 39 = .ok (.bipush 45, 2) := by decide +kernel
theorem d_X5_readStation_41 : decode prog_7_method_4_code 41 = .ok (.if_icmp .eq 22, 3) := by decide +kernel
theorem d_X5_readStation_44 : decode prog_7_method_4_code 44 = .ok (.iload 5, 2) := by decide +kernel
theorem d_X5_readStation_46 : decode prog_7_method_4_code 46 = .ok (.bipush 97, 2) := by decide +kernel
theorem d_X5_readStation_48 : decode prog_7_method_4_code 48 = .ok (.if_icmp .lt 13, 3) := by decide +kernel
theorem d_X5_readStation_51 : decode prog_7_method_4_code 51 = .ok (.iload 5, 2) := by decide +kernel
theorem d_X5_readStation_53 : decode prog_7_method_4_code 53 = .ok (.bipush 97, 2) := by decide +kernel
theorem d_X5_readStation_55 : decode prog_7_method_4_code 55 = .ok (.iload 4, 2) := by decide +kernel
theorem d_X5_readStation_57 : decode prog_7_method_4_code 57 = .ok (.iadd, 1) := by decide +kernel
theorem d_X5_readStation_58 : decode prog_7_method_4_code 58 = .ok (.if_icmp .lt 5, 3) := by decide +kernel
theorem d_X5_readStation_61 : decode prog_7_method_4_code 61 = .ok (.iconst 2, 1) := by decide +kernel
theorem d_X5_readStation_62 : decode prog_7_method_4_code 62 = .ok (.ireturn, 1) := by decide +kernel
theorem d_X5_readStation_63 : decode prog_7_method_4_code 63 = .ok (.aload_n 2, 1) := by decide +kernel
theorem d_X5_readStation_64 : decode prog_7_method_4_code 64 = .ok (.iload 4, 2) := by decide +kernel
theorem d_X5_readStation_66 : decode prog_7_method_4_code 66 = .ok (.iload 5, 2) := by decide +kernel
theorem d_X5_readStation_68 : decode prog_7_method_4_code 68 = .ok (.bipush 45, 2) := by decide +kernel
theorem d_X5_readStation_70 : decode prog_7_method_4_code 70 = .ok (.if_icmp .ne 8, 3) := by decide +kernel
theorem d_X5_readStation_73 : decode prog_7_method_4_code 73 = .ok (.bipush (-9), 2) := by decide +kernel
theorem d_X5_readStation_75 : decode prog_7_method_4_code 75 = .ok (.goto 8, 3) := by decide +kernel
theorem d_X5_readStation_78 : decode prog_7_method_4_code 78 = .ok (.iload 5, 2) := by decide +kernel
theorem d_X5_readStation_80 : decode prog_7_method_4_code 80 = .ok (.bipush 97, 2) := by decide +kernel
theorem d_X5_readStation_82 : decode prog_7_method_4_code 82 = .ok (.isub, 1) := by decide +kernel
theorem d_X5_readStation_83 : decode prog_7_method_4_code 83 = .ok (.invokevirtual 42, 3) := by decide +kernel
theorem d_X5_readStation_86 : decode prog_7_method_4_code 86 = .ok (.iconst 3, 1) := by decide +kernel
theorem d_X5_readStation_87 : decode prog_7_method_4_code 87 = .ok (.ireturn, 1) := by decide +kernel
abbrev M_Text_readStation : zMT := (⟨"PeriodSlots$Text", "readStation", "(ILPeriodSlots$Mesh;)I"⟩, prog_7_method_4_code, 6, (some .int))
theorem k_Text_readStation : zcall M_Text_readStation 2 := ⟨zU_in (i := 289) (by decide +kernel) rfl, m55, ⟨by decide, by decide, by decide +kernel⟩, by decide⟩
def o_Text_readStation (h : zHp) (p : Int32) (m : Nat) : Int32 × zHp :=
  (if ((o_Text_byteAt h (p + 1)) - 48) < 1 then (1, h) else (if ((o_Text_byteAt h (p + 1)) - 48) ≤ 3 then (if (o_Text_byteAt h (p + 2)) = 45 then (3, (o_Mesh_add h m (zshl 1 ((o_Text_byteAt h (p + 1)) - 48)) (-9))) else (if (o_Text_byteAt h (p + 2)) < 97 then (2, h) else (if (o_Text_byteAt h (p + 2)) < (97 + (zshl 1 ((o_Text_byteAt h (p + 1)) - 48))) then (3, (o_Mesh_add h m (zshl 1 ((o_Text_byteAt h (p + 1)) - 48)) ((o_Text_byteAt h (p + 2)) - 97))) else (2, h)))) else (1, h)))
theorem fr_Text_readStation {h : zHp} {p : Int32} {m : Nat} (c k : Nat) (q0 : ¬ (c = m ∧ k = 0)) (q1 : c ≠ m + 1) (q2 : c ≠ m + 2) (q3 : c ≠ m + 3) (q4 : c ≠ m + 4) (q5 : c ≠ m + 5) (q6 : c ≠ m + 6) (q7 : c ≠ m + 7) (q8 : c ≠ m + 8) (q9 : c ≠ m + 9) (q10 : c ≠ m + 10) : (o_Text_readStation h p m).2 c k = h c k := by
  unfold o_Text_readStation
  by_cases f1 : ((o_Text_byteAt h (p + 1)) - 48) < 1
  · rw [if_pos f1]
    try dsimp only
    first | done | exact rfl
  · rw [if_neg f1]
    by_cases f2 : ((o_Text_byteAt h (p + 1)) - 48) ≤ 3
    · rw [if_pos f2]
      by_cases f3 : (o_Text_byteAt h (p + 2)) = 45
      · rw [if_pos f3]
        try dsimp only
        first | done | exact (fr_Mesh_add _ _ (by assumption) (by assumption) (by assumption) (by assumption) (by assumption) (by assumption) (by assumption) (by assumption) (by assumption) (by assumption) (by assumption))
      · rw [if_neg f3]
        by_cases f4 : (o_Text_byteAt h (p + 2)) < 97
        · rw [if_pos f4]
          try dsimp only
          first | done | exact rfl
        · rw [if_neg f4]
          by_cases f5 : (o_Text_byteAt h (p + 2)) < (97 + (zshl 1 ((o_Text_byteAt h (p + 1)) - 48)))
          · rw [if_pos f5]
            try dsimp only
            first | done | exact (fr_Mesh_add _ _ (by assumption) (by assumption) (by assumption) (by assumption) (by assumption) (by assumption) (by assumption) (by assumption) (by assumption) (by assumption) (by assumption))
          · rw [if_neg f5]
            try dsimp only
            first | done | exact rfl
    · rw [if_neg f2]
      try dsimp only
      first | done | exact rfl
set_option maxHeartbeats 400000 in
set_option maxRecDepth 20000 in
theorem c_Text_readStation (X : zXT) (h : zHp) (g : zLg) (p : Int32) (m : Nat) (hm : m = 3 ∨ m = 15 ∨ m = 27) (hf0 : zfit h m 0 8) : zDi X M_Text_readStation 4 [zR X 1, .int p, zR X m] h g (zI ((o_Text_readStation h p m).1)) ((o_Text_readStation h p m).2) g := by
  have hf0_1 := hf0.1
  refine zDi_of "PeriodSlots$Text" prog_7_method_4_code 6 (some .int) rfl (by decide) [zO X 1, zI p, zO X m, none, none, none] rfl (fun _ q => q) (Nat.le_of_ble_eq_true rfl) ?_
  intro Γ Q C hQ
  refine zr_aload_n C d_X5_readStation_0 rfl ?_
  refine zr_iload_n C d_X5_readStation_1 rfl ?_
  refine zr_iconst C (v := 1) d_X5_readStation_2 (by decide) ?_
  refine zr_iadd C d_X5_readStation_3 ?_
  refine zr_callVi (As := [.int (p + 1)]) (st := []) (c := 1) C (c_Text_byteAt X h g (p + 1)) k_Text_byteAt m282 m284 m0 (by decide) (zC_Text X _ _) rfl rfl (by decide) rfl (Nat.le_of_ble_eq_true rfl) d_X5_readStation_4 ?_
  refine zr_bipush C (v := 48) d_X5_readStation_7 (by decide) ?_
  refine zr_isub C d_X5_readStation_9 ?_
  refine zr_istore_n C [zO X 1, zI p, zO X m, zI ((o_Text_byteAt h (p + 1)) - 48), none, none] d_X5_readStation_10 (Nat.le_of_ble_eq_true rfl) rfl rfl ?_
  refine zr_iload_n C d_X5_readStation_11 rfl ?_
  refine zr_iconst C (v := 1) d_X5_readStation_12 (by decide) ?_
  refine zr_icmp_lt C 21 d_X5_readStation_13 (by decide) (fun c13 => ?_) (fun c13 => ?_)
  · refine zr_iconst C (v := 1) d_X5_readStation_21 (by decide) ?_
    have eR : o_Text_readStation h p m = (1, h) := (by unfold o_Text_readStation; rw [if_pos c13])
    subst hQ
    exact zTQ_Ih eR (zr_ireti C d_X5_readStation_22)
  · refine zr_iload_n C d_X5_readStation_16 rfl ?_
    refine zr_iconst C (v := 3) d_X5_readStation_17 (by decide) ?_
    refine zr_icmp_le C 23 d_X5_readStation_18 (by decide) (fun c18 => ?_) (fun c18 => ?_)
    · refine zr_iconst C (v := 1) d_X5_readStation_23 (by decide) ?_
      refine zr_iload_n C d_X5_readStation_24 rfl ?_
      refine zr_ishl C d_X5_readStation_25 ?_
      refine zr_istore C [zO X 1, zI p, zO X m, zI ((o_Text_byteAt h (p + 1)) - 48), zI (zshl 1 ((o_Text_byteAt h (p + 1)) - 48)), none] d_X5_readStation_26 (Nat.le_of_ble_eq_true rfl) rfl rfl ?_
      refine zr_aload_n C d_X5_readStation_28 rfl ?_
      refine zr_iload_n C d_X5_readStation_29 rfl ?_
      refine zr_iconst C (v := 2) d_X5_readStation_30 (by decide) ?_
      refine zr_iadd C d_X5_readStation_31 ?_
      refine zr_callVi (As := [.int (p + 2)]) (st := []) (c := 1) C (c_Text_byteAt X h g (p + 2)) k_Text_byteAt m282 m284 m0 (by decide) (zC_Text X _ _) rfl rfl (by decide) rfl (Nat.le_of_ble_eq_true rfl) d_X5_readStation_32 ?_
      refine zr_istore C [zO X 1, zI p, zO X m, zI ((o_Text_byteAt h (p + 1)) - 48), zI (zshl 1 ((o_Text_byteAt h (p + 1)) - 48)), zI (o_Text_byteAt h (p + 2))] d_X5_readStation_35 (Nat.le_of_ble_eq_true rfl) rfl rfl ?_
      refine zr_iload C d_X5_readStation_37 rfl ?_
      refine zr_bipush C (v := 45) d_X5_readStation_39 (by decide) ?_
      refine zr_icmp_eq C 63 d_X5_readStation_41 (by decide) (fun c41 => ?_) (fun c41 => ?_)
      · refine zr_aload_n C d_X5_readStation_63 rfl ?_
        refine zr_iload C d_X5_readStation_64 rfl ?_
        refine zr_iload C d_X5_readStation_66 rfl ?_
        refine zr_bipush C (v := 45) d_X5_readStation_68 (by decide) ?_
        refine zr_icmp_ne C 78 d_X5_readStation_70 (by decide) (fun c => absurd c41 c) (fun _ => ?_)
        refine zr_bipush C (v := (-9)) d_X5_readStation_73 (by decide) ?_
        refine zr_goto C 83 d_X5_readStation_75 (by decide) ?_
        refine zr_callVv (As := [.int (zshl 1 ((o_Text_byteAt h (p + 1)) - 48)), .int (-9)]) (st := []) (c := m) C (c_Mesh_add X h g m (zshl 1 ((o_Text_byteAt h (p + 1)) - 48)) (-9) hm hf0) k_Mesh_add m290 m291 m292 (by omega) (zC_Mesh hm X _ _) rfl rfl (by decide) rfl (Nat.le_of_ble_eq_true rfl) d_X5_readStation_83 ?_
        refine zr_h (fun h1 eh1 => ?_)
        have hph1 : zfit h1 m 0 8 := by rw [← eh1]; exact pf_add hf0
        have hph1_1 := hph1.1
        refine zr_iconst C (v := 3) d_X5_readStation_86 (by decide) ?_
        have eR : o_Text_readStation h p m = (3, h1) := (by subst eh1; unfold o_Text_readStation; rw [if_neg c13, if_pos c18, if_pos c41])
        subst hQ
        exact zTQ_Ih eR (zr_ireti C d_X5_readStation_87)
      · refine zr_iload C d_X5_readStation_44 rfl ?_
        refine zr_bipush C (v := 97) d_X5_readStation_46 (by decide) ?_
        refine zr_icmp_lt C 61 d_X5_readStation_48 (by decide) (fun c48 => ?_) (fun c48 => ?_)
        · refine zr_iconst C (v := 2) d_X5_readStation_61 (by decide) ?_
          have eR : o_Text_readStation h p m = (2, h) := (by unfold o_Text_readStation; rw [if_neg c13, if_pos c18, if_neg c41, if_pos c48])
          subst hQ
          exact zTQ_Ih eR (zr_ireti C d_X5_readStation_62)
        · refine zr_iload C d_X5_readStation_51 rfl ?_
          refine zr_bipush C (v := 97) d_X5_readStation_53 (by decide) ?_
          refine zr_iload C d_X5_readStation_55 rfl ?_
          refine zr_iadd C d_X5_readStation_57 ?_
          refine zr_icmp_lt C 63 d_X5_readStation_58 (by decide) (fun c58 => ?_) (fun c58 => ?_)
          · refine zr_aload_n C d_X5_readStation_63 rfl ?_
            refine zr_iload C d_X5_readStation_64 rfl ?_
            refine zr_iload C d_X5_readStation_66 rfl ?_
            refine zr_bipush C (v := 45) d_X5_readStation_68 (by decide) ?_
            refine zr_icmp_ne C 78 d_X5_readStation_70 (by decide) (fun _ => ?_) (fun c => absurd c c41)
            refine zr_iload C d_X5_readStation_78 rfl ?_
            refine zr_bipush C (v := 97) d_X5_readStation_80 (by decide) ?_
            refine zr_isub C d_X5_readStation_82 ?_
            refine zr_callVv (As := [.int (zshl 1 ((o_Text_byteAt h (p + 1)) - 48)), .int ((o_Text_byteAt h (p + 2)) - 97)]) (st := []) (c := m) C (c_Mesh_add X h g m (zshl 1 ((o_Text_byteAt h (p + 1)) - 48)) ((o_Text_byteAt h (p + 2)) - 97) hm hf0) k_Mesh_add m290 m291 m292 (by omega) (zC_Mesh hm X _ _) rfl rfl (by decide) rfl (Nat.le_of_ble_eq_true rfl) d_X5_readStation_83 ?_
            refine zr_h (fun h2 eh2 => ?_)
            have hph2 : zfit h2 m 0 8 := by rw [← eh2]; exact pf_add hf0
            have hph2_1 := hph2.1
            refine zr_iconst C (v := 3) d_X5_readStation_86 (by decide) ?_
            have eR : o_Text_readStation h p m = (3, h2) := (by subst eh2; unfold o_Text_readStation; rw [if_neg c13, if_pos c18, if_neg c41, if_neg c48, if_pos c58])
            subst hQ
            exact zTQ_Ih eR (zr_ireti C d_X5_readStation_87)
          · refine zr_iconst C (v := 2) d_X5_readStation_61 (by decide) ?_
            have eR : o_Text_readStation h p m = (2, h) := (by unfold o_Text_readStation; rw [if_neg c13, if_pos c18, if_neg c41, if_neg c48, if_neg c58])
            subst hQ
            exact zTQ_Ih eR (zr_ireti C d_X5_readStation_62)
    · refine zr_iconst C (v := 1) d_X5_readStation_21 (by decide) ?_
      have eR : o_Text_readStation h p m = (1, h) := (by unfold o_Text_readStation; rw [if_neg c13, if_neg c18])
      subst hQ
      exact zTQ_Ih eR (zr_ireti C d_X5_readStation_22)
theorem d_X5_readLink_0 : decode prog_7_method_5_code 0 = .ok (.aload_n 0, 1) := by decide +kernel
theorem d_X5_readLink_1 : decode prog_7_method_5_code 1 = .ok (.iload_n 1, 1) := by decide +kernel
theorem d_X5_readLink_2 : decode prog_7_method_5_code 2 = .ok (.iconst 1, 1) := by decide +kernel
theorem d_X5_readLink_3 : decode prog_7_method_5_code 3 = .ok (.iadd, 1) := by decide +kernel
theorem d_X5_readLink_4 : decode prog_7_method_5_code 4 = .ok (.invokevirtual 24, 3) := by decide +kernel
theorem d_X5_readLink_7 : decode prog_7_method_5_code 7 = .ok (.bipush 48, 2) := by decide +kernel
theorem d_X5_readLink_9 : decode prog_7_method_5_code 9 = .ok (.isub, 1) := by decide +kernel
theorem d_X5_readLink_10 : decode prog_7_method_5_code 10 = .ok (.istore_n 3, 1) := by decide +kernel
theorem d_X5_readLink_11 : decode prog_7_method_5_code 11 = .ok (.aload_n 2, 1) := by decide +kernel
theorem d_X5_readLink_12 : decode prog_7_method_5_code 12 = .ok (.iload_n 3, 1) := by decide +kernel
theorem d_X5_readLink_13 : decode prog_7_method_5_code 13 = .ok (.invokevirtual 46, 3) := by decide +kernel
theorem d_X5_readLink_16 : decode prog_7_method_5_code 16 = .ok (.ifCond .eq 11, 3) := by decide +kernel
theorem d_X5_readLink_19 : decode prog_7_method_5_code 19 = .ok (.aload_n 2, 1) := by decide +kernel
theorem d_X5_readLink_20 : decode prog_7_method_5_code 20 = .ok (.iload_n 3, 1) := by decide +kernel
theorem d_X5_readLink_21 : decode prog_7_method_5_code 21 = .ok (.invokevirtual 50, 3) := by decide +kernel
theorem d_X5_readLink_24 : decode prog_7_method_5_code 24 = .ok (.ifCond .eq 5, 3) := by decide +kernel
theorem d_X5_readLink_27 : decode prog_7_method_5_code 27 = .ok (.iconst 1, 1) := by decide +kernel
theorem d_X5_readLink_28 : decode prog_7_method_5_code 28 = .ok (.ireturn, 1) := by decide +kernel
theorem d_X5_readLink_29 : decode prog_7_method_5_code 29 = .ok (.aload_n 0, 1) := by decide +kernel
theorem d_X5_readLink_30 : decode prog_7_method_5_code 30 = .ok (.iload_n 1, 1) := by decide +kernel
theorem d_X5_readLink_31 : decode prog_7_method_5_code 31 = .ok (.iconst 2, 1) := by decide +kernel
theorem d_X5_readLink_32 : decode prog_7_method_5_code 32 = .ok (.iadd, 1) := by decide +kernel
theorem d_X5_readLink_33 : decode prog_7_method_5_code 33 = .ok (.invokevirtual 24, 3) := by decide +kernel
theorem d_X5_readLink_36 : decode prog_7_method_5_code 36 = .ok (.bipush 48, 2) := by decide +kernel
theorem d_X5_readLink_38 : decode prog_7_method_5_code 38 = .ok (.isub, 1) := by decide +kernel
theorem d_X5_readLink_39 : decode prog_7_method_5_code 39 = .ok (.istore 4, 2) := by decide +kernel
theorem d_X5_readLink_41 : decode prog_7_method_5_code 41 = .ok (.aload_n 2, 1) := by decide +kernel
theorem d_X5_readLink_42 : decode prog_7_method_5_code 42 = .ok (.iload 4, 2) := by decide +kernel
theorem d_X5_readLink_44 : decode prog_7_method_5_code 44 = .ok (.invokevirtual 46, 3) := by decide +kernel
theorem d_X5_readLink_47 : decode prog_7_method_5_code 47 = .ok (.ifCond .eq 23, 3) := by decide +kernel
theorem d_X5_readLink_50 : decode prog_7_method_5_code 50 = .ok (.iload_n 3, 1) := by decide +kernel
theorem d_X5_readLink_51 : decode prog_7_method_5_code 51 = .ok (.iload 4, 2) := by decide +kernel
theorem d_X5_readLink_53 : decode prog_7_method_5_code 53 = .ok (.if_icmp .eq 17, 3) := by decide +kernel
theorem d_X5_readLink_56 : decode prog_7_method_5_code 56 = .ok (.aload_n 2, 1) := by decide +kernel
theorem d_X5_readLink_57 : decode prog_7_method_5_code 57 = .ok (.getfield 53, 3) := by decide +kernel
theorem d_X5_readLink_60 : decode prog_7_method_5_code 60 = .ok (.iload_n 3, 1) := by decide +kernel
theorem d_X5_readLink_61 : decode prog_7_method_5_code 61 = .ok (.iaload, 1) := by decide +kernel
theorem d_X5_readLink_62 : decode prog_7_method_5_code 62 = .ok (.iload 4, 2) := by decide +kernel
theorem d_X5_readLink_64 : decode prog_7_method_5_code 64 = .ok (.invokestatic 56, 3) := by decide +kernel
theorem d_X5_readLink_67 : decode prog_7_method_5_code 67 = .ok (.ifCond .eq 5, 3) := by decide +kernel
theorem d_X5_readLink_70 : decode prog_7_method_5_code 70 = .ok (.iconst 2, 1) := by decide +kernel
theorem d_X5_readLink_71 : decode prog_7_method_5_code 71 = .ok (.ireturn, 1) := by decide +kernel
theorem d_X5_readLink_72 : decode prog_7_method_5_code 72 = .ok (.aload_n 2, 1) := by decide +kernel
theorem d_X5_readLink_73 : decode prog_7_method_5_code 73 = .ok (.iload_n 3, 1) := by decide +kernel
theorem d_X5_readLink_74 : decode prog_7_method_5_code 74 = .ok (.iload 4, 2) := by decide +kernel
theorem d_X5_readLink_76 : decode prog_7_method_5_code 76 = .ok (.invokevirtual 60, 3) := by decide +kernel
theorem d_X5_readLink_79 : decode prog_7_method_5_code 79 = .ok (.iconst 3, 1) := by decide +kernel
theorem d_X5_readLink_80 : decode prog_7_method_5_code 80 = .ok (.ireturn, 1) := by decide +kernel
abbrev M_Text_readLink : zMT := (⟨"PeriodSlots$Text", "readLink", "(ILPeriodSlots$Mesh;)I"⟩, prog_7_method_5_code, 5, (some .int))
theorem k_Text_readLink : zcall M_Text_readLink 2 := ⟨zU_in (i := 357) (by decide +kernel) rfl, m55, ⟨by decide, by decide, by decide +kernel⟩, by decide⟩
def o_Text_readLink (h : zHp) (p : Int32) (m : Nat) : Int32 × zHp :=
  (if (o_Mesh_exists h m ((o_Text_byteAt h (p + 1)) - 48)) = true then (if (o_Mesh_isLinkedWithAll h m (zcn ((o_Text_byteAt h (p + 1)) - 48))) = true then (1, h) else (if (o_Mesh_exists h m ((o_Text_byteAt h (p + 2)) - 48)) = true then (if ((o_Text_byteAt h (p + 1)) - 48) = ((o_Text_byteAt h (p + 2)) - 48) then (2, h) else (if (o_Slots_has (h (m + 2) (zcn ((o_Text_byteAt h (p + 1)) - 48))) ((o_Text_byteAt h (p + 2)) - 48)) = true then (2, h) else (3, (o_Mesh_flipLink h m (zcn ((o_Text_byteAt h (p + 1)) - 48)) (zcn ((o_Text_byteAt h (p + 2)) - 48)))))) else (2, h))) else (1, h))
theorem fr_Text_readLink {h : zHp} {p : Int32} {m : Nat} (c k : Nat) (q0 : c ≠ m + 2) (q1 : c ≠ m + 4) (q2 : c ≠ m + 6) (q3 : c ≠ m + 7) (q4 : c ≠ m + 8) (q5 : c ≠ m + 9) (q6 : c ≠ m + 10) : (o_Text_readLink h p m).2 c k = h c k := by
  unfold o_Text_readLink
  by_cases f1 : (o_Mesh_exists h m ((o_Text_byteAt h (p + 1)) - 48)) = true
  · rw [if_pos f1]
    by_cases f2 : (o_Mesh_isLinkedWithAll h m (zcn ((o_Text_byteAt h (p + 1)) - 48))) = true
    · rw [if_pos f2]
      try dsimp only
      first | done | exact rfl
    · rw [if_neg f2]
      by_cases f3 : (o_Mesh_exists h m ((o_Text_byteAt h (p + 2)) - 48)) = true
      · rw [if_pos f3]
        by_cases f4 : ((o_Text_byteAt h (p + 1)) - 48) = ((o_Text_byteAt h (p + 2)) - 48)
        · rw [if_pos f4]
          try dsimp only
          first | done | exact rfl
        · rw [if_neg f4]
          by_cases f5 : (o_Slots_has (h (m + 2) (zcn ((o_Text_byteAt h (p + 1)) - 48))) ((o_Text_byteAt h (p + 2)) - 48)) = true
          · rw [if_pos f5]
            try dsimp only
            first | done | exact rfl
          · rw [if_neg f5]
            try dsimp only
            first | done | exact (fr_Mesh_flipLink _ _ (by assumption) (by assumption) (by assumption) (by assumption) (by assumption) (by assumption) (by assumption))
      · rw [if_neg f3]
        try dsimp only
        first | done | exact rfl
  · rw [if_neg f1]
    try dsimp only
    first | done | exact rfl
set_option maxHeartbeats 400000 in
set_option maxRecDepth 20000 in
theorem c_Text_readLink (X : zXT) (h : zHp) (g : zLg) (p : Int32) (m : Nat) (hm : m = 3 ∨ m = 15 ∨ m = 27) (hf0 : zfit h m 0 8) : zDi X M_Text_readLink 4 [zR X 1, .int p, zR X m] h g (zI ((o_Text_readLink h p m).1)) ((o_Text_readLink h p m).2) g := by
  have hf0_1 := hf0.1
  refine zDi_of "PeriodSlots$Text" prog_7_method_5_code 5 (some .int) rfl (by decide) [zO X 1, zI p, zO X m, none, none] rfl (fun _ q => q) (Nat.le_of_ble_eq_true rfl) ?_
  intro Γ Q C hQ
  refine zr_aload_n C d_X5_readLink_0 rfl ?_
  refine zr_iload_n C d_X5_readLink_1 rfl ?_
  refine zr_iconst C (v := 1) d_X5_readLink_2 (by decide) ?_
  refine zr_iadd C d_X5_readLink_3 ?_
  refine zr_callVi (As := [.int (p + 1)]) (st := []) (c := 1) C (c_Text_byteAt X h g (p + 1)) k_Text_byteAt m282 m284 m0 (by decide) (zC_Text X _ _) rfl rfl (by decide) rfl (Nat.le_of_ble_eq_true rfl) d_X5_readLink_4 ?_
  refine zr_bipush C (v := 48) d_X5_readLink_7 (by decide) ?_
  refine zr_isub C d_X5_readLink_9 ?_
  refine zr_istore_n C [zO X 1, zI p, zO X m, zI ((o_Text_byteAt h (p + 1)) - 48), none] d_X5_readLink_10 (Nat.le_of_ble_eq_true rfl) rfl rfl ?_
  refine zr_aload_n C d_X5_readLink_11 rfl ?_
  refine zr_iload_n C d_X5_readLink_12 rfl ?_
  refine zr_callVi (As := [.int ((o_Text_byteAt h (p + 1)) - 48)]) (st := []) (c := m) C (c_Mesh_exists X h g m ((o_Text_byteAt h (p + 1)) - 48) hm) k_Mesh_exists m358 m359 m360 (by omega) (zC_Mesh hm X _ _) rfl rfl (by decide) rfl (Nat.le_of_ble_eq_true rfl) d_X5_readLink_13 ?_
  refine zr_ifz_eq C 27 d_X5_readLink_16 (by decide) (fun c16 => ?_) (fun c16 => ?_)
  · refine zr_iconst C (v := 1) d_X5_readLink_27 (by decide) ?_
    have eR : o_Text_readLink h p m = (1, h) := (by unfold o_Text_readLink; rw [if_neg (zbf c16)])
    subst hQ
    exact zTQ_Ih eR (zr_ireti C d_X5_readLink_28)
  · have ex1 := zex c16
    have ex1_2 := ex1.2
    have ex1_b := (hf0).1
    refine zr_aload_n C d_X5_readLink_19 rfl ?_
    refine zr_iload_n C d_X5_readLink_20 rfl ?_
    refine zr_callVi (As := [.int ((o_Text_byteAt h (p + 1)) - 48)]) (st := []) (c := m) C (c_Mesh_isLinkedWithAll X h g m (zcn ((o_Text_byteAt h (p + 1)) - 48)) (zix ex1.1) hm hf0 (by omega)) k_Mesh_isLinkedWithAll m362 m363 m364 (by omega) (zC_Mesh hm X _ _) rfl rfl (by decide) rfl (Nat.le_of_ble_eq_true rfl) d_X5_readLink_21 ?_
    refine zr_ifz_eq C 29 d_X5_readLink_24 (by decide) (fun c24 => ?_) (fun c24 => ?_)
    · refine zr_aload_n C d_X5_readLink_29 rfl ?_
      refine zr_iload_n C d_X5_readLink_30 rfl ?_
      refine zr_iconst C (v := 2) d_X5_readLink_31 (by decide) ?_
      refine zr_iadd C d_X5_readLink_32 ?_
      refine zr_callVi (As := [.int (p + 2)]) (st := []) (c := 1) C (c_Text_byteAt X h g (p + 2)) k_Text_byteAt m282 m284 m0 (by decide) (zC_Text X _ _) rfl rfl (by decide) rfl (Nat.le_of_ble_eq_true rfl) d_X5_readLink_33 ?_
      refine zr_bipush C (v := 48) d_X5_readLink_36 (by decide) ?_
      refine zr_isub C d_X5_readLink_38 ?_
      refine zr_istore C [zO X 1, zI p, zO X m, zI ((o_Text_byteAt h (p + 1)) - 48), zI ((o_Text_byteAt h (p + 2)) - 48)] d_X5_readLink_39 (Nat.le_of_ble_eq_true rfl) rfl rfl ?_
      refine zr_aload_n C d_X5_readLink_41 rfl ?_
      refine zr_iload C d_X5_readLink_42 rfl ?_
      refine zr_callVi (As := [.int ((o_Text_byteAt h (p + 2)) - 48)]) (st := []) (c := m) C (c_Mesh_exists X h g m ((o_Text_byteAt h (p + 2)) - 48) hm) k_Mesh_exists m358 m359 m360 (by omega) (zC_Mesh hm X _ _) rfl rfl (by decide) rfl (Nat.le_of_ble_eq_true rfl) d_X5_readLink_44 ?_
      refine zr_ifz_eq C 70 d_X5_readLink_47 (by decide) (fun c47 => ?_) (fun c47 => ?_)
      · refine zr_iconst C (v := 2) d_X5_readLink_70 (by decide) ?_
        have eR : o_Text_readLink h p m = (2, h) := (by unfold o_Text_readLink; rw [if_pos c16, if_neg (zbf c24), if_neg (zbf c47)])
        subst hQ
        exact zTQ_Ih eR (zr_ireti C d_X5_readLink_71)
      · have ex2 := zex c47
        have ex2_2 := ex2.2
        have ex2_b := (hf0).1
        refine zr_iload_n C d_X5_readLink_50 rfl ?_
        refine zr_iload C d_X5_readLink_51 rfl ?_
        refine zr_icmp_eq C 70 d_X5_readLink_53 (by decide) (fun c53 => ?_) (fun c53 => ?_)
        · have en3 := zn_eq (a := zcn ((o_Text_byteAt h (p + 1)) - 48)) (b := zcn ((o_Text_byteAt h (p + 2)) - 48)) (zix ex1.1) (zix ex2.1) c53 (zcn_small _) (zcn_small _)
          refine zr_iconst C (v := 2) d_X5_readLink_70 (by decide) ?_
          have eR : o_Text_readLink h p m = (2, h) := (by unfold o_Text_readLink; rw [if_pos c16, if_neg (zbf c24), if_pos c47, if_pos c53])
          subst hQ
          exact zTQ_Ih eR (zr_ireti C d_X5_readLink_71)
        · have en4 := zn_neq (a := zcn ((o_Text_byteAt h (p + 1)) - 48)) (b := zcn ((o_Text_byteAt h (p + 2)) - 48)) (zix ex1.1) (zix ex2.1) c53 (zcn_small _) (zcn_small _)
          refine zr_aload_n C d_X5_readLink_56 rfl ?_
          refine gf_Mesh_4 C hm m109 d_X5_readLink_57 ?_
          refine zr_iload_n C d_X5_readLink_60 rfl ?_
          refine zr_iald C (za_mesh_2 hm) (zcn ((o_Text_byteAt h (p + 1)) - 48)) (zix ex1.1) (by omega) (by decide) d_X5_readLink_61 ?_
          refine zr_iload C d_X5_readLink_62 rfl ?_
          refine zr_callNi (As := [.int (h (m + 2) (zcn ((o_Text_byteAt h (p + 1)) - 48))), .int ((o_Text_byteAt h (p + 2)) - 48)]) (st := []) C (c_Slots_has X h g (h (m + 2) (zcn ((o_Text_byteAt h (p + 1)) - 48))) ((o_Text_byteAt h (p + 2)) - 48)) k_Slots_has (by simp [zNest]) m322 rfl (by decide) rfl (Nat.le_of_ble_eq_true rfl) d_X5_readLink_64 ?_
          refine zr_ifz_eq C 72 d_X5_readLink_67 (by decide) (fun c67 => ?_) (fun c67 => ?_)
          · refine zr_aload_n C d_X5_readLink_72 rfl ?_
            refine zr_iload_n C d_X5_readLink_73 rfl ?_
            refine zr_iload C d_X5_readLink_74 rfl ?_
            refine zr_callVv (As := [.int ((o_Text_byteAt h (p + 1)) - 48), .int ((o_Text_byteAt h (p + 2)) - 48)]) (st := []) (c := m) C (c_Mesh_flipLink X h g m (zcn ((o_Text_byteAt h (p + 1)) - 48)) (zcn ((o_Text_byteAt h (p + 2)) - 48)) (zix ex1.1) (zix ex2.1) hm hf0 (by omega) (by omega)) k_Mesh_flipLink m367 m368 m369 (by omega) (zC_Mesh hm X _ _) rfl rfl (by decide) rfl (Nat.le_of_ble_eq_true rfl) d_X5_readLink_76 ?_
            refine zr_h (fun h5 eh5 => ?_)
            refine zr_iconst C (v := 3) d_X5_readLink_79 (by decide) ?_
            have eR : o_Text_readLink h p m = (3, h5) := (by subst eh5; unfold o_Text_readLink; rw [if_pos c16, if_neg (zbf c24), if_pos c47, if_neg c53, if_neg (zbf c67)])
            subst hQ
            exact zTQ_Ih eR (zr_ireti C d_X5_readLink_80)
          · refine zr_iconst C (v := 2) d_X5_readLink_70 (by decide) ?_
            have eR : o_Text_readLink h p m = (2, h) := (by unfold o_Text_readLink; rw [if_pos c16, if_neg (zbf c24), if_pos c47, if_neg c53, if_pos c67])
            subst hQ
            exact zTQ_Ih eR (zr_ireti C d_X5_readLink_71)
    · refine zr_iconst C (v := 1) d_X5_readLink_27 (by decide) ?_
      have eR : o_Text_readLink h p m = (1, h) := (by unfold o_Text_readLink; rw [if_pos c16, if_pos c24])
      subst hQ
      exact zTQ_Ih eR (zr_ireti C d_X5_readLink_28)
theorem pf_readStation {h : zHp} {p : Int32} {m : Nat} (f : zfit h m 0 8) : zfit (o_Text_readStation h p m).2 m 0 8 := by
  unfold o_Text_readStation
  (repeat' split) <;> first | exact f | exact pf_add f
theorem zlk {h : zHp} {p : Int32} {m : Nat} : (o_Text_readLink h p m).2 m 0 = h m 0 := fr_Text_readLink _ _ (by omega) (by omega) (by omega) (by omega) (by omega) (by omega) (by omega)
theorem pf_readLink {h : zHp} {p : Int32} {m : Nat} (f : zfit h m 0 8) : zfit (o_Text_readLink h p m).2 m 0 8 := zfit_fr zlk f

theorem d_X5_readInto_0 : decode prog_7_method_3_code 0 = .ok (.aload_n 1, 1) := by decide +kernel
theorem d_X5_readInto_1 : decode prog_7_method_3_code 1 = .ok (.invokevirtual 19, 3) := by decide +kernel
theorem d_X5_readInto_4 : decode prog_7_method_3_code 4 = .ok (.iconst 0, 1) := by decide +kernel
theorem d_X5_readInto_5 : decode prog_7_method_3_code 5 = .ok (.istore_n 2, 1) := by decide +kernel
theorem d_X5_readInto_6 : decode prog_7_method_3_code 6 = .ok (.iload_n 2, 1) := by decide +kernel
theorem d_X5_readInto_7 : decode prog_7_method_3_code 7 = .ok (.aload_n 0, 1) := by decide +kernel
theorem d_X5_readInto_8 : decode prog_7_method_3_code 8 = .ok (.getfield 15, 3) := by decide +kernel
theorem d_X5_readInto_11 : decode prog_7_method_3_code 11 = .ok (.if_icmp .ge 76, 3) := by decide +kernel
theorem d_X5_readInto_14 : decode prog_7_method_3_code 14 = .ok (.aload_n 0, 1) := by decide +kernel
theorem d_X5_readInto_15 : decode prog_7_method_3_code 15 = .ok (.iload_n 2, 1) := by decide +kernel
theorem d_X5_readInto_16 : decode prog_7_method_3_code 16 = .ok (.invokevirtual 24, 3) := by decide +kernel
theorem d_X5_readInto_19 : decode prog_7_method_3_code 19 = .ok (.istore_n 3, 1) := by decide +kernel
theorem d_X5_readInto_20 : decode prog_7_method_3_code 20 = .ok (.iconst 0, 1) := by decide +kernel
theorem d_X5_readInto_21 : decode prog_7_method_3_code 21 = .ok (.istore 4, 2) := by decide +kernel
theorem d_X5_readInto_23 : decode prog_7_method_3_code 23 = .ok (.iload_n 3, 1) := by decide +kernel
theorem d_X5_readInto_24 : decode prog_7_method_3_code 24 = .ok (.bipush 83, 2) := by decide +kernel
theorem d_X5_readInto_26 : decode prog_7_method_3_code 26 = .ok (.if_icmp .ne 23, 3) := by decide +kernel
theorem d_X5_readInto_29 : decode prog_7_method_3_code 29 = .ok (.aload_n 1, 1) := by decide +kernel
theorem d_X5_readInto_30 : decode prog_7_method_3_code 30 = .ok (.getfield 28, 3) := by decide +kernel
theorem d_X5_readInto_33 : decode prog_7_method_3_code 33 = .ok (.bipush 8, 2) := by decide +kernel
theorem d_X5_readInto_35 : decode prog_7_method_3_code 35 = .ok (.if_icmp .ge 14, 3) := by decide +kernel
theorem d_X5_readInto_38 : decode prog_7_method_3_code 38 = .ok (.aload_n 0, 1) := by decide +kernel
theorem d_X5_readInto_39 : decode prog_7_method_3_code 39 = .ok (.iload_n 2, 1) := by decide +kernel
theorem d_X5_readInto_40 : decode prog_7_method_3_code 40 = .ok (.aload_n 1, 1) := by decide +kernel
theorem d_X5_readInto_41 : decode prog_7_method_3_code 41 = .ok (.invokevirtual 31, 3) := by decide +kernel
theorem d_X5_readInto_44 : decode prog_7_method_3_code 44 = .ok (.istore 4, 2) := by decide +kernel
theorem d_X5_readInto_46 : decode prog_7_method_3_code 46 = .ok (.goto 24, 3) := by decide +kernel
theorem d_X5_readInto_49 : decode prog_7_method_3_code 49 = .ok (.iload_n 3, 1) := by decide +kernel
theorem d_X5_readInto_50 : decode prog_7_method_3_code 50 = .ok (.bipush 76, 2) := by decide +kernel
theorem d_X5_readInto_52 : decode prog_7_method_3_code 52 = .ok (.if_icmp .ne 18, 3) := by decide +kernel
theorem d_X5_readInto_55 : decode prog_7_method_3_code 55 = .ok (.aload_n 1, 1) := by decide +kernel
theorem d_X5_readInto_56 : decode prog_7_method_3_code 56 = .ok (.invokevirtual 35, 3) := by decide +kernel
theorem d_X5_readInto_59 : decode prog_7_method_3_code 59 = .ok (.ifCond .eq 11, 3) := by decide +kernel
theorem d_X5_readInto_62 : decode prog_7_method_3_code 62 = .ok (.aload_n 0, 1) := by decide +kernel
theorem d_X5_readInto_63 : decode prog_7_method_3_code 63 = .ok (.iload_n 2, 1) := by decide +kernel
theorem d_X5_readInto_64 : decode prog_7_method_3_code 64 = .ok (.aload_n 1, 1) := by decide +kernel
theorem d_X5_readInto_65 : decode prog_7_method_3_code 65 = .ok (.invokevirtual 39, 3) := by decide +kernel
theorem d_X5_readInto_68 : decode prog_7_method_3_code 68 = .ok (.istore 4, 2) := by decide +kernel
theorem d_X5_readInto_70 : decode prog_7_method_3_code 70 = .ok (.iload 4, 2) := by decide +kernel
theorem d_X5_readInto_72 : decode prog_7_method_3_code 72 = .ok (.iconst 3, 1) := by decide +kernel
theorem d_X5_readInto_73 : decode prog_7_method_3_code 73 = .ok (.if_icmp .ge 8, 3) := by decide +kernel
theorem d_X5_readInto_76 : decode prog_7_method_3_code 76 = .ok (.iload_n 2, 1) := by decide +kernel
theorem d_X5_readInto_77 : decode prog_7_method_3_code 77 = .ok (.iload 4, 2) := by decide +kernel
theorem d_X5_readInto_79 : decode prog_7_method_3_code 79 = .ok (.iadd, 1) := by decide +kernel
theorem d_X5_readInto_80 : decode prog_7_method_3_code 80 = .ok (.ireturn, 1) := by decide +kernel
theorem d_X5_readInto_81 : decode prog_7_method_3_code 81 = .ok (.iinc 2 3, 3) := by decide +kernel
theorem d_X5_readInto_84 : decode prog_7_method_3_code 84 = .ok (.goto (-78), 3) := by decide +kernel
theorem d_X5_readInto_87 : decode prog_7_method_3_code 87 = .ok (.bipush (-9), 2) := by decide +kernel
theorem d_X5_readInto_89 : decode prog_7_method_3_code 89 = .ok (.ireturn, 1) := by decide +kernel
abbrev M_Text_readInto : zMT := (⟨"PeriodSlots$Text", "readInto", "(LPeriodSlots$Mesh;)I"⟩, prog_7_method_3_code, 5, (some .int))
theorem k_Text_readInto : zcall M_Text_readInto 1 := ⟨zU_in (i := 277) (by decide +kernel) rfl, m55, ⟨by decide, by decide, by decide +kernel⟩, by decide⟩
def o_Text_readInto (h : zHp) (m : Nat) : Int32 × zHp :=
  (Sum.elim (fun r6_2 => ((-9), r6_2)) (fun q6_2 => q6_2) (zrex (fun (i6_2 : Nat) (s6_2 : zHp) => ((if 3 ≤ (if (o_Text_byteAt s6_2 (nI (3 * i6_2))) = 83 then (if 8 ≤ (s6_2 m 0) then (if (o_Text_byteAt s6_2 (nI (3 * i6_2))) = 76 then (if (o_Mesh_lacksLink s6_2 m) = true then ((o_Text_readLink s6_2 (nI (3 * i6_2)) m).1) else 0) else 0) else ((o_Text_readStation s6_2 (nI (3 * i6_2)) m).1)) else (if (o_Text_byteAt s6_2 (nI (3 * i6_2))) = 76 then (if (o_Mesh_lacksLink s6_2 m) = true then ((o_Text_readLink s6_2 (nI (3 * i6_2)) m).1) else 0) else 0)) then .inl (if (o_Text_byteAt s6_2 (nI (3 * i6_2))) = 83 then (if 8 ≤ (s6_2 m 0) then (if (o_Text_byteAt s6_2 (nI (3 * i6_2))) = 76 then (if (o_Mesh_lacksLink s6_2 m) = true then ((o_Text_readLink s6_2 (nI (3 * i6_2)) m).2) else s6_2) else s6_2) else ((o_Text_readStation s6_2 (nI (3 * i6_2)) m).2)) else (if (o_Text_byteAt s6_2 (nI (3 * i6_2))) = 76 then (if (o_Mesh_lacksLink s6_2 m) = true then ((o_Text_readLink s6_2 (nI (3 * i6_2)) m).2) else s6_2) else s6_2)) else .inr (((nI (3 * i6_2)) + (if (o_Text_byteAt s6_2 (nI (3 * i6_2))) = 83 then (if 8 ≤ (s6_2 m 0) then (if (o_Text_byteAt s6_2 (nI (3 * i6_2))) = 76 then (if (o_Mesh_lacksLink s6_2 m) = true then ((o_Text_readLink s6_2 (nI (3 * i6_2)) m).1) else 0) else 0) else ((o_Text_readStation s6_2 (nI (3 * i6_2)) m).1)) else (if (o_Text_byteAt s6_2 (nI (3 * i6_2))) = 76 then (if (o_Mesh_lacksLink s6_2 m) = true then ((o_Text_readLink s6_2 (nI (3 * i6_2)) m).1) else 0) else 0))), (if (o_Text_byteAt s6_2 (nI (3 * i6_2))) = 83 then (if 8 ≤ (s6_2 m 0) then (if (o_Text_byteAt s6_2 (nI (3 * i6_2))) = 76 then (if (o_Mesh_lacksLink s6_2 m) = true then ((o_Text_readLink s6_2 (nI (3 * i6_2)) m).2) else s6_2) else s6_2) else ((o_Text_readStation s6_2 (nI (3 * i6_2)) m).2)) else (if (o_Text_byteAt s6_2 (nI (3 * i6_2))) = 76 then (if (o_Mesh_lacksLink s6_2 m) = true then ((o_Text_readLink s6_2 (nI (3 * i6_2)) m).2) else s6_2) else s6_2)))) : (zHp) ⊕ (Int32 × zHp))) (o_Mesh_clear h m) ((zcn (h 1 0) + 2) / 3)))
theorem fr_Text_readInto {h : zHp} {m : Nat} (c k : Nat) (q0 : ¬ (c = m ∧ k = 0)) (q1 : ¬ (c = m ∧ k = 1)) (q2 : c ≠ m + 1) (q3 : c ≠ m + 2) (q4 : c ≠ m + 3) (q5 : c ≠ m + 4) (q6 : c ≠ m + 5) (q7 : c ≠ m + 6) (q8 : c ≠ m + 7) (q9 : c ≠ m + 8) (q10 : c ≠ m + 9) (q11 : c ≠ m + 10) : (o_Text_readInto h m).2 c k = h c k := by
  unfold o_Text_readInto
  have hX := zrex_inv (f := (fun (i6_2 : Nat) (s6_2 : zHp) => ((if 3 ≤ (if (o_Text_byteAt s6_2 (nI (3 * i6_2))) = 83 then (if 8 ≤ (s6_2 m 0) then (if (o_Text_byteAt s6_2 (nI (3 * i6_2))) = 76 then (if (o_Mesh_lacksLink s6_2 m) = true then ((o_Text_readLink s6_2 (nI (3 * i6_2)) m).1) else 0) else 0) else ((o_Text_readStation s6_2 (nI (3 * i6_2)) m).1)) else (if (o_Text_byteAt s6_2 (nI (3 * i6_2))) = 76 then (if (o_Mesh_lacksLink s6_2 m) = true then ((o_Text_readLink s6_2 (nI (3 * i6_2)) m).1) else 0) else 0)) then .inl (if (o_Text_byteAt s6_2 (nI (3 * i6_2))) = 83 then (if 8 ≤ (s6_2 m 0) then (if (o_Text_byteAt s6_2 (nI (3 * i6_2))) = 76 then (if (o_Mesh_lacksLink s6_2 m) = true then ((o_Text_readLink s6_2 (nI (3 * i6_2)) m).2) else s6_2) else s6_2) else ((o_Text_readStation s6_2 (nI (3 * i6_2)) m).2)) else (if (o_Text_byteAt s6_2 (nI (3 * i6_2))) = 76 then (if (o_Mesh_lacksLink s6_2 m) = true then ((o_Text_readLink s6_2 (nI (3 * i6_2)) m).2) else s6_2) else s6_2)) else .inr (((nI (3 * i6_2)) + (if (o_Text_byteAt s6_2 (nI (3 * i6_2))) = 83 then (if 8 ≤ (s6_2 m 0) then (if (o_Text_byteAt s6_2 (nI (3 * i6_2))) = 76 then (if (o_Mesh_lacksLink s6_2 m) = true then ((o_Text_readLink s6_2 (nI (3 * i6_2)) m).1) else 0) else 0) else ((o_Text_readStation s6_2 (nI (3 * i6_2)) m).1)) else (if (o_Text_byteAt s6_2 (nI (3 * i6_2))) = 76 then (if (o_Mesh_lacksLink s6_2 m) = true then ((o_Text_readLink s6_2 (nI (3 * i6_2)) m).1) else 0) else 0))), (if (o_Text_byteAt s6_2 (nI (3 * i6_2))) = 83 then (if 8 ≤ (s6_2 m 0) then (if (o_Text_byteAt s6_2 (nI (3 * i6_2))) = 76 then (if (o_Mesh_lacksLink s6_2 m) = true then ((o_Text_readLink s6_2 (nI (3 * i6_2)) m).2) else s6_2) else s6_2) else ((o_Text_readStation s6_2 (nI (3 * i6_2)) m).2)) else (if (o_Text_byteAt s6_2 (nI (3 * i6_2))) = 76 then (if (o_Mesh_lacksLink s6_2 m) = true then ((o_Text_readLink s6_2 (nI (3 * i6_2)) m).2) else s6_2) else s6_2)))) : (zHp) ⊕ (Int32 × zHp)))) (a := (o_Mesh_clear h m)) (fun _ s6_2 => ∀ c k : Nat, ¬ (c = m ∧ k = 0) → ¬ (c = m ∧ k = 1) → c ≠ m + 1 → c ≠ m + 2 → c ≠ m + 3 → c ≠ m + 4 → c ≠ m + 5 → c ≠ m + 6 → c ≠ m + 7 → c ≠ m + 8 → c ≠ m + 9 → c ≠ m + 10 → s6_2 c k = (o_Mesh_clear h m) c k) (fun q6_2 => ∀ c k : Nat, ¬ (c = m ∧ k = 0) → ¬ (c = m ∧ k = 1) → c ≠ m + 1 → c ≠ m + 2 → c ≠ m + 3 → c ≠ m + 4 → c ≠ m + 5 → c ≠ m + 6 → c ≠ m + 7 → c ≠ m + 8 → c ≠ m + 9 → c ≠ m + 10 → q6_2.2 c k = (o_Mesh_clear h m) c k) ((zcn (h 1 0) + 2) / 3) (fun _ _ _ _ _ _ _ _ _ _ _ _ _ _ => rfl) (fun i6_2 s6_2 hi6_2 hI6_2 => ⟨(by intro s2 hs; (try dsimp only at hs); by_cases cc : 3 ≤ (if (o_Text_byteAt s6_2 (nI (3 * i6_2))) = 83 then (if 8 ≤ (s6_2 m 0) then (if (o_Text_byteAt s6_2 (nI (3 * i6_2))) = 76 then (if (o_Mesh_lacksLink s6_2 m) = true then ((o_Text_readLink s6_2 (nI (3 * i6_2)) m).1) else 0) else 0) else ((o_Text_readStation s6_2 (nI (3 * i6_2)) m).1)) else (if (o_Text_byteAt s6_2 (nI (3 * i6_2))) = 76 then (if (o_Mesh_lacksLink s6_2 m) = true then ((o_Text_readLink s6_2 (nI (3 * i6_2)) m).1) else 0) else 0)); (rw [if_pos cc] at hs; cases hs; exact fun c k q0 q1 q2 q3 q4 q5 q6 q7 q8 q9 q10 q11 => (by (try dsimp only); exact (zite_fr (fun _ => (zite_fr (fun _ => (zite_fr (fun _ => (zite_fr (fun _ => ((fr_Text_readLink _ _ (by assumption) (by assumption) (by assumption) (by assumption) (by assumption) (by assumption) (by assumption)).trans (hI6_2 _ _ (by assumption) (by assumption) (by assumption) (by assumption) (by assumption) (by assumption) (by assumption) (by assumption) (by assumption) (by assumption) (by assumption) (by assumption)))) (fun _ => (hI6_2 _ _ (by assumption) (by assumption) (by assumption) (by assumption) (by assumption) (by assumption) (by assumption) (by assumption) (by assumption) (by assumption) (by assumption) (by assumption))))) (fun _ => (hI6_2 _ _ (by assumption) (by assumption) (by assumption) (by assumption) (by assumption) (by assumption) (by assumption) (by assumption) (by assumption) (by assumption) (by assumption) (by assumption))))) (fun _ => ((fr_Text_readStation _ _ (by assumption) (by assumption) (by assumption) (by assumption) (by assumption) (by assumption) (by assumption) (by assumption) (by assumption) (by assumption) (by assumption)).trans (hI6_2 _ _ (by assumption) (by assumption) (by assumption) (by assumption) (by assumption) (by assumption) (by assumption) (by assumption) (by assumption) (by assumption) (by assumption) (by assumption)))))) (fun _ => (zite_fr (fun _ => (zite_fr (fun _ => ((fr_Text_readLink _ _ (by assumption) (by assumption) (by assumption) (by assumption) (by assumption) (by assumption) (by assumption)).trans (hI6_2 _ _ (by assumption) (by assumption) (by assumption) (by assumption) (by assumption) (by assumption) (by assumption) (by assumption) (by assumption) (by assumption) (by assumption) (by assumption)))) (fun _ => (hI6_2 _ _ (by assumption) (by assumption) (by assumption) (by assumption) (by assumption) (by assumption) (by assumption) (by assumption) (by assumption) (by assumption) (by assumption) (by assumption))))) (fun _ => (hI6_2 _ _ (by assumption) (by assumption) (by assumption) (by assumption) (by assumption) (by assumption) (by assumption) (by assumption) (by assumption) (by assumption) (by assumption) (by assumption)))))))); (rw [if_neg cc] at hs; cases hs)), (by intro r hs; (try dsimp only at hs); by_cases cc : 3 ≤ (if (o_Text_byteAt s6_2 (nI (3 * i6_2))) = 83 then (if 8 ≤ (s6_2 m 0) then (if (o_Text_byteAt s6_2 (nI (3 * i6_2))) = 76 then (if (o_Mesh_lacksLink s6_2 m) = true then ((o_Text_readLink s6_2 (nI (3 * i6_2)) m).1) else 0) else 0) else ((o_Text_readStation s6_2 (nI (3 * i6_2)) m).1)) else (if (o_Text_byteAt s6_2 (nI (3 * i6_2))) = 76 then (if (o_Mesh_lacksLink s6_2 m) = true then ((o_Text_readLink s6_2 (nI (3 * i6_2)) m).1) else 0) else 0)); (rw [if_pos cc] at hs; cases hs); (rw [if_neg cc] at hs; cases hs; exact fun c k q0 q1 q2 q3 q4 q5 q6 q7 q8 q9 q10 q11 => (by (try dsimp only); exact (zite_fr (fun _ => (zite_fr (fun _ => (zite_fr (fun _ => (zite_fr (fun _ => ((fr_Text_readLink _ _ (by assumption) (by assumption) (by assumption) (by assumption) (by assumption) (by assumption) (by assumption)).trans (hI6_2 _ _ (by assumption) (by assumption) (by assumption) (by assumption) (by assumption) (by assumption) (by assumption) (by assumption) (by assumption) (by assumption) (by assumption) (by assumption)))) (fun _ => (hI6_2 _ _ (by assumption) (by assumption) (by assumption) (by assumption) (by assumption) (by assumption) (by assumption) (by assumption) (by assumption) (by assumption) (by assumption) (by assumption))))) (fun _ => (hI6_2 _ _ (by assumption) (by assumption) (by assumption) (by assumption) (by assumption) (by assumption) (by assumption) (by assumption) (by assumption) (by assumption) (by assumption) (by assumption))))) (fun _ => ((fr_Text_readStation _ _ (by assumption) (by assumption) (by assumption) (by assumption) (by assumption) (by assumption) (by assumption) (by assumption) (by assumption) (by assumption) (by assumption)).trans (hI6_2 _ _ (by assumption) (by assumption) (by assumption) (by assumption) (by assumption) (by assumption) (by assumption) (by assumption) (by assumption) (by assumption) (by assumption) (by assumption)))))) (fun _ => (zite_fr (fun _ => (zite_fr (fun _ => ((fr_Text_readLink _ _ (by assumption) (by assumption) (by assumption) (by assumption) (by assumption) (by assumption) (by assumption)).trans (hI6_2 _ _ (by assumption) (by assumption) (by assumption) (by assumption) (by assumption) (by assumption) (by assumption) (by assumption) (by assumption) (by assumption) (by assumption) (by assumption)))) (fun _ => (hI6_2 _ _ (by assumption) (by assumption) (by assumption) (by assumption) (by assumption) (by assumption) (by assumption) (by assumption) (by assumption) (by assumption) (by assumption) (by assumption))))) (fun _ => (hI6_2 _ _ (by assumption) (by assumption) (by assumption) (by assumption) (by assumption) (by assumption) (by assumption) (by assumption) (by assumption) (by assumption) (by assumption) (by assumption)))))))))⟩)
  cases hz : (zrex (fun (i6_2 : Nat) (s6_2 : zHp) => ((if 3 ≤ (if (o_Text_byteAt s6_2 (nI (3 * i6_2))) = 83 then (if 8 ≤ (s6_2 m 0) then (if (o_Text_byteAt s6_2 (nI (3 * i6_2))) = 76 then (if (o_Mesh_lacksLink s6_2 m) = true then ((o_Text_readLink s6_2 (nI (3 * i6_2)) m).1) else 0) else 0) else ((o_Text_readStation s6_2 (nI (3 * i6_2)) m).1)) else (if (o_Text_byteAt s6_2 (nI (3 * i6_2))) = 76 then (if (o_Mesh_lacksLink s6_2 m) = true then ((o_Text_readLink s6_2 (nI (3 * i6_2)) m).1) else 0) else 0)) then .inl (if (o_Text_byteAt s6_2 (nI (3 * i6_2))) = 83 then (if 8 ≤ (s6_2 m 0) then (if (o_Text_byteAt s6_2 (nI (3 * i6_2))) = 76 then (if (o_Mesh_lacksLink s6_2 m) = true then ((o_Text_readLink s6_2 (nI (3 * i6_2)) m).2) else s6_2) else s6_2) else ((o_Text_readStation s6_2 (nI (3 * i6_2)) m).2)) else (if (o_Text_byteAt s6_2 (nI (3 * i6_2))) = 76 then (if (o_Mesh_lacksLink s6_2 m) = true then ((o_Text_readLink s6_2 (nI (3 * i6_2)) m).2) else s6_2) else s6_2)) else .inr (((nI (3 * i6_2)) + (if (o_Text_byteAt s6_2 (nI (3 * i6_2))) = 83 then (if 8 ≤ (s6_2 m 0) then (if (o_Text_byteAt s6_2 (nI (3 * i6_2))) = 76 then (if (o_Mesh_lacksLink s6_2 m) = true then ((o_Text_readLink s6_2 (nI (3 * i6_2)) m).1) else 0) else 0) else ((o_Text_readStation s6_2 (nI (3 * i6_2)) m).1)) else (if (o_Text_byteAt s6_2 (nI (3 * i6_2))) = 76 then (if (o_Mesh_lacksLink s6_2 m) = true then ((o_Text_readLink s6_2 (nI (3 * i6_2)) m).1) else 0) else 0))), (if (o_Text_byteAt s6_2 (nI (3 * i6_2))) = 83 then (if 8 ≤ (s6_2 m 0) then (if (o_Text_byteAt s6_2 (nI (3 * i6_2))) = 76 then (if (o_Mesh_lacksLink s6_2 m) = true then ((o_Text_readLink s6_2 (nI (3 * i6_2)) m).2) else s6_2) else s6_2) else ((o_Text_readStation s6_2 (nI (3 * i6_2)) m).2)) else (if (o_Text_byteAt s6_2 (nI (3 * i6_2))) = 76 then (if (o_Mesh_lacksLink s6_2 m) = true then ((o_Text_readLink s6_2 (nI (3 * i6_2)) m).2) else s6_2) else s6_2)))) : (zHp) ⊕ (Int32 × zHp))) (o_Mesh_clear h m) ((zcn (h 1 0) + 2) / 3)) with
  | inl r6_2 =>
    have hI6_2 := hX.1 r6_2 hz
    simp only [Sum.elim_inl]
    try dsimp only
    first | done | exact ((hI6_2 _ _ (by assumption) (by assumption) (by assumption) (by assumption) (by assumption) (by assumption) (by assumption) (by assumption) (by assumption) (by assumption) (by assumption) (by assumption)).trans (fr_Mesh_clear _ _ (by assumption) (by assumption)))
  | inr q6_2 =>
    exact (hX.2 q6_2 hz c k (by assumption) (by assumption) (by assumption) (by assumption) (by assumption) (by assumption) (by assumption) (by assumption) (by assumption) (by assumption) (by assumption) (by assumption)).trans (fr_Mesh_clear _ _ (by assumption) (by assumption))
set_option maxHeartbeats 400000 in
set_option maxRecDepth 20000 in
theorem c_Text_readInto (X : zXT) (h : zHp) (g : zLg) (m : Nat) (hm : m = 3 ∨ m = 15 ∨ m = 27) (hf0 : zfit h 1 0 110) : zDi X M_Text_readInto 5 [zR X 1, zR X m] h g (zI ((o_Text_readInto h m).1)) ((o_Text_readInto h m).2) g := by
  have hf0_1 := hf0.1
  refine zDi_of "PeriodSlots$Text" prog_7_method_3_code 5 (some .int) rfl (by decide) [zO X 1, zO X m, none, none, none] rfl (fun _ q => q) (Nat.le_of_ble_eq_true rfl) ?_
  intro Γ Q C hQ
  refine zr_aload_n C d_X5_readInto_0 rfl ?_
  refine zr_callVv (As := []) (st := []) (c := m) C (c_Mesh_clear X h g m hm) k_Mesh_clear m278 m279 m280 (by omega) (zC_Mesh hm X _ _) rfl rfl (by decide) rfl (Nat.le_of_ble_eq_true rfl) d_X5_readInto_1 ?_
  refine zr_h (fun h1 eh1 => ?_)
  have hph1 : zfit h1 m 0 8 := by rw [← eh1]; exact pf_clear
  have hph1_1 := hph1.1
  refine zr_iconst C (v := 0) d_X5_readInto_4 (by decide) ?_
  refine zr_istore_n C [zO X 1, zO X m, zI 0, none, none] d_X5_readInto_5 (Nat.le_of_ble_eq_true rfl) rfl rfl ?_
  refine zforx (f := (fun (i6_2 : Nat) (s6_2 : zHp) => ((if 3 ≤ (if (o_Text_byteAt s6_2 (nI (3 * i6_2))) = 83 then (if 8 ≤ (s6_2 m 0) then (if (o_Text_byteAt s6_2 (nI (3 * i6_2))) = 76 then (if (o_Mesh_lacksLink s6_2 m) = true then ((o_Text_readLink s6_2 (nI (3 * i6_2)) m).1) else 0) else 0) else ((o_Text_readStation s6_2 (nI (3 * i6_2)) m).1)) else (if (o_Text_byteAt s6_2 (nI (3 * i6_2))) = 76 then (if (o_Mesh_lacksLink s6_2 m) = true then ((o_Text_readLink s6_2 (nI (3 * i6_2)) m).1) else 0) else 0)) then .inl (if (o_Text_byteAt s6_2 (nI (3 * i6_2))) = 83 then (if 8 ≤ (s6_2 m 0) then (if (o_Text_byteAt s6_2 (nI (3 * i6_2))) = 76 then (if (o_Mesh_lacksLink s6_2 m) = true then ((o_Text_readLink s6_2 (nI (3 * i6_2)) m).2) else s6_2) else s6_2) else ((o_Text_readStation s6_2 (nI (3 * i6_2)) m).2)) else (if (o_Text_byteAt s6_2 (nI (3 * i6_2))) = 76 then (if (o_Mesh_lacksLink s6_2 m) = true then ((o_Text_readLink s6_2 (nI (3 * i6_2)) m).2) else s6_2) else s6_2)) else .inr (((nI (3 * i6_2)) + (if (o_Text_byteAt s6_2 (nI (3 * i6_2))) = 83 then (if 8 ≤ (s6_2 m 0) then (if (o_Text_byteAt s6_2 (nI (3 * i6_2))) = 76 then (if (o_Mesh_lacksLink s6_2 m) = true then ((o_Text_readLink s6_2 (nI (3 * i6_2)) m).1) else 0) else 0) else ((o_Text_readStation s6_2 (nI (3 * i6_2)) m).1)) else (if (o_Text_byteAt s6_2 (nI (3 * i6_2))) = 76 then (if (o_Mesh_lacksLink s6_2 m) = true then ((o_Text_readLink s6_2 (nI (3 * i6_2)) m).1) else 0) else 0))), (if (o_Text_byteAt s6_2 (nI (3 * i6_2))) = 83 then (if 8 ≤ (s6_2 m 0) then (if (o_Text_byteAt s6_2 (nI (3 * i6_2))) = 76 then (if (o_Mesh_lacksLink s6_2 m) = true then ((o_Text_readLink s6_2 (nI (3 * i6_2)) m).2) else s6_2) else s6_2) else ((o_Text_readStation s6_2 (nI (3 * i6_2)) m).2)) else (if (o_Text_byteAt s6_2 (nI (3 * i6_2))) = 76 then (if (o_Mesh_lacksLink s6_2 m) = true then ((o_Text_readLink s6_2 (nI (3 * i6_2)) m).2) else s6_2) else s6_2)))) : (zHp) ⊕ (Int32 × zHp)))) (a := h1) (fun i6_2 s6_2 => zV X Γ Q 6 [zO X 1, zO X m, zI (nI (3 * i6_2)), none, none] [] s6_2 g) (fun _ s6_2 => (∀ c k : Nat, ¬ (c = m ∧ k = 0) → ¬ (c = m ∧ k = 1) → c ≠ m + 1 → c ≠ m + 2 → c ≠ m + 3 → c ≠ m + 4 → c ≠ m + 5 → c ≠ m + 6 → c ≠ m + 7 → c ≠ m + 8 → c ≠ m + 9 → c ≠ m + 10 → s6_2 c k = h1 c k) ∧ zfit s6_2 m 0 8) ((zcn (h 1 0) + 2) / 3) ⟨(fun _ _ _ _ _ _ _ _ _ _ _ _ _ _ => rfl), hph1⟩ (fun i6_2 s6_2 hi6_2 hI6_2 => ⟨(by intro s2 hs; (try dsimp only at hs); by_cases cc : 3 ≤ (if (o_Text_byteAt s6_2 (nI (3 * i6_2))) = 83 then (if 8 ≤ (s6_2 m 0) then (if (o_Text_byteAt s6_2 (nI (3 * i6_2))) = 76 then (if (o_Mesh_lacksLink s6_2 m) = true then ((o_Text_readLink s6_2 (nI (3 * i6_2)) m).1) else 0) else 0) else ((o_Text_readStation s6_2 (nI (3 * i6_2)) m).1)) else (if (o_Text_byteAt s6_2 (nI (3 * i6_2))) = 76 then (if (o_Mesh_lacksLink s6_2 m) = true then ((o_Text_readLink s6_2 (nI (3 * i6_2)) m).1) else 0) else 0)); (rw [if_pos cc] at hs; cases hs; exact ⟨fun c k q0 q1 q2 q3 q4 q5 q6 q7 q8 q9 q10 q11 => (by (try dsimp only); exact (zite_fr (fun _ => (zite_fr (fun _ => (zite_fr (fun _ => (zite_fr (fun _ => ((fr_Text_readLink _ _ (by assumption) (by assumption) (by assumption) (by assumption) (by assumption) (by assumption) (by assumption)).trans (hI6_2.1 _ _ (by assumption) (by assumption) (by assumption) (by assumption) (by assumption) (by assumption) (by assumption) (by assumption) (by assumption) (by assumption) (by assumption) (by assumption)))) (fun _ => (hI6_2.1 _ _ (by assumption) (by assumption) (by assumption) (by assumption) (by assumption) (by assumption) (by assumption) (by assumption) (by assumption) (by assumption) (by assumption) (by assumption))))) (fun _ => (hI6_2.1 _ _ (by assumption) (by assumption) (by assumption) (by assumption) (by assumption) (by assumption) (by assumption) (by assumption) (by assumption) (by assumption) (by assumption) (by assumption))))) (fun _ => ((fr_Text_readStation _ _ (by assumption) (by assumption) (by assumption) (by assumption) (by assumption) (by assumption) (by assumption) (by assumption) (by assumption) (by assumption) (by assumption)).trans (hI6_2.1 _ _ (by assumption) (by assumption) (by assumption) (by assumption) (by assumption) (by assumption) (by assumption) (by assumption) (by assumption) (by assumption) (by assumption) (by assumption)))))) (fun _ => (zite_fr (fun _ => (zite_fr (fun _ => ((fr_Text_readLink _ _ (by assumption) (by assumption) (by assumption) (by assumption) (by assumption) (by assumption) (by assumption)).trans (hI6_2.1 _ _ (by assumption) (by assumption) (by assumption) (by assumption) (by assumption) (by assumption) (by assumption) (by assumption) (by assumption) (by assumption) (by assumption) (by assumption)))) (fun _ => (hI6_2.1 _ _ (by assumption) (by assumption) (by assumption) (by assumption) (by assumption) (by assumption) (by assumption) (by assumption) (by assumption) (by assumption) (by assumption) (by assumption))))) (fun _ => (hI6_2.1 _ _ (by assumption) (by assumption) (by assumption) (by assumption) (by assumption) (by assumption) (by assumption) (by assumption) (by assumption) (by assumption) (by assumption) (by assumption))))))), (by (repeat' split) <;> with_reducible first | exact hI6_2.2 | exact pf_readStation hI6_2.2 | exact pf_readLink hI6_2.2)⟩); (rw [if_neg cc] at hs; cases hs)), fun hk6_2 hx6_2 => ?_⟩) (fun r6_2 er6_2 hI6_2 => ?_)
  · have hI6_2_2 := hI6_2.2.1
    refine zr_iload_n C d_X5_readInto_6 rfl ?_
    refine zr_aload_n C d_X5_readInto_7 rfl ?_
    refine gf_Text_1 C m81 d_X5_readInto_8 ?_
    refine zr_icmp_ge C 87 d_X5_readInto_11 (by decide) (fun c => absurd c (zge_no ((hI6_2.1 _ _ (by omega) (by omega) (by omega) (by omega) (by omega) (by omega) (by omega) (by omega) (by omega) (by omega) (by omega) (by omega)).trans ((congrFun (congrFun eh1.symm _) _).trans (fr_Mesh_clear _ _ (by omega) (by omega)))) (by omega))) (fun _ => ?_)
    refine zr_aload_n C d_X5_readInto_14 rfl ?_
    refine zr_iload_n C d_X5_readInto_15 rfl ?_
    refine zr_callVi (As := [.int (nI (3 * i6_2))]) (st := []) (c := 1) C (c_Text_byteAt X s6_2 g (nI (3 * i6_2))) k_Text_byteAt m282 m284 m0 (by decide) (zC_Text X _ _) rfl rfl (by decide) rfl (Nat.le_of_ble_eq_true rfl) d_X5_readInto_16 ?_
    refine zr_istore_n C [zO X 1, zO X m, zI (nI (3 * i6_2)), zI (o_Text_byteAt s6_2 (nI (3 * i6_2))), none] d_X5_readInto_19 (Nat.le_of_ble_eq_true rfl) rfl rfl ?_
    refine zr_iconst C (v := 0) d_X5_readInto_20 (by decide) ?_
    refine zr_istore C [zO X 1, zO X m, zI (nI (3 * i6_2)), zI (o_Text_byteAt s6_2 (nI (3 * i6_2))), zI 0] d_X5_readInto_21 (Nat.le_of_ble_eq_true rfl) rfl rfl ?_
    refine zr_iload_n C d_X5_readInto_23 rfl ?_
    refine zr_bipush C (v := 83) d_X5_readInto_24 (by decide) ?_
    suffices hJ26 : ∀ (y11 : Int32) (h12 : zHp), (if (o_Text_byteAt s6_2 (nI (3 * i6_2))) = 83 then (if 8 ≤ (s6_2 m 0) then (if (o_Text_byteAt s6_2 (nI (3 * i6_2))) = 76 then (if (o_Mesh_lacksLink s6_2 m) = true then ((o_Text_readLink s6_2 (nI (3 * i6_2)) m).1) else 0) else 0) else ((o_Text_readStation s6_2 (nI (3 * i6_2)) m).1)) else (if (o_Text_byteAt s6_2 (nI (3 * i6_2))) = 76 then (if (o_Mesh_lacksLink s6_2 m) = true then ((o_Text_readLink s6_2 (nI (3 * i6_2)) m).1) else 0) else 0)) = y11 → (if (o_Text_byteAt s6_2 (nI (3 * i6_2))) = 83 then (if 8 ≤ (s6_2 m 0) then (if (o_Text_byteAt s6_2 (nI (3 * i6_2))) = 76 then (if (o_Mesh_lacksLink s6_2 m) = true then ((o_Text_readLink s6_2 (nI (3 * i6_2)) m).2) else s6_2) else s6_2) else ((o_Text_readStation s6_2 (nI (3 * i6_2)) m).2)) else (if (o_Text_byteAt s6_2 (nI (3 * i6_2))) = 76 then (if (o_Mesh_lacksLink s6_2 m) = true then ((o_Text_readLink s6_2 (nI (3 * i6_2)) m).2) else s6_2) else s6_2)) = h12 → zV X Γ Q 70 [zO X 1, zO X m, zI (nI (3 * i6_2)), none, zI y11] [] h12 g by
      refine zr_icmp_ne C 49 d_X5_readInto_26 (by decide) (fun c26 => ?_) (fun c26 => ?_)
      · refine zr_iload_n C d_X5_readInto_49 rfl ?_
        refine zr_bipush C (v := 76) d_X5_readInto_50 (by decide) ?_
        refine zr_icmp_ne C 70 d_X5_readInto_52 (by decide) (fun c52 => ?_) (fun c52 => ?_)
        · refine zr_lv [zO X 1, zO X m, zI (nI (3 * i6_2)), none, zI 0] (by simp [zle]) ?_
          exact hJ26 0 s6_2 (((if_neg c26).trans ((if_neg c52)))) (((if_neg c26).trans ((if_neg c52))))
        · refine zr_aload_n C d_X5_readInto_55 rfl ?_
          refine zr_callVi (As := []) (st := []) (c := m) C (c_Mesh_lacksLink X s6_2 g m hm hI6_2.2) k_Mesh_lacksLink m340 m341 m342 (by omega) (zC_Mesh hm X _ _) rfl rfl (by decide) rfl (Nat.le_of_ble_eq_true rfl) d_X5_readInto_56 ?_
          refine zr_ifz_eq C 70 d_X5_readInto_59 (by decide) (fun c59 => ?_) (fun c59 => ?_)
          · refine zr_lv [zO X 1, zO X m, zI (nI (3 * i6_2)), none, zI 0] (by simp [zle]) ?_
            exact hJ26 0 s6_2 (((if_neg c26).trans ((if_pos c52).trans ((if_neg (zbf c59)))))) (((if_neg c26).trans ((if_pos c52).trans ((if_neg (zbf c59))))))
          · refine zr_aload_n C d_X5_readInto_62 rfl ?_
            refine zr_iload_n C d_X5_readInto_63 rfl ?_
            refine zr_aload_n C d_X5_readInto_64 rfl ?_
            refine zr_callVi (As := [.int (nI (3 * i6_2)), zR X m]) (st := []) (c := 1) C (c_Text_readLink X s6_2 g (nI (3 * i6_2)) m hm hI6_2.2) k_Text_readLink m354 m356 m6 (by decide) (zC_Text X _ _) rfl rfl (by decide) rfl (Nat.le_of_ble_eq_true rfl) d_X5_readInto_65 ?_
            refine zr_vi (fun y3 ey3 => ?_)
            refine zr_h (fun h4 eh4 => ?_)
            refine zr_istore C [zO X 1, zO X m, zI (nI (3 * i6_2)), zI (o_Text_byteAt s6_2 (nI (3 * i6_2))), zI y3] d_X5_readInto_68 (Nat.le_of_ble_eq_true rfl) rfl rfl ?_
            refine zr_lv [zO X 1, zO X m, zI (nI (3 * i6_2)), none, zI y3] (by simp [zle]) ?_
            exact hJ26 y3 h4 (by subst eh4 ey3; exact ((if_neg c26).trans ((if_pos c52).trans ((if_pos c59))))) (by subst eh4 ey3; exact ((if_neg c26).trans ((if_pos c52).trans ((if_pos c59)))))
      · refine zr_aload_n C d_X5_readInto_29 rfl ?_
        refine gf_Mesh_0 C hm m97 d_X5_readInto_30 ?_
        refine zr_bipush C (v := 8) d_X5_readInto_33 (by decide) ?_
        refine zr_icmp_ge C 49 d_X5_readInto_35 (by decide) (fun c35 => ?_) (fun c35 => ?_)
        · have en5 := zn_ge (a := zcn (s6_2 m 0)) (b := 8) hI6_2.2.2 rfl c35 (zcn_small _) (by decide)
          refine zr_iload_n C d_X5_readInto_49 rfl ?_
          refine zr_bipush C (v := 76) d_X5_readInto_50 (by decide) ?_
          refine zr_icmp_ne C 70 d_X5_readInto_52 (by decide) (fun c52 => ?_) (fun c52 => ?_)
          · refine zr_lv [zO X 1, zO X m, zI (nI (3 * i6_2)), none, zI 0] (by simp [zle]) ?_
            exact hJ26 0 s6_2 (((if_pos c26).trans ((if_pos c35).trans ((if_neg c52))))) (((if_pos c26).trans ((if_pos c35).trans ((if_neg c52)))))
          · refine zr_aload_n C d_X5_readInto_55 rfl ?_
            refine zr_callVi (As := []) (st := []) (c := m) C (c_Mesh_lacksLink X s6_2 g m hm hI6_2.2) k_Mesh_lacksLink m340 m341 m342 (by omega) (zC_Mesh hm X _ _) rfl rfl (by decide) rfl (Nat.le_of_ble_eq_true rfl) d_X5_readInto_56 ?_
            refine zr_ifz_eq C 70 d_X5_readInto_59 (by decide) (fun c59 => ?_) (fun c59 => ?_)
            · refine zr_lv [zO X 1, zO X m, zI (nI (3 * i6_2)), none, zI 0] (by simp [zle]) ?_
              exact hJ26 0 s6_2 (((if_pos c26).trans ((if_pos c35).trans ((if_pos c52).trans ((if_neg (zbf c59))))))) (((if_pos c26).trans ((if_pos c35).trans ((if_pos c52).trans ((if_neg (zbf c59)))))))
            · refine zr_aload_n C d_X5_readInto_62 rfl ?_
              refine zr_iload_n C d_X5_readInto_63 rfl ?_
              refine zr_aload_n C d_X5_readInto_64 rfl ?_
              refine zr_callVi (As := [.int (nI (3 * i6_2)), zR X m]) (st := []) (c := 1) C (c_Text_readLink X s6_2 g (nI (3 * i6_2)) m hm hI6_2.2) k_Text_readLink m354 m356 m6 (by decide) (zC_Text X _ _) rfl rfl (by decide) rfl (Nat.le_of_ble_eq_true rfl) d_X5_readInto_65 ?_
              refine zr_vi (fun y6 ey6 => ?_)
              refine zr_h (fun h7 eh7 => ?_)
              refine zr_istore C [zO X 1, zO X m, zI (nI (3 * i6_2)), zI (o_Text_byteAt s6_2 (nI (3 * i6_2))), zI y6] d_X5_readInto_68 (Nat.le_of_ble_eq_true rfl) rfl rfl ?_
              refine zr_lv [zO X 1, zO X m, zI (nI (3 * i6_2)), none, zI y6] (by simp [zle]) ?_
              exact hJ26 y6 h7 (by subst eh7 ey6; exact ((if_pos c26).trans ((if_pos c35).trans ((if_pos c52).trans ((if_pos c59)))))) (by subst eh7 ey6; exact ((if_pos c26).trans ((if_pos c35).trans ((if_pos c52).trans ((if_pos c59))))))
        · have en8 := zn_nge (a := zcn (s6_2 m 0)) (b := 8) hI6_2.2.2 rfl c35 (zcn_small _) (by decide)
          refine zr_aload_n C d_X5_readInto_38 rfl ?_
          refine zr_iload_n C d_X5_readInto_39 rfl ?_
          refine zr_aload_n C d_X5_readInto_40 rfl ?_
          refine zr_callVi (As := [.int (nI (3 * i6_2)), zR X m]) (st := []) (c := 1) C (c_Text_readStation X s6_2 g (nI (3 * i6_2)) m hm hI6_2.2) k_Text_readStation m286 m288 m1 (by decide) (zC_Text X _ _) rfl rfl (by decide) rfl (Nat.le_of_ble_eq_true rfl) d_X5_readInto_41 ?_
          refine zr_vi (fun y9 ey9 => ?_)
          refine zr_h (fun h10 eh10 => ?_)
          have hph10 : zfit h10 m 0 8 := by rw [← eh10]; exact pf_readStation hI6_2.2
          have hph10_1 := hph10.1
          refine zr_istore C [zO X 1, zO X m, zI (nI (3 * i6_2)), zI (o_Text_byteAt s6_2 (nI (3 * i6_2))), zI y9] d_X5_readInto_44 (Nat.le_of_ble_eq_true rfl) rfl rfl ?_
          refine zr_goto C 70 d_X5_readInto_46 (by decide) ?_
          refine zr_lv [zO X 1, zO X m, zI (nI (3 * i6_2)), none, zI y9] (by simp [zle]) ?_
          exact hJ26 y9 h10 (by subst eh10 ey9; exact ((if_pos c26).trans ((if_neg c35)))) (by subst eh10 ey9; exact ((if_pos c26).trans ((if_neg c35))))
    intro y11 h12 ey11 eh12
    refine zr_iload C d_X5_readInto_70 rfl ?_
    refine zr_iconst C (v := 3) d_X5_readInto_72 (by decide) ?_
    refine zr_icmp_ge C 81 d_X5_readInto_73 (by decide) (fun c73 => ?_) (fun c73 => ?_)
    · refine zr_iinc C [zO X 1, zO X m, zI (nI (3 * (i6_2 + 1))), none, zI y11] (v := (nI (3 * (i6_2 + 1)))) d_X5_readInto_81 rfl (zn_cast (a := 3 * i6_2 + 3) (zn_add rfl rfl) (by omega)) (Nat.le_of_ble_eq_true rfl) rfl rfl ?_
      refine zr_goto C 6 d_X5_readInto_84 (by decide) ?_
      refine zr_lv [zO X 1, zO X m, zI (nI (3 * (i6_2 + 1))), none, none] (by simp [zle]) ?_
      exact hk6_2 h12 (by subst eh12 ey11; exact ((if_pos c73)))
    · refine zr_iload_n C d_X5_readInto_76 rfl ?_
      refine zr_iload C d_X5_readInto_77 rfl ?_
      refine zr_iadd C d_X5_readInto_79 ?_
      have hr6_2 := hx6_2 ((((nI (3 * i6_2)) + y11), h12)) (by subst eh12 ey11; exact ((if_neg c73)))
      have eR : o_Text_readInto h m = (((nI (3 * i6_2)) + y11), h12) := (by subst eh12 ey11 eh1; unfold o_Text_readInto; exact ((congrArg (Sum.elim _ _) hr6_2)))
      subst hQ
      exact zTQ_Ih eR (zr_ireti C d_X5_readInto_80)
  have hI6_2_2 := hI6_2.2.1
  refine zr_iload_n C d_X5_readInto_6 rfl ?_
  refine zr_aload_n C d_X5_readInto_7 rfl ?_
  refine gf_Text_1 C m81 d_X5_readInto_8 ?_
  refine zr_icmp_ge C 87 d_X5_readInto_11 (by decide) (fun _ => ?_) (fun c => absurd (zge_yes ((hI6_2.1 _ _ (by omega) (by omega) (by omega) (by omega) (by omega) (by omega) (by omega) (by omega) (by omega) (by omega) (by omega) (by omega)).trans ((congrFun (congrFun eh1.symm _) _).trans (fr_Mesh_clear _ _ (by omega) (by omega)))) (by omega) (by have := zcn_small (h 1 0); omega)) c)
  refine zr_bipush C (v := (-9)) d_X5_readInto_87 (by decide) ?_
  have eR : o_Text_readInto h m = ((-9), r6_2) := (by subst eh1; unfold o_Text_readInto; exact ((congrArg (Sum.elim _ _) er6_2)))
  subst hQ
  exact zTQ_Ih eR (zr_ireti C d_X5_readInto_89)
theorem pf_readInto {h : zHp} {m : Nat} : zfit (o_Text_readInto h m).2 m 0 8 := by
  unfold o_Text_readInto
  refine zrex_P (fun _ s => zfit s m 0 8) (fun (q : Int32 × zHp) => zfit q.2 m 0 8) pf_clear (fun i s hi hI => ⟨fun s2 e => ?_, fun r e => ?_⟩) (fun s h => h)
  · obtain rfl := zite_l e
    (repeat' split) <;> with_reducible first | exact hI | exact pf_readStation hI | exact pf_readLink hI
  · obtain rfl := zite_r e
    dsimp only
    (repeat' split) <;> with_reducible first | exact hI | exact pf_readStation hI | exact pf_readLink hI
end
section
/-! Walks of methods, by program (wip/whole/gen). -/
theorem d_X4_clear_0 : decode prog_6_method_2_code 0 = .ok (.aload_n 0, 1) := by decide +kernel
theorem d_X4_clear_1 : decode prog_6_method_2_code 1 = .ok (.iconst 0, 1) := by decide +kernel
theorem d_X4_clear_2 : decode prog_6_method_2_code 2 = .ok (.putfield 25, 3) := by decide +kernel
theorem d_X4_clear_5 : decode prog_6_method_2_code 5 = .ok (.return_, 1) := by decide +kernel
abbrev M_Shelf_clear : zMT := (⟨"PeriodSlots$Shelf", "clear", "()V"⟩, prog_6_method_2_code, 1, none)
theorem k_Shelf_clear : zcall M_Shelf_clear 0 := ⟨zU_in (i := 392) (by decide +kernel) rfl, m59, ⟨by decide, by decide, by decide +kernel⟩, by decide⟩
def o_Shelf42_clear (h : zHp) : zHp :=
  (zup h 42 1 0)
theorem fr_Shelf42_clear {h : zHp} (c k : Nat) (q0 : ¬ (c = 42 ∧ k = 1)) : (o_Shelf42_clear h) c k = h c k := by
  unfold o_Shelf42_clear
  first | done | exact (zup_fr (by omega))
set_option maxHeartbeats 400000 in
set_option maxRecDepth 20000 in
theorem c_Shelf42_clear (X : zXT) (h : zHp) (g : zLg)  : zDi X M_Shelf_clear 0 [zR X 42] h g none (o_Shelf42_clear h) g := by
  refine zDi_of "PeriodSlots$Shelf" prog_6_method_2_code 1 none rfl (by decide) [zO X 42] rfl (fun _ q => q) (Nat.le_of_ble_eq_true rfl) ?_
  intro Γ Q C hQ
  refine zr_aload_n C d_X4_clear_0 rfl ?_
  refine zr_iconst C (v := 0) d_X4_clear_1 (by decide) ?_
  refine pf_Shelf_2 C (by decide) m186 d_X4_clear_2 ?_
  refine zr_h (fun h1 eh1 => ?_)
  have eR : o_Shelf42_clear h = h1 := (by subst eh1; unfold o_Shelf42_clear; exact rfl)
  subst hQ
  rw [eR]
  exact zr_vret C d_X4_clear_5
def o_Shelf44_clear (h : zHp) : zHp :=
  (zup h 44 1 0)
theorem fr_Shelf44_clear {h : zHp} (c k : Nat) (q0 : ¬ (c = 44 ∧ k = 1)) : (o_Shelf44_clear h) c k = h c k := by
  unfold o_Shelf44_clear
  first | done | exact (zup_fr (by omega))
set_option maxHeartbeats 400000 in
set_option maxRecDepth 20000 in
theorem c_Shelf44_clear (X : zXT) (h : zHp) (g : zLg)  : zDi X M_Shelf_clear 0 [zR X 44] h g none (o_Shelf44_clear h) g := by
  refine zDi_of "PeriodSlots$Shelf" prog_6_method_2_code 1 none rfl (by decide) [zO X 44] rfl (fun _ q => q) (Nat.le_of_ble_eq_true rfl) ?_
  intro Γ Q C hQ
  refine zr_aload_n C d_X4_clear_0 rfl ?_
  refine zr_iconst C (v := 0) d_X4_clear_1 (by decide) ?_
  refine pf_Shelf_2 C (by decide) m186 d_X4_clear_2 ?_
  refine zr_h (fun h1 eh1 => ?_)
  have eR : o_Shelf44_clear h = h1 := (by subst eh1; unfold o_Shelf44_clear; exact rfl)
  subst hQ
  rw [eR]
  exact zr_vret C d_X4_clear_5
theorem d_X4_holds_0 : decode prog_6_method_3_code 0 = .ok (.iload_n 1, 1) := by decide +kernel
theorem d_X4_holds_1 : decode prog_6_method_3_code 1 = .ok (.ifCond .lt 26, 3) := by decide +kernel
theorem d_X4_holds_4 : decode prog_6_method_3_code 4 = .ok (.iload_n 1, 1) := by decide +kernel
theorem d_X4_holds_5 : decode prog_6_method_3_code 5 = .ok (.aload_n 0, 1) := by decide +kernel
theorem d_X4_holds_6 : decode prog_6_method_3_code 6 = .ok (.getfield 15, 3) := by decide +kernel
theorem d_X4_holds_9 : decode prog_6_method_3_code 9 = .ok (.if_icmp .ge 18, 3) := by decide +kernel
theorem d_X4_holds_12 : decode prog_6_method_3_code 12 = .ok (.aload_n 0, 1) := by decide +kernel
theorem d_X4_holds_13 : decode prog_6_method_3_code 13 = .ok (.getfield 25, 3) := by decide +kernel
theorem d_X4_holds_16 : decode prog_6_method_3_code 16 = .ok (.iload_n 1, 1) := by decide +kernel
theorem d_X4_holds_17 : decode prog_6_method_3_code 17 = .ok (.invokestatic 28, 3) := by decide +kernel
theorem d_X4_holds_20 : decode prog_6_method_3_code 20 = .ok (.ifCond .eq 7, 3) := by decide +kernel
theorem d_X4_holds_23 : decode prog_6_method_3_code 23 = .ok (.iconst 1, 1) := by decide +kernel
theorem d_X4_holds_24 : decode prog_6_method_3_code 24 = .ok (.goto 4, 3) := by decide +kernel
theorem d_X4_holds_27 : decode prog_6_method_3_code 27 = .ok (.iconst 0, 1) := by decide +kernel
theorem d_X4_holds_28 : decode prog_6_method_3_code 28 = .ok (.ireturn, 1) := by decide +kernel
abbrev M_Shelf_holds : zMT := (⟨"PeriodSlots$Shelf", "holds", "(I)Z"⟩, prog_6_method_3_code, 2, (some .boolean))
theorem k_Shelf_holds : zcall M_Shelf_holds 1 := ⟨zU_in (i := 559) (by decide +kernel) rfl, m59, ⟨by decide, by decide, by decide +kernel⟩, by decide⟩
def o_Shelf42_holds (h : zHp) (row : Int32) : Bool :=
  (!(decide (row < 0)) && (!(decide ((h 42 0) ≤ row)) && (o_Slots_has (h 42 1) row)))
set_option maxHeartbeats 400000 in
set_option maxRecDepth 20000 in
theorem c_Shelf42_holds (X : zXT) (h : zHp) (g : zLg) (row : Int32) : zDi X M_Shelf_holds 1 [zR X 42, .int row] h g (zI (zb (o_Shelf42_holds h row))) h g := by
  refine zDi_of "PeriodSlots$Shelf" prog_6_method_3_code 2 (some .boolean) rfl (by decide) [zO X 42, zI row] rfl (fun _ q => q) (Nat.le_of_ble_eq_true rfl) ?_
  intro Γ Q C hQ
  refine zr_iload_n C d_X4_holds_0 rfl ?_
  suffices hJ1 : ∀ (y1 : Bool), (!(decide (row < 0)) && (!(decide ((h 42 0) ≤ row)) && (o_Slots_has (h 42 1) row))) = y1 → zV X Γ Q 28 [none, none] [.int (zb y1)] h g by
    refine zr_if_lt C 27 d_X4_holds_1 (by decide) (fun c1 => ?_) (fun c1 => ?_)
    · refine zr_iconst C (v := 0) d_X4_holds_27 (by decide) ?_
      refine zr_lv [none, none] (by simp [zle]) ?_
      exact hJ1 false (by simp [c1])
    · refine zr_iload_n C d_X4_holds_4 rfl ?_
      refine zr_aload_n C d_X4_holds_5 rfl ?_
      refine gf_Shelf_0 C (by decide) m184 d_X4_holds_6 ?_
      refine zr_icmp_ge C 27 d_X4_holds_9 (by decide) (fun c9 => ?_) (fun c9 => ?_)
      · refine zr_iconst C (v := 0) d_X4_holds_27 (by decide) ?_
        refine zr_lv [none, none] (by simp [zle]) ?_
        exact hJ1 false (by simp [c1, c9])
      · refine zr_aload_n C d_X4_holds_12 rfl ?_
        refine gf_Shelf_2 C (by decide) m186 d_X4_holds_13 ?_
        refine zr_iload_n C d_X4_holds_16 rfl ?_
        refine zr_callNi (As := [.int (h 42 1), .int row]) (st := []) C (c_Slots_has X h g (h 42 1) row) k_Slots_has (by simp [zNest]) m322 rfl (by decide) rfl (Nat.le_of_ble_eq_true rfl) d_X4_holds_17 ?_
        refine zr_ifz_eq C 27 d_X4_holds_20 (by decide) (fun c20 => ?_) (fun c20 => ?_)
        · refine zr_iconst C (v := 0) d_X4_holds_27 (by decide) ?_
          refine zr_lv [none, none] (by simp [zle]) ?_
          exact hJ1 false (by simp [c1, c9, c20])
        · refine zr_iconst C (v := 1) d_X4_holds_23 (by decide) ?_
          refine zr_goto C 28 d_X4_holds_24 (by decide) ?_
          refine zr_lv [none, none] (by simp [zle]) ?_
          exact hJ1 true (by simp [c1, c9, c20])
  intro y1 ey1
  have eR : o_Shelf42_holds h row = y1 := (by subst ey1; unfold o_Shelf42_holds; exact rfl)
  subst hQ
  rw [eR]
  exact zr_iretz C (zb_01 _) d_X4_holds_28
def o_Shelf44_holds (h : zHp) (row : Int32) : Bool :=
  (!(decide (row < 0)) && (!(decide ((h 44 0) ≤ row)) && (o_Slots_has (h 44 1) row)))
set_option maxHeartbeats 400000 in
set_option maxRecDepth 20000 in
theorem c_Shelf44_holds (X : zXT) (h : zHp) (g : zLg) (row : Int32) : zDi X M_Shelf_holds 1 [zR X 44, .int row] h g (zI (zb (o_Shelf44_holds h row))) h g := by
  refine zDi_of "PeriodSlots$Shelf" prog_6_method_3_code 2 (some .boolean) rfl (by decide) [zO X 44, zI row] rfl (fun _ q => q) (Nat.le_of_ble_eq_true rfl) ?_
  intro Γ Q C hQ
  refine zr_iload_n C d_X4_holds_0 rfl ?_
  suffices hJ1 : ∀ (y1 : Bool), (!(decide (row < 0)) && (!(decide ((h 44 0) ≤ row)) && (o_Slots_has (h 44 1) row))) = y1 → zV X Γ Q 28 [none, none] [.int (zb y1)] h g by
    refine zr_if_lt C 27 d_X4_holds_1 (by decide) (fun c1 => ?_) (fun c1 => ?_)
    · refine zr_iconst C (v := 0) d_X4_holds_27 (by decide) ?_
      refine zr_lv [none, none] (by simp [zle]) ?_
      exact hJ1 false (by simp [c1])
    · refine zr_iload_n C d_X4_holds_4 rfl ?_
      refine zr_aload_n C d_X4_holds_5 rfl ?_
      refine gf_Shelf_0 C (by decide) m184 d_X4_holds_6 ?_
      refine zr_icmp_ge C 27 d_X4_holds_9 (by decide) (fun c9 => ?_) (fun c9 => ?_)
      · refine zr_iconst C (v := 0) d_X4_holds_27 (by decide) ?_
        refine zr_lv [none, none] (by simp [zle]) ?_
        exact hJ1 false (by simp [c1, c9])
      · refine zr_aload_n C d_X4_holds_12 rfl ?_
        refine gf_Shelf_2 C (by decide) m186 d_X4_holds_13 ?_
        refine zr_iload_n C d_X4_holds_16 rfl ?_
        refine zr_callNi (As := [.int (h 44 1), .int row]) (st := []) C (c_Slots_has X h g (h 44 1) row) k_Slots_has (by simp [zNest]) m322 rfl (by decide) rfl (Nat.le_of_ble_eq_true rfl) d_X4_holds_17 ?_
        refine zr_ifz_eq C 27 d_X4_holds_20 (by decide) (fun c20 => ?_) (fun c20 => ?_)
        · refine zr_iconst C (v := 0) d_X4_holds_27 (by decide) ?_
          refine zr_lv [none, none] (by simp [zle]) ?_
          exact hJ1 false (by simp [c1, c9, c20])
        · refine zr_iconst C (v := 1) d_X4_holds_23 (by decide) ?_
          refine zr_goto C 28 d_X4_holds_24 (by decide) ?_
          refine zr_lv [none, none] (by simp [zle]) ?_
          exact hJ1 true (by simp [c1, c9, c20])
  intro y1 ey1
  have eR : o_Shelf44_holds h row = y1 := (by subst ey1; unfold o_Shelf44_holds; exact rfl)
  subst hQ
  rw [eR]
  exact zr_iretz C (zb_01 _) d_X4_holds_28
theorem zholds42 {h : zHp} {v : Int32} (_ : zfit h 42 0 14) (e : o_Shelf42_holds h v = true) : ¬ v < 0 ∧ zcn v < zcn (h 42 0) := by
  unfold o_Shelf42_holds at e
  simp only [Bool.and_eq_true, Bool.not_eq_true', decide_eq_false_iff_not] at e
  obtain ⟨h1, h2, -⟩ := e
  refine ⟨h1, ?_⟩
  rcases Nat.lt_or_ge (zcn v) (zcn (h 42 0)) with q | q
  · exact q
  · refine absurd ?_ h2
    rw [zix h1]
    exact zge_yes rfl q (zcn_small v)
theorem zholds44 {h : zHp} {v : Int32} (_ : zfit h 44 0 2) (e : o_Shelf44_holds h v = true) : ¬ v < 0 ∧ zcn v < zcn (h 44 0) := by
  unfold o_Shelf44_holds at e
  simp only [Bool.and_eq_true, Bool.not_eq_true', decide_eq_false_iff_not] at e
  obtain ⟨h1, h2, -⟩ := e
  refine ⟨h1, ?_⟩
  rcases Nat.lt_or_ge (zcn v) (zcn (h 44 0)) with q | q
  · exact q
  · refine absurd ?_ h2
    rw [zix h1]
    exact zge_yes rfl q (zcn_small v)

theorem d_X4_put_0 : decode prog_6_method_4_code 0 = .ok (.iload_n 1, 1) := by decide +kernel
theorem d_X4_put_1 : decode prog_6_method_4_code 1 = .ok (.ifCond .lt 11, 3) := by decide +kernel
theorem d_X4_put_4 : decode prog_6_method_4_code 4 = .ok (.iload_n 1, 1) := by decide +kernel
theorem d_X4_put_5 : decode prog_6_method_4_code 5 = .ok (.aload_n 0, 1) := by decide +kernel
theorem d_X4_put_6 : decode prog_6_method_4_code 6 = .ok (.getfield 15, 3) := by decide +kernel
theorem d_X4_put_9 : decode prog_6_method_4_code 9 = .ok (.if_icmp .lt 4, 3) := by decide +kernel
theorem d_X4_put_12 : decode prog_6_method_4_code 12 = .ok (.return_, 1) := by decide +kernel
theorem d_X4_put_13 : decode prog_6_method_4_code 13 = .ok (.iload_n 1, 1) := by decide +kernel
theorem d_X4_put_14 : decode prog_6_method_4_code 14 = .ok (.bipush 25, 2) := by decide +kernel
theorem d_X4_put_16 : decode prog_6_method_4_code 16 = .ok (.imul, 1) := by decide +kernel
theorem d_X4_put_17 : decode prog_6_method_4_code 17 = .ok (.istore_n 3, 1) := by decide +kernel
theorem d_X4_put_18 : decode prog_6_method_4_code 18 = .ok (.aload_n 2, 1) := by decide +kernel
theorem d_X4_put_19 : decode prog_6_method_4_code 19 = .ok (.getfield 32, 3) := by decide +kernel
theorem d_X4_put_22 : decode prog_6_method_4_code 22 = .ok (.iconst 0, 1) := by decide +kernel
theorem d_X4_put_23 : decode prog_6_method_4_code 23 = .ok (.aload_n 0, 1) := by decide +kernel
theorem d_X4_put_24 : decode prog_6_method_4_code 24 = .ok (.getfield 21, 3) := by decide +kernel
theorem d_X4_put_27 : decode prog_6_method_4_code 27 = .ok (.iload_n 3, 1) := by decide +kernel
theorem d_X4_put_28 : decode prog_6_method_4_code 28 = .ok (.bipush 8, 2) := by decide +kernel
theorem d_X4_put_30 : decode prog_6_method_4_code 30 = .ok (.invokestatic 37, 3) := by decide +kernel
theorem d_X4_put_33 : decode prog_6_method_4_code 33 = .ok (.aload_n 2, 1) := by decide +kernel
theorem d_X4_put_34 : decode prog_6_method_4_code 34 = .ok (.getfield 43, 3) := by decide +kernel
theorem d_X4_put_37 : decode prog_6_method_4_code 37 = .ok (.iconst 0, 1) := by decide +kernel
theorem d_X4_put_38 : decode prog_6_method_4_code 38 = .ok (.aload_n 0, 1) := by decide +kernel
theorem d_X4_put_39 : decode prog_6_method_4_code 39 = .ok (.getfield 21, 3) := by decide +kernel
theorem d_X4_put_42 : decode prog_6_method_4_code 42 = .ok (.iload_n 3, 1) := by decide +kernel
theorem d_X4_put_43 : decode prog_6_method_4_code 43 = .ok (.bipush 8, 2) := by decide +kernel
theorem d_X4_put_45 : decode prog_6_method_4_code 45 = .ok (.iadd, 1) := by decide +kernel
theorem d_X4_put_46 : decode prog_6_method_4_code 46 = .ok (.bipush 8, 2) := by decide +kernel
theorem d_X4_put_48 : decode prog_6_method_4_code 48 = .ok (.invokestatic 37, 3) := by decide +kernel
theorem d_X4_put_51 : decode prog_6_method_4_code 51 = .ok (.aload_n 2, 1) := by decide +kernel
theorem d_X4_put_52 : decode prog_6_method_4_code 52 = .ok (.getfield 46, 3) := by decide +kernel
theorem d_X4_put_55 : decode prog_6_method_4_code 55 = .ok (.iconst 0, 1) := by decide +kernel
theorem d_X4_put_56 : decode prog_6_method_4_code 56 = .ok (.aload_n 0, 1) := by decide +kernel
theorem d_X4_put_57 : decode prog_6_method_4_code 57 = .ok (.getfield 21, 3) := by decide +kernel
theorem d_X4_put_60 : decode prog_6_method_4_code 60 = .ok (.iload_n 3, 1) := by decide +kernel
theorem d_X4_put_61 : decode prog_6_method_4_code 61 = .ok (.bipush 16, 2) := by decide +kernel
theorem d_X4_put_63 : decode prog_6_method_4_code 63 = .ok (.iadd, 1) := by decide +kernel
theorem d_X4_put_64 : decode prog_6_method_4_code 64 = .ok (.bipush 8, 2) := by decide +kernel
theorem d_X4_put_66 : decode prog_6_method_4_code 66 = .ok (.invokestatic 37, 3) := by decide +kernel
theorem d_X4_put_69 : decode prog_6_method_4_code 69 = .ok (.aload_n 0, 1) := by decide +kernel
theorem d_X4_put_70 : decode prog_6_method_4_code 70 = .ok (.getfield 21, 3) := by decide +kernel
theorem d_X4_put_73 : decode prog_6_method_4_code 73 = .ok (.iload_n 3, 1) := by decide +kernel
theorem d_X4_put_74 : decode prog_6_method_4_code 74 = .ok (.bipush 24, 2) := by decide +kernel
theorem d_X4_put_76 : decode prog_6_method_4_code 76 = .ok (.iadd, 1) := by decide +kernel
theorem d_X4_put_77 : decode prog_6_method_4_code 77 = .ok (.aload_n 2, 1) := by decide +kernel
theorem d_X4_put_78 : decode prog_6_method_4_code 78 = .ok (.getfield 49, 3) := by decide +kernel
theorem d_X4_put_81 : decode prog_6_method_4_code 81 = .ok (.iastore, 1) := by decide +kernel
theorem d_X4_put_82 : decode prog_6_method_4_code 82 = .ok (.aload_n 0, 1) := by decide +kernel
theorem d_X4_put_83 : decode prog_6_method_4_code 83 = .ok (.dup, 1) := by decide +kernel
theorem d_X4_put_84 : decode prog_6_method_4_code 84 = .ok (.getfield 25, 3) := by decide +kernel
theorem d_X4_put_87 : decode prog_6_method_4_code 87 = .ok (.iconst 1, 1) := by decide +kernel
theorem d_X4_put_88 : decode prog_6_method_4_code 88 = .ok (.iload_n 1, 1) := by decide +kernel
theorem d_X4_put_89 : decode prog_6_method_4_code 89 = .ok (.ishl, 1) := by decide +kernel
theorem d_X4_put_90 : decode prog_6_method_4_code 90 = .ok (.ior, 1) := by decide +kernel
theorem d_X4_put_91 : decode prog_6_method_4_code 91 = .ok (.putfield 25, 3) := by decide +kernel
theorem d_X4_put_94 : decode prog_6_method_4_code 94 = .ok (.return_, 1) := by decide +kernel
abbrev M_Shelf_put : zMT := (⟨"PeriodSlots$Shelf", "put", "(ILPeriodSlots$Mesh;)V"⟩, prog_6_method_4_code, 4, none)
theorem k_Shelf_put : zcall M_Shelf_put 2 := ⟨zU_in (i := 460) (by decide +kernel) rfl, m59, ⟨by decide, by decide, by decide +kernel⟩, by decide⟩
def o_Shelf42_put (h : zHp) (row : Int32) (m : Nat) : zHp :=
  (if row < 0 then h else (if row < (h 42 0) then (zup (zup (zcp (zcp (zcp h (m + 2) 43 0 ((zcn row) * 25) 8) (m + 3) 43 0 (((zcn row) * 25) + 8) 8) (m + 4) 43 0 (((zcn row) * 25) + 16) 8) 43 (((zcn row) * 25) + 24) ((zcp (zcp (zcp h (m + 2) 43 0 ((zcn row) * 25) 8) (m + 3) 43 0 (((zcn row) * 25) + 8) 8) (m + 4) 43 0 (((zcn row) * 25) + 16) 8) m 1)) 42 1 (((zup (zcp (zcp (zcp h (m + 2) 43 0 ((zcn row) * 25) 8) (m + 3) 43 0 (((zcn row) * 25) + 8) 8) (m + 4) 43 0 (((zcn row) * 25) + 16) 8) 43 (((zcn row) * 25) + 24) ((zcp (zcp (zcp h (m + 2) 43 0 ((zcn row) * 25) 8) (m + 3) 43 0 (((zcn row) * 25) + 8) 8) (m + 4) 43 0 (((zcn row) * 25) + 16) 8) m 1)) 42 1) ||| (zshl 1 row))) else h))
theorem fr_Shelf42_put {h : zHp} {row : Int32} {m : Nat} (c k : Nat) (q0 : c ≠ 43) (q1 : ¬ (c = 42 ∧ k = 1)) : (o_Shelf42_put h row m) c k = h c k := by
  unfold o_Shelf42_put
  by_cases f1 : row < 0
  · rw [if_pos f1]
    first | done | exact rfl
  · rw [if_neg f1]
    by_cases f2 : row < (h 42 0)
    · rw [if_pos f2]
      first | done | exact ((zup_fr (by omega)).trans ((zup_fr (Or.inl (by assumption))).trans ((zcp_fr (by assumption)).trans ((zcp_fr (by assumption)).trans (zcp_fr (by assumption))))))
    · rw [if_neg f2]
      first | done | exact rfl
set_option maxHeartbeats 400000 in
set_option maxRecDepth 20000 in
theorem c_Shelf42_put (X : zXT) (h : zHp) (g : zLg) (row : Int32) (m : Nat) (hm : m = 3 ∨ m = 15 ∨ m = 27) (hf0 : zfit h 42 0 14) : zDi X M_Shelf_put 1 [zR X 42, .int row, zR X m] h g none (o_Shelf42_put h row m) g := by
  have hf0_1 := hf0.1
  refine zDi_of "PeriodSlots$Shelf" prog_6_method_4_code 4 none rfl (by decide) [zO X 42, zI row, zO X m, none] rfl (fun _ q => q) (Nat.le_of_ble_eq_true rfl) ?_
  intro Γ Q C hQ
  refine zr_iload_n C d_X4_put_0 rfl ?_
  refine zr_if_lt C 12 d_X4_put_1 (by decide) (fun c1 => ?_) (fun c1 => ?_)
  · have eR : o_Shelf42_put h row m = h := (by unfold o_Shelf42_put; rw [if_pos c1])
    subst hQ
    rw [eR]
    exact zr_vret C d_X4_put_12
  · refine zr_iload_n C d_X4_put_4 rfl ?_
    refine zr_aload_n C d_X4_put_5 rfl ?_
    refine gf_Shelf_0 C (by decide) m184 d_X4_put_6 ?_
    refine zr_icmp_lt C 13 d_X4_put_9 (by decide) (fun c9 => ?_) (fun c9 => ?_)
    · have en1 := zn_lt (a := zcn row) (b := zcn (h 42 0)) (zix c1) hf0.2 c9 (zcn_small _) (zcn_small _)
      refine zr_iload_n C d_X4_put_13 rfl ?_
      refine zr_bipush C (v := 25) d_X4_put_14 (by decide) ?_
      refine zr_imul C d_X4_put_16 ?_
      refine zr_istore_n C [zO X 42, zI row, zO X m, zI (row * 25)] d_X4_put_17 (Nat.le_of_ble_eq_true rfl) rfl rfl ?_
      refine zr_aload_n C d_X4_put_18 rfl ?_
      refine gf_Mesh_4 C hm m108 d_X4_put_19 ?_
      refine zr_iconst C (v := 0) d_X4_put_22 (by decide) ?_
      refine zr_aload_n C d_X4_put_23 rfl ?_
      refine gf_Shelf_1 C (by decide) m185 d_X4_put_24 ?_
      refine zr_iload_n C d_X4_put_27 rfl ?_
      refine zr_bipush C (v := 8) d_X4_put_28 (by decide) ?_
      refine zr_copy C (za_mesh_2 hm) za_43 m461 (0) ((zcn row) * 25) (8) rfl (zn_mul (zix c1) rfl) rfl (by omega) (by omega) (by decide) (by decide) rfl (Nat.le_of_ble_eq_true rfl) (by decide) d_X4_put_30 ?_
      refine zr_h (fun h2 eh2 => ?_)
      refine zr_aload_n C d_X4_put_33 rfl ?_
      refine gf_Mesh_5 C hm m112 d_X4_put_34 ?_
      refine zr_iconst C (v := 0) d_X4_put_37 (by decide) ?_
      refine zr_aload_n C d_X4_put_38 rfl ?_
      refine gf_Shelf_1 C (by decide) m185 d_X4_put_39 ?_
      refine zr_iload_n C d_X4_put_42 rfl ?_
      refine zr_bipush C (v := 8) d_X4_put_43 (by decide) ?_
      refine zr_iadd C d_X4_put_45 ?_
      refine zr_bipush C (v := 8) d_X4_put_46 (by decide) ?_
      refine zr_copy C (za_mesh_3 hm) za_43 m461 (0) (((zcn row) * 25) + 8) (8) rfl (zn_add (zn_mul (zix c1) rfl) rfl) rfl (by omega) (by omega) (by decide) (by decide) rfl (Nat.le_of_ble_eq_true rfl) (by decide) d_X4_put_48 ?_
      refine zr_h (fun h3 eh3 => ?_)
      refine zr_aload_n C d_X4_put_51 rfl ?_
      refine gf_Mesh_6 C hm m115 d_X4_put_52 ?_
      refine zr_iconst C (v := 0) d_X4_put_55 (by decide) ?_
      refine zr_aload_n C d_X4_put_56 rfl ?_
      refine gf_Shelf_1 C (by decide) m185 d_X4_put_57 ?_
      refine zr_iload_n C d_X4_put_60 rfl ?_
      refine zr_bipush C (v := 16) d_X4_put_61 (by decide) ?_
      refine zr_iadd C d_X4_put_63 ?_
      refine zr_bipush C (v := 8) d_X4_put_64 (by decide) ?_
      refine zr_copy C (za_mesh_4 hm) za_43 m461 (0) (((zcn row) * 25) + 16) (8) rfl (zn_add (zn_mul (zix c1) rfl) rfl) rfl (by omega) (by omega) (by decide) (by decide) rfl (Nat.le_of_ble_eq_true rfl) (by decide) d_X4_put_66 ?_
      refine zr_h (fun h4 eh4 => ?_)
      refine zr_aload_n C d_X4_put_69 rfl ?_
      refine gf_Shelf_1 C (by decide) m185 d_X4_put_70 ?_
      refine zr_iload_n C d_X4_put_73 rfl ?_
      refine zr_bipush C (v := 24) d_X4_put_74 (by decide) ?_
      refine zr_iadd C d_X4_put_76 ?_
      refine zr_aload_n C d_X4_put_77 rfl ?_
      refine gf_Mesh_1 C hm m100 d_X4_put_78 ?_
      refine zr_iast C za_43 (((zcn row) * 25) + 24) (zn_add (zn_mul (zix c1) rfl) rfl) (by omega) (by decide) d_X4_put_81 ?_
      refine zr_h (fun h5 eh5 => ?_)
      refine zr_aload_n C d_X4_put_82 rfl ?_
      refine zr_dup C d_X4_put_83 rfl ?_
      refine gf_Shelf_2 C (by decide) m186 d_X4_put_84 ?_
      refine zr_iconst C (v := 1) d_X4_put_87 (by decide) ?_
      refine zr_iload_n C d_X4_put_88 rfl ?_
      refine zr_ishl C d_X4_put_89 ?_
      refine zr_ior C d_X4_put_90 ?_
      refine pf_Shelf_2 C (by decide) m186 d_X4_put_91 ?_
      refine zr_h (fun h6 eh6 => ?_)
      have eR : o_Shelf42_put h row m = h6 := (by subst eh6 eh5 eh4 eh3 eh2; unfold o_Shelf42_put; rw [if_neg c1, if_pos c9])
      subst hQ
      rw [eR]
      exact zr_vret C d_X4_put_94
    · have en7 := zn_nlt (a := zcn row) (b := zcn (h 42 0)) (zix c1) hf0.2 c9 (zcn_small _) (zcn_small _)
      have eR : o_Shelf42_put h row m = h := (by unfold o_Shelf42_put; rw [if_neg c1, if_neg c9])
      subst hQ
      rw [eR]
      exact zr_vret C d_X4_put_12
def o_Shelf44_put (h : zHp) (row : Int32) (m : Nat) : zHp :=
  (if row < 0 then h else (if row < (h 44 0) then (zup (zup (zcp (zcp (zcp h (m + 2) 45 0 ((zcn row) * 25) 8) (m + 3) 45 0 (((zcn row) * 25) + 8) 8) (m + 4) 45 0 (((zcn row) * 25) + 16) 8) 45 (((zcn row) * 25) + 24) ((zcp (zcp (zcp h (m + 2) 45 0 ((zcn row) * 25) 8) (m + 3) 45 0 (((zcn row) * 25) + 8) 8) (m + 4) 45 0 (((zcn row) * 25) + 16) 8) m 1)) 44 1 (((zup (zcp (zcp (zcp h (m + 2) 45 0 ((zcn row) * 25) 8) (m + 3) 45 0 (((zcn row) * 25) + 8) 8) (m + 4) 45 0 (((zcn row) * 25) + 16) 8) 45 (((zcn row) * 25) + 24) ((zcp (zcp (zcp h (m + 2) 45 0 ((zcn row) * 25) 8) (m + 3) 45 0 (((zcn row) * 25) + 8) 8) (m + 4) 45 0 (((zcn row) * 25) + 16) 8) m 1)) 44 1) ||| (zshl 1 row))) else h))
theorem fr_Shelf44_put {h : zHp} {row : Int32} {m : Nat} (c k : Nat) (q0 : c ≠ 45) (q1 : ¬ (c = 44 ∧ k = 1)) : (o_Shelf44_put h row m) c k = h c k := by
  unfold o_Shelf44_put
  by_cases f1 : row < 0
  · rw [if_pos f1]
    first | done | exact rfl
  · rw [if_neg f1]
    by_cases f2 : row < (h 44 0)
    · rw [if_pos f2]
      first | done | exact ((zup_fr (by omega)).trans ((zup_fr (Or.inl (by assumption))).trans ((zcp_fr (by assumption)).trans ((zcp_fr (by assumption)).trans (zcp_fr (by assumption))))))
    · rw [if_neg f2]
      first | done | exact rfl
set_option maxHeartbeats 400000 in
set_option maxRecDepth 20000 in
theorem c_Shelf44_put (X : zXT) (h : zHp) (g : zLg) (row : Int32) (m : Nat) (hm : m = 3 ∨ m = 15 ∨ m = 27) (hf0 : zfit h 44 0 2) : zDi X M_Shelf_put 1 [zR X 44, .int row, zR X m] h g none (o_Shelf44_put h row m) g := by
  have hf0_1 := hf0.1
  refine zDi_of "PeriodSlots$Shelf" prog_6_method_4_code 4 none rfl (by decide) [zO X 44, zI row, zO X m, none] rfl (fun _ q => q) (Nat.le_of_ble_eq_true rfl) ?_
  intro Γ Q C hQ
  refine zr_iload_n C d_X4_put_0 rfl ?_
  refine zr_if_lt C 12 d_X4_put_1 (by decide) (fun c1 => ?_) (fun c1 => ?_)
  · have eR : o_Shelf44_put h row m = h := (by unfold o_Shelf44_put; rw [if_pos c1])
    subst hQ
    rw [eR]
    exact zr_vret C d_X4_put_12
  · refine zr_iload_n C d_X4_put_4 rfl ?_
    refine zr_aload_n C d_X4_put_5 rfl ?_
    refine gf_Shelf_0 C (by decide) m184 d_X4_put_6 ?_
    refine zr_icmp_lt C 13 d_X4_put_9 (by decide) (fun c9 => ?_) (fun c9 => ?_)
    · have en1 := zn_lt (a := zcn row) (b := zcn (h 44 0)) (zix c1) hf0.2 c9 (zcn_small _) (zcn_small _)
      refine zr_iload_n C d_X4_put_13 rfl ?_
      refine zr_bipush C (v := 25) d_X4_put_14 (by decide) ?_
      refine zr_imul C d_X4_put_16 ?_
      refine zr_istore_n C [zO X 44, zI row, zO X m, zI (row * 25)] d_X4_put_17 (Nat.le_of_ble_eq_true rfl) rfl rfl ?_
      refine zr_aload_n C d_X4_put_18 rfl ?_
      refine gf_Mesh_4 C hm m108 d_X4_put_19 ?_
      refine zr_iconst C (v := 0) d_X4_put_22 (by decide) ?_
      refine zr_aload_n C d_X4_put_23 rfl ?_
      refine gf_Shelf_1 C (by decide) m185 d_X4_put_24 ?_
      refine zr_iload_n C d_X4_put_27 rfl ?_
      refine zr_bipush C (v := 8) d_X4_put_28 (by decide) ?_
      refine zr_copy C (za_mesh_2 hm) za_45 m461 (0) ((zcn row) * 25) (8) rfl (zn_mul (zix c1) rfl) rfl (by omega) (by omega) (by decide) (by decide) rfl (Nat.le_of_ble_eq_true rfl) (by decide) d_X4_put_30 ?_
      refine zr_h (fun h2 eh2 => ?_)
      refine zr_aload_n C d_X4_put_33 rfl ?_
      refine gf_Mesh_5 C hm m112 d_X4_put_34 ?_
      refine zr_iconst C (v := 0) d_X4_put_37 (by decide) ?_
      refine zr_aload_n C d_X4_put_38 rfl ?_
      refine gf_Shelf_1 C (by decide) m185 d_X4_put_39 ?_
      refine zr_iload_n C d_X4_put_42 rfl ?_
      refine zr_bipush C (v := 8) d_X4_put_43 (by decide) ?_
      refine zr_iadd C d_X4_put_45 ?_
      refine zr_bipush C (v := 8) d_X4_put_46 (by decide) ?_
      refine zr_copy C (za_mesh_3 hm) za_45 m461 (0) (((zcn row) * 25) + 8) (8) rfl (zn_add (zn_mul (zix c1) rfl) rfl) rfl (by omega) (by omega) (by decide) (by decide) rfl (Nat.le_of_ble_eq_true rfl) (by decide) d_X4_put_48 ?_
      refine zr_h (fun h3 eh3 => ?_)
      refine zr_aload_n C d_X4_put_51 rfl ?_
      refine gf_Mesh_6 C hm m115 d_X4_put_52 ?_
      refine zr_iconst C (v := 0) d_X4_put_55 (by decide) ?_
      refine zr_aload_n C d_X4_put_56 rfl ?_
      refine gf_Shelf_1 C (by decide) m185 d_X4_put_57 ?_
      refine zr_iload_n C d_X4_put_60 rfl ?_
      refine zr_bipush C (v := 16) d_X4_put_61 (by decide) ?_
      refine zr_iadd C d_X4_put_63 ?_
      refine zr_bipush C (v := 8) d_X4_put_64 (by decide) ?_
      refine zr_copy C (za_mesh_4 hm) za_45 m461 (0) (((zcn row) * 25) + 16) (8) rfl (zn_add (zn_mul (zix c1) rfl) rfl) rfl (by omega) (by omega) (by decide) (by decide) rfl (Nat.le_of_ble_eq_true rfl) (by decide) d_X4_put_66 ?_
      refine zr_h (fun h4 eh4 => ?_)
      refine zr_aload_n C d_X4_put_69 rfl ?_
      refine gf_Shelf_1 C (by decide) m185 d_X4_put_70 ?_
      refine zr_iload_n C d_X4_put_73 rfl ?_
      refine zr_bipush C (v := 24) d_X4_put_74 (by decide) ?_
      refine zr_iadd C d_X4_put_76 ?_
      refine zr_aload_n C d_X4_put_77 rfl ?_
      refine gf_Mesh_1 C hm m100 d_X4_put_78 ?_
      refine zr_iast C za_45 (((zcn row) * 25) + 24) (zn_add (zn_mul (zix c1) rfl) rfl) (by omega) (by decide) d_X4_put_81 ?_
      refine zr_h (fun h5 eh5 => ?_)
      refine zr_aload_n C d_X4_put_82 rfl ?_
      refine zr_dup C d_X4_put_83 rfl ?_
      refine gf_Shelf_2 C (by decide) m186 d_X4_put_84 ?_
      refine zr_iconst C (v := 1) d_X4_put_87 (by decide) ?_
      refine zr_iload_n C d_X4_put_88 rfl ?_
      refine zr_ishl C d_X4_put_89 ?_
      refine zr_ior C d_X4_put_90 ?_
      refine pf_Shelf_2 C (by decide) m186 d_X4_put_91 ?_
      refine zr_h (fun h6 eh6 => ?_)
      have eR : o_Shelf44_put h row m = h6 := (by subst eh6 eh5 eh4 eh3 eh2; unfold o_Shelf44_put; rw [if_neg c1, if_pos c9])
      subst hQ
      rw [eR]
      exact zr_vret C d_X4_put_94
    · have en7 := zn_nlt (a := zcn row) (b := zcn (h 44 0)) (zix c1) hf0.2 c9 (zcn_small _) (zcn_small _)
      have eR : o_Shelf44_put h row m = h := (by unfold o_Shelf44_put; rw [if_neg c1, if_neg c9])
      subst hQ
      rw [eR]
      exact zr_vret C d_X4_put_12
theorem d_X4_giveBack_0 : decode prog_6_method_5_code 0 = .ok (.aload_n 0, 1) := by decide +kernel
theorem d_X4_giveBack_1 : decode prog_6_method_5_code 1 = .ok (.iload_n 1, 1) := by decide +kernel
theorem d_X4_giveBack_2 : decode prog_6_method_5_code 2 = .ok (.invokevirtual 52, 3) := by decide +kernel
theorem d_X4_giveBack_5 : decode prog_6_method_5_code 5 = .ok (.ifCond .ne 4, 3) := by decide +kernel
theorem d_X4_giveBack_8 : decode prog_6_method_5_code 8 = .ok (.return_, 1) := by decide +kernel
theorem d_X4_giveBack_9 : decode prog_6_method_5_code 9 = .ok (.iload_n 1, 1) := by decide +kernel
theorem d_X4_giveBack_10 : decode prog_6_method_5_code 10 = .ok (.bipush 25, 2) := by decide +kernel
theorem d_X4_giveBack_12 : decode prog_6_method_5_code 12 = .ok (.imul, 1) := by decide +kernel
theorem d_X4_giveBack_13 : decode prog_6_method_5_code 13 = .ok (.istore_n 3, 1) := by decide +kernel
theorem d_X4_giveBack_14 : decode prog_6_method_5_code 14 = .ok (.aload_n 0, 1) := by decide +kernel
theorem d_X4_giveBack_15 : decode prog_6_method_5_code 15 = .ok (.getfield 21, 3) := by decide +kernel
theorem d_X4_giveBack_18 : decode prog_6_method_5_code 18 = .ok (.iload_n 3, 1) := by decide +kernel
theorem d_X4_giveBack_19 : decode prog_6_method_5_code 19 = .ok (.aload_n 2, 1) := by decide +kernel
theorem d_X4_giveBack_20 : decode prog_6_method_5_code 20 = .ok (.getfield 32, 3) := by decide +kernel
theorem d_X4_giveBack_23 : decode prog_6_method_5_code 23 = .ok (.iconst 0, 1) := by decide +kernel
theorem d_X4_giveBack_24 : decode prog_6_method_5_code 24 = .ok (.bipush 8, 2) := by decide +kernel
theorem d_X4_giveBack_26 : decode prog_6_method_5_code 26 = .ok (.invokestatic 37, 3) := by decide +kernel
theorem d_X4_giveBack_29 : decode prog_6_method_5_code 29 = .ok (.aload_n 0, 1) := by decide +kernel
theorem d_X4_giveBack_30 : decode prog_6_method_5_code 30 = .ok (.getfield 21, 3) := by decide +kernel
theorem d_X4_giveBack_33 : decode prog_6_method_5_code 33 = .ok (.iload_n 3, 1) := by decide +kernel
theorem d_X4_giveBack_34 : decode prog_6_method_5_code 34 = .ok (.bipush 8, 2) := by decide +kernel
theorem d_X4_giveBack_36 : decode prog_6_method_5_code 36 = .ok (.iadd, 1) := by decide +kernel
theorem d_X4_giveBack_37 : decode prog_6_method_5_code 37 = .ok (.aload_n 2, 1) := by decide +kernel
theorem d_X4_giveBack_38 : decode prog_6_method_5_code 38 = .ok (.getfield 43, 3) := by decide +kernel
theorem d_X4_giveBack_41 : decode prog_6_method_5_code 41 = .ok (.iconst 0, 1) := by decide +kernel
theorem d_X4_giveBack_42 : decode prog_6_method_5_code 42 = .ok (.bipush 8, 2) := by decide +kernel
theorem d_X4_giveBack_44 : decode prog_6_method_5_code 44 = .ok (.invokestatic 37, 3) := by decide +kernel
theorem d_X4_giveBack_47 : decode prog_6_method_5_code 47 = .ok (.aload_n 0, 1) := by decide +kernel
theorem d_X4_giveBack_48 : decode prog_6_method_5_code 48 = .ok (.getfield 21, 3) := by decide +kernel
theorem d_X4_giveBack_51 : decode prog_6_method_5_code 51 = .ok (.iload_n 3, 1) := by decide +kernel
theorem d_X4_giveBack_52 : decode prog_6_method_5_code 52 = .ok (.bipush 16, 2) := by decide +kernel
theorem d_X4_giveBack_54 : decode prog_6_method_5_code 54 = .ok (.iadd, 1) := by decide +kernel
theorem d_X4_giveBack_55 : decode prog_6_method_5_code 55 = .ok (.aload_n 2, 1) := by decide +kernel
theorem d_X4_giveBack_56 : decode prog_6_method_5_code 56 = .ok (.getfield 46, 3) := by decide +kernel
theorem d_X4_giveBack_59 : decode prog_6_method_5_code 59 = .ok (.iconst 0, 1) := by decide +kernel
theorem d_X4_giveBack_60 : decode prog_6_method_5_code 60 = .ok (.bipush 8, 2) := by decide +kernel
theorem d_X4_giveBack_62 : decode prog_6_method_5_code 62 = .ok (.invokestatic 37, 3) := by decide +kernel
theorem d_X4_giveBack_65 : decode prog_6_method_5_code 65 = .ok (.aload_n 2, 1) := by decide +kernel
theorem d_X4_giveBack_66 : decode prog_6_method_5_code 66 = .ok (.aload_n 0, 1) := by decide +kernel
theorem d_X4_giveBack_67 : decode prog_6_method_5_code 67 = .ok (.getfield 21, 3) := by decide +kernel
theorem d_X4_giveBack_70 : decode prog_6_method_5_code 70 = .ok (.iload_n 3, 1) := by decide +kernel
theorem d_X4_giveBack_71 : decode prog_6_method_5_code 71 = .ok (.bipush 24, 2) := by decide +kernel
theorem d_X4_giveBack_73 : decode prog_6_method_5_code 73 = .ok (.iadd, 1) := by decide +kernel
theorem d_X4_giveBack_74 : decode prog_6_method_5_code 74 = .ok (.iaload, 1) := by decide +kernel
theorem d_X4_giveBack_75 : decode prog_6_method_5_code 75 = .ok (.putfield 49, 3) := by decide +kernel
theorem d_X4_giveBack_78 : decode prog_6_method_5_code 78 = .ok (.aload_n 2, 1) := by decide +kernel
theorem d_X4_giveBack_79 : decode prog_6_method_5_code 79 = .ok (.invokevirtual 56, 3) := by decide +kernel
theorem d_X4_giveBack_82 : decode prog_6_method_5_code 82 = .ok (.aload_n 2, 1) := by decide +kernel
theorem d_X4_giveBack_83 : decode prog_6_method_5_code 83 = .ok (.invokevirtual 59, 3) := by decide +kernel
theorem d_X4_giveBack_86 : decode prog_6_method_5_code 86 = .ok (.return_, 1) := by decide +kernel
abbrev M_Shelf_giveBack : zMT := (⟨"PeriodSlots$Shelf", "giveBack", "(ILPeriodSlots$Mesh;)V"⟩, prog_6_method_5_code, 4, none)
theorem k_Shelf_giveBack : zcall M_Shelf_giveBack 2 := ⟨zU_in (i := 555) (by decide +kernel) rfl, m59, ⟨by decide, by decide, by decide +kernel⟩, by decide⟩
def o_Shelf42_giveBack (h : zHp) (row : Int32) (m : Nat) : zHp :=
  (if (o_Shelf42_holds h row) = true then (o_Mesh_markTicks (o_Mesh_relate (zup (zcp (zcp (zcp h 43 (m + 2) ((zcn row) * 25) 0 8) 43 (m + 3) (((zcn row) * 25) + 8) 0 8) 43 (m + 4) (((zcn row) * 25) + 16) 0 8) m 1 ((zcp (zcp (zcp h 43 (m + 2) ((zcn row) * 25) 0 8) 43 (m + 3) (((zcn row) * 25) + 8) 0 8) 43 (m + 4) (((zcn row) * 25) + 16) 0 8) 43 (((zcn row) * 25) + 24))) m) m) else h)
theorem fr_Shelf42_giveBack {h : zHp} {row : Int32} {m : Nat} (c k : Nat) (q0 : ¬ (c = m ∧ k = 1)) (q1 : c ≠ m + 2) (q2 : c ≠ m + 3) (q3 : c ≠ m + 4) (q4 : c ≠ m + 6) (q5 : c ≠ m + 7) (q6 : c ≠ m + 8) (q7 : c ≠ m + 9) (q8 : c ≠ m + 10) : (o_Shelf42_giveBack h row m) c k = h c k := by
  unfold o_Shelf42_giveBack
  by_cases f1 : (o_Shelf42_holds h row) = true
  · rw [if_pos f1]
    first | done | exact ((fr_Mesh_markTicks _ _ (by assumption) (by assumption)).trans ((fr_Mesh_relate _ _ (by assumption) (by assumption) (by assumption)).trans ((zup_fr (by omega)).trans ((zcp_fr (by assumption)).trans ((zcp_fr (by assumption)).trans (zcp_fr (by assumption)))))))
  · rw [if_neg f1]
    first | done | exact rfl
set_option maxHeartbeats 400000 in
set_option maxRecDepth 20000 in
theorem c_Shelf42_giveBack (X : zXT) (h : zHp) (g : zLg) (row : Int32) (m : Nat) (hm : m = 3 ∨ m = 15 ∨ m = 27) (hf0 : zfit h 42 0 14) (hf1 : zfit h m 0 8) : zDi X M_Shelf_giveBack 3 [zR X 42, .int row, zR X m] h g none (o_Shelf42_giveBack h row m) g := by
  have hf0_1 := hf0.1
  have hf1_1 := hf1.1
  refine zDi_of "PeriodSlots$Shelf" prog_6_method_5_code 4 none rfl (by decide) [zO X 42, zI row, zO X m, none] rfl (fun _ q => q) (Nat.le_of_ble_eq_true rfl) ?_
  intro Γ Q C hQ
  refine zr_aload_n C d_X4_giveBack_0 rfl ?_
  refine zr_iload_n C d_X4_giveBack_1 rfl ?_
  refine zr_callVi (As := [.int row]) (st := []) (c := 42) C (c_Shelf42_holds X h g row) k_Shelf_holds m556 m557 m558 (by decide) (zC_Shelf (by decide) X _ _) rfl rfl (by decide) rfl (Nat.le_of_ble_eq_true rfl) d_X4_giveBack_2 ?_
  refine zr_ifz_ne C 9 d_X4_giveBack_5 (by decide) (fun c5 => ?_) (fun c5 => ?_)
  · have ex1 := zholds42 hf0 c5
    have ex1_2 := ex1.2
    have ex1_b := (hf0).1
    refine zr_iload_n C d_X4_giveBack_9 rfl ?_
    refine zr_bipush C (v := 25) d_X4_giveBack_10 (by decide) ?_
    refine zr_imul C d_X4_giveBack_12 ?_
    refine zr_istore_n C [zO X 42, zI row, zO X m, zI (row * 25)] d_X4_giveBack_13 (Nat.le_of_ble_eq_true rfl) rfl rfl ?_
    refine zr_aload_n C d_X4_giveBack_14 rfl ?_
    refine gf_Shelf_1 C (by decide) m185 d_X4_giveBack_15 ?_
    refine zr_iload_n C d_X4_giveBack_18 rfl ?_
    refine zr_aload_n C d_X4_giveBack_19 rfl ?_
    refine gf_Mesh_4 C hm m108 d_X4_giveBack_20 ?_
    refine zr_iconst C (v := 0) d_X4_giveBack_23 (by decide) ?_
    refine zr_bipush C (v := 8) d_X4_giveBack_24 (by decide) ?_
    refine zr_copy C za_43 (za_mesh_2 hm) m461 ((zcn row) * 25) (0) (8) (zn_mul (zix ex1.1) rfl) rfl rfl (by omega) (by omega) (by decide) (by decide) rfl (Nat.le_of_ble_eq_true rfl) (by decide) d_X4_giveBack_26 ?_
    refine zr_h (fun h2 eh2 => ?_)
    refine zr_aload_n C d_X4_giveBack_29 rfl ?_
    refine gf_Shelf_1 C (by decide) m185 d_X4_giveBack_30 ?_
    refine zr_iload_n C d_X4_giveBack_33 rfl ?_
    refine zr_bipush C (v := 8) d_X4_giveBack_34 (by decide) ?_
    refine zr_iadd C d_X4_giveBack_36 ?_
    refine zr_aload_n C d_X4_giveBack_37 rfl ?_
    refine gf_Mesh_5 C hm m112 d_X4_giveBack_38 ?_
    refine zr_iconst C (v := 0) d_X4_giveBack_41 (by decide) ?_
    refine zr_bipush C (v := 8) d_X4_giveBack_42 (by decide) ?_
    refine zr_copy C za_43 (za_mesh_3 hm) m461 (((zcn row) * 25) + 8) (0) (8) (zn_add (zn_mul (zix ex1.1) rfl) rfl) rfl rfl (by omega) (by omega) (by decide) (by decide) rfl (Nat.le_of_ble_eq_true rfl) (by decide) d_X4_giveBack_44 ?_
    refine zr_h (fun h3 eh3 => ?_)
    refine zr_aload_n C d_X4_giveBack_47 rfl ?_
    refine gf_Shelf_1 C (by decide) m185 d_X4_giveBack_48 ?_
    refine zr_iload_n C d_X4_giveBack_51 rfl ?_
    refine zr_bipush C (v := 16) d_X4_giveBack_52 (by decide) ?_
    refine zr_iadd C d_X4_giveBack_54 ?_
    refine zr_aload_n C d_X4_giveBack_55 rfl ?_
    refine gf_Mesh_6 C hm m115 d_X4_giveBack_56 ?_
    refine zr_iconst C (v := 0) d_X4_giveBack_59 (by decide) ?_
    refine zr_bipush C (v := 8) d_X4_giveBack_60 (by decide) ?_
    refine zr_copy C za_43 (za_mesh_4 hm) m461 (((zcn row) * 25) + 16) (0) (8) (zn_add (zn_mul (zix ex1.1) rfl) rfl) rfl rfl (by omega) (by omega) (by decide) (by decide) rfl (Nat.le_of_ble_eq_true rfl) (by decide) d_X4_giveBack_62 ?_
    refine zr_h (fun h4 eh4 => ?_)
    refine zr_aload_n C d_X4_giveBack_65 rfl ?_
    refine zr_aload_n C d_X4_giveBack_66 rfl ?_
    refine gf_Shelf_1 C (by decide) m185 d_X4_giveBack_67 ?_
    refine zr_iload_n C d_X4_giveBack_70 rfl ?_
    refine zr_bipush C (v := 24) d_X4_giveBack_71 (by decide) ?_
    refine zr_iadd C d_X4_giveBack_73 ?_
    refine zr_iald C za_43 (((zcn row) * 25) + 24) (zn_add (zn_mul (zix ex1.1) rfl) rfl) (by omega) (by decide) d_X4_giveBack_74 ?_
    refine pf_Mesh_1 C hm m100 d_X4_giveBack_75 ?_
    refine zr_h (fun h5 eh5 => ?_)
    refine zr_aload_n C d_X4_giveBack_78 rfl ?_
    refine zr_callVv (As := []) (st := []) (c := m) C (c_Mesh_relate X h5 g m hm (zfit_fr ((congrFun (congrFun eh5.symm _) _).trans ((zup_fr (by omega)).trans ((congrFun (congrFun eh4.symm _) _).trans ((zcp_fr (by omega)).trans ((congrFun (congrFun eh3.symm _) _).trans ((zcp_fr (by omega)).trans ((congrFun (congrFun eh2.symm _) _).trans (zcp_fr (by omega))))))))) hf1)) k_Mesh_relate m561 m314 m315 (by omega) (zC_Mesh hm X _ _) rfl rfl (by decide) rfl (Nat.le_of_ble_eq_true rfl) d_X4_giveBack_79 ?_
    refine zr_h (fun h6 eh6 => ?_)
    refine zr_aload_n C d_X4_giveBack_82 rfl ?_
    refine zr_callVv (As := []) (st := []) (c := m) C (c_Mesh_markTicks X h6 g m hm (zfit_fr ((congrFun (congrFun eh6.symm _) _).trans ((fr_Mesh_relate _ _ (by omega) (by omega) (by omega)).trans ((congrFun (congrFun eh5.symm _) _).trans ((zup_fr (by omega)).trans ((congrFun (congrFun eh4.symm _) _).trans ((zcp_fr (by omega)).trans ((congrFun (congrFun eh3.symm _) _).trans ((zcp_fr (by omega)).trans ((congrFun (congrFun eh2.symm _) _).trans (zcp_fr (by omega))))))))))) hf1)) k_Mesh_markTicks m562 m306 m307 (by omega) (zC_Mesh hm X _ _) rfl rfl (by decide) rfl (Nat.le_of_ble_eq_true rfl) d_X4_giveBack_83 ?_
    refine zr_h (fun h7 eh7 => ?_)
    have eR : o_Shelf42_giveBack h row m = h7 := (by subst eh7 eh6 eh5 eh4 eh3 eh2; unfold o_Shelf42_giveBack; rw [if_pos c5])
    subst hQ
    rw [eR]
    exact zr_vret C d_X4_giveBack_86
  · have eR : o_Shelf42_giveBack h row m = h := (by unfold o_Shelf42_giveBack; rw [if_neg (zbf c5)])
    subst hQ
    rw [eR]
    exact zr_vret C d_X4_giveBack_8
def o_Shelf44_giveBack (h : zHp) (row : Int32) (m : Nat) : zHp :=
  (if (o_Shelf44_holds h row) = true then (o_Mesh_markTicks (o_Mesh_relate (zup (zcp (zcp (zcp h 45 (m + 2) ((zcn row) * 25) 0 8) 45 (m + 3) (((zcn row) * 25) + 8) 0 8) 45 (m + 4) (((zcn row) * 25) + 16) 0 8) m 1 ((zcp (zcp (zcp h 45 (m + 2) ((zcn row) * 25) 0 8) 45 (m + 3) (((zcn row) * 25) + 8) 0 8) 45 (m + 4) (((zcn row) * 25) + 16) 0 8) 45 (((zcn row) * 25) + 24))) m) m) else h)
theorem fr_Shelf44_giveBack {h : zHp} {row : Int32} {m : Nat} (c k : Nat) (q0 : ¬ (c = m ∧ k = 1)) (q1 : c ≠ m + 2) (q2 : c ≠ m + 3) (q3 : c ≠ m + 4) (q4 : c ≠ m + 6) (q5 : c ≠ m + 7) (q6 : c ≠ m + 8) (q7 : c ≠ m + 9) (q8 : c ≠ m + 10) : (o_Shelf44_giveBack h row m) c k = h c k := by
  unfold o_Shelf44_giveBack
  by_cases f1 : (o_Shelf44_holds h row) = true
  · rw [if_pos f1]
    first | done | exact ((fr_Mesh_markTicks _ _ (by assumption) (by assumption)).trans ((fr_Mesh_relate _ _ (by assumption) (by assumption) (by assumption)).trans ((zup_fr (by omega)).trans ((zcp_fr (by assumption)).trans ((zcp_fr (by assumption)).trans (zcp_fr (by assumption)))))))
  · rw [if_neg f1]
    first | done | exact rfl
set_option maxHeartbeats 400000 in
set_option maxRecDepth 20000 in
theorem c_Shelf44_giveBack (X : zXT) (h : zHp) (g : zLg) (row : Int32) (m : Nat) (hm : m = 3 ∨ m = 15 ∨ m = 27) (hf0 : zfit h 44 0 2) (hf1 : zfit h m 0 8) : zDi X M_Shelf_giveBack 3 [zR X 44, .int row, zR X m] h g none (o_Shelf44_giveBack h row m) g := by
  have hf0_1 := hf0.1
  have hf1_1 := hf1.1
  refine zDi_of "PeriodSlots$Shelf" prog_6_method_5_code 4 none rfl (by decide) [zO X 44, zI row, zO X m, none] rfl (fun _ q => q) (Nat.le_of_ble_eq_true rfl) ?_
  intro Γ Q C hQ
  refine zr_aload_n C d_X4_giveBack_0 rfl ?_
  refine zr_iload_n C d_X4_giveBack_1 rfl ?_
  refine zr_callVi (As := [.int row]) (st := []) (c := 44) C (c_Shelf44_holds X h g row) k_Shelf_holds m556 m557 m558 (by decide) (zC_Shelf (by decide) X _ _) rfl rfl (by decide) rfl (Nat.le_of_ble_eq_true rfl) d_X4_giveBack_2 ?_
  refine zr_ifz_ne C 9 d_X4_giveBack_5 (by decide) (fun c5 => ?_) (fun c5 => ?_)
  · have ex1 := zholds44 hf0 c5
    have ex1_2 := ex1.2
    have ex1_b := (hf0).1
    refine zr_iload_n C d_X4_giveBack_9 rfl ?_
    refine zr_bipush C (v := 25) d_X4_giveBack_10 (by decide) ?_
    refine zr_imul C d_X4_giveBack_12 ?_
    refine zr_istore_n C [zO X 44, zI row, zO X m, zI (row * 25)] d_X4_giveBack_13 (Nat.le_of_ble_eq_true rfl) rfl rfl ?_
    refine zr_aload_n C d_X4_giveBack_14 rfl ?_
    refine gf_Shelf_1 C (by decide) m185 d_X4_giveBack_15 ?_
    refine zr_iload_n C d_X4_giveBack_18 rfl ?_
    refine zr_aload_n C d_X4_giveBack_19 rfl ?_
    refine gf_Mesh_4 C hm m108 d_X4_giveBack_20 ?_
    refine zr_iconst C (v := 0) d_X4_giveBack_23 (by decide) ?_
    refine zr_bipush C (v := 8) d_X4_giveBack_24 (by decide) ?_
    refine zr_copy C za_45 (za_mesh_2 hm) m461 ((zcn row) * 25) (0) (8) (zn_mul (zix ex1.1) rfl) rfl rfl (by omega) (by omega) (by decide) (by decide) rfl (Nat.le_of_ble_eq_true rfl) (by decide) d_X4_giveBack_26 ?_
    refine zr_h (fun h2 eh2 => ?_)
    refine zr_aload_n C d_X4_giveBack_29 rfl ?_
    refine gf_Shelf_1 C (by decide) m185 d_X4_giveBack_30 ?_
    refine zr_iload_n C d_X4_giveBack_33 rfl ?_
    refine zr_bipush C (v := 8) d_X4_giveBack_34 (by decide) ?_
    refine zr_iadd C d_X4_giveBack_36 ?_
    refine zr_aload_n C d_X4_giveBack_37 rfl ?_
    refine gf_Mesh_5 C hm m112 d_X4_giveBack_38 ?_
    refine zr_iconst C (v := 0) d_X4_giveBack_41 (by decide) ?_
    refine zr_bipush C (v := 8) d_X4_giveBack_42 (by decide) ?_
    refine zr_copy C za_45 (za_mesh_3 hm) m461 (((zcn row) * 25) + 8) (0) (8) (zn_add (zn_mul (zix ex1.1) rfl) rfl) rfl rfl (by omega) (by omega) (by decide) (by decide) rfl (Nat.le_of_ble_eq_true rfl) (by decide) d_X4_giveBack_44 ?_
    refine zr_h (fun h3 eh3 => ?_)
    refine zr_aload_n C d_X4_giveBack_47 rfl ?_
    refine gf_Shelf_1 C (by decide) m185 d_X4_giveBack_48 ?_
    refine zr_iload_n C d_X4_giveBack_51 rfl ?_
    refine zr_bipush C (v := 16) d_X4_giveBack_52 (by decide) ?_
    refine zr_iadd C d_X4_giveBack_54 ?_
    refine zr_aload_n C d_X4_giveBack_55 rfl ?_
    refine gf_Mesh_6 C hm m115 d_X4_giveBack_56 ?_
    refine zr_iconst C (v := 0) d_X4_giveBack_59 (by decide) ?_
    refine zr_bipush C (v := 8) d_X4_giveBack_60 (by decide) ?_
    refine zr_copy C za_45 (za_mesh_4 hm) m461 (((zcn row) * 25) + 16) (0) (8) (zn_add (zn_mul (zix ex1.1) rfl) rfl) rfl rfl (by omega) (by omega) (by decide) (by decide) rfl (Nat.le_of_ble_eq_true rfl) (by decide) d_X4_giveBack_62 ?_
    refine zr_h (fun h4 eh4 => ?_)
    refine zr_aload_n C d_X4_giveBack_65 rfl ?_
    refine zr_aload_n C d_X4_giveBack_66 rfl ?_
    refine gf_Shelf_1 C (by decide) m185 d_X4_giveBack_67 ?_
    refine zr_iload_n C d_X4_giveBack_70 rfl ?_
    refine zr_bipush C (v := 24) d_X4_giveBack_71 (by decide) ?_
    refine zr_iadd C d_X4_giveBack_73 ?_
    refine zr_iald C za_45 (((zcn row) * 25) + 24) (zn_add (zn_mul (zix ex1.1) rfl) rfl) (by omega) (by decide) d_X4_giveBack_74 ?_
    refine pf_Mesh_1 C hm m100 d_X4_giveBack_75 ?_
    refine zr_h (fun h5 eh5 => ?_)
    refine zr_aload_n C d_X4_giveBack_78 rfl ?_
    refine zr_callVv (As := []) (st := []) (c := m) C (c_Mesh_relate X h5 g m hm (zfit_fr ((congrFun (congrFun eh5.symm _) _).trans ((zup_fr (by omega)).trans ((congrFun (congrFun eh4.symm _) _).trans ((zcp_fr (by omega)).trans ((congrFun (congrFun eh3.symm _) _).trans ((zcp_fr (by omega)).trans ((congrFun (congrFun eh2.symm _) _).trans (zcp_fr (by omega))))))))) hf1)) k_Mesh_relate m561 m314 m315 (by omega) (zC_Mesh hm X _ _) rfl rfl (by decide) rfl (Nat.le_of_ble_eq_true rfl) d_X4_giveBack_79 ?_
    refine zr_h (fun h6 eh6 => ?_)
    refine zr_aload_n C d_X4_giveBack_82 rfl ?_
    refine zr_callVv (As := []) (st := []) (c := m) C (c_Mesh_markTicks X h6 g m hm (zfit_fr ((congrFun (congrFun eh6.symm _) _).trans ((fr_Mesh_relate _ _ (by omega) (by omega) (by omega)).trans ((congrFun (congrFun eh5.symm _) _).trans ((zup_fr (by omega)).trans ((congrFun (congrFun eh4.symm _) _).trans ((zcp_fr (by omega)).trans ((congrFun (congrFun eh3.symm _) _).trans ((zcp_fr (by omega)).trans ((congrFun (congrFun eh2.symm _) _).trans (zcp_fr (by omega))))))))))) hf1)) k_Mesh_markTicks m562 m306 m307 (by omega) (zC_Mesh hm X _ _) rfl rfl (by decide) rfl (Nat.le_of_ble_eq_true rfl) d_X4_giveBack_83 ?_
    refine zr_h (fun h7 eh7 => ?_)
    have eR : o_Shelf44_giveBack h row m = h7 := (by subst eh7 eh6 eh5 eh4 eh3 eh2; unfold o_Shelf44_giveBack; rw [if_pos c5])
    subst hQ
    rw [eR]
    exact zr_vret C d_X4_giveBack_86
  · have eR : o_Shelf44_giveBack h row m = h := (by unfold o_Shelf44_giveBack; rw [if_neg (zbf c5)])
    subst hQ
    rw [eR]
    exact zr_vret C d_X4_giveBack_8
theorem d_X0_remember_0 : decode prog_2_method_2_code 0 = .ok (.aload_n 0, 1) := by decide +kernel
theorem d_X0_remember_1 : decode prog_2_method_2_code 1 = .ok (.aload_n 0, 1) := by decide +kernel
theorem d_X0_remember_2 : decode prog_2_method_2_code 2 = .ok (.getfield 20, 3) := by decide +kernel
theorem d_X0_remember_5 : decode prog_2_method_2_code 5 = .ok (.iconst 1, 1) := by decide +kernel
theorem d_X0_remember_6 : decode prog_2_method_2_code 6 = .ok (.iadd, 1) := by decide +kernel
theorem d_X0_remember_7 : decode prog_2_method_2_code 7 = .ok (.bipush 14, 2) := by decide +kernel
theorem d_X0_remember_9 : decode prog_2_method_2_code 9 = .ok (.irem, 1) := by decide +kernel
theorem d_X0_remember_10 : decode prog_2_method_2_code 10 = .ok (.putfield 20, 3) := by decide +kernel
theorem d_X0_remember_13 : decode prog_2_method_2_code 13 = .ok (.aload_n 0, 1) := by decide +kernel
theorem d_X0_remember_14 : decode prog_2_method_2_code 14 = .ok (.getfield 14, 3) := by decide +kernel
theorem d_X0_remember_17 : decode prog_2_method_2_code 17 = .ok (.aload_n 0, 1) := by decide +kernel
theorem d_X0_remember_18 : decode prog_2_method_2_code 18 = .ok (.getfield 20, 3) := by decide +kernel
theorem d_X0_remember_21 : decode prog_2_method_2_code 21 = .ok (.aload_n 1, 1) := by decide +kernel
theorem d_X0_remember_22 : decode prog_2_method_2_code 22 = .ok (.invokevirtual 24, 3) := by decide +kernel
theorem d_X0_remember_25 : decode prog_2_method_2_code 25 = .ok (.aload_n 0, 1) := by decide +kernel
theorem d_X0_remember_26 : decode prog_2_method_2_code 26 = .ok (.aload_n 0, 1) := by decide +kernel
theorem d_X0_remember_27 : decode prog_2_method_2_code 27 = .ok (.getfield 28, 3) := by decide +kernel
theorem d_X0_remember_30 : decode prog_2_method_2_code 30 = .ok (.iconst 1, 1) := by decide +kernel
theorem d_X0_remember_31 : decode prog_2_method_2_code 31 = .ok (.iadd, 1) := by decide +kernel
theorem d_X0_remember_32 : decode prog_2_method_2_code 32 = .ok (.bipush 14, 2) := by decide +kernel
theorem d_X0_remember_34 : decode prog_2_method_2_code 34 = .ok (.invokestatic 31, 3) := by decide +kernel
theorem d_X0_remember_37 : decode prog_2_method_2_code 37 = .ok (.putfield 28, 3) := by decide +kernel
theorem d_X0_remember_40 : decode prog_2_method_2_code 40 = .ok (.return_, 1) := by decide +kernel
abbrev M_Acts_remember : zMT := (⟨"PeriodSlots$Acts", "remember", "(LPeriodSlots$Mesh;)V"⟩, prog_2_method_2_code, 2, none)
theorem k_Acts_remember : zcall M_Acts_remember 1 := ⟨zU_in (i := 456) (by decide +kernel) rfl, m58, ⟨by decide, by decide, by decide +kernel⟩, by decide⟩
def o_Acts_remember (h : zHp) (m : Nat) : zHp :=
  (zup (o_Shelf42_put (zup h 41 0 (zrem ((h 41 0) + 1) 14)) ((zup h 41 0 (zrem ((h 41 0) + 1) 14)) 41 0) m) 41 1 (if 14 < (((o_Shelf42_put (zup h 41 0 (zrem ((h 41 0) + 1) 14)) ((zup h 41 0 (zrem ((h 41 0) + 1) 14)) 41 0) m) 41 1) + 1) then 14 else (((o_Shelf42_put (zup h 41 0 (zrem ((h 41 0) + 1) 14)) ((zup h 41 0 (zrem ((h 41 0) + 1) 14)) 41 0) m) 41 1) + 1)))
theorem fr_Acts_remember {h : zHp} {m : Nat} (c k : Nat) (q0 : ¬ (c = 41 ∧ k = 0)) (q1 : ¬ (c = 41 ∧ k = 1)) (q2 : c ≠ 43) (q3 : ¬ (c = 42 ∧ k = 1)) : (o_Acts_remember h m) c k = h c k := by
  unfold o_Acts_remember
  first | done | exact ((zup_fr (by omega)).trans ((fr_Shelf42_put _ _ (by assumption) (by assumption)).trans (zup_fr (by omega))))
set_option maxHeartbeats 400000 in
set_option maxRecDepth 20000 in
theorem c_Acts_remember (X : zXT) (h : zHp) (g : zLg) (m : Nat) (hm : m = 3 ∨ m = 15 ∨ m = 27) (hf0 : zfit h 41 0 13) (hf1 : zfit h 41 1 14) (hf2 : zfit h 42 0 14) : zDi X M_Acts_remember 2 [zR X 41, zR X m] h g none (o_Acts_remember h m) g := by
  have hf0_1 := hf0.1
  have hf1_1 := hf1.1
  have hf2_1 := hf2.1
  refine zDi_of "PeriodSlots$Acts" prog_2_method_2_code 2 none rfl (by decide) [zO X 41, zO X m] rfl (fun _ q => q) (Nat.le_of_ble_eq_true rfl) ?_
  intro Γ Q C hQ
  refine zr_aload_n C d_X0_remember_0 rfl ?_
  refine zr_aload_n C d_X0_remember_1 rfl ?_
  refine gf_Acts_1 C m195 d_X0_remember_2 ?_
  refine zr_iconst C (v := 1) d_X0_remember_5 (by decide) ?_
  refine zr_iadd C d_X0_remember_6 ?_
  refine zr_bipush C (v := 14) d_X0_remember_7 (by decide) ?_
  refine zr_irem C d_X0_remember_9 (by decide) ?_
  refine pf_Acts_1 C m195 d_X0_remember_10 ?_
  refine zr_h (fun h1 eh1 => ?_)
  have hfh1 : zfit h1 41 0 13 := zfit_of (m := ((zcn (h 41 0)) + 1) % 14) ((congrFun (congrFun eh1.symm _) _).trans (zup_at.trans (zn_rem (zn_add hf0.2 rfl) rfl (by omega) (by omega) (by omega)))) (by omega) (by decide)
  have hfh1_1 := hfh1.1
  refine zr_aload_n C d_X0_remember_13 rfl ?_
  refine gf_Acts_0 C m194 d_X0_remember_14 ?_
  refine zr_aload_n C d_X0_remember_17 rfl ?_
  refine gf_Acts_1 C m195 d_X0_remember_18 ?_
  refine zr_aload_n C d_X0_remember_21 rfl ?_
  refine zr_callVv (As := [.int (h1 41 0), zR X m]) (st := []) (c := 42) C (c_Shelf42_put X h1 g (h1 41 0) m hm (zfit_fr ((congrFun (congrFun eh1.symm _) _).trans (zup_fr (by omega))) hf2)) k_Shelf_put m457 m458 m459 (by decide) (zC_Shelf (by decide) X _ _) rfl rfl (by decide) rfl (Nat.le_of_ble_eq_true rfl) d_X0_remember_22 ?_
  refine zr_h (fun h2 eh2 => ?_)
  refine zr_aload_n C d_X0_remember_25 rfl ?_
  refine zr_aload_n C d_X0_remember_26 rfl ?_
  refine gf_Acts_2 C m196 d_X0_remember_27 ?_
  refine zr_iconst C (v := 1) d_X0_remember_30 (by decide) ?_
  refine zr_iadd C d_X0_remember_31 ?_
  refine zr_bipush C (v := 14) d_X0_remember_32 (by decide) ?_
  refine zr_mmin C m462 rfl (Nat.le_of_ble_eq_true rfl) (by decide) d_X0_remember_34 ?_
  refine pf_Acts_2 C m196 d_X0_remember_37 ?_
  refine zr_h (fun h3 eh3 => ?_)
  have hfh3 : zfit h3 41 1 14 := zfit_of (m := min ((zcn (h 41 1)) + 1) 14) ((congrFun (congrFun eh3.symm _) _).trans (zup_at.trans (zn_min (zn_add (((congrFun (congrFun eh2.symm _) _).trans ((fr_Shelf42_put _ _ (by omega) (by omega)).trans ((congrFun (congrFun eh1.symm _) _).trans (zup_fr (by omega))))).trans hf1.2) rfl) rfl (by omega) (by omega)))) (by omega) (by decide)
  have hfh3_1 := hfh3.1
  have eR : o_Acts_remember h m = h3 := (by subst eh3 eh2 eh1; unfold o_Acts_remember; exact rfl)
  subst hQ
  rw [eR]
  exact zr_vret C d_X0_remember_40
theorem pf_rem0 {h : zHp} {m : Nat} (f : zfit h 41 0 13) : zfit (o_Acts_remember h m) 41 0 13 := by
  have e : o_Acts_remember h m 41 0 = nI ((zcn (h 41 0) + 1) % 14) := by
    unfold o_Acts_remember
    rw [zup_fr (by omega), fr_Shelf42_put _ _ (by omega) (by omega), zup_at]
    exact zn_rem (zn_add f.2 rfl) rfl (by have := f.1; omega) (by decide) (by decide)
  exact zfit_of e (by omega) (by decide)
theorem pf_rem1 {h : zHp} {m : Nat} (f : zfit h 41 1 14) : zfit (o_Acts_remember h m) 41 1 14 := by
  have e : o_Acts_remember h m 41 1 = nI (min (zcn (h 41 1) + 1) 14) := by
    unfold o_Acts_remember
    rw [zup_at, fr_Shelf42_put _ _ (by omega) (by omega), zup_fr (by omega)]
    exact zn_min (a := zcn (h 41 1) + 1) (b := 14) (zn_add f.2 rfl) rfl (by have := f.1; omega) (by decide)
  exact zfit_of e (by omega) (by decide)

theorem d_X0_takeBack_0 : decode prog_2_method_3_code 0 = .ok (.aload_n 0, 1) := by decide +kernel
theorem d_X0_takeBack_1 : decode prog_2_method_3_code 1 = .ok (.getfield 14, 3) := by decide +kernel
theorem d_X0_takeBack_4 : decode prog_2_method_3_code 4 = .ok (.aload_n 0, 1) := by decide +kernel
theorem d_X0_takeBack_5 : decode prog_2_method_3_code 5 = .ok (.getfield 20, 3) := by decide +kernel
theorem d_X0_takeBack_8 : decode prog_2_method_3_code 8 = .ok (.aload_n 1, 1) := by decide +kernel
theorem d_X0_takeBack_9 : decode prog_2_method_3_code 9 = .ok (.invokevirtual 37, 3) := by decide +kernel
theorem d_X0_takeBack_12 : decode prog_2_method_3_code 12 = .ok (.aload_n 0, 1) := by decide +kernel
theorem d_X0_takeBack_13 : decode prog_2_method_3_code 13 = .ok (.aload_n 0, 1) := by decide +kernel
theorem d_X0_takeBack_14 : decode prog_2_method_3_code 14 = .ok (.getfield 20, 3) := by decide +kernel
theorem d_X0_takeBack_17 : decode prog_2_method_3_code 17 = .ok (.bipush 14, 2) := by decide +kernel
theorem d_X0_takeBack_19 : decode prog_2_method_3_code 19 = .ok (.iadd, 1) := by decide +kernel
theorem d_X0_takeBack_20 : decode prog_2_method_3_code 20 = .ok (.iconst 1, 1) := by decide +kernel
theorem d_X0_takeBack_21 : decode prog_2_method_3_code 21 = .ok (.isub, 1) := by decide +kernel
theorem d_X0_takeBack_22 : decode prog_2_method_3_code 22 = .ok (.bipush 14, 2) := by decide +kernel
theorem d_X0_takeBack_24 : decode prog_2_method_3_code 24 = .ok (.irem, 1) := by decide +kernel
theorem d_X0_takeBack_25 : decode prog_2_method_3_code 25 = .ok (.putfield 20, 3) := by decide +kernel
theorem d_X0_takeBack_28 : decode prog_2_method_3_code 28 = .ok (.aload_n 0, 1) := by decide +kernel
theorem d_X0_takeBack_29 : decode prog_2_method_3_code 29 = .ok (.iconst 0, 1) := by decide +kernel
theorem d_X0_takeBack_30 : decode prog_2_method_3_code 30 = .ok (.aload_n 0, 1) := by decide +kernel
theorem d_X0_takeBack_31 : decode prog_2_method_3_code 31 = .ok (.getfield 28, 3) := by decide +kernel
theorem d_X0_takeBack_34 : decode prog_2_method_3_code 34 = .ok (.iconst 1, 1) := by decide +kernel
theorem d_X0_takeBack_35 : decode prog_2_method_3_code 35 = .ok (.isub, 1) := by decide +kernel
theorem d_X0_takeBack_36 : decode prog_2_method_3_code 36 = .ok (.invokestatic 40, 3) := by decide +kernel
theorem d_X0_takeBack_39 : decode prog_2_method_3_code 39 = .ok (.putfield 28, 3) := by decide +kernel
theorem d_X0_takeBack_42 : decode prog_2_method_3_code 42 = .ok (.return_, 1) := by decide +kernel
abbrev M_Acts_takeBack : zMT := (⟨"PeriodSlots$Acts", "takeBack", "(LPeriodSlots$Mesh;)V"⟩, prog_2_method_3_code, 2, none)
theorem k_Acts_takeBack : zcall M_Acts_takeBack 1 := ⟨zU_in (i := 551) (by decide +kernel) rfl, m58, ⟨by decide, by decide, by decide +kernel⟩, by decide⟩
def o_Acts_takeBack (h : zHp) (m : Nat) : zHp :=
  (zup (zup (o_Shelf42_giveBack h (h 41 0) m) 41 0 (zrem ((((o_Shelf42_giveBack h (h 41 0) m) 41 0) + 14) - 1) 14)) 41 1 (if 0 < (((zup (o_Shelf42_giveBack h (h 41 0) m) 41 0 (zrem ((((o_Shelf42_giveBack h (h 41 0) m) 41 0) + 14) - 1) 14)) 41 1) - 1) then (((zup (o_Shelf42_giveBack h (h 41 0) m) 41 0 (zrem ((((o_Shelf42_giveBack h (h 41 0) m) 41 0) + 14) - 1) 14)) 41 1) - 1) else 0))
theorem fr_Acts_takeBack {h : zHp} {m : Nat} (c k : Nat) (q0 : ¬ (c = 41 ∧ k = 0)) (q1 : ¬ (c = 41 ∧ k = 1)) (q2 : ¬ (c = m ∧ k = 1)) (q3 : c ≠ m + 2) (q4 : c ≠ m + 3) (q5 : c ≠ m + 4) (q6 : c ≠ m + 6) (q7 : c ≠ m + 7) (q8 : c ≠ m + 8) (q9 : c ≠ m + 9) (q10 : c ≠ m + 10) : (o_Acts_takeBack h m) c k = h c k := by
  unfold o_Acts_takeBack
  first | done | exact ((zup_fr (by omega)).trans ((zup_fr (by omega)).trans (fr_Shelf42_giveBack _ _ (by assumption) (by assumption) (by assumption) (by assumption) (by assumption) (by assumption) (by assumption) (by assumption) (by assumption))))
set_option maxHeartbeats 400000 in
set_option maxRecDepth 20000 in
theorem c_Acts_takeBack (X : zXT) (h : zHp) (g : zLg) (m : Nat) (hm : m = 3 ∨ m = 15 ∨ m = 27) (hf0 : zfit h 41 0 13) (hf1 : zfit h 41 1 14) (hf2 : zfit h 42 0 14) (hf3 : zfit h m 0 8) : zDi X M_Acts_takeBack 4 [zR X 41, zR X m] h g none (o_Acts_takeBack h m) g := by
  have hf0_1 := hf0.1
  have hf1_1 := hf1.1
  have hf2_1 := hf2.1
  have hf3_1 := hf3.1
  refine zDi_of "PeriodSlots$Acts" prog_2_method_3_code 2 none rfl (by decide) [zO X 41, zO X m] rfl (fun _ q => q) (Nat.le_of_ble_eq_true rfl) ?_
  intro Γ Q C hQ
  refine zr_aload_n C d_X0_takeBack_0 rfl ?_
  refine gf_Acts_0 C m194 d_X0_takeBack_1 ?_
  refine zr_aload_n C d_X0_takeBack_4 rfl ?_
  refine gf_Acts_1 C m195 d_X0_takeBack_5 ?_
  refine zr_aload_n C d_X0_takeBack_8 rfl ?_
  refine zr_callVv (As := [.int (h 41 0), zR X m]) (st := []) (c := 42) C (c_Shelf42_giveBack X h g (h 41 0) m hm hf2 hf3) k_Shelf_giveBack m552 m553 m554 (by decide) (zC_Shelf (by decide) X _ _) rfl rfl (by decide) rfl (Nat.le_of_ble_eq_true rfl) d_X0_takeBack_9 ?_
  refine zr_h (fun h1 eh1 => ?_)
  refine zr_aload_n C d_X0_takeBack_12 rfl ?_
  refine zr_aload_n C d_X0_takeBack_13 rfl ?_
  refine gf_Acts_1 C m195 d_X0_takeBack_14 ?_
  refine zr_bipush C (v := 14) d_X0_takeBack_17 (by decide) ?_
  refine zr_iadd C d_X0_takeBack_19 ?_
  refine zr_iconst C (v := 1) d_X0_takeBack_20 (by decide) ?_
  refine zr_isub C d_X0_takeBack_21 ?_
  refine zr_bipush C (v := 14) d_X0_takeBack_22 (by decide) ?_
  refine zr_irem C d_X0_takeBack_24 (by decide) ?_
  refine pf_Acts_1 C m195 d_X0_takeBack_25 ?_
  refine zr_h (fun h2 eh2 => ?_)
  have hfh2 : zfit h2 41 0 13 := zfit_of (m := (((zcn (h 41 0)) + 14) - 1) % 14) ((congrFun (congrFun eh2.symm _) _).trans (zup_at.trans (zn_rem (zn_sub (zn_add (((congrFun (congrFun eh1.symm _) _).trans (fr_Shelf42_giveBack _ _ (by omega) (by omega) (by omega) (by omega) (by omega) (by omega) (by omega) (by omega) (by omega))).trans hf0.2) rfl) rfl (by omega)) rfl (by omega) (by omega) (by omega)))) (by omega) (by decide)
  have hfh2_1 := hfh2.1
  refine zr_aload_n C d_X0_takeBack_28 rfl ?_
  refine zr_iconst C (v := 0) d_X0_takeBack_29 (by decide) ?_
  refine zr_aload_n C d_X0_takeBack_30 rfl ?_
  refine gf_Acts_2 C m196 d_X0_takeBack_31 ?_
  refine zr_iconst C (v := 1) d_X0_takeBack_34 (by decide) ?_
  refine zr_isub C d_X0_takeBack_35 ?_
  refine zr_mmax C m563 rfl (Nat.le_of_ble_eq_true rfl) (by decide) d_X0_takeBack_36 ?_
  refine pf_Acts_2 C m196 d_X0_takeBack_39 ?_
  refine zr_h (fun h3 eh3 => ?_)
  have eR : o_Acts_takeBack h m = h3 := (by subst eh3 eh2 eh1; unfold o_Acts_takeBack; exact rfl)
  subst hQ
  rw [eR]
  exact zr_vret C d_X0_takeBack_42
theorem d_X0_forget_0 : decode prog_2_method_4_code 0 = .ok (.aload_n 0, 1) := by decide +kernel
theorem d_X0_forget_1 : decode prog_2_method_4_code 1 = .ok (.iconst 0, 1) := by decide +kernel
theorem d_X0_forget_2 : decode prog_2_method_4_code 2 = .ok (.putfield 28, 3) := by decide +kernel
theorem d_X0_forget_5 : decode prog_2_method_4_code 5 = .ok (.return_, 1) := by decide +kernel
abbrev M_Acts_forget : zMT := (⟨"PeriodSlots$Acts", "forget", "()V"⟩, prog_2_method_4_code, 1, none)
theorem k_Acts_forget : zcall M_Acts_forget 0 := ⟨zU_in (i := 388) (by decide +kernel) rfl, m58, ⟨by decide, by decide, by decide +kernel⟩, by decide⟩
def o_Acts_forget (h : zHp) : zHp :=
  (zup h 41 1 0)
theorem fr_Acts_forget {h : zHp} (c k : Nat) (q0 : ¬ (c = 41 ∧ k = 1)) : (o_Acts_forget h) c k = h c k := by
  unfold o_Acts_forget
  first | done | exact (zup_fr (by omega))
set_option maxHeartbeats 400000 in
set_option maxRecDepth 20000 in
theorem c_Acts_forget (X : zXT) (h : zHp) (g : zLg)  : zDi X M_Acts_forget 0 [zR X 41] h g none (o_Acts_forget h) g := by
  refine zDi_of "PeriodSlots$Acts" prog_2_method_4_code 1 none rfl (by decide) [zO X 41] rfl (fun _ q => q) (Nat.le_of_ble_eq_true rfl) ?_
  intro Γ Q C hQ
  refine zr_aload_n C d_X0_forget_0 rfl ?_
  refine zr_iconst C (v := 0) d_X0_forget_1 (by decide) ?_
  refine pf_Acts_2 C m196 d_X0_forget_2 ?_
  refine zr_h (fun h1 eh1 => ?_)
  have eR : o_Acts_forget h = h1 := (by subst eh1; unfold o_Acts_forget; exact rfl)
  subst hQ
  rw [eR]
  exact zr_vret C d_X0_forget_5
theorem d_X2_add_0 : decode prog_4_method_2_code 0 = .ok (.aload_n 0, 1) := by decide +kernel
theorem d_X2_add_1 : decode prog_4_method_2_code 1 = .ok (.getfield 21, 3) := by decide +kernel
theorem d_X2_add_4 : decode prog_4_method_2_code 4 = .ok (.bipush 6, 2) := by decide +kernel
theorem d_X2_add_6 : decode prog_4_method_2_code 6 = .ok (.if_icmp .ge 43, 3) := by decide +kernel
theorem d_X2_add_9 : decode prog_4_method_2_code 9 = .ok (.aload_n 0, 1) := by decide +kernel
theorem d_X2_add_10 : decode prog_4_method_2_code 10 = .ok (.getfield 9, 3) := by decide +kernel
theorem d_X2_add_13 : decode prog_4_method_2_code 13 = .ok (.aload_n 0, 1) := by decide +kernel
theorem d_X2_add_14 : decode prog_4_method_2_code 14 = .ok (.getfield 21, 3) := by decide +kernel
theorem d_X2_add_17 : decode prog_4_method_2_code 17 = .ok (.iload_n 1, 1) := by decide +kernel
theorem d_X2_add_18 : decode prog_4_method_2_code 18 = .ok (.iastore, 1) := by decide +kernel
theorem d_X2_add_19 : decode prog_4_method_2_code 19 = .ok (.aload_n 0, 1) := by decide +kernel
theorem d_X2_add_20 : decode prog_4_method_2_code 20 = .ok (.getfield 15, 3) := by decide +kernel
theorem d_X2_add_23 : decode prog_4_method_2_code 23 = .ok (.aload_n 0, 1) := by decide +kernel
theorem d_X2_add_24 : decode prog_4_method_2_code 24 = .ok (.getfield 21, 3) := by decide +kernel
theorem d_X2_add_27 : decode prog_4_method_2_code 27 = .ok (.iload_n 2, 1) := by decide +kernel
theorem d_X2_add_28 : decode prog_4_method_2_code 28 = .ok (.iastore, 1) := by decide +kernel
theorem d_X2_add_29 : decode prog_4_method_2_code 29 = .ok (.aload_n 0, 1) := by decide +kernel
theorem d_X2_add_30 : decode prog_4_method_2_code 30 = .ok (.getfield 18, 3) := by decide +kernel
theorem d_X2_add_33 : decode prog_4_method_2_code 33 = .ok (.aload_n 0, 1) := by decide +kernel
theorem d_X2_add_34 : decode prog_4_method_2_code 34 = .ok (.getfield 21, 3) := by decide +kernel
theorem d_X2_add_37 : decode prog_4_method_2_code 37 = .ok (.iload_n 3, 1) := by decide +kernel
theorem d_X2_add_38 : decode prog_4_method_2_code 38 = .ok (.iastore, 1) := by decide +kernel
theorem d_X2_add_39 : decode prog_4_method_2_code 39 = .ok (.aload_n 0, 1) := by decide +kernel
theorem d_X2_add_40 : decode prog_4_method_2_code 40 = .ok (.dup, 1) := by decide +kernel
theorem d_X2_add_41 : decode prog_4_method_2_code 41 = .ok (.getfield 21, 3) := by decide +kernel
theorem d_X2_add_44 : decode prog_4_method_2_code 44 = .ok (.iconst 1, 1) := by decide +kernel
theorem d_X2_add_45 : decode prog_4_method_2_code 45 = .ok (.iadd, 1) := by decide +kernel
theorem d_X2_add_46 : decode prog_4_method_2_code 46 = .ok (.putfield 21, 3) := by decide +kernel
theorem d_X2_add_49 : decode prog_4_method_2_code 49 = .ok (.return_, 1) := by decide +kernel
abbrev M_Obs_add : zMT := (⟨"PeriodSlots$Observations", "add", "(III)V"⟩, prog_4_method_2_code, 4, none)
theorem k_Obs_add : zcall M_Obs_add 3 := ⟨zU_in (i := 663) (by decide +kernel) rfl, m61, ⟨by decide, by decide, by decide +kernel⟩, by decide⟩
def o_Obs_add (h : zHp) (station : Int32) (tick : Int32) (was : Int32) : zHp :=
  (if 6 ≤ (h 46 0) then h else (zup (zup (zup (zup h 47 (zcn (h 46 0)) station) 48 (zcn (h 46 0)) tick) 49 (zcn (h 46 0)) was) 46 0 (((zup (zup (zup h 47 (zcn (h 46 0)) station) 48 (zcn (h 46 0)) tick) 49 (zcn (h 46 0)) was) 46 0) + 1)))
theorem fr_Obs_add {h : zHp} {station : Int32} {tick : Int32} {was : Int32} (c k : Nat) (q0 : c ≠ 47) (q1 : c ≠ 48) (q2 : c ≠ 49) (q3 : ¬ (c = 46 ∧ k = 0)) : (o_Obs_add h station tick was) c k = h c k := by
  unfold o_Obs_add
  first | done | exact (zite_fr (fun _ => rfl) (fun _ => ((zup_fr (by omega)).trans ((zup_fr (Or.inl (by assumption))).trans ((zup_fr (Or.inl (by assumption))).trans (zup_fr (Or.inl (by assumption))))))))
set_option maxHeartbeats 400000 in
set_option maxRecDepth 20000 in
theorem c_Obs_add (X : zXT) (h : zHp) (g : zLg) (station : Int32) (tick : Int32) (was : Int32) (hf0 : zfit h 46 0 6) : zDi X M_Obs_add 0 [zR X 46, .int station, .int tick, .int was] h g none (o_Obs_add h station tick was) g := by
  have hf0_1 := hf0.1
  refine zDi_of "PeriodSlots$Observations" prog_4_method_2_code 4 none rfl (by decide) [zO X 46, zI station, zI tick, zI was] rfl (fun _ q => q) (Nat.le_of_ble_eq_true rfl) ?_
  intro Γ Q C hQ
  refine zr_aload_n C d_X2_add_0 rfl ?_
  refine gf_Obs_3 C m216 d_X2_add_1 ?_
  refine zr_bipush C (v := 6) d_X2_add_4 (by decide) ?_
  suffices hJ6 : ∀ (h7 : zHp), (if 6 ≤ (h 46 0) then h else (zup (zup (zup (zup h 47 (zcn (h 46 0)) station) 48 (zcn (h 46 0)) tick) 49 (zcn (h 46 0)) was) 46 0 (((zup (zup (zup h 47 (zcn (h 46 0)) station) 48 (zcn (h 46 0)) tick) 49 (zcn (h 46 0)) was) 46 0) + 1))) = h7 → zV X Γ Q 49 [none, none, none, none] [] h7 g by
    refine zr_icmp_ge C 49 d_X2_add_6 (by decide) (fun c6 => ?_) (fun c6 => ?_)
    · have en1 := zn_ge (a := zcn (h 46 0)) (b := 6) hf0.2 rfl c6 (zcn_small _) (by decide)
      refine zr_lv [none, none, none, none] (by simp [zle]) ?_
      exact hJ6 h (((if_pos c6)))
    · have en2 := zn_nge (a := zcn (h 46 0)) (b := 6) hf0.2 rfl c6 (zcn_small _) (by decide)
      refine zr_aload_n C d_X2_add_9 rfl ?_
      refine gf_Obs_0 C m213 d_X2_add_10 ?_
      refine zr_aload_n C d_X2_add_13 rfl ?_
      refine gf_Obs_3 C m216 d_X2_add_14 ?_
      refine zr_iload_n C d_X2_add_17 rfl ?_
      refine zr_iast C za_47 (zcn (h 46 0)) hf0.2 (by omega) (by decide) d_X2_add_18 ?_
      refine zr_h (fun h3 eh3 => ?_)
      refine zr_aload_n C d_X2_add_19 rfl ?_
      refine gf_Obs_1 C m214 d_X2_add_20 ?_
      refine zr_aload_n C d_X2_add_23 rfl ?_
      refine gf_Obs_3 C m216 d_X2_add_24 ?_
      refine zr_iload_n C d_X2_add_27 rfl ?_
      refine zr_iast C za_48 (zcn (h 46 0)) (((congrFun (congrFun eh3.symm _) _).trans (zup_fr (by omega))).trans hf0.2) (by omega) (by decide) d_X2_add_28 ?_
      refine zr_h (fun h4 eh4 => ?_)
      refine zr_aload_n C d_X2_add_29 rfl ?_
      refine gf_Obs_2 C m215 d_X2_add_30 ?_
      refine zr_aload_n C d_X2_add_33 rfl ?_
      refine gf_Obs_3 C m216 d_X2_add_34 ?_
      refine zr_iload_n C d_X2_add_37 rfl ?_
      refine zr_iast C za_49 (zcn (h 46 0)) (((congrFun (congrFun eh4.symm _) _).trans ((zup_fr (by omega)).trans ((congrFun (congrFun eh3.symm _) _).trans (zup_fr (by omega))))).trans hf0.2) (by omega) (by decide) d_X2_add_38 ?_
      refine zr_h (fun h5 eh5 => ?_)
      refine zr_aload_n C d_X2_add_39 rfl ?_
      refine zr_dup C d_X2_add_40 rfl ?_
      refine gf_Obs_3 C m216 d_X2_add_41 ?_
      refine zr_iconst C (v := 1) d_X2_add_44 (by decide) ?_
      refine zr_iadd C d_X2_add_45 ?_
      refine pf_Obs_3 C m216 d_X2_add_46 ?_
      refine zr_h (fun h6 eh6 => ?_)
      have hfh6 : zfit h6 46 0 6 := zfit_of (m := (zcn (h 46 0)) + 1) ((congrFun (congrFun eh6.symm _) _).trans (zup_at.trans (zn_add (((congrFun (congrFun eh5.symm _) _).trans ((zup_fr (by omega)).trans ((congrFun (congrFun eh4.symm _) _).trans ((zup_fr (by omega)).trans ((congrFun (congrFun eh3.symm _) _).trans (zup_fr (by omega))))))).trans hf0.2) rfl))) (by omega) (by decide)
      have hfh6_1 := hfh6.1
      refine zr_lv [none, none, none, none] (by simp [zle]) ?_
      exact hJ6 h6 (by subst eh6 eh5 eh4 eh3; exact ((if_neg c6)))
  intro h7 eh7
  have eR : o_Obs_add h station tick was = h7 := (by subst eh7; unfold o_Obs_add; exact rfl)
  subst hQ
  rw [eR]
  exact zr_vret C d_X2_add_49
theorem d_X2_sight_0 : decode prog_4_method_4_code 0 = .ok (.iconst 2, 1) := by decide +kernel
theorem d_X2_sight_1 : decode prog_4_method_4_code 1 = .ok (.aload_n 0, 1) := by decide +kernel
theorem d_X2_sight_2 : decode prog_4_method_4_code 2 = .ok (.iload_n 1, 1) := by decide +kernel
theorem d_X2_sight_3 : decode prog_4_method_4_code 3 = .ok (.iload_n 2, 1) := by decide +kernel
theorem d_X2_sight_4 : decode prog_4_method_4_code 4 = .ok (.invokevirtual 35, 3) := by decide +kernel
theorem d_X2_sight_7 : decode prog_4_method_4_code 7 = .ok (.invokestatic 39, 3) := by decide +kernel
theorem d_X2_sight_10 : decode prog_4_method_4_code 10 = .ok (.invokestatic 45, 3) := by decide +kernel
theorem d_X2_sight_13 : decode prog_4_method_4_code 13 = .ok (.ireturn, 1) := by decide +kernel
abbrev M_Obs_sight : zMT := (⟨"PeriodSlots$Observations", "sight", "(LPeriodSlots$Mesh;II)I"⟩, prog_4_method_4_code, 3, (some .int))
theorem k_Obs_sight : zcall M_Obs_sight 3 := ⟨zU_in (i := 679) (by decide +kernel) rfl, m61, ⟨by decide, by decide, by decide +kernel⟩, by decide⟩
def o_Obs_sight (h : zHp) (m : Nat) (station : Nat) (tick : Int32) : Int32 :=
  (if (o_Int_bitCount (o_Mesh_neighboursAt h m station tick)) < 2 then (o_Int_bitCount (o_Mesh_neighboursAt h m station tick)) else 2)
set_option maxHeartbeats 400000 in
set_option maxRecDepth 20000 in
theorem c_Obs_sight (X : zXT) (h : zHp) (g : zLg) (m : Nat) (station : Nat) (tick : Int32) {x_station : Int32} (e_station : x_station = nI station) (hm : m = 3 ∨ m = 15 ∨ m = 27) (hf0 : zfit h m 0 8) (hl1 : station < 8) : zDi X M_Obs_sight 2 [zR X m, .int x_station, .int tick] h g (zI (o_Obs_sight h m station tick)) h g := by
  subst e_station
  have hf0_1 := hf0.1
  refine zDi_of "PeriodSlots$Observations" prog_4_method_4_code 3 (some .int) rfl (by decide) [zO X m, zI (nI station), zI tick] rfl (fun _ q => q) (Nat.le_of_ble_eq_true rfl) ?_
  intro Γ Q C hQ
  refine zr_iconst C (v := 2) d_X2_sight_0 (by decide) ?_
  refine zr_aload_n C d_X2_sight_1 rfl ?_
  refine zr_iload_n C d_X2_sight_2 rfl ?_
  refine zr_iload_n C d_X2_sight_3 rfl ?_
  refine zr_callVi (As := [.int (nI station), .int tick]) (st := [.int 2]) (c := m) C (c_Mesh_neighboursAt X h g m station tick rfl hm hf0 (by omega)) k_Mesh_neighboursAt m680 m620 m621 (by omega) (zC_Mesh hm X _ _) rfl rfl (by decide) rfl (Nat.le_of_ble_eq_true rfl) d_X2_sight_4 ?_
  refine zr_callSi (As := [.int (o_Mesh_neighboursAt h m station tick)]) (st := [.int 2]) C (c_Int_bitCount X h g (o_Mesh_neighboursAt h m station tick)) k_Int_bitCount m681 m349 rfl (by decide) rfl (Nat.le_of_ble_eq_true rfl) d_X2_sight_7 ?_
  refine zr_mmin C m682 rfl (Nat.le_of_ble_eq_true rfl) (by decide) d_X2_sight_10 ?_
  have eR : o_Obs_sight h m station tick = (if (o_Int_bitCount (o_Mesh_neighboursAt h m station tick)) < 2 then (o_Int_bitCount (o_Mesh_neighboursAt h m station tick)) else 2) := (by unfold o_Obs_sight; exact rfl)
  subst hQ
  rw [eR]
  exact zr_ireti C d_X2_sight_13
theorem d_X2_agreeWith_0 : decode prog_4_method_3_code 0 = .ok (.iconst 0, 1) := by decide +kernel
theorem d_X2_agreeWith_1 : decode prog_4_method_3_code 1 = .ok (.istore_n 2, 1) := by decide +kernel
theorem d_X2_agreeWith_2 : decode prog_4_method_3_code 2 = .ok (.iload_n 2, 1) := by decide +kernel
theorem d_X2_agreeWith_3 : decode prog_4_method_3_code 3 = .ok (.aload_n 0, 1) := by decide +kernel
theorem d_X2_agreeWith_4 : decode prog_4_method_3_code 4 = .ok (.getfield 21, 3) := by decide +kernel
theorem d_X2_agreeWith_7 : decode prog_4_method_3_code 7 = .ok (.if_icmp .ge 55, 3) := by decide +kernel
theorem d_X2_agreeWith_10 : decode prog_4_method_3_code 10 = .ok (.iload_n 2, 1) := by decide +kernel
theorem d_X2_agreeWith_11 : decode prog_4_method_3_code 11 = .ok (.bipush 6, 2) := by decide +kernel
theorem d_X2_agreeWith_13 : decode prog_4_method_3_code 13 = .ok (.if_icmp .ge 49, 3) := by decide +kernel
theorem d_X2_agreeWith_16 : decode prog_4_method_3_code 16 = .ok (.aload_n 1, 1) := by decide +kernel
theorem d_X2_agreeWith_17 : decode prog_4_method_3_code 17 = .ok (.aload_n 0, 1) := by decide +kernel
theorem d_X2_agreeWith_18 : decode prog_4_method_3_code 18 = .ok (.getfield 9, 3) := by decide +kernel
theorem d_X2_agreeWith_21 : decode prog_4_method_3_code 21 = .ok (.iload_n 2, 1) := by decide +kernel
theorem d_X2_agreeWith_22 : decode prog_4_method_3_code 22 = .ok (.iaload, 1) := by decide +kernel
theorem d_X2_agreeWith_23 : decode prog_4_method_3_code 23 = .ok (.invokevirtual 25, 3) := by decide +kernel
theorem d_X2_agreeWith_26 : decode prog_4_method_3_code 26 = .ok (.ifCond .eq 30, 3) := by decide +kernel
theorem d_X2_agreeWith_29 : decode prog_4_method_3_code 29 = .ok (.aload_n 1, 1) := by decide +kernel
theorem d_X2_agreeWith_30 : decode prog_4_method_3_code 30 = .ok (.aload_n 0, 1) := by decide +kernel
theorem d_X2_agreeWith_31 : decode prog_4_method_3_code 31 = .ok (.getfield 9, 3) := by decide +kernel
theorem d_X2_agreeWith_34 : decode prog_4_method_3_code 34 = .ok (.iload_n 2, 1) := by decide +kernel
theorem d_X2_agreeWith_35 : decode prog_4_method_3_code 35 = .ok (.iaload, 1) := by decide +kernel
theorem d_X2_agreeWith_36 : decode prog_4_method_3_code 36 = .ok (.aload_n 0, 1) := by decide +kernel
theorem d_X2_agreeWith_37 : decode prog_4_method_3_code 37 = .ok (.getfield 15, 3) := by decide +kernel
theorem d_X2_agreeWith_40 : decode prog_4_method_3_code 40 = .ok (.iload_n 2, 1) := by decide +kernel
theorem d_X2_agreeWith_41 : decode prog_4_method_3_code 41 = .ok (.iaload, 1) := by decide +kernel
theorem d_X2_agreeWith_42 : decode prog_4_method_3_code 42 = .ok (.invokestatic 31, 3) := by decide +kernel
theorem d_X2_agreeWith_45 : decode prog_4_method_3_code 45 = .ok (.aload_n 0, 1) := by decide +kernel
theorem d_X2_agreeWith_46 : decode prog_4_method_3_code 46 = .ok (.getfield 18, 3) := by decide +kernel
theorem d_X2_agreeWith_49 : decode prog_4_method_3_code 49 = .ok (.iload_n 2, 1) := by decide +kernel
theorem d_X2_agreeWith_50 : decode prog_4_method_3_code 50 = .ok (.iaload, 1) := by decide +kernel
theorem d_X2_agreeWith_51 : decode prog_4_method_3_code 51 = .ok (.if_icmp .eq 5, 3) := by decide +kernel
theorem d_X2_agreeWith_54 : decode prog_4_method_3_code 54 = .ok (.iconst 0, 1) := by decide +kernel
theorem d_X2_agreeWith_55 : decode prog_4_method_3_code 55 = .ok (.ireturn, 1) := by decide +kernel
theorem d_X2_agreeWith_56 : decode prog_4_method_3_code 56 = .ok (.iinc 2 1, 3) := by decide +kernel
theorem d_X2_agreeWith_59 : decode prog_4_method_3_code 59 = .ok (.goto (-57), 3) := by decide +kernel
theorem d_X2_agreeWith_62 : decode prog_4_method_3_code 62 = .ok (.iconst 1, 1) := by decide +kernel
theorem d_X2_agreeWith_63 : decode prog_4_method_3_code 63 = .ok (.ireturn, 1) := by decide +kernel
abbrev M_Obs_agreeWith : zMT := (⟨"PeriodSlots$Observations", "agreeWith", "(LPeriodSlots$Mesh;)Z"⟩, prog_4_method_3_code, 3, (some .boolean))
theorem k_Obs_agreeWith : zcall M_Obs_agreeWith 1 := ⟨zU_in (i := 675) (by decide +kernel) rfl, m61, ⟨by decide, by decide, by decide +kernel⟩, by decide⟩
def o_Obs_agreeWith (h : zHp) (m : Nat) : Bool :=
  (Sum.elim (fun r2_1 => true) (fun q2_1 => q2_1) (zrex (fun (i2_1 : Nat) (s2_1 : Unit) => ((if (o_Mesh_exists h m (h 47 i2_1)) = true then (if (o_Obs_sight h m (zcn (h 47 i2_1)) (h 48 i2_1)) = (h 49 i2_1) then .inl () else .inr false) else .inl ()) : (Unit) ⊕ (Bool))) () (zcn (h 46 0))))
set_option maxHeartbeats 400000 in
set_option maxRecDepth 20000 in
theorem c_Obs_agreeWith (X : zXT) (h : zHp) (g : zLg) (m : Nat) (hm : m = 3 ∨ m = 15 ∨ m = 27) (hf0 : zfit h 46 0 6) (hf1 : zfit h m 0 8) : zDi X M_Obs_agreeWith 3 [zR X 46, zR X m] h g (zI (zb (o_Obs_agreeWith h m))) h g := by
  have hf0_1 := hf0.1
  have hf1_1 := hf1.1
  refine zDi_of "PeriodSlots$Observations" prog_4_method_3_code 3 (some .boolean) rfl (by decide) [zO X 46, zO X m, none] rfl (fun _ q => q) (Nat.le_of_ble_eq_true rfl) ?_
  intro Γ Q C hQ
  refine zr_iconst C (v := 0) d_X2_agreeWith_0 (by decide) ?_
  refine zr_istore_n C [zO X 46, zO X m, zI 0] d_X2_agreeWith_1 (Nat.le_of_ble_eq_true rfl) rfl rfl ?_
  refine zforx (f := (fun (i2_1 : Nat) (s2_1 : Unit) => ((if (o_Mesh_exists h m (h 47 i2_1)) = true then (if (o_Obs_sight h m (zcn (h 47 i2_1)) (h 48 i2_1)) = (h 49 i2_1) then .inl () else .inr false) else .inl ()) : (Unit) ⊕ (Bool)))) (a := ()) (fun i2_1 s2_1 => zV X Γ Q 2 [zO X 46, zO X m, zI (nI i2_1)] [] h g) (fun _ _ => True) (zcn (h 46 0)) trivial (fun i2_1 s2_1 hi2_1 hI2_1 => ⟨(fun _ _ => trivial), fun hk2_1 hx2_1 => ?_⟩) (fun r2_1 er2_1 hI2_1 => ?_)
  · refine zr_iload_n C d_X2_agreeWith_2 rfl ?_
    refine zr_aload_n C d_X2_agreeWith_3 rfl ?_
    refine gf_Obs_3 C m216 d_X2_agreeWith_4 ?_
    refine zr_icmp_ge C 62 d_X2_agreeWith_7 (by decide) (fun c => absurd c (zge_no rfl (by omega))) (fun _ => ?_)
    refine zr_iload_n C d_X2_agreeWith_10 rfl ?_
    refine zr_bipush C (v := 6) d_X2_agreeWith_11 (by decide) ?_
    refine zr_icmp_ge C 62 d_X2_agreeWith_13 (by decide) (fun c => absurd c (zge_noN (B := 6) rfl (by omega) (by decide))) (fun _ => ?_)
    refine zr_aload_n C d_X2_agreeWith_16 rfl ?_
    refine zr_aload_n C d_X2_agreeWith_17 rfl ?_
    refine gf_Obs_0 C m213 d_X2_agreeWith_18 ?_
    refine zr_iload_n C d_X2_agreeWith_21 rfl ?_
    refine zr_iald C za_47 (i2_1) rfl (by omega) (by decide) d_X2_agreeWith_22 ?_
    refine zr_callVi (As := [.int (h 47 i2_1)]) (st := []) (c := m) C (c_Mesh_exists X h g m (h 47 i2_1) hm) k_Mesh_exists m676 m359 m360 (by omega) (zC_Mesh hm X _ _) rfl rfl (by decide) rfl (Nat.le_of_ble_eq_true rfl) d_X2_agreeWith_23 ?_
    refine zr_ifz_eq C 56 d_X2_agreeWith_26 (by decide) (fun c26 => ?_) (fun c26 => ?_)
    · refine zr_iinc C [zO X 46, zO X m, zI (nI (i2_1 + 1))] (v := (nI (i2_1 + 1))) d_X2_agreeWith_56 rfl (zn_add rfl rfl) (Nat.le_of_ble_eq_true rfl) rfl rfl ?_
      refine zr_goto C 2 d_X2_agreeWith_59 (by decide) ?_
      exact hk2_1 () ((if_neg (zbf c26)))
    · have ex2 := zex c26
      have ex2_2 := ex2.2
      have ex2_b := (hf1).1
      refine zr_aload_n C d_X2_agreeWith_29 rfl ?_
      refine zr_aload_n C d_X2_agreeWith_30 rfl ?_
      refine gf_Obs_0 C m213 d_X2_agreeWith_31 ?_
      refine zr_iload_n C d_X2_agreeWith_34 rfl ?_
      refine zr_iald C za_47 (i2_1) rfl (by omega) (by decide) d_X2_agreeWith_35 ?_
      refine zr_aload_n C d_X2_agreeWith_36 rfl ?_
      refine gf_Obs_1 C m214 d_X2_agreeWith_37 ?_
      refine zr_iload_n C d_X2_agreeWith_40 rfl ?_
      refine zr_iald C za_48 (i2_1) rfl (by omega) (by decide) d_X2_agreeWith_41 ?_
      refine zr_callSi (As := [zR X m, .int (h 47 i2_1), .int (h 48 i2_1)]) (st := []) C (c_Obs_sight X h g m (zcn (h 47 i2_1)) (h 48 i2_1) (zix ex2.1) hm hf1 (by omega)) k_Obs_sight m677 m678 rfl (by decide) rfl (Nat.le_of_ble_eq_true rfl) d_X2_agreeWith_42 ?_
      refine zr_aload_n C d_X2_agreeWith_45 rfl ?_
      refine gf_Obs_2 C m215 d_X2_agreeWith_46 ?_
      refine zr_iload_n C d_X2_agreeWith_49 rfl ?_
      refine zr_iald C za_49 (i2_1) rfl (by omega) (by decide) d_X2_agreeWith_50 ?_
      refine zr_icmp_eq C 56 d_X2_agreeWith_51 (by decide) (fun c51 => ?_) (fun c51 => ?_)
      · refine zr_iinc C [zO X 46, zO X m, zI (nI (i2_1 + 1))] (v := (nI (i2_1 + 1))) d_X2_agreeWith_56 rfl (zn_add rfl rfl) (Nat.le_of_ble_eq_true rfl) rfl rfl ?_
        refine zr_goto C 2 d_X2_agreeWith_59 (by decide) ?_
        exact hk2_1 () ((if_pos c26).trans ((if_pos c51)))
      · refine zr_iconst C (v := 0) d_X2_agreeWith_54 (by decide) ?_
        have hr2_1 := hx2_1 (false) (((if_pos c26).trans ((if_neg c51))))
        have eR : o_Obs_agreeWith h m = false := (by unfold o_Obs_agreeWith; exact ((congrArg (Sum.elim _ _) hr2_1)))
        subst hQ
        rw [eR]
        exact zr_iretz C (Or.inl rfl) d_X2_agreeWith_55
  refine zr_iload_n C d_X2_agreeWith_2 rfl ?_
  refine zr_aload_n C d_X2_agreeWith_3 rfl ?_
  refine gf_Obs_3 C m216 d_X2_agreeWith_4 ?_
  refine zr_icmp_ge C 62 d_X2_agreeWith_7 (by decide) (fun _ => ?_) (fun c => absurd (zge_yes rfl (by omega) (by have := zcn_small (h 46 0); omega)) c)
  refine zr_iconst C (v := 1) d_X2_agreeWith_62 (by decide) ?_
  have eR : o_Obs_agreeWith h m = true := (by unfold o_Obs_agreeWith; exact ((congrArg (Sum.elim _ _) er2_1)))
  subst hQ
  rw [eR]
  exact zr_iretz C (Or.inr rfl) d_X2_agreeWith_63
theorem d_X3_openOffsets_0 : decode prog_5_method_4_code 0 = .ok (.iconst 0, 1) := by decide +kernel
theorem d_X3_openOffsets_1 : decode prog_5_method_4_code 1 = .ok (.istore_n 3, 1) := by decide +kernel
theorem d_X3_openOffsets_2 : decode prog_5_method_4_code 2 = .ok (.iconst 0, 1) := by decide +kernel
theorem d_X3_openOffsets_3 : decode prog_5_method_4_code 3 = .ok (.istore 4, 2) := by decide +kernel
theorem d_X3_openOffsets_5 : decode prog_5_method_4_code 5 = .ok (.iload 4, 2) := by decide +kernel
theorem d_X3_openOffsets_7 : decode prog_5_method_4_code 7 = .ok (.aload_n 1, 1) := by decide +kernel
theorem d_X3_openOffsets_8 : decode prog_5_method_4_code 8 = .ok (.getfield 21, 3) := by decide +kernel
theorem d_X3_openOffsets_11 : decode prog_5_method_4_code 11 = .ok (.if_icmp .ge 36, 3) := by decide +kernel
theorem d_X3_openOffsets_14 : decode prog_5_method_4_code 14 = .ok (.aload_n 1, 1) := by decide +kernel
theorem d_X3_openOffsets_15 : decode prog_5_method_4_code 15 = .ok (.getfield 57, 3) := by decide +kernel
theorem d_X3_openOffsets_18 : decode prog_5_method_4_code 18 = .ok (.iload_n 2, 1) := by decide +kernel
theorem d_X3_openOffsets_19 : decode prog_5_method_4_code 19 = .ok (.iaload, 1) := by decide +kernel
theorem d_X3_openOffsets_20 : decode prog_5_method_4_code 20 = .ok (.iload 4, 2) := by decide +kernel
theorem d_X3_openOffsets_22 : decode prog_5_method_4_code 22 = .ok (.invokestatic 42, 3) := by decide +kernel
theorem d_X3_openOffsets_25 : decode prog_5_method_4_code 25 = .ok (.ifCond .eq 16, 3) := by decide +kernel
theorem d_X3_openOffsets_28 : decode prog_5_method_4_code 28 = .ok (.iload_n 3, 1) := by decide +kernel
theorem d_X3_openOffsets_29 : decode prog_5_method_4_code 29 = .ok (.aload_n 1, 1) := by decide +kernel
theorem d_X3_openOffsets_30 : decode prog_5_method_4_code 30 = .ok (.iload 4, 2) := by decide +kernel
theorem d_X3_openOffsets_32 : decode prog_5_method_4_code 32 = .ok (.aload_n 0, 1) := by decide +kernel
theorem d_X3_openOffsets_33 : decode prog_5_method_4_code 33 = .ok (.iload 4, 2) := by decide +kernel
theorem d_X3_openOffsets_35 : decode prog_5_method_4_code 35 = .ok (.iaload, 1) := by decide +kernel
theorem d_X3_openOffsets_36 : decode prog_5_method_4_code 36 = .ok (.invokevirtual 60, 3) := by decide +kernel
theorem d_X3_openOffsets_39 : decode prog_5_method_4_code 39 = .ok (.ior, 1) := by decide +kernel
theorem d_X3_openOffsets_40 : decode prog_5_method_4_code 40 = .ok (.istore_n 3, 1) := by decide +kernel
theorem d_X3_openOffsets_41 : decode prog_5_method_4_code 41 = .ok (.iinc 4 1, 3) := by decide +kernel
theorem d_X3_openOffsets_44 : decode prog_5_method_4_code 44 = .ok (.goto (-39), 3) := by decide +kernel
theorem d_X3_openOffsets_47 : decode prog_5_method_4_code 47 = .ok (.aload_n 1, 1) := by decide +kernel
theorem d_X3_openOffsets_48 : decode prog_5_method_4_code 48 = .ok (.iload_n 2, 1) := by decide +kernel
theorem d_X3_openOffsets_49 : decode prog_5_method_4_code 49 = .ok (.iload_n 3, 1) := by decide +kernel
theorem d_X3_openOffsets_50 : decode prog_5_method_4_code 50 = .ok (.invokevirtual 64, 3) := by decide +kernel
theorem d_X3_openOffsets_53 : decode prog_5_method_4_code 53 = .ok (.ireturn, 1) := by decide +kernel
abbrev M_Planner_openOffsets : zMT := (⟨"PeriodSlots$Planner", "openOffsets", "([ILPeriodSlots$Mesh;I)I"⟩, prog_5_method_4_code, 5, (some .int))
theorem k_Planner_openOffsets : zcall M_Planner_openOffsets 3 := ⟨zU_in (i := 590) (by decide +kernel) rfl, m57, ⟨by decide, by decide, by decide +kernel⟩, by decide⟩
def o_Planner_openOffsets (h : zHp) (m : Nat) (v : Nat) : Int32 :=
  (o_Mesh_offsetsOutside h m v (zrep (fun (i5_1 : Nat) (s5_1 : Int32) => (if (o_Slots_has (h (m + 6) v) (nI i5_1)) = true then (s5_1 ||| (o_Mesh_ticksAt h m i5_1 (h 40 i5_1))) else s5_1)) 0 (zcn (h m 0))))
set_option maxHeartbeats 400000 in
set_option maxRecDepth 20000 in
theorem c_Planner_openOffsets (X : zXT) (h : zHp) (g : zLg) (m : Nat) (v : Nat) {x_v : Int32} (e_v : x_v = nI v) (hm : m = 3 ∨ m = 15 ∨ m = 27) (hf0 : zfit h m 0 8) (hl1 : v < 8) : zDi X M_Planner_openOffsets 1 [zR X 40, zR X m, .int x_v] h g (zI (o_Planner_openOffsets h m v)) h g := by
  subst e_v
  have hf0_1 := hf0.1
  refine zDi_of "PeriodSlots$Planner" prog_5_method_4_code 5 (some .int) rfl (by decide) [zO X 40, zO X m, zI (nI v), none, none] rfl (fun _ q => q) (Nat.le_of_ble_eq_true rfl) ?_
  intro Γ Q C hQ
  refine zr_iconst C (v := 0) d_X3_openOffsets_0 (by decide) ?_
  refine zr_istore_n C [zO X 40, zO X m, zI (nI v), zI 0, none] d_X3_openOffsets_1 (Nat.le_of_ble_eq_true rfl) rfl rfl ?_
  refine zr_iconst C (v := 0) d_X3_openOffsets_2 (by decide) ?_
  refine zr_istore C [zO X 40, zO X m, zI (nI v), zI 0, zI 0] d_X3_openOffsets_3 (Nat.le_of_ble_eq_true rfl) rfl rfl ?_
  refine zfor (f := (fun (i5_1 : Nat) (s5_1 : Int32) => (if (o_Slots_has (h (m + 6) v) (nI i5_1)) = true then (s5_1 ||| (o_Mesh_ticksAt h m i5_1 (h 40 i5_1))) else s5_1))) (a := 0) (fun i5_1 s5_1 => zV X Γ Q 5 [zO X 40, zO X m, zI (nI v), zI s5_1, zI (nI i5_1)] [] h g) (fun _ _ => True) (zcn (h m 0)) trivial (fun i5_1 s5_1 hi5_1 hI5_1 => ⟨trivial, fun hk5_1 => ?_⟩) (fun r5_1 er5_1 hI5_1 => ?_)
  · refine zr_iload C d_X3_openOffsets_5 rfl ?_
    refine zr_aload_n C d_X3_openOffsets_7 rfl ?_
    refine gf_Mesh_0 C hm m96 d_X3_openOffsets_8 ?_
    refine zr_icmp_ge C 47 d_X3_openOffsets_11 (by decide) (fun c => absurd c (zge_no rfl (by omega))) (fun _ => ?_)
    refine zr_aload_n C d_X3_openOffsets_14 rfl ?_
    refine gf_Mesh_8 C hm m119 d_X3_openOffsets_15 ?_
    refine zr_iload_n C d_X3_openOffsets_18 rfl ?_
    refine zr_iald C (za_mesh_6 hm) (v) rfl (by omega) (by decide) d_X3_openOffsets_19 ?_
    refine zr_iload C d_X3_openOffsets_20 rfl ?_
    refine zr_callNi (As := [.int (h (m + 6) v), .int (nI i5_1)]) (st := []) C (c_Slots_has X h g (h (m + 6) v) (nI i5_1)) k_Slots_has (by simp [zNest]) m322 rfl (by decide) rfl (Nat.le_of_ble_eq_true rfl) d_X3_openOffsets_22 ?_
    suffices hJ25 : ∀ (y2 : Int32), (if (o_Slots_has (h (m + 6) v) (nI i5_1)) = true then (s5_1 ||| (o_Mesh_ticksAt h m i5_1 (h 40 i5_1))) else s5_1) = y2 → zV X Γ Q 41 [zO X 40, zO X m, zI (nI v), zI y2, zI (nI i5_1)] [] h g by
      refine zr_ifz_eq C 41 d_X3_openOffsets_25 (by decide) (fun c25 => ?_) (fun c25 => ?_)
      · exact hJ25 s5_1 (((if_neg (zbf c25))))
      · refine zr_iload_n C d_X3_openOffsets_28 rfl ?_
        refine zr_aload_n C d_X3_openOffsets_29 rfl ?_
        refine zr_iload C d_X3_openOffsets_30 rfl ?_
        refine zr_aload_n C d_X3_openOffsets_32 rfl ?_
        refine zr_iload C d_X3_openOffsets_33 rfl ?_
        refine zr_iald C za_40 (i5_1) rfl (by omega) (by decide) d_X3_openOffsets_35 ?_
        refine zr_callVi (As := [.int (nI i5_1), .int (h 40 i5_1)]) (st := [.int s5_1]) (c := m) C (c_Mesh_ticksAt X h g m i5_1 (h 40 i5_1) rfl hm (by omega)) k_Mesh_ticksAt m591 m310 m311 (by omega) (zC_Mesh hm X _ _) rfl rfl (by decide) rfl (Nat.le_of_ble_eq_true rfl) d_X3_openOffsets_36 ?_
        refine zr_ior C d_X3_openOffsets_39 ?_
        refine zr_istore_n C [zO X 40, zO X m, zI (nI v), zI (s5_1 ||| (o_Mesh_ticksAt h m i5_1 (h 40 i5_1))), zI (nI i5_1)] d_X3_openOffsets_40 (Nat.le_of_ble_eq_true rfl) rfl rfl ?_
        exact hJ25 (s5_1 ||| (o_Mesh_ticksAt h m i5_1 (h 40 i5_1))) (((if_pos c25)))
    intro y2 ey2
    refine zr_iinc C [zO X 40, zO X m, zI (nI v), zI y2, zI (nI (i5_1 + 1))] (v := (nI (i5_1 + 1))) d_X3_openOffsets_41 rfl (zn_add rfl rfl) (Nat.le_of_ble_eq_true rfl) rfl rfl ?_
    refine zr_goto C 5 d_X3_openOffsets_44 (by decide) ?_
    exact hk5_1 y2 (by subst ey2; exact rfl)
  refine zr_iload C d_X3_openOffsets_5 rfl ?_
  refine zr_aload_n C d_X3_openOffsets_7 rfl ?_
  refine gf_Mesh_0 C hm m96 d_X3_openOffsets_8 ?_
  refine zr_icmp_ge C 47 d_X3_openOffsets_11 (by decide) (fun _ => ?_) (fun c => absurd (zge_yes rfl (by omega) (by have := zcn_small (h m 0); omega)) c)
  refine zr_aload_n C d_X3_openOffsets_47 rfl ?_
  refine zr_iload_n C d_X3_openOffsets_48 rfl ?_
  refine zr_iload_n C d_X3_openOffsets_49 rfl ?_
  refine zr_callVi (As := [.int (nI v), .int r5_1]) (st := []) (c := m) C (c_Mesh_offsetsOutside X h g m v r5_1 rfl hm (by omega)) k_Mesh_offsetsOutside m592 m424 m425 (by omega) (zC_Mesh hm X _ _) rfl rfl (by decide) rfl (Nat.le_of_ble_eq_true rfl) d_X3_openOffsets_50 ?_
  have eR : o_Planner_openOffsets h m v = (o_Mesh_offsetsOutside h m v r5_1) := (by subst er5_1; unfold o_Planner_openOffsets; exact rfl)
  subst hQ
  rw [eR]
  exact zr_ireti C d_X3_openOffsets_53
theorem d_X3_leavesRoom_0 : decode prog_5_method_5_code 0 = .ok (.iload_n 2, 1) := by decide +kernel
theorem d_X3_leavesRoom_1 : decode prog_5_method_5_code 1 = .ok (.iconst 1, 1) := by decide +kernel
theorem d_X3_leavesRoom_2 : decode prog_5_method_5_code 2 = .ok (.iadd, 1) := by decide +kernel
theorem d_X3_leavesRoom_3 : decode prog_5_method_5_code 3 = .ok (.istore_n 3, 1) := by decide +kernel
theorem d_X3_leavesRoom_4 : decode prog_5_method_5_code 4 = .ok (.iload_n 3, 1) := by decide +kernel
theorem d_X3_leavesRoom_5 : decode prog_5_method_5_code 5 = .ok (.aload_n 1, 1) := by decide +kernel
theorem d_X3_leavesRoom_6 : decode prog_5_method_5_code 6 = .ok (.getfield 21, 3) := by decide +kernel
theorem d_X3_leavesRoom_9 : decode prog_5_method_5_code 9 = .ok (.if_icmp .ge 33, 3) := by decide +kernel
theorem d_X3_leavesRoom_12 : decode prog_5_method_5_code 12 = .ok (.aload_n 1, 1) := by decide +kernel
theorem d_X3_leavesRoom_13 : decode prog_5_method_5_code 13 = .ok (.getfield 57, 3) := by decide +kernel
theorem d_X3_leavesRoom_16 : decode prog_5_method_5_code 16 = .ok (.iload_n 2, 1) := by decide +kernel
theorem d_X3_leavesRoom_17 : decode prog_5_method_5_code 17 = .ok (.iaload, 1) := by decide +kernel
theorem d_X3_leavesRoom_18 : decode prog_5_method_5_code 18 = .ok (.iload_n 3, 1) := by decide +kernel
theorem d_X3_leavesRoom_19 : decode prog_5_method_5_code 19 = .ok (.invokestatic 42, 3) := by decide +kernel
theorem d_X3_leavesRoom_22 : decode prog_5_method_5_code 22 = .ok (.ifCond .eq 14, 3) := by decide +kernel
theorem d_X3_leavesRoom_25 : decode prog_5_method_5_code 25 = .ok (.aload_n 0, 1) := by decide +kernel
theorem d_X3_leavesRoom_26 : decode prog_5_method_5_code 26 = .ok (.aload_n 1, 1) := by decide +kernel
theorem d_X3_leavesRoom_27 : decode prog_5_method_5_code 27 = .ok (.iload_n 3, 1) := by decide +kernel
theorem d_X3_leavesRoom_28 : decode prog_5_method_5_code 28 = .ok (.invokestatic 46, 3) := by decide +kernel
theorem d_X3_leavesRoom_31 : decode prog_5_method_5_code 31 = .ok (.ifCond .ne 5, 3) := by decide +kernel
theorem d_X3_leavesRoom_34 : decode prog_5_method_5_code 34 = .ok (.iconst 0, 1) := by decide +kernel
theorem d_X3_leavesRoom_35 : decode prog_5_method_5_code 35 = .ok (.ireturn, 1) := by decide +kernel
theorem d_X3_leavesRoom_36 : decode prog_5_method_5_code 36 = .ok (.iinc 3 1, 3) := by decide +kernel
theorem d_X3_leavesRoom_39 : decode prog_5_method_5_code 39 = .ok (.goto (-35), 3) := by decide +kernel
theorem d_X3_leavesRoom_42 : decode prog_5_method_5_code 42 = .ok (.iconst 1, 1) := by decide +kernel
theorem d_X3_leavesRoom_43 : decode prog_5_method_5_code 43 = .ok (.ireturn, 1) := by decide +kernel
abbrev M_Planner_leavesRoom : zMT := (⟨"PeriodSlots$Planner", "leavesRoom", "([ILPeriodSlots$Mesh;I)Z"⟩, prog_5_method_5_code, 4, (some .boolean))
theorem k_Planner_leavesRoom : zcall M_Planner_leavesRoom 3 := ⟨zU_in (i := 595) (by decide +kernel) rfl, m57, ⟨by decide, by decide, by decide +kernel⟩, by decide⟩
def o_Planner_leavesRoom (h : zHp) (m : Nat) (v : Nat) : Bool :=
  (Sum.elim (fun r4_1 => true) (fun q4_1 => q4_1) (zrex (fun (i4_1 : Nat) (s4_1 : Unit) => ((if (o_Slots_has (h (m + 6) v) (nI (v + 1 + i4_1))) = true then (if (o_Planner_openOffsets h m (v + 1 + i4_1)) = 0 then .inr false else .inl ()) else .inl ()) : (Unit) ⊕ (Bool))) () (zcn (h m 0) - (v + 1))))
set_option maxHeartbeats 400000 in
set_option maxRecDepth 20000 in
theorem c_Planner_leavesRoom (X : zXT) (h : zHp) (g : zLg) (m : Nat) (v : Nat) {x_v : Int32} (e_v : x_v = nI v) (hm : m = 3 ∨ m = 15 ∨ m = 27) (hf0 : zfit h m 0 8) (hl1 : v < 8) : zDi X M_Planner_leavesRoom 2 [zR X 40, zR X m, .int x_v] h g (zI (zb (o_Planner_leavesRoom h m v))) h g := by
  subst e_v
  have hf0_1 := hf0.1
  refine zDi_of "PeriodSlots$Planner" prog_5_method_5_code 4 (some .boolean) rfl (by decide) [zO X 40, zO X m, zI (nI v), none] rfl (fun _ q => q) (Nat.le_of_ble_eq_true rfl) ?_
  intro Γ Q C hQ
  refine zr_iload_n C d_X3_leavesRoom_0 rfl ?_
  refine zr_iconst C (v := 1) d_X3_leavesRoom_1 (by decide) ?_
  refine zr_iadd C d_X3_leavesRoom_2 ?_
  refine zr_istore_n C [zO X 40, zO X m, zI (nI v), zI ((nI v) + 1)] d_X3_leavesRoom_3 (Nat.le_of_ble_eq_true rfl) rfl rfl ?_
  refine zr_loc [zO X 40, zO X m, zI (nI v), zI (nI (v + 1))] 3 (zn_add rfl rfl) rfl rfl ?_
  refine zforx (f := (fun (i4_1 : Nat) (s4_1 : Unit) => ((if (o_Slots_has (h (m + 6) v) (nI (v + 1 + i4_1))) = true then (if (o_Planner_openOffsets h m (v + 1 + i4_1)) = 0 then .inr false else .inl ()) else .inl ()) : (Unit) ⊕ (Bool)))) (a := ()) (fun i4_1 s4_1 => zV X Γ Q 4 [zO X 40, zO X m, zI (nI v), zI (nI (v + 1 + i4_1))] [] h g) (fun _ _ => True) (zcn (h m 0) - (v + 1)) trivial (fun i4_1 s4_1 hi4_1 hI4_1 => ⟨(fun _ _ => trivial), fun hk4_1 hx4_1 => ?_⟩) (fun r4_1 er4_1 hI4_1 => ?_)
  · refine zr_iload_n C d_X3_leavesRoom_4 rfl ?_
    refine zr_aload_n C d_X3_leavesRoom_5 rfl ?_
    refine gf_Mesh_0 C hm m96 d_X3_leavesRoom_6 ?_
    refine zr_icmp_ge C 42 d_X3_leavesRoom_9 (by decide) (fun c => absurd c (zge_no rfl (by omega))) (fun _ => ?_)
    refine zr_aload_n C d_X3_leavesRoom_12 rfl ?_
    refine gf_Mesh_8 C hm m119 d_X3_leavesRoom_13 ?_
    refine zr_iload_n C d_X3_leavesRoom_16 rfl ?_
    refine zr_iald C (za_mesh_6 hm) (v) rfl (by omega) (by decide) d_X3_leavesRoom_17 ?_
    refine zr_iload_n C d_X3_leavesRoom_18 rfl ?_
    refine zr_callNi (As := [.int (h (m + 6) v), .int (nI (v + 1 + i4_1))]) (st := []) C (c_Slots_has X h g (h (m + 6) v) (nI (v + 1 + i4_1))) k_Slots_has (by simp [zNest]) m322 rfl (by decide) rfl (Nat.le_of_ble_eq_true rfl) d_X3_leavesRoom_19 ?_
    refine zr_ifz_eq C 36 d_X3_leavesRoom_22 (by decide) (fun c22 => ?_) (fun c22 => ?_)
    · refine zr_iinc C [zO X 40, zO X m, zI (nI v), zI (nI ((v + 1 + i4_1) + 1))] (v := (nI ((v + 1 + i4_1) + 1))) d_X3_leavesRoom_36 rfl (zn_add rfl rfl) (Nat.le_of_ble_eq_true rfl) rfl rfl ?_
      refine zr_goto C 4 d_X3_leavesRoom_39 (by decide) ?_
      exact hk4_1 () ((if_neg (zbf c22)))
    · refine zr_aload_n C d_X3_leavesRoom_25 rfl ?_
      refine zr_aload_n C d_X3_leavesRoom_26 rfl ?_
      refine zr_iload_n C d_X3_leavesRoom_27 rfl ?_
      refine zr_callSi (As := [zR X 40, zR X m, .int (nI (v + 1 + i4_1))]) (st := []) C (c_Planner_openOffsets X h g m (v + 1 + i4_1) rfl hm hf0 (by omega)) k_Planner_openOffsets m588 m589 rfl (by decide) rfl (Nat.le_of_ble_eq_true rfl) d_X3_leavesRoom_28 ?_
      refine zr_if_ne C 36 d_X3_leavesRoom_31 (by decide) (fun c31 => ?_) (fun c31 => ?_)
      · refine zr_iinc C [zO X 40, zO X m, zI (nI v), zI (nI ((v + 1 + i4_1) + 1))] (v := (nI ((v + 1 + i4_1) + 1))) d_X3_leavesRoom_36 rfl (zn_add rfl rfl) (Nat.le_of_ble_eq_true rfl) rfl rfl ?_
        refine zr_goto C 4 d_X3_leavesRoom_39 (by decide) ?_
        exact hk4_1 () ((if_pos c22).trans ((if_neg c31)))
      · refine zr_iconst C (v := 0) d_X3_leavesRoom_34 (by decide) ?_
        have hr4_1 := hx4_1 (false) (((if_pos c22).trans ((if_pos c31))))
        have eR : o_Planner_leavesRoom h m v = false := (by unfold o_Planner_leavesRoom; exact ((congrArg (Sum.elim _ _) hr4_1)))
        subst hQ
        rw [eR]
        exact zr_iretz C (Or.inl rfl) d_X3_leavesRoom_35
  refine zr_iload_n C d_X3_leavesRoom_4 rfl ?_
  refine zr_aload_n C d_X3_leavesRoom_5 rfl ?_
  refine gf_Mesh_0 C hm m96 d_X3_leavesRoom_6 ?_
  refine zr_icmp_ge C 42 d_X3_leavesRoom_9 (by decide) (fun _ => ?_) (fun c => absurd (zge_yes rfl (by omega) (by have := zcn_small (h m 0); omega)) c)
  refine zr_iconst C (v := 1) d_X3_leavesRoom_42 (by decide) ?_
  have eR : o_Planner_leavesRoom h m v = true := (by unfold o_Planner_leavesRoom; exact ((congrArg (Sum.elim _ _) er4_1)))
  subst hQ
  rw [eR]
  exact zr_iretz C (Or.inr rfl) d_X3_leavesRoom_43
end
section
/-! Walks of methods, by program (wip/whole/gen). -/
theorem d_X3_assigns_0 : decode prog_5_method_3_code 0 = .ok (.aload_n 1, 1) := by decide +kernel
theorem d_X3_assigns_1 : decode prog_5_method_3_code 1 = .ok (.iload_n 3, 1) := by decide +kernel
theorem d_X3_assigns_2 : decode prog_5_method_3_code 2 = .ok (.invokevirtual 39, 3) := by decide +kernel
theorem d_X3_assigns_5 : decode prog_5_method_3_code 5 = .ok (.ifCond .ne 5, 3) := by decide +kernel
theorem d_X3_assigns_8 : decode prog_5_method_3_code 8 = .ok (.iconst 1, 1) := by decide +kernel
theorem d_X3_assigns_9 : decode prog_5_method_3_code 9 = .ok (.ireturn, 1) := by decide +kernel
theorem d_X3_assigns_10 : decode prog_5_method_3_code 10 = .ok (.iload_n 2, 1) := by decide +kernel
theorem d_X3_assigns_11 : decode prog_5_method_3_code 11 = .ok (.iload_n 3, 1) := by decide +kernel
theorem d_X3_assigns_12 : decode prog_5_method_3_code 12 = .ok (.invokestatic 42, 3) := by decide +kernel
theorem d_X3_assigns_15 : decode prog_5_method_3_code 15 = .ok (.ifCond .ne 13, 3) := by decide +kernel
theorem d_X3_assigns_18 : decode prog_5_method_3_code 18 = .ok (.aload_n 0, 1) := by decide +kernel
theorem d_X3_assigns_19 : decode prog_5_method_3_code 19 = .ok (.aload_n 1, 1) := by decide +kernel
theorem d_X3_assigns_20 : decode prog_5_method_3_code 20 = .ok (.iload_n 2, 1) := by decide +kernel
theorem d_X3_assigns_21 : decode prog_5_method_3_code 21 = .ok (.iload_n 3, 1) := by decide +kernel
theorem d_X3_assigns_22 : decode prog_5_method_3_code 22 = .ok (.iconst 1, 1) := by decide +kernel
theorem d_X3_assigns_23 : decode prog_5_method_3_code 23 = .ok (.iadd, 1) := by decide +kernel
theorem d_X3_assigns_24 : decode prog_5_method_3_code 24 = .ok (.invokestatic 35, 3) := by decide +kernel
theorem d_X3_assigns_27 : decode prog_5_method_3_code 27 = .ok (.ireturn, 1) := by decide +kernel
theorem d_X3_assigns_28 : decode prog_5_method_3_code 28 = .ok (.aload_n 0, 1) := by decide +kernel
theorem d_X3_assigns_29 : decode prog_5_method_3_code 29 = .ok (.aload_n 1, 1) := by decide +kernel
theorem d_X3_assigns_30 : decode prog_5_method_3_code 30 = .ok (.iload_n 3, 1) := by decide +kernel
theorem d_X3_assigns_31 : decode prog_5_method_3_code 31 = .ok (.invokestatic 46, 3) := by decide +kernel
theorem d_X3_assigns_34 : decode prog_5_method_3_code 34 = .ok (.istore 4, 2) := by decide +kernel
theorem d_X3_assigns_36 : decode prog_5_method_3_code 36 = .ok (.iconst 0, 1) := by decide +kernel
theorem d_X3_assigns_37 : decode prog_5_method_3_code 37 = .ok (.istore 5, 2) := by decide +kernel
theorem d_X3_assigns_39 : decode prog_5_method_3_code 39 = .ok (.iload 5, 2) := by decide +kernel
theorem d_X3_assigns_41 : decode prog_5_method_3_code 41 = .ok (.aload_n 1, 1) := by decide +kernel
theorem d_X3_assigns_42 : decode prog_5_method_3_code 42 = .ok (.getfield 50, 3) := by decide +kernel
theorem d_X3_assigns_45 : decode prog_5_method_3_code 45 = .ok (.iload_n 3, 1) := by decide +kernel
theorem d_X3_assigns_46 : decode prog_5_method_3_code 46 = .ok (.iaload, 1) := by decide +kernel
theorem d_X3_assigns_47 : decode prog_5_method_3_code 47 = .ok (.if_icmp .ge 47, 3) := by decide +kernel
theorem d_X3_assigns_50 : decode prog_5_method_3_code 50 = .ok (.aload_n 0, 1) := by decide +kernel
theorem d_X3_assigns_51 : decode prog_5_method_3_code 51 = .ok (.iload_n 3, 1) := by decide +kernel
theorem d_X3_assigns_52 : decode prog_5_method_3_code 52 = .ok (.iload 5, 2) := by decide +kernel
theorem d_X3_assigns_54 : decode prog_5_method_3_code 54 = .ok (.iastore, 1) := by decide +kernel
theorem d_X3_assigns_55 : decode prog_5_method_3_code 55 = .ok (.iload 4, 2) := by decide +kernel
theorem d_X3_assigns_57 : decode prog_5_method_3_code 57 = .ok (.iload 5, 2) := by decide +kernel
theorem d_X3_assigns_59 : decode prog_5_method_3_code 59 = .ok (.invokestatic 42, 3) := by decide +kernel
theorem d_X3_assigns_62 : decode prog_5_method_3_code 62 = .ok (.ifCond .eq 26, 3) := by decide +kernel
theorem d_X3_assigns_65 : decode prog_5_method_3_code 65 = .ok (.aload_n 0, 1) := by decide +kernel
theorem d_X3_assigns_66 : decode prog_5_method_3_code 66 = .ok (.aload_n 1, 1) := by decide +kernel
theorem d_X3_assigns_67 : decode prog_5_method_3_code 67 = .ok (.iload_n 3, 1) := by decide +kernel
theorem d_X3_assigns_68 : decode prog_5_method_3_code 68 = .ok (.invokestatic 53, 3) := by decide +kernel
theorem d_X3_assigns_71 : decode prog_5_method_3_code 71 = .ok (.ifCond .eq 17, 3) := by decide +kernel
theorem d_X3_assigns_74 : decode prog_5_method_3_code 74 = .ok (.aload_n 0, 1) := by decide +kernel
theorem d_X3_assigns_75 : decode prog_5_method_3_code 75 = .ok (.aload_n 1, 1) := by decide +kernel
theorem d_X3_assigns_76 : decode prog_5_method_3_code 76 = .ok (.iload_n 2, 1) := by decide +kernel
theorem d_X3_assigns_77 : decode prog_5_method_3_code 77 = .ok (.iload_n 3, 1) := by decide +kernel
theorem d_X3_assigns_78 : decode prog_5_method_3_code 78 = .ok (.iconst 1, 1) := by decide +kernel
theorem d_X3_assigns_79 : decode prog_5_method_3_code 79 = .ok (.iadd, 1) := by decide +kernel
theorem d_X3_assigns_80 : decode prog_5_method_3_code 80 = .ok (.invokestatic 35, 3) := by decide +kernel
theorem d_X3_assigns_83 : decode prog_5_method_3_code 83 = .ok (.ifCond .eq 5, 3) := by decide +kernel
theorem d_X3_assigns_86 : decode prog_5_method_3_code 86 = .ok (.iconst 1, 1) := by decide +kernel
theorem d_X3_assigns_87 : decode prog_5_method_3_code 87 = .ok (.ireturn, 1) := by decide +kernel
theorem d_X3_assigns_88 : decode prog_5_method_3_code 88 = .ok (.iinc 5 1, 3) := by decide +kernel
theorem d_X3_assigns_91 : decode prog_5_method_3_code 91 = .ok (.goto (-52), 3) := by decide +kernel
theorem d_X3_assigns_94 : decode prog_5_method_3_code 94 = .ok (.aload_n 0, 1) := by decide +kernel
theorem d_X3_assigns_95 : decode prog_5_method_3_code 95 = .ok (.iload_n 3, 1) := by decide +kernel
theorem d_X3_assigns_96 : decode prog_5_method_3_code 96 = .ok (.bipush (-9), 2) := by decide +kernel
theorem d_X3_assigns_98 : decode prog_5_method_3_code 98 = .ok (.iastore, 1) := by decide +kernel
theorem d_X3_assigns_99 : decode prog_5_method_3_code 99 = .ok (.iconst 0, 1) := by decide +kernel
theorem d_X3_assigns_100 : decode prog_5_method_3_code 100 = .ok (.ireturn, 1) := by decide +kernel
abbrev M_Planner_assigns : zMT := (⟨"PeriodSlots$Planner", "assigns", "([ILPeriodSlots$Mesh;II)Z"⟩, prog_5_method_3_code, 6, (some .boolean))
theorem k_Planner_assigns : zcall M_Planner_assigns 4 := ⟨zU_in (i := 585) (by decide +kernel) rfl, m57, ⟨by decide, by decide, by decide +kernel⟩, by decide⟩
def o_Planner_assignsS (R : zHp → Nat → Int32 → Nat → Bool × zHp) (h : zHp) (m : Nat) (net : Int32) (v : Nat) : Bool × zHp :=
  (if (o_Mesh_exists h m (nI v)) = true then (if (o_Slots_has net (nI v)) = true then (Sum.elim (fun r39_2 => (false, (zup r39_2 40 v (-9)))) (fun q39_2 => q39_2) (zrex (fun (i39_2 : Nat) (s39_2 : zHp) => ((if (o_Slots_has (o_Planner_openOffsets h m v) (nI i39_2)) = true then (if (o_Planner_leavesRoom (zup s39_2 40 v (nI i39_2)) m v) = true then (if ((R (zup s39_2 40 v (nI i39_2)) m net (v + 1)).1) = true then .inr (true, ((R (zup s39_2 40 v (nI i39_2)) m net (v + 1)).2)) else .inl ((R (zup s39_2 40 v (nI i39_2)) m net (v + 1)).2)) else .inl (zup s39_2 40 v (nI i39_2))) else .inl (zup s39_2 40 v (nI i39_2))) : (zHp) ⊕ (Bool × zHp))) h (zcn (h (m + 1) v)))) else (((R h m net (v + 1)).1), ((R h m net (v + 1)).2))) else (true, h))
theorem fr_Planner_assignsS {R : zHp → Nat → Int32 → Nat → Bool × zHp} (hR : ∀ (h : zHp) (m : Nat) (net : Int32) (v c k : Nat), c ≠ 40 → (R h m net v).2 c k = h c k) {h : zHp} {m : Nat} {net : Int32} {v : Nat} (c k : Nat) (q0 : c ≠ 40) : (o_Planner_assignsS R h m net v).2 c k = h c k := by
  unfold o_Planner_assignsS
  by_cases f1 : (o_Mesh_exists h m (nI v)) = true
  · rw [if_pos f1]
    by_cases f2 : (o_Slots_has net (nI v)) = true
    · rw [if_pos f2]
      have hX := zrex_inv (f := (fun (i39_2 : Nat) (s39_2 : zHp) => ((if (o_Slots_has (o_Planner_openOffsets h m v) (nI i39_2)) = true then (if (o_Planner_leavesRoom (zup s39_2 40 v (nI i39_2)) m v) = true then (if ((R (zup s39_2 40 v (nI i39_2)) m net (v + 1)).1) = true then .inr (true, ((R (zup s39_2 40 v (nI i39_2)) m net (v + 1)).2)) else .inl ((R (zup s39_2 40 v (nI i39_2)) m net (v + 1)).2)) else .inl (zup s39_2 40 v (nI i39_2))) else .inl (zup s39_2 40 v (nI i39_2))) : (zHp) ⊕ (Bool × zHp)))) (a := h) (fun _ s39_2 => ∀ c k : Nat, c ≠ 40 → s39_2 c k = h c k) (fun q39_2 => ∀ c k : Nat, c ≠ 40 → q39_2.2 c k = h c k) (zcn (h (m + 1) v)) (fun _ _ _ => rfl) (fun i39_2 s39_2 hi39_2 hI39_2 => ⟨(by intro s2 hs; (try dsimp only at hs); by_cases cc : (o_Slots_has (o_Planner_openOffsets h m v) (nI i39_2)) = true; (rw [if_pos cc] at hs; by_cases cc : (o_Planner_leavesRoom (zup s39_2 40 v (nI i39_2)) m v) = true; (rw [if_pos cc] at hs; by_cases cc : ((R (zup s39_2 40 v (nI i39_2)) m net (v + 1)).1) = true; (rw [if_pos cc] at hs; cases hs); (rw [if_neg cc] at hs; cases hs; exact fun c k q0 => (by (try dsimp only); exact ((hR _ _ _ _ _ _ (by assumption)).trans ((zup_fr (Or.inl (by assumption))).trans (hI39_2 _ _ (by assumption))))))); (rw [if_neg cc] at hs; cases hs; exact fun c k q0 => (by (try dsimp only); exact ((zup_fr (Or.inl (by assumption))).trans (hI39_2 _ _ (by assumption)))))); (rw [if_neg cc] at hs; cases hs; exact fun c k q0 => (by (try dsimp only); exact ((zup_fr (Or.inl (by assumption))).trans (hI39_2 _ _ (by assumption)))))), (by intro r hs; (try dsimp only at hs); by_cases cc : (o_Slots_has (o_Planner_openOffsets h m v) (nI i39_2)) = true; (rw [if_pos cc] at hs; by_cases cc : (o_Planner_leavesRoom (zup s39_2 40 v (nI i39_2)) m v) = true; (rw [if_pos cc] at hs; by_cases cc : ((R (zup s39_2 40 v (nI i39_2)) m net (v + 1)).1) = true; (rw [if_pos cc] at hs; cases hs; exact fun c k q0 => (by (try dsimp only); exact ((hR _ _ _ _ _ _ (by assumption)).trans ((zup_fr (Or.inl (by assumption))).trans (hI39_2 _ _ (by assumption)))))); (rw [if_neg cc] at hs; cases hs)); (rw [if_neg cc] at hs; cases hs)); (rw [if_neg cc] at hs; cases hs))⟩)
      cases hz : (zrex (fun (i39_2 : Nat) (s39_2 : zHp) => ((if (o_Slots_has (o_Planner_openOffsets h m v) (nI i39_2)) = true then (if (o_Planner_leavesRoom (zup s39_2 40 v (nI i39_2)) m v) = true then (if ((R (zup s39_2 40 v (nI i39_2)) m net (v + 1)).1) = true then .inr (true, ((R (zup s39_2 40 v (nI i39_2)) m net (v + 1)).2)) else .inl ((R (zup s39_2 40 v (nI i39_2)) m net (v + 1)).2)) else .inl (zup s39_2 40 v (nI i39_2))) else .inl (zup s39_2 40 v (nI i39_2))) : (zHp) ⊕ (Bool × zHp))) h (zcn (h (m + 1) v))) with
      | inl r39_2 =>
        have hI39_2 := hX.1 r39_2 hz
        simp only [Sum.elim_inl]
        try dsimp only
        first | done | exact ((zup_fr (Or.inl (by assumption))).trans (hI39_2 _ _ (by assumption)))
      | inr q39_2 =>
        exact (hX.2 q39_2 hz c k (by assumption))
    · rw [if_neg f2]
      try dsimp only
      first | done | exact (hR _ _ _ _ _ _ (by assumption))
  · rw [if_neg f1]
    try dsimp only
    first | done | exact rfl
set_option maxHeartbeats 400000 in
set_option maxRecDepth 20000 in
theorem c_Planner_assignsS (X : zXT) (h : zHp) (g : zLg) (R : zHp → Nat → Int32 → Nat → Bool × zHp) (hR : ∀ (h : zHp) (m : Nat) (net : Int32) (v c k : Nat), c ≠ 40 → (R h m net v).2 c k = h c k) (m : Nat) (net : Int32) (v : Nat) {x_v : Int32} (e_v : x_v = nI v) (hm : m = 3 ∨ m = 15 ∨ m = 27) (hf0 : zfit h m 0 8) (hl1 : v < 9) {dq : Nat} (hdq : 5 ≤ dq) (IH : ∀ (h2 : zHp) (m : Nat) (net : Int32) (v2 : Nat) {x_v : Int32} (e_v : x_v = nI v2) (hm : m = 3 ∨ m = 15 ∨ m = 27) (hf0 : zfit h2 m 0 8) (hl : v2 < 9), v2 = v + 1 → zDi X M_Planner_assigns dq [zR X 40, zR X m, .int net, .int x_v] h2 g (zI (zb (R h2 m net v2).1)) (R h2 m net v2).2 g) : zDi X M_Planner_assigns (dq + 1) [zR X 40, zR X m, .int net, .int x_v] h g (zI (zb ((o_Planner_assignsS R h m net v).1))) ((o_Planner_assignsS R h m net v).2) g := by
  subst e_v
  have hf0_1 := hf0.1
  refine zDi_of "PeriodSlots$Planner" prog_5_method_3_code 6 (some .boolean) rfl (by decide) [zO X 40, zO X m, zI net, zI (nI v), none, none] rfl (fun _ q => q) (Nat.le_of_ble_eq_true rfl) ?_
  intro Γ Q C hQ
  refine zr_aload_n C d_X3_assigns_0 rfl ?_
  refine zr_iload_n C d_X3_assigns_1 rfl ?_
  refine zr_callVi (As := [.int (nI v)]) (st := []) (c := m) C (c_Mesh_exists X h g m (nI v) hm) k_Mesh_exists m586 m359 m360 (by omega) (zC_Mesh hm X _ _) rfl rfl (by omega) rfl (Nat.le_of_ble_eq_true rfl) d_X3_assigns_2 ?_
  refine zr_ifz_ne C 10 d_X3_assigns_5 (by decide) (fun c5 => ?_) (fun c5 => ?_)
  · have ex1 := zex c5
    have ex1_2 := ex1.2
    have ex1_b := (hf0).1
    have ex1_3 : v < zcn (h m 0) := by have q := ex1.2; rw [zcn_nI (by omega)] at q; exact q
    refine zr_iload_n C d_X3_assigns_10 rfl ?_
    refine zr_iload_n C d_X3_assigns_11 rfl ?_
    refine zr_callNi (As := [.int net, .int (nI v)]) (st := []) C (c_Slots_has X h g net (nI v)) k_Slots_has (by simp [zNest]) m322 rfl (by omega) rfl (Nat.le_of_ble_eq_true rfl) d_X3_assigns_12 ?_
    refine zr_ifz_ne C 28 d_X3_assigns_15 (by decide) (fun c15 => ?_) (fun c15 => ?_)
    · refine zr_aload_n C d_X3_assigns_28 rfl ?_
      refine zr_aload_n C d_X3_assigns_29 rfl ?_
      refine zr_iload_n C d_X3_assigns_30 rfl ?_
      refine zr_callSi (As := [zR X 40, zR X m, .int (nI v)]) (st := []) C (c_Planner_openOffsets X h g m v rfl hm hf0 (by omega)) k_Planner_openOffsets m588 m589 rfl (by omega) rfl (Nat.le_of_ble_eq_true rfl) d_X3_assigns_31 ?_
      refine zr_istore C [zO X 40, zO X m, zI net, zI (nI v), zI (o_Planner_openOffsets h m v), none] d_X3_assigns_34 (Nat.le_of_ble_eq_true rfl) rfl rfl ?_
      refine zr_iconst C (v := 0) d_X3_assigns_36 (by decide) ?_
      refine zr_istore C [zO X 40, zO X m, zI net, zI (nI v), zI (o_Planner_openOffsets h m v), zI 0] d_X3_assigns_37 (Nat.le_of_ble_eq_true rfl) rfl rfl ?_
      refine zforx (f := (fun (i39_2 : Nat) (s39_2 : zHp) => ((if (o_Slots_has (o_Planner_openOffsets h m v) (nI i39_2)) = true then (if (o_Planner_leavesRoom (zup s39_2 40 v (nI i39_2)) m v) = true then (if ((R (zup s39_2 40 v (nI i39_2)) m net (v + 1)).1) = true then .inr (true, ((R (zup s39_2 40 v (nI i39_2)) m net (v + 1)).2)) else .inl ((R (zup s39_2 40 v (nI i39_2)) m net (v + 1)).2)) else .inl (zup s39_2 40 v (nI i39_2))) else .inl (zup s39_2 40 v (nI i39_2))) : (zHp) ⊕ (Bool × zHp)))) (a := h) (fun i39_2 s39_2 => zV X Γ Q 39 [zO X 40, zO X m, zI net, zI (nI v), zI (o_Planner_openOffsets h m v), zI (nI i39_2)] [] s39_2 g) (fun _ s39_2 => ∀ c k : Nat, c ≠ 40 → s39_2 c k = h c k) (zcn (h (m + 1) v)) (fun _ _ _ => rfl) (fun i39_2 s39_2 hi39_2 hI39_2 => ⟨(by intro s2 hs; (try dsimp only at hs); by_cases cc : (o_Slots_has (o_Planner_openOffsets h m v) (nI i39_2)) = true; (rw [if_pos cc] at hs; by_cases cc : (o_Planner_leavesRoom (zup s39_2 40 v (nI i39_2)) m v) = true; (rw [if_pos cc] at hs; by_cases cc : ((R (zup s39_2 40 v (nI i39_2)) m net (v + 1)).1) = true; (rw [if_pos cc] at hs; cases hs); (rw [if_neg cc] at hs; cases hs; exact fun c k q0 => (by (try dsimp only); exact ((hR _ _ _ _ _ _ (by assumption)).trans ((zup_fr (Or.inl (by assumption))).trans (hI39_2 _ _ (by assumption))))))); (rw [if_neg cc] at hs; cases hs; exact fun c k q0 => (by (try dsimp only); exact ((zup_fr (Or.inl (by assumption))).trans (hI39_2 _ _ (by assumption)))))); (rw [if_neg cc] at hs; cases hs; exact fun c k q0 => (by (try dsimp only); exact ((zup_fr (Or.inl (by assumption))).trans (hI39_2 _ _ (by assumption)))))), fun hk39_2 hx39_2 => ?_⟩) (fun r39_2 er39_2 hI39_2 => ?_)
      · refine zr_iload C d_X3_assigns_39 rfl ?_
        refine zr_aload_n C d_X3_assigns_41 rfl ?_
        refine gf_Mesh_3 C hm m105 d_X3_assigns_42 ?_
        refine zr_iload_n C d_X3_assigns_45 rfl ?_
        refine zr_iald C (za_mesh_1 hm) (v) rfl (by omega) (by decide) d_X3_assigns_46 ?_
        refine zr_icmp_ge C 94 d_X3_assigns_47 (by decide) (fun c => absurd c (zge_no (hI39_2 _ _ (by omega)) (by omega))) (fun _ => ?_)
        refine zr_aload_n C d_X3_assigns_50 rfl ?_
        refine zr_iload_n C d_X3_assigns_51 rfl ?_
        refine zr_iload C d_X3_assigns_52 rfl ?_
        refine zr_iast C za_40 (v) rfl (by omega) (by decide) d_X3_assigns_54 ?_
        refine zr_h (fun h3 eh3 => ?_)
        refine zr_iload C d_X3_assigns_55 rfl ?_
        refine zr_iload C d_X3_assigns_57 rfl ?_
        refine zr_callNi (As := [.int (o_Planner_openOffsets h m v), .int (nI i39_2)]) (st := []) C (c_Slots_has X h3 g (o_Planner_openOffsets h m v) (nI i39_2)) k_Slots_has (by simp [zNest]) m322 rfl (by omega) rfl (Nat.le_of_ble_eq_true rfl) d_X3_assigns_59 ?_
        refine zr_ifz_eq C 88 d_X3_assigns_62 (by decide) (fun c62 => ?_) (fun c62 => ?_)
        · refine zr_iinc C [zO X 40, zO X m, zI net, zI (nI v), zI (o_Planner_openOffsets h m v), zI (nI (i39_2 + 1))] (v := (nI (i39_2 + 1))) d_X3_assigns_88 rfl (zn_add rfl rfl) (Nat.le_of_ble_eq_true rfl) rfl rfl ?_
          refine zr_goto C 39 d_X3_assigns_91 (by decide) ?_
          exact hk39_2 h3 (by subst eh3; exact ((if_neg (zbf c62))))
        · refine zr_aload_n C d_X3_assigns_65 rfl ?_
          refine zr_aload_n C d_X3_assigns_66 rfl ?_
          refine zr_iload_n C d_X3_assigns_67 rfl ?_
          refine zr_callSi (As := [zR X 40, zR X m, .int (nI v)]) (st := []) C (c_Planner_leavesRoom X h3 g m v rfl hm (zfit_fr ((congrFun (congrFun eh3.symm _) _).trans ((zup_fr (by omega)).trans (hI39_2 _ _ (by omega)))) hf0) (by omega)) k_Planner_leavesRoom m593 m594 rfl (by omega) rfl (Nat.le_of_ble_eq_true rfl) d_X3_assigns_68 ?_
          refine zr_ifz_eq C 88 d_X3_assigns_71 (by decide) (fun c71 => ?_) (fun c71 => ?_)
          · refine zr_iinc C [zO X 40, zO X m, zI net, zI (nI v), zI (o_Planner_openOffsets h m v), zI (nI (i39_2 + 1))] (v := (nI (i39_2 + 1))) d_X3_assigns_88 rfl (zn_add rfl rfl) (Nat.le_of_ble_eq_true rfl) rfl rfl ?_
            refine zr_goto C 39 d_X3_assigns_91 (by decide) ?_
            exact hk39_2 h3 (by subst eh3; exact ((if_pos c62).trans ((if_neg (zbf c71)))))
          · refine zr_aload_n C d_X3_assigns_74 rfl ?_
            refine zr_aload_n C d_X3_assigns_75 rfl ?_
            refine zr_iload_n C d_X3_assigns_76 rfl ?_
            refine zr_iload_n C d_X3_assigns_77 rfl ?_
            refine zr_iconst C (v := 1) d_X3_assigns_78 (by decide) ?_
            refine zr_iadd C d_X3_assigns_79 ?_
            refine zr_callSi (As := [zR X 40, zR X m, .int net, .int ((nI v) + 1)]) (st := []) C (IH h3 m net (v + 1) (zn_add rfl rfl) hm (zfit_fr ((congrFun (congrFun eh3.symm _) _).trans ((zup_fr (by omega)).trans (hI39_2 _ _ (by omega)))) hf0) (by omega) rfl) k_Planner_assigns m583 m584 rfl (by omega) rfl (Nat.le_of_ble_eq_true rfl) d_X3_assigns_80 ?_
            refine zr_vz (fun y4 ey4 => ?_)
            refine zr_h (fun h5 eh5 => ?_)
            refine zr_ifz_eq C 88 d_X3_assigns_83 (by decide) (fun c83 => ?_) (fun c83 => ?_)
            · refine zr_iinc C [zO X 40, zO X m, zI net, zI (nI v), zI (o_Planner_openOffsets h m v), zI (nI (i39_2 + 1))] (v := (nI (i39_2 + 1))) d_X3_assigns_88 rfl (zn_add rfl rfl) (Nat.le_of_ble_eq_true rfl) rfl rfl ?_
              refine zr_goto C 39 d_X3_assigns_91 (by decide) ?_
              exact hk39_2 h5 (by subst eh5 ey4 eh3; exact ((if_pos c62).trans ((if_pos c71).trans ((if_neg (zbf c83))))))
            · refine zr_iconst C (v := 1) d_X3_assigns_86 (by decide) ?_
              have hr39_2 := hx39_2 ((true, h5)) (by subst eh5 ey4 eh3; exact ((if_pos c62).trans ((if_pos c71).trans ((if_pos c83)))))
              have eR : o_Planner_assignsS R h m net v = (true, h5) := (by subst eh5 ey4 eh3; unfold o_Planner_assignsS; exact ((if_pos c5).trans ((if_pos c15).trans ((congrArg (Sum.elim _ _) hr39_2)))))
              subst hQ
              exact zTQ_Zh eR (zr_iretz C (Or.inr rfl) d_X3_assigns_87)
      refine zr_iload C d_X3_assigns_39 rfl ?_
      refine zr_aload_n C d_X3_assigns_41 rfl ?_
      refine gf_Mesh_3 C hm m105 d_X3_assigns_42 ?_
      refine zr_iload_n C d_X3_assigns_45 rfl ?_
      refine zr_iald C (za_mesh_1 hm) (v) rfl (by omega) (by decide) d_X3_assigns_46 ?_
      refine zr_icmp_ge C 94 d_X3_assigns_47 (by decide) (fun _ => ?_) (fun c => absurd (zge_yes (hI39_2 _ _ (by omega)) (by omega) (by have := zcn_small (h (m + 1) v); omega)) c)
      refine zr_aload_n C d_X3_assigns_94 rfl ?_
      refine zr_iload_n C d_X3_assigns_95 rfl ?_
      refine zr_bipush C (v := (-9)) d_X3_assigns_96 (by decide) ?_
      refine zr_iast C za_40 (v) rfl (by omega) (by decide) d_X3_assigns_98 ?_
      refine zr_h (fun h6 eh6 => ?_)
      refine zr_iconst C (v := 0) d_X3_assigns_99 (by decide) ?_
      have eR : o_Planner_assignsS R h m net v = (false, h6) := (by subst eh6; unfold o_Planner_assignsS; exact ((if_pos c5).trans ((if_pos c15).trans ((congrArg (Sum.elim _ _) er39_2)))))
      subst hQ
      exact zTQ_Zh eR (zr_iretz C (Or.inl rfl) d_X3_assigns_100)
    · refine zr_aload_n C d_X3_assigns_18 rfl ?_
      refine zr_aload_n C d_X3_assigns_19 rfl ?_
      refine zr_iload_n C d_X3_assigns_20 rfl ?_
      refine zr_iload_n C d_X3_assigns_21 rfl ?_
      refine zr_iconst C (v := 1) d_X3_assigns_22 (by decide) ?_
      refine zr_iadd C d_X3_assigns_23 ?_
      refine zr_callSi (As := [zR X 40, zR X m, .int net, .int ((nI v) + 1)]) (st := []) C (IH h m net (v + 1) (zn_add rfl rfl) hm hf0 (by omega) rfl) k_Planner_assigns m583 m584 rfl (by omega) rfl (Nat.le_of_ble_eq_true rfl) d_X3_assigns_24 ?_
      refine zr_vz (fun y7 ey7 => ?_)
      refine zr_h (fun h8 eh8 => ?_)
      have eR : o_Planner_assignsS R h m net v = (y7, h8) := (by subst eh8 ey7; unfold o_Planner_assignsS; rw [if_pos c5, if_neg (zbf c15)])
      subst hQ
      exact zTQ_Zh eR (zr_iretz C (zb_01 _) d_X3_assigns_27)
  · refine zr_iconst C (v := 1) d_X3_assigns_8 (by decide) ?_
    have eR : o_Planner_assignsS R h m net v = (true, h) := (by unfold o_Planner_assignsS; rw [if_neg (zbf c5)])
    subst hQ
    exact zTQ_Zh eR (zr_iretz C (Or.inr rfl) d_X3_assigns_9)
/-- the search: k stations may be left -/
def o_Planner_as : Nat → zHp → Nat → Int32 → Nat → Bool × zHp
  | 0 => fun h _ _ _ => (true, h)
  | k + 1 => fun h m net v => o_Planner_assignsS (o_Planner_as k) h m net v
theorem fr_Planner_as : ∀ (n : Nat) (h : zHp) (m : Nat) (net : Int32) (v c k : Nat), c ≠ 40 → (o_Planner_as n h m net v).2 c k = h c k
  | 0, _, _, _, _, _, _, _ => rfl
  | n + 1, h, m, net, v, c, k, hc => fr_Planner_assignsS (fr_Planner_as n) c k hc
theorem c_Planner_as (X : zXT) (g : zLg) : ∀ (n : Nat) (h : zHp) (m : Nat) (net : Int32) (v : Nat) {x_v : Int32} (_ : x_v = nI v) (_ : m = 3 ∨ m = 15 ∨ m = 27) (_ : zfit h m 0 8) (_ : v < 9), v + n = 9 → zDi X M_Planner_assigns (5 + n) [zR X 40, zR X m, .int net, .int x_v] h g (zI (zb (o_Planner_as n h m net v).1)) (o_Planner_as n h m net v).2 g := by
  intro n
  induction n with
  | zero => intro h m net v x_v _ _ _ hv hn; omega
  | succ n ih =>
    intro h m net v x_v e hm hf hv hn
    exact c_Planner_assignsS X h g (o_Planner_as n) (fr_Planner_as n) m net v e hm hf hv (dq := 5 + n) (by omega) (fun h2 m2 net2 v2 x2 e2 hm2 hf2 hl2 hv2 => ih h2 m2 net2 v2 e2 hm2 hf2 hl2 (by omega))
def o_Planner_assigns (h : zHp) (m : Nat) (net : Int32) (v : Nat) : Bool × zHp := o_Planner_as (9 - v) h m net v
theorem fr_Planner_assigns {h : zHp} {m : Nat} {net : Int32} {v : Nat} (c k : Nat) (hc : c ≠ 40) : (o_Planner_assigns h m net v).2 c k = h c k := fr_Planner_as _ _ _ _ _ _ _ hc
theorem c_Planner_assigns (X : zXT) (h : zHp) (g : zLg) (m : Nat) (net : Int32) (v : Nat) {x_v : Int32} (e_v : x_v = nI v) (hm : m = 3 ∨ m = 15 ∨ m = 27) (hf0 : zfit h m 0 8) (hl : v < 9) : zDi X M_Planner_assigns (5 + (9 - v)) [zR X 40, zR X m, .int net, .int x_v] h g (zI (zb (o_Planner_assigns h m net v).1)) (o_Planner_assigns h m net v).2 g :=
  c_Planner_as X g (9 - v) h m net v e_v hm hf0 hl (by omega)

theorem d_X3_succeeds_0 : decode prog_5_method_2_code 0 = .ok (.aload_n 0, 1) := by decide +kernel
theorem d_X3_succeeds_1 : decode prog_5_method_2_code 1 = .ok (.getfield 9, 3) := by decide +kernel
theorem d_X3_succeeds_4 : decode prog_5_method_2_code 4 = .ok (.bipush (-9), 2) := by decide +kernel
theorem d_X3_succeeds_6 : decode prog_5_method_2_code 6 = .ok (.invokestatic 15, 3) := by decide +kernel
theorem d_X3_succeeds_9 : decode prog_5_method_2_code 9 = .ok (.iconst 0, 1) := by decide +kernel
theorem d_X3_succeeds_10 : decode prog_5_method_2_code 10 = .ok (.istore_n 2, 1) := by decide +kernel
theorem d_X3_succeeds_11 : decode prog_5_method_2_code 11 = .ok (.iload_n 2, 1) := by decide +kernel
theorem d_X3_succeeds_12 : decode prog_5_method_2_code 12 = .ok (.aload_n 1, 1) := by decide +kernel
theorem d_X3_succeeds_13 : decode prog_5_method_2_code 13 = .ok (.getfield 21, 3) := by decide +kernel
theorem d_X3_succeeds_16 : decode prog_5_method_2_code 16 = .ok (.if_icmp .ge 36, 3) := by decide +kernel
theorem d_X3_succeeds_19 : decode prog_5_method_2_code 19 = .ok (.aload_n 1, 1) := by decide +kernel
theorem d_X3_succeeds_20 : decode prog_5_method_2_code 20 = .ok (.iload_n 2, 1) := by decide +kernel
theorem d_X3_succeeds_21 : decode prog_5_method_2_code 21 = .ok (.invokevirtual 27, 3) := by decide +kernel
theorem d_X3_succeeds_24 : decode prog_5_method_2_code 24 = .ok (.ifCond .eq 22, 3) := by decide +kernel
theorem d_X3_succeeds_27 : decode prog_5_method_2_code 27 = .ok (.aload_n 0, 1) := by decide +kernel
theorem d_X3_succeeds_28 : decode prog_5_method_2_code 28 = .ok (.getfield 9, 3) := by decide +kernel
theorem d_X3_succeeds_31 : decode prog_5_method_2_code 31 = .ok (.aload_n 1, 1) := by decide +kernel
theorem d_X3_succeeds_32 : decode prog_5_method_2_code 32 = .ok (.aload_n 1, 1) := by decide +kernel
theorem d_X3_succeeds_33 : decode prog_5_method_2_code 33 = .ok (.iload_n 2, 1) := by decide +kernel
theorem d_X3_succeeds_34 : decode prog_5_method_2_code 34 = .ok (.invokevirtual 31, 3) := by decide +kernel
theorem d_X3_succeeds_37 : decode prog_5_method_2_code 37 = .ok (.iload_n 2, 1) := by decide +kernel
theorem d_X3_succeeds_38 : decode prog_5_method_2_code 38 = .ok (.invokestatic 35, 3) := by decide +kernel
theorem d_X3_succeeds_41 : decode prog_5_method_2_code 41 = .ok (.ifCond .ne 5, 3) := by decide +kernel
theorem d_X3_succeeds_44 : decode prog_5_method_2_code 44 = .ok (.iconst 0, 1) := by decide +kernel
theorem d_X3_succeeds_45 : decode prog_5_method_2_code 45 = .ok (.ireturn, 1) := by decide +kernel
theorem d_X3_succeeds_46 : decode prog_5_method_2_code 46 = .ok (.iinc 2 1, 3) := by decide +kernel
theorem d_X3_succeeds_49 : decode prog_5_method_2_code 49 = .ok (.goto (-38), 3) := by decide +kernel
theorem d_X3_succeeds_52 : decode prog_5_method_2_code 52 = .ok (.iconst 1, 1) := by decide +kernel
theorem d_X3_succeeds_53 : decode prog_5_method_2_code 53 = .ok (.ireturn, 1) := by decide +kernel
abbrev M_Planner_succeeds : zMT := (⟨"PeriodSlots$Planner", "succeeds", "(LPeriodSlots$Mesh;)Z"⟩, prog_5_method_2_code, 3, (some .boolean))
theorem k_Planner_succeeds : zcall M_Planner_succeeds 1 := ⟨zU_in (i := 579) (by decide +kernel) rfl, m57, ⟨by decide, by decide, by decide +kernel⟩, by decide⟩
def o_Planner_succeeds (h : zHp) (m : Nat) : Bool × zHp :=
  (Sum.elim (fun r11_2 => (true, r11_2)) (fun q11_2 => q11_2) (zrex (fun (i11_2 : Nat) (s11_2 : zHp) => ((if (o_Mesh_isLowestOfNet s11_2 m (nI i11_2)) = true then (if ((o_Planner_assigns s11_2 m (o_Mesh_netOf s11_2 m (nI i11_2)) i11_2).1) = true then .inl ((o_Planner_assigns s11_2 m (o_Mesh_netOf s11_2 m (nI i11_2)) i11_2).2) else .inr (false, ((o_Planner_assigns s11_2 m (o_Mesh_netOf s11_2 m (nI i11_2)) i11_2).2))) else .inl s11_2) : (zHp) ⊕ (Bool × zHp))) (o_Arr_fill h 40 (-9)) (zcn (h m 0))))
theorem fr_Planner_succeeds {h : zHp} {m : Nat} (c k : Nat) (q0 : c ≠ 40) : (o_Planner_succeeds h m).2 c k = h c k := by
  unfold o_Planner_succeeds
  have hX := zrex_inv (f := (fun (i11_2 : Nat) (s11_2 : zHp) => ((if (o_Mesh_isLowestOfNet s11_2 m (nI i11_2)) = true then (if ((o_Planner_assigns s11_2 m (o_Mesh_netOf s11_2 m (nI i11_2)) i11_2).1) = true then .inl ((o_Planner_assigns s11_2 m (o_Mesh_netOf s11_2 m (nI i11_2)) i11_2).2) else .inr (false, ((o_Planner_assigns s11_2 m (o_Mesh_netOf s11_2 m (nI i11_2)) i11_2).2))) else .inl s11_2) : (zHp) ⊕ (Bool × zHp)))) (a := (o_Arr_fill h 40 (-9))) (fun _ s11_2 => ∀ c k : Nat, c ≠ 40 → s11_2 c k = (o_Arr_fill h 40 (-9)) c k) (fun q11_2 => ∀ c k : Nat, c ≠ 40 → q11_2.2 c k = (o_Arr_fill h 40 (-9)) c k) (zcn (h m 0)) (fun _ _ _ => rfl) (fun i11_2 s11_2 hi11_2 hI11_2 => ⟨(by intro s2 hs; (try dsimp only at hs); by_cases cc : (o_Mesh_isLowestOfNet s11_2 m (nI i11_2)) = true; (rw [if_pos cc] at hs; by_cases cc : ((o_Planner_assigns s11_2 m (o_Mesh_netOf s11_2 m (nI i11_2)) i11_2).1) = true; (rw [if_pos cc] at hs; cases hs; exact fun c k q0 => (by (try dsimp only); exact ((fr_Planner_assigns _ _ (by assumption)).trans (hI11_2 _ _ (by assumption))))); (rw [if_neg cc] at hs; cases hs)); (rw [if_neg cc] at hs; cases hs; exact fun c k q0 => (by (try dsimp only); exact (hI11_2 _ _ (by assumption))))), (by intro r hs; (try dsimp only at hs); by_cases cc : (o_Mesh_isLowestOfNet s11_2 m (nI i11_2)) = true; (rw [if_pos cc] at hs; by_cases cc : ((o_Planner_assigns s11_2 m (o_Mesh_netOf s11_2 m (nI i11_2)) i11_2).1) = true; (rw [if_pos cc] at hs; cases hs); (rw [if_neg cc] at hs; cases hs; exact fun c k q0 => (by (try dsimp only); exact ((fr_Planner_assigns _ _ (by assumption)).trans (hI11_2 _ _ (by assumption)))))); (rw [if_neg cc] at hs; cases hs))⟩)
  cases hz : (zrex (fun (i11_2 : Nat) (s11_2 : zHp) => ((if (o_Mesh_isLowestOfNet s11_2 m (nI i11_2)) = true then (if ((o_Planner_assigns s11_2 m (o_Mesh_netOf s11_2 m (nI i11_2)) i11_2).1) = true then .inl ((o_Planner_assigns s11_2 m (o_Mesh_netOf s11_2 m (nI i11_2)) i11_2).2) else .inr (false, ((o_Planner_assigns s11_2 m (o_Mesh_netOf s11_2 m (nI i11_2)) i11_2).2))) else .inl s11_2) : (zHp) ⊕ (Bool × zHp))) (o_Arr_fill h 40 (-9)) (zcn (h m 0))) with
  | inl r11_2 =>
    have hI11_2 := hX.1 r11_2 hz
    simp only [Sum.elim_inl]
    try dsimp only
    first | done | exact ((hI11_2 _ _ (by assumption)).trans (fr_Arr_fill _ _ (by assumption)))
  | inr q11_2 =>
    exact (hX.2 q11_2 hz c k (by assumption)).trans (fr_Arr_fill _ _ (by assumption))
set_option maxHeartbeats 400000 in
set_option maxRecDepth 20000 in
theorem c_Planner_succeeds (X : zXT) (h : zHp) (g : zLg) (m : Nat) (hm : m = 3 ∨ m = 15 ∨ m = 27) (hf0 : zfit h m 0 8) : zDi X M_Planner_succeeds 15 [zR X 39, zR X m] h g (zI (zb ((o_Planner_succeeds h m).1))) ((o_Planner_succeeds h m).2) g := by
  have hf0_1 := hf0.1
  refine zDi_of "PeriodSlots$Planner" prog_5_method_2_code 3 (some .boolean) rfl (by decide) [zO X 39, zO X m, none] rfl (fun _ q => q) (Nat.le_of_ble_eq_true rfl) ?_
  intro Γ Q C hQ
  refine zr_aload_n C d_X3_succeeds_0 rfl ?_
  refine gf_Planner_0 C m164 d_X3_succeeds_1 ?_
  refine zr_bipush C (v := (-9)) d_X3_succeeds_4 (by decide) ?_
  refine zr_callSv (As := [zR X 40, .int (-9)]) (st := []) C (c_Arr_fill X h g 40 (-9) za_40) k_Arr_fill m580 m303 rfl (by decide) rfl (Nat.le_of_ble_eq_true rfl) d_X3_succeeds_6 ?_
  refine zr_h (fun h1 eh1 => ?_)
  refine zr_iconst C (v := 0) d_X3_succeeds_9 (by decide) ?_
  refine zr_istore_n C [zO X 39, zO X m, zI 0] d_X3_succeeds_10 (Nat.le_of_ble_eq_true rfl) rfl rfl ?_
  refine zforx (f := (fun (i11_2 : Nat) (s11_2 : zHp) => ((if (o_Mesh_isLowestOfNet s11_2 m (nI i11_2)) = true then (if ((o_Planner_assigns s11_2 m (o_Mesh_netOf s11_2 m (nI i11_2)) i11_2).1) = true then .inl ((o_Planner_assigns s11_2 m (o_Mesh_netOf s11_2 m (nI i11_2)) i11_2).2) else .inr (false, ((o_Planner_assigns s11_2 m (o_Mesh_netOf s11_2 m (nI i11_2)) i11_2).2))) else .inl s11_2) : (zHp) ⊕ (Bool × zHp)))) (a := h1) (fun i11_2 s11_2 => zV X Γ Q 11 [zO X 39, zO X m, zI (nI i11_2)] [] s11_2 g) (fun _ s11_2 => ∀ c k : Nat, c ≠ 40 → s11_2 c k = h1 c k) (zcn (h m 0)) (fun _ _ _ => rfl) (fun i11_2 s11_2 hi11_2 hI11_2 => ⟨(by intro s2 hs; (try dsimp only at hs); by_cases cc : (o_Mesh_isLowestOfNet s11_2 m (nI i11_2)) = true; (rw [if_pos cc] at hs; by_cases cc : ((o_Planner_assigns s11_2 m (o_Mesh_netOf s11_2 m (nI i11_2)) i11_2).1) = true; (rw [if_pos cc] at hs; cases hs; exact fun c k q0 => (by (try dsimp only); exact ((fr_Planner_assigns _ _ (by assumption)).trans (hI11_2 _ _ (by assumption))))); (rw [if_neg cc] at hs; cases hs)); (rw [if_neg cc] at hs; cases hs; exact fun c k q0 => (by (try dsimp only); exact (hI11_2 _ _ (by assumption))))), fun hk11_2 hx11_2 => ?_⟩) (fun r11_2 er11_2 hI11_2 => ?_)
  · refine zr_iload_n C d_X3_succeeds_11 rfl ?_
    refine zr_aload_n C d_X3_succeeds_12 rfl ?_
    refine gf_Mesh_0 C hm m96 d_X3_succeeds_13 ?_
    refine zr_icmp_ge C 52 d_X3_succeeds_16 (by decide) (fun c => absurd c (zge_no ((hI11_2 _ _ (by omega)).trans ((congrFun (congrFun eh1.symm _) _).trans (fr_Arr_fill _ _ (by omega)))) (by omega))) (fun _ => ?_)
    refine zr_aload_n C d_X3_succeeds_19 rfl ?_
    refine zr_iload_n C d_X3_succeeds_20 rfl ?_
    refine zr_callVi (As := [.int (nI i11_2)]) (st := []) (c := m) C (c_Mesh_isLowestOfNet X s11_2 g m (nI i11_2) hm (zfit_fr ((hI11_2 _ _ (by omega)).trans ((congrFun (congrFun eh1.symm _) _).trans (fr_Arr_fill _ _ (by omega)))) hf0)) k_Mesh_isLowestOfNet m581 m432 m433 (by omega) (zC_Mesh hm X _ _) rfl rfl (by decide) rfl (Nat.le_of_ble_eq_true rfl) d_X3_succeeds_21 ?_
    refine zr_ifz_eq C 46 d_X3_succeeds_24 (by decide) (fun c24 => ?_) (fun c24 => ?_)
    · refine zr_iinc C [zO X 39, zO X m, zI (nI (i11_2 + 1))] (v := (nI (i11_2 + 1))) d_X3_succeeds_46 rfl (zn_add rfl rfl) (Nat.le_of_ble_eq_true rfl) rfl rfl ?_
      refine zr_goto C 11 d_X3_succeeds_49 (by decide) ?_
      exact hk11_2 s11_2 ((if_neg (zbf c24)))
    · refine zr_aload_n C d_X3_succeeds_27 rfl ?_
      refine gf_Planner_0 C m164 d_X3_succeeds_28 ?_
      refine zr_aload_n C d_X3_succeeds_31 rfl ?_
      refine zr_aload_n C d_X3_succeeds_32 rfl ?_
      refine zr_iload_n C d_X3_succeeds_33 rfl ?_
      refine zr_callVi (As := [.int (nI i11_2)]) (st := [zR X m, zR X 40]) (c := m) C (c_Mesh_netOf X s11_2 g m (nI i11_2) hm (zfit_fr ((hI11_2 _ _ (by omega)).trans ((congrFun (congrFun eh1.symm _) _).trans (fr_Arr_fill _ _ (by omega)))) hf0)) k_Mesh_netOf m582 m436 m437 (by omega) (zC_Mesh hm X _ _) rfl rfl (by decide) rfl (Nat.le_of_ble_eq_true rfl) d_X3_succeeds_34 ?_
      refine zr_iload_n C d_X3_succeeds_37 rfl ?_
      refine zr_callSi (As := [zR X 40, zR X m, .int (o_Mesh_netOf s11_2 m (nI i11_2)), .int (nI i11_2)]) (st := []) C (c_Planner_assigns X s11_2 g m (o_Mesh_netOf s11_2 m (nI i11_2)) i11_2 rfl hm (zfit_fr ((hI11_2 _ _ (by omega)).trans ((congrFun (congrFun eh1.symm _) _).trans (fr_Arr_fill _ _ (by omega)))) hf0) (by omega)) k_Planner_assigns m583 m584 rfl (by omega) rfl (Nat.le_of_ble_eq_true rfl) d_X3_succeeds_38 ?_
      refine zr_vz (fun y3 ey3 => ?_)
      refine zr_h (fun h4 eh4 => ?_)
      refine zr_ifz_ne C 46 d_X3_succeeds_41 (by decide) (fun c41 => ?_) (fun c41 => ?_)
      · refine zr_iinc C [zO X 39, zO X m, zI (nI (i11_2 + 1))] (v := (nI (i11_2 + 1))) d_X3_succeeds_46 rfl (zn_add rfl rfl) (Nat.le_of_ble_eq_true rfl) rfl rfl ?_
        refine zr_goto C 11 d_X3_succeeds_49 (by decide) ?_
        exact hk11_2 h4 (by subst eh4 ey3; exact ((if_pos c24).trans ((if_pos c41))))
      · refine zr_iconst C (v := 0) d_X3_succeeds_44 (by decide) ?_
        have hr11_2 := hx11_2 ((false, h4)) (by subst eh4 ey3; exact ((if_pos c24).trans ((if_neg (zbf c41)))))
        have eR : o_Planner_succeeds h m = (false, h4) := (by subst eh4 ey3 eh1; unfold o_Planner_succeeds; exact ((congrArg (Sum.elim _ _) hr11_2)))
        subst hQ
        exact zTQ_Zh eR (zr_iretz C (Or.inl rfl) d_X3_succeeds_45)
  refine zr_iload_n C d_X3_succeeds_11 rfl ?_
  refine zr_aload_n C d_X3_succeeds_12 rfl ?_
  refine gf_Mesh_0 C hm m96 d_X3_succeeds_13 ?_
  refine zr_icmp_ge C 52 d_X3_succeeds_16 (by decide) (fun _ => ?_) (fun c => absurd (zge_yes ((hI11_2 _ _ (by omega)).trans ((congrFun (congrFun eh1.symm _) _).trans (fr_Arr_fill _ _ (by omega)))) (by omega) (by have := zcn_small (h m 0); omega)) c)
  refine zr_iconst C (v := 1) d_X3_succeeds_52 (by decide) ?_
  have eR : o_Planner_succeeds h m = (true, r11_2) := (by subst eh1; unfold o_Planner_succeeds; exact ((congrArg (Sum.elim _ _) er11_2)))
  subst hQ
  exact zTQ_Zh eR (zr_iretz C (Or.inr rfl) d_X3_succeeds_53)
end
section
/-! Walks of methods, by program (wip/whole/gen). -/
theorem d_X6_write_0 : decode prog_1_method_2_code 0 = .ok (.iload_n 1, 1) := by decide +kernel
theorem d_X6_write_1 : decode prog_1_method_2_code 1 = .ok (.ifCond .lt 10, 3) := by decide +kernel
theorem d_X6_write_4 : decode prog_1_method_2_code 4 = .ok (.iload_n 1, 1) := by decide +kernel
theorem d_X6_write_5 : decode prog_1_method_2_code 5 = .ok (.sipush 255, 3) := by decide +kernel
theorem d_X6_write_8 : decode prog_1_method_2_code 8 = .ok (.if_icmp .le 6, 3) := by decide +kernel
theorem d_X6_write_11 : decode prog_1_method_2_code 11 = .ok (.bipush (-2), 2) := by decide +kernel
theorem d_X6_write_13 : decode prog_1_method_2_code 13 = .ok (.ireturn, 1) := by decide +kernel
theorem d_X6_write_14 : decode prog_1_method_2_code 14 = .ok (.aload_n 0, 1) := by decide +kernel
theorem d_X6_write_15 : decode prog_1_method_2_code 15 = .ok (.getfield 10, 3) := by decide +kernel
theorem d_X6_write_18 : decode prog_1_method_2_code 18 = .ok (.getfield 67, 3) := by decide +kernel
theorem d_X6_write_21 : decode prog_1_method_2_code 21 = .ok (.bipush 110, 2) := by decide +kernel
theorem d_X6_write_23 : decode prog_1_method_2_code 23 = .ok (.if_icmp .lt 6, 3) := by decide +kernel
theorem d_X6_write_26 : decode prog_1_method_2_code 26 = .ok (.bipush (-4), 2) := by decide +kernel
theorem d_X6_write_28 : decode prog_1_method_2_code 28 = .ok (.ireturn, 1) := by decide +kernel
theorem d_X6_write_29 : decode prog_1_method_2_code 29 = .ok (.aload_n 0, 1) := by decide +kernel
theorem d_X6_write_30 : decode prog_1_method_2_code 30 = .ok (.getfield 10, 3) := by decide +kernel
theorem d_X6_write_33 : decode prog_1_method_2_code 33 = .ok (.iload_n 1, 1) := by decide +kernel
theorem d_X6_write_34 : decode prog_1_method_2_code 34 = .ok (.invokevirtual 71, 3) := by decide +kernel
theorem d_X6_write_37 : decode prog_1_method_2_code 37 = .ok (.aload_n 0, 1) := by decide +kernel
theorem d_X6_write_38 : decode prog_1_method_2_code 38 = .ok (.getfield 10, 3) := by decide +kernel
theorem d_X6_write_41 : decode prog_1_method_2_code 41 = .ok (.getfield 67, 3) := by decide +kernel
theorem d_X6_write_44 : decode prog_1_method_2_code 44 = .ok (.ireturn, 1) := by decide +kernel
abbrev M_Slots_write : zMT := (⟨"PeriodSlots", "write", "(I)I"⟩, prog_1_method_2_code, 2, (some .int))
theorem k_Slots_write : zcall M_Slots_write 1 := ⟨zU_in (i := 261) (by decide +kernel) rfl, m54, ⟨by decide, by decide, by decide +kernel⟩, by decide⟩
def o_Slots_write (h : zHp) (letter : Int32) : Int32 × zHp :=
  (if letter < 0 then ((-2), h) else (if letter ≤ 255 then (if (h 1 0) < 110 then (((o_Text_append h letter) 1 0), (o_Text_append h letter)) else ((-4), h)) else ((-2), h)))
theorem fr_Slots_write {h : zHp} {letter : Int32} (c k : Nat) (q0 : ¬ (c = 1 ∧ k = 0)) (q1 : c ≠ 2) : (o_Slots_write h letter).2 c k = h c k := by
  unfold o_Slots_write
  by_cases f1 : letter < 0
  · rw [if_pos f1]
    try dsimp only
    first | done | exact rfl
  · rw [if_neg f1]
    by_cases f2 : letter ≤ 255
    · rw [if_pos f2]
      by_cases f3 : (h 1 0) < 110
      · rw [if_pos f3]
        try dsimp only
        first | done | exact (fr_Text_append _ _ (by assumption) (by assumption))
      · rw [if_neg f3]
        try dsimp only
        first | done | exact rfl
    · rw [if_neg f2]
      try dsimp only
      first | done | exact rfl
set_option maxHeartbeats 400000 in
set_option maxRecDepth 20000 in
theorem c_Slots_write (X : zXT) (h : zHp) (g : zLg) (letter : Int32) (hf0 : zfit h 1 0 110) : zDi X M_Slots_write 1 [zR X 0, .int letter] h g (zI ((o_Slots_write h letter).1)) ((o_Slots_write h letter).2) g := by
  have hf0_1 := hf0.1
  refine zDi_of "PeriodSlots" prog_1_method_2_code 2 (some .int) rfl (by decide) [zO X 0, zI letter] rfl (fun _ q => q) (Nat.le_of_ble_eq_true rfl) ?_
  intro Γ Q C hQ
  refine zr_iload_n C d_X6_write_0 rfl ?_
  refine zr_if_lt C 11 d_X6_write_1 (by decide) (fun c1 => ?_) (fun c1 => ?_)
  · refine zr_bipush C (v := (-2)) d_X6_write_11 (by decide) ?_
    have eR : o_Slots_write h letter = ((-2), h) := (by unfold o_Slots_write; rw [if_pos c1])
    subst hQ
    exact zTQ_Ih eR (zr_ireti C d_X6_write_13)
  · refine zr_iload_n C d_X6_write_4 rfl ?_
    refine zr_sipush C (v := 255) d_X6_write_5 (by decide) ?_
    refine zr_icmp_le C 14 d_X6_write_8 (by decide) (fun c8 => ?_) (fun c8 => ?_)
    · have en1 := zn_le (a := zcn letter) (b := 255) (zix c1) rfl c8 (zcn_small _) (by decide)
      refine zr_aload_n C d_X6_write_14 rfl ?_
      refine gf_Slots_0 C m227 d_X6_write_15 ?_
      refine gf_Text_1 C m82 d_X6_write_18 ?_
      refine zr_bipush C (v := 110) d_X6_write_21 (by decide) ?_
      refine zr_icmp_lt C 29 d_X6_write_23 (by decide) (fun c23 => ?_) (fun c23 => ?_)
      · have en2 := zn_lt (a := zcn (h 1 0)) (b := 110) hf0.2 rfl c23 (zcn_small _) (by decide)
        refine zr_aload_n C d_X6_write_29 rfl ?_
        refine gf_Slots_0 C m227 d_X6_write_30 ?_
        refine zr_iload_n C d_X6_write_33 rfl ?_
        refine zr_callVv (As := [.int letter]) (st := []) (c := 1) C (c_Text_append X h g letter hf0) k_Text_append m262 m263 m264 (by decide) (zC_Text X _ _) rfl rfl (by decide) rfl (Nat.le_of_ble_eq_true rfl) d_X6_write_34 ?_
        refine zr_h (fun h3 eh3 => ?_)
        refine zr_aload_n C d_X6_write_37 rfl ?_
        refine gf_Slots_0 C m227 d_X6_write_38 ?_
        refine gf_Text_1 C m82 d_X6_write_41 ?_
        have eR : o_Slots_write h letter = ((h3 1 0), h3) := (by subst eh3; unfold o_Slots_write; rw [if_neg c1, if_pos c8, if_pos c23])
        subst hQ
        exact zTQ_Ih eR (zr_ireti C d_X6_write_44)
      · have en4 := zn_nlt (a := zcn (h 1 0)) (b := 110) hf0.2 rfl c23 (zcn_small _) (by decide)
        refine zr_bipush C (v := (-4)) d_X6_write_26 (by decide) ?_
        have eR : o_Slots_write h letter = ((-4), h) := (by unfold o_Slots_write; rw [if_neg c1, if_pos c8, if_neg c23])
        subst hQ
        exact zTQ_Ih eR (zr_ireti C d_X6_write_28)
    · have en5 := zn_nle (a := zcn letter) (b := 255) (zix c1) rfl c8 (zcn_small _) (by decide)
      refine zr_bipush C (v := (-2)) d_X6_write_11 (by decide) ?_
      have eR : o_Slots_write h letter = ((-2), h) := (by unfold o_Slots_write; rw [if_neg c1, if_neg c8])
      subst hQ
      exact zTQ_Ih eR (zr_ireti C d_X6_write_13)
theorem d_X6_wipe_0 : decode prog_1_method_3_code 0 = .ok (.aload_n 0, 1) := by decide +kernel
theorem d_X6_wipe_1 : decode prog_1_method_3_code 1 = .ok (.getfield 10, 3) := by decide +kernel
theorem d_X6_wipe_4 : decode prog_1_method_3_code 4 = .ok (.getfield 67, 3) := by decide +kernel
theorem d_X6_wipe_7 : decode prog_1_method_3_code 7 = .ok (.istore_n 1, 1) := by decide +kernel
theorem d_X6_wipe_8 : decode prog_1_method_3_code 8 = .ok (.aload_n 0, 1) := by decide +kernel
theorem d_X6_wipe_9 : decode prog_1_method_3_code 9 = .ok (.getfield 10, 3) := by decide +kernel
theorem d_X6_wipe_12 : decode prog_1_method_3_code 12 = .ok (.iconst 0, 1) := by decide +kernel
theorem d_X6_wipe_13 : decode prog_1_method_3_code 13 = .ok (.putfield 67, 3) := by decide +kernel
theorem d_X6_wipe_16 : decode prog_1_method_3_code 16 = .ok (.iload_n 1, 1) := by decide +kernel
theorem d_X6_wipe_17 : decode prog_1_method_3_code 17 = .ok (.ireturn, 1) := by decide +kernel
abbrev M_Slots_wipe : zMT := (⟨"PeriodSlots", "wipe", "()I"⟩, prog_1_method_3_code, 2, (some .int))
theorem k_Slots_wipe : zcall M_Slots_wipe 0 := ⟨zU_in (i := 269) (by decide +kernel) rfl, m54, ⟨by decide, by decide, by decide +kernel⟩, by decide⟩
def o_Slots_wipe (h : zHp) : Int32 × zHp :=
  ((h 1 0), (zup h 1 0 0))
theorem fr_Slots_wipe {h : zHp} (c k : Nat) (q0 : ¬ (c = 1 ∧ k = 0)) : (o_Slots_wipe h).2 c k = h c k := by
  unfold o_Slots_wipe
  try dsimp only
  first | done | exact (zup_fr (by omega))
set_option maxHeartbeats 400000 in
set_option maxRecDepth 20000 in
theorem c_Slots_wipe (X : zXT) (h : zHp) (g : zLg)  : zDi X M_Slots_wipe 0 [zR X 0] h g (zI ((o_Slots_wipe h).1)) ((o_Slots_wipe h).2) g := by
  refine zDi_of "PeriodSlots" prog_1_method_3_code 2 (some .int) rfl (by decide) [zO X 0, none] rfl (fun _ q => q) (Nat.le_of_ble_eq_true rfl) ?_
  intro Γ Q C hQ
  refine zr_aload_n C d_X6_wipe_0 rfl ?_
  refine gf_Slots_0 C m227 d_X6_wipe_1 ?_
  refine gf_Text_1 C m82 d_X6_wipe_4 ?_
  refine zr_istore_n C [zO X 0, zI (h 1 0)] d_X6_wipe_7 (Nat.le_of_ble_eq_true rfl) rfl rfl ?_
  refine zr_aload_n C d_X6_wipe_8 rfl ?_
  refine gf_Slots_0 C m227 d_X6_wipe_9 ?_
  refine zr_iconst C (v := 0) d_X6_wipe_12 (by decide) ?_
  refine pf_Text_1 C m82 d_X6_wipe_13 ?_
  refine zr_h (fun h1 eh1 => ?_)
  refine zr_iload_n C d_X6_wipe_16 rfl ?_
  have eR : o_Slots_wipe h = ((h 1 0), h1) := (by subst eh1; unfold o_Slots_wipe; exact rfl)
  subst hQ
  exact zTQ_Ih eR (zr_ireti C d_X6_wipe_17)
theorem d_X6_fault_0 : decode prog_1_method_4_code 0 = .ok (.aload_n 0, 1) := by decide +kernel
theorem d_X6_fault_1 : decode prog_1_method_4_code 1 = .ok (.getfield 10, 3) := by decide +kernel
theorem d_X6_fault_4 : decode prog_1_method_4_code 4 = .ok (.aload_n 0, 1) := by decide +kernel
theorem d_X6_fault_5 : decode prog_1_method_4_code 5 = .ok (.getfield 23, 3) := by decide +kernel
theorem d_X6_fault_8 : decode prog_1_method_4_code 8 = .ok (.invokevirtual 74, 3) := by decide +kernel
theorem d_X6_fault_11 : decode prog_1_method_4_code 11 = .ok (.ireturn, 1) := by decide +kernel
abbrev M_Slots_fault : zMT := (⟨"PeriodSlots", "fault", "()I"⟩, prog_1_method_4_code, 1, (some .int))
theorem k_Slots_fault : zcall M_Slots_fault 0 := ⟨zU_in (i := 273) (by decide +kernel) rfl, m54, ⟨by decide, by decide, by decide +kernel⟩, by decide⟩
def o_Slots_fault (h : zHp) : Int32 × zHp :=
  (((o_Text_readInto h 15).1), ((o_Text_readInto h 15).2))
theorem fr_Slots_fault {h : zHp} (c k : Nat) (q0 : ¬ (c = 15 ∧ k = 0)) (q1 : ¬ (c = 15 ∧ k = 1)) (q2 : ¬ (c = 15 ∧ k = 2)) (q3 : c ≠ 16) (q4 : c ≠ 17) (q5 : c ≠ 18) (q6 : c ≠ 19) (q7 : c ≠ 20) (q8 : c ≠ 21) (q9 : c ≠ 22) (q10 : c ≠ 23) (q11 : c ≠ 24) (q12 : c ≠ 25) (q13 : c ≠ 26) : (o_Slots_fault h).2 c k = h c k := by
  unfold o_Slots_fault
  try dsimp only
  first | done | exact (fr_Text_readInto _ _ (by assumption) (by assumption) (by assumption) (by assumption) (by assumption) (by assumption) (by assumption) (by assumption) (by assumption) (by assumption) (by assumption) (by assumption))
set_option maxHeartbeats 400000 in
set_option maxRecDepth 20000 in
theorem c_Slots_fault (X : zXT) (h : zHp) (g : zLg) (hf0 : zfit h 1 0 110) : zDi X M_Slots_fault 6 [zR X 0] h g (zI ((o_Slots_fault h).1)) ((o_Slots_fault h).2) g := by
  have hf0_1 := hf0.1
  refine zDi_of "PeriodSlots" prog_1_method_4_code 1 (some .int) rfl (by decide) [zO X 0] rfl (fun _ q => q) (Nat.le_of_ble_eq_true rfl) ?_
  intro Γ Q C hQ
  refine zr_aload_n C d_X6_fault_0 rfl ?_
  refine gf_Slots_0 C m227 d_X6_fault_1 ?_
  refine zr_aload_n C d_X6_fault_4 rfl ?_
  refine gf_Slots_2 C m229 d_X6_fault_5 ?_
  refine zr_callVi (As := [zR X 15]) (st := []) (c := 1) C (c_Text_readInto X h g 15 (by decide) hf0) k_Text_readInto m274 m275 m276 (by decide) (zC_Text X _ _) rfl rfl (by decide) rfl (Nat.le_of_ble_eq_true rfl) d_X6_fault_8 ?_
  refine zr_vi (fun y1 ey1 => ?_)
  refine zr_h (fun h2 eh2 => ?_)
  have hph2 : zfit h2 15 0 8 := by rw [← eh2]; exact pf_readInto
  have hph2_1 := hph2.1
  have eR : o_Slots_fault h = (y1, h2) := (by subst eh2 ey1; unfold o_Slots_fault; exact rfl)
  subst hQ
  exact zTQ_Ih eR (zr_ireti C d_X6_fault_11)
theorem d_X6_field_0 : decode prog_1_method_5_code 0 = .ok (.aload_n 0, 1) := by decide +kernel
theorem d_X6_field_1 : decode prog_1_method_5_code 1 = .ok (.getfield 10, 3) := by decide +kernel
theorem d_X6_field_4 : decode prog_1_method_5_code 4 = .ok (.aload_n 0, 1) := by decide +kernel
theorem d_X6_field_5 : decode prog_1_method_5_code 5 = .ok (.getfield 23, 3) := by decide +kernel
theorem d_X6_field_8 : decode prog_1_method_5_code 8 = .ok (.invokevirtual 74, 3) := by decide +kernel
theorem d_X6_field_11 : decode prog_1_method_5_code 11 = .ok (.bipush (-9), 2) := by decide +kernel
theorem d_X6_field_13 : decode prog_1_method_5_code 13 = .ok (.if_icmp .eq 6, 3) := by decide +kernel
theorem d_X6_field_16 : decode prog_1_method_5_code 16 = .ok (.bipush (-3), 2) := by decide +kernel
theorem d_X6_field_18 : decode prog_1_method_5_code 18 = .ok (.ireturn, 1) := by decide +kernel
theorem d_X6_field_19 : decode prog_1_method_5_code 19 = .ok (.aload_n 0, 1) := by decide +kernel
theorem d_X6_field_20 : decode prog_1_method_5_code 20 = .ok (.getfield 19, 3) := by decide +kernel
theorem d_X6_field_23 : decode prog_1_method_5_code 23 = .ok (.aload_n 0, 1) := by decide +kernel
theorem d_X6_field_24 : decode prog_1_method_5_code 24 = .ok (.getfield 23, 3) := by decide +kernel
theorem d_X6_field_27 : decode prog_1_method_5_code 27 = .ok (.invokevirtual 78, 3) := by decide +kernel
theorem d_X6_field_30 : decode prog_1_method_5_code 30 = .ok (.aload_n 0, 1) := by decide +kernel
theorem d_X6_field_31 : decode prog_1_method_5_code 31 = .ok (.getfield 39, 3) := by decide +kernel
theorem d_X6_field_34 : decode prog_1_method_5_code 34 = .ok (.invokevirtual 82, 3) := by decide +kernel
theorem d_X6_field_37 : decode prog_1_method_5_code 37 = .ok (.aload_n 0, 1) := by decide +kernel
theorem d_X6_field_38 : decode prog_1_method_5_code 38 = .ok (.getfield 48, 3) := by decide +kernel
theorem d_X6_field_41 : decode prog_1_method_5_code 41 = .ok (.invokevirtual 85, 3) := by decide +kernel
theorem d_X6_field_44 : decode prog_1_method_5_code 44 = .ok (.aload_n 0, 1) := by decide +kernel
theorem d_X6_field_45 : decode prog_1_method_5_code 45 = .ok (.getfield 19, 3) := by decide +kernel
theorem d_X6_field_48 : decode prog_1_method_5_code 48 = .ok (.getfield 88, 3) := by decide +kernel
theorem d_X6_field_51 : decode prog_1_method_5_code 51 = .ok (.ireturn, 1) := by decide +kernel
abbrev M_Slots_field : zMT := (⟨"PeriodSlots", "field", "()I"⟩, prog_1_method_5_code, 1, (some .int))
theorem k_Slots_field : zcall M_Slots_field 0 := ⟨zU_in (i := 374) (by decide +kernel) rfl, m54, ⟨by decide, by decide, by decide +kernel⟩, by decide⟩
def o_Slots_field (h : zHp) : Int32 × zHp :=
  (if ((o_Text_readInto h 15).1) = (-9) then (((o_Shelf44_clear (o_Acts_forget (o_Mesh_copyFrom ((o_Text_readInto h 15).2) 3 15))) 3 0), (o_Shelf44_clear (o_Acts_forget (o_Mesh_copyFrom ((o_Text_readInto h 15).2) 3 15)))) else ((-3), ((o_Text_readInto h 15).2)))
theorem fr_Slots_field {h : zHp} (c k : Nat) (q0 : ¬ (c = 15 ∧ k = 0)) (q1 : ¬ (c = 15 ∧ k = 1)) (q2 : ¬ (c = 15 ∧ k = 2)) (q3 : c ≠ 16) (q4 : c ≠ 17) (q5 : c ≠ 18) (q6 : c ≠ 19) (q7 : c ≠ 20) (q8 : c ≠ 21) (q9 : c ≠ 22) (q10 : c ≠ 23) (q11 : c ≠ 24) (q12 : c ≠ 25) (q13 : c ≠ 26) (q14 : ¬ (c = 3 ∧ k = 0)) (q15 : ¬ (c = 3 ∧ k = 1)) (q16 : ¬ (c = 3 ∧ k = 2)) (q17 : c ≠ 4) (q18 : c ≠ 5) (q19 : c ≠ 6) (q20 : c ≠ 7) (q21 : c ≠ 8) (q22 : c ≠ 9) (q23 : c ≠ 10) (q24 : c ≠ 11) (q25 : c ≠ 12) (q26 : c ≠ 13) (q27 : c ≠ 14) (q28 : ¬ (c = 41 ∧ k = 1)) (q29 : ¬ (c = 44 ∧ k = 1)) : (o_Slots_field h).2 c k = h c k := by
  unfold o_Slots_field
  by_cases f1 : ((o_Text_readInto h 15).1) = (-9)
  · rw [if_pos f1]
    try dsimp only
    first | done | exact ((fr_Shelf44_clear _ _ (by assumption)).trans ((fr_Acts_forget _ _ (by assumption)).trans ((fr_Mesh_copyFrom _ _ (by assumption) (by assumption) (by assumption) (by assumption) (by assumption) (by assumption) (by assumption) (by assumption) (by assumption) (by assumption) (by assumption) (by assumption)).trans (fr_Text_readInto _ _ (by assumption) (by assumption) (by assumption) (by assumption) (by assumption) (by assumption) (by assumption) (by assumption) (by assumption) (by assumption) (by assumption) (by assumption)))))
  · rw [if_neg f1]
    try dsimp only
    first | done | exact (fr_Text_readInto _ _ (by assumption) (by assumption) (by assumption) (by assumption) (by assumption) (by assumption) (by assumption) (by assumption) (by assumption) (by assumption) (by assumption) (by assumption))
set_option maxHeartbeats 400000 in
set_option maxRecDepth 20000 in
theorem c_Slots_field (X : zXT) (h : zHp) (g : zLg) (hf0 : zfit h 1 0 110) : zDi X M_Slots_field 6 [zR X 0] h g (zI ((o_Slots_field h).1)) ((o_Slots_field h).2) g := by
  have hf0_1 := hf0.1
  refine zDi_of "PeriodSlots" prog_1_method_5_code 1 (some .int) rfl (by decide) [zO X 0] rfl (fun _ q => q) (Nat.le_of_ble_eq_true rfl) ?_
  intro Γ Q C hQ
  refine zr_aload_n C d_X6_field_0 rfl ?_
  refine gf_Slots_0 C m227 d_X6_field_1 ?_
  refine zr_aload_n C d_X6_field_4 rfl ?_
  refine gf_Slots_2 C m229 d_X6_field_5 ?_
  refine zr_callVi (As := [zR X 15]) (st := []) (c := 1) C (c_Text_readInto X h g 15 (by decide) hf0) k_Text_readInto m274 m275 m276 (by decide) (zC_Text X _ _) rfl rfl (by decide) rfl (Nat.le_of_ble_eq_true rfl) d_X6_field_8 ?_
  refine zr_vi (fun y1 ey1 => ?_)
  refine zr_h (fun h2 eh2 => ?_)
  have hph2 : zfit h2 15 0 8 := by rw [← eh2]; exact pf_readInto
  have hph2_1 := hph2.1
  refine zr_bipush C (v := (-9)) d_X6_field_11 (by decide) ?_
  refine zr_icmp_eq C 19 d_X6_field_13 (by decide) (fun c13 => ?_) (fun c13 => ?_)
  · refine zr_aload_n C d_X6_field_19 rfl ?_
    refine gf_Slots_1 C m228 d_X6_field_20 ?_
    refine zr_aload_n C d_X6_field_23 rfl ?_
    refine gf_Slots_2 C m229 d_X6_field_24 ?_
    refine zr_callVv (As := [zR X 15]) (st := []) (c := 3) C (c_Mesh_copyFrom X h2 g 3 15 (by decide) (by decide)) k_Mesh_copyFrom m375 m376 m377 (by decide) (zC_Mesh (by decide) X _ _) rfl rfl (by decide) rfl (Nat.le_of_ble_eq_true rfl) d_X6_field_27 ?_
    refine zr_h (fun h3 eh3 => ?_)
    have hph3 : zfit h3 3 0 8 := by rw [← eh3]; exact pf_copyFrom hph2
    have hph3_1 := hph3.1
    refine zr_aload_n C d_X6_field_30 rfl ?_
    refine gf_Slots_5 C m232 d_X6_field_31 ?_
    refine zr_callVv (As := []) (st := []) (c := 41) C (c_Acts_forget X h3 g ) k_Acts_forget m385 m386 m387 (by decide) (zC_Acts X _ _) rfl rfl (by decide) rfl (Nat.le_of_ble_eq_true rfl) d_X6_field_34 ?_
    refine zr_h (fun h4 eh4 => ?_)
    refine zr_aload_n C d_X6_field_37 rfl ?_
    refine gf_Slots_6 C m233 d_X6_field_38 ?_
    refine zr_callVv (As := []) (st := []) (c := 44) C (c_Shelf44_clear X h4 g ) k_Shelf_clear m389 m390 m391 (by decide) (zC_Shelf (by decide) X _ _) rfl rfl (by decide) rfl (Nat.le_of_ble_eq_true rfl) d_X6_field_41 ?_
    refine zr_h (fun h5 eh5 => ?_)
    refine zr_aload_n C d_X6_field_44 rfl ?_
    refine gf_Slots_1 C m228 d_X6_field_45 ?_
    refine gf_Mesh_0 C (by decide) m98 d_X6_field_48 ?_
    have eR : o_Slots_field h = ((h5 3 0), h5) := (by subst eh5 eh4 eh3 eh2 ey1; unfold o_Slots_field; rw [if_pos c13])
    subst hQ
    exact zTQ_Ih eR (zr_ireti C d_X6_field_51)
  · refine zr_bipush C (v := (-3)) d_X6_field_16 (by decide) ?_
    have eR : o_Slots_field h = ((-3), h2) := (by subst eh2 ey1; unfold o_Slots_field; rw [if_neg c13])
    subst hQ
    exact zTQ_Ih eR (zr_ireti C d_X6_field_18)
theorem d_X6_about_0 : decode prog_1_method_6_code 0 = .ok (.iload_n 1, 1) := by decide +kernel
theorem d_X6_about_1 : decode prog_1_method_6_code 1 = .ok (.tableswitch 155 0 10 #[59, 67, 75, 83, 91, 99, 107, 123, 131, 139, 147], 59) := by decide +kernel
theorem d_X6_about_60 : decode prog_1_method_6_code 60 = .ok (.aload_n 0, 1) := by decide +kernel
theorem d_X6_about_61 : decode prog_1_method_6_code 61 = .ok (.getfield 19, 3) := by decide +kernel
theorem d_X6_about_64 : decode prog_1_method_6_code 64 = .ok (.getfield 88, 3) := by decide +kernel
theorem d_X6_about_67 : decode prog_1_method_6_code 67 = .ok (.ireturn, 1) := by decide +kernel
theorem d_X6_about_68 : decode prog_1_method_6_code 68 = .ok (.aload_n 0, 1) := by decide +kernel
theorem d_X6_about_69 : decode prog_1_method_6_code 69 = .ok (.getfield 19, 3) := by decide +kernel
theorem d_X6_about_72 : decode prog_1_method_6_code 72 = .ok (.invokevirtual 91, 3) := by decide +kernel
theorem d_X6_about_75 : decode prog_1_method_6_code 75 = .ok (.ireturn, 1) := by decide +kernel
theorem d_X6_about_76 : decode prog_1_method_6_code 76 = .ok (.aload_n 0, 1) := by decide +kernel
theorem d_X6_about_77 : decode prog_1_method_6_code 77 = .ok (.getfield 19, 3) := by decide +kernel
theorem d_X6_about_80 : decode prog_1_method_6_code 80 = .ok (.invokevirtual 95, 3) := by decide +kernel
theorem d_X6_about_83 : decode prog_1_method_6_code 83 = .ok (.ireturn, 1) := by decide +kernel
theorem d_X6_about_84 : decode prog_1_method_6_code 84 = .ok (.aload_n 0, 1) := by decide +kernel
theorem d_X6_about_85 : decode prog_1_method_6_code 85 = .ok (.getfield 19, 3) := by decide +kernel
theorem d_X6_about_88 : decode prog_1_method_6_code 88 = .ok (.getfield 98, 3) := by decide +kernel
theorem d_X6_about_91 : decode prog_1_method_6_code 91 = .ok (.ireturn, 1) := by decide +kernel
theorem d_X6_about_92 : decode prog_1_method_6_code 92 = .ok (.aload_n 0, 1) := by decide +kernel
theorem d_X6_about_93 : decode prog_1_method_6_code 93 = .ok (.getfield 19, 3) := by decide +kernel
theorem d_X6_about_96 : decode prog_1_method_6_code 96 = .ok (.invokevirtual 101, 3) := by decide +kernel
theorem d_X6_about_99 : decode prog_1_method_6_code 99 = .ok (.ireturn, 1) := by decide +kernel
theorem d_X6_about_100 : decode prog_1_method_6_code 100 = .ok (.aload_n 0, 1) := by decide +kernel
theorem d_X6_about_101 : decode prog_1_method_6_code 101 = .ok (.getfield 19, 3) := by decide +kernel
theorem d_X6_about_104 : decode prog_1_method_6_code 104 = .ok (.invokevirtual 104, 3) := by decide +kernel
theorem d_X6_about_107 : decode prog_1_method_6_code 107 = .ok (.ireturn, 1) := by decide +kernel
theorem d_X6_about_108 : decode prog_1_method_6_code 108 = .ok (.aload_n 0, 1) := by decide +kernel
theorem d_X6_about_109 : decode prog_1_method_6_code 109 = .ok (.getfield 19, 3) := by decide +kernel
theorem d_X6_about_112 : decode prog_1_method_6_code 112 = .ok (.invokevirtual 107, 3) := by decide +kernel
theorem d_X6_about_115 : decode prog_1_method_6_code 115 = .ok (.ifCond .eq 7, 3) := by decide +kernel
theorem d_X6_about_118 : decode prog_1_method_6_code 118 = .ok (.iconst 1, 1) := by decide +kernel
theorem d_X6_about_119 : decode prog_1_method_6_code 119 = .ok (.goto 4, 3) := by decide +kernel
theorem d_X6_about_122 : decode prog_1_method_6_code 122 = .ok (.iconst 0, 1) := by decide +kernel
theorem d_X6_about_123 : decode prog_1_method_6_code 123 = .ok (.ireturn, 1) := by decide +kernel
theorem d_X6_about_124 : decode prog_1_method_6_code 124 = .ok (.aload_n 0, 1) := by decide +kernel
theorem d_X6_about_125 : decode prog_1_method_6_code 125 = .ok (.getfield 19, 3) := by decide +kernel
theorem d_X6_about_128 : decode prog_1_method_6_code 128 = .ok (.invokevirtual 111, 3) := by decide +kernel
theorem d_X6_about_131 : decode prog_1_method_6_code 131 = .ok (.ireturn, 1) := by decide +kernel
theorem d_X6_about_132 : decode prog_1_method_6_code 132 = .ok (.aload_n 0, 1) := by decide +kernel
theorem d_X6_about_133 : decode prog_1_method_6_code 133 = .ok (.getfield 39, 3) := by decide +kernel
theorem d_X6_about_136 : decode prog_1_method_6_code 136 = .ok (.getfield 114, 3) := by decide +kernel
theorem d_X6_about_139 : decode prog_1_method_6_code 139 = .ok (.ireturn, 1) := by decide +kernel
theorem d_X6_about_140 : decode prog_1_method_6_code 140 = .ok (.aload_n 0, 1) := by decide +kernel
theorem d_X6_about_141 : decode prog_1_method_6_code 141 = .ok (.getfield 55, 3) := by decide +kernel
theorem d_X6_about_144 : decode prog_1_method_6_code 144 = .ok (.getfield 117, 3) := by decide +kernel
theorem d_X6_about_147 : decode prog_1_method_6_code 147 = .ok (.ireturn, 1) := by decide +kernel
theorem d_X6_about_148 : decode prog_1_method_6_code 148 = .ok (.aload_n 0, 1) := by decide +kernel
theorem d_X6_about_149 : decode prog_1_method_6_code 149 = .ok (.getfield 10, 3) := by decide +kernel
theorem d_X6_about_152 : decode prog_1_method_6_code 152 = .ok (.getfield 67, 3) := by decide +kernel
theorem d_X6_about_155 : decode prog_1_method_6_code 155 = .ok (.ireturn, 1) := by decide +kernel
theorem d_X6_about_156 : decode prog_1_method_6_code 156 = .ok (.bipush (-2), 2) := by decide +kernel
theorem d_X6_about_158 : decode prog_1_method_6_code 158 = .ok (.ireturn, 1) := by decide +kernel
abbrev M_Slots_about : zMT := (⟨"PeriodSlots", "about", "(I)I"⟩, prog_1_method_6_code, 2, (some .int))
theorem k_Slots_about : zcall M_Slots_about 1 := ⟨zU_in (i := 396) (by decide +kernel) rfl, m54, ⟨by decide, by decide, by decide +kernel⟩, by decide⟩
def o_Slots_about (h : zHp) (what : Int32) : Int32 :=
  (if what = 0 then (h 3 0) else (if what = 1 then (o_Mesh_linkCount h 3) else (if what = 2 then (o_Mesh_conflicts h 3) else (if what = 3 then (h 3 1) else (if what = 4 then (o_Mesh_unsettledSet h 3) else (if what = 5 then (o_Mesh_placedSet h 3) else (if what = 6 then (zb (o_Mesh_isQuiet h 3)) else (if what = 7 then (o_Mesh_netCount h 3) else (if what = 8 then (h 41 1) else (if what = 9 then (h 46 0) else (if what = 10 then (h 1 0) else (-2))))))))))))
set_option maxHeartbeats 400000 in
set_option maxRecDepth 20000 in
theorem c_Slots_about (X : zXT) (h : zHp) (g : zLg) (what : Int32) (hf0 : zfit h 3 0 8) : zDi X M_Slots_about 5 [zR X 0, .int what] h g (zI (o_Slots_about h what)) h g := by
  have hf0_1 := hf0.1
  refine zDi_of "PeriodSlots" prog_1_method_6_code 2 (some .int) rfl (by decide) [zO X 0, zI what] rfl (fun _ q => q) (Nat.le_of_ble_eq_true rfl) ?_
  intro Γ Q C hQ
  refine zr_iload_n C d_X6_about_0 rfl ?_
  by_cases c1_0 : what = 0
  · refine zr_tabIn C 60 (off := 59) d_X6_about_1 (by rw [c1_0]; decide) (by rw [c1_0]; decide) (by rw [c1_0]; rfl) (by decide) ?_
    refine zr_aload_n C d_X6_about_60 rfl ?_
    refine gf_Slots_1 C m228 d_X6_about_61 ?_
    refine gf_Mesh_0 C (by decide) m98 d_X6_about_64 ?_
    have eR : o_Slots_about h what = (h 3 0) := (by unfold o_Slots_about; rw [if_pos c1_0])
    subst hQ
    rw [eR]
    exact zr_ireti C d_X6_about_67
  · by_cases c1_1 : what = 1
    · refine zr_tabIn C 68 (off := 67) d_X6_about_1 (by rw [c1_1]; decide) (by rw [c1_1]; decide) (by rw [c1_1]; rfl) (by decide) ?_
      refine zr_aload_n C d_X6_about_68 rfl ?_
      refine gf_Slots_1 C m228 d_X6_about_69 ?_
      refine zr_callVi (As := []) (st := []) (c := 3) C (c_Mesh_linkCount X h g 3 (by decide) hf0) k_Mesh_linkCount m397 m345 m346 (by decide) (zC_Mesh (by decide) X _ _) rfl rfl (by decide) rfl (Nat.le_of_ble_eq_true rfl) d_X6_about_72 ?_
      have eR : o_Slots_about h what = (o_Mesh_linkCount h 3) := (by unfold o_Slots_about; rw [if_neg c1_0, if_pos c1_1])
      subst hQ
      rw [eR]
      exact zr_ireti C d_X6_about_75
    · by_cases c1_2 : what = 2
      · refine zr_tabIn C 76 (off := 75) d_X6_about_1 (by rw [c1_2]; decide) (by rw [c1_2]; decide) (by rw [c1_2]; rfl) (by decide) ?_
        refine zr_aload_n C d_X6_about_76 rfl ?_
        refine gf_Slots_1 C m228 d_X6_about_77 ?_
        refine zr_callVi (As := []) (st := []) (c := 3) C (c_Mesh_conflicts X h g 3 (by decide) hf0) k_Mesh_conflicts m398 m399 m400 (by decide) (zC_Mesh (by decide) X _ _) rfl rfl (by decide) rfl (Nat.le_of_ble_eq_true rfl) d_X6_about_80 ?_
        have eR : o_Slots_about h what = (o_Mesh_conflicts h 3) := (by unfold o_Slots_about; rw [if_neg c1_0, if_neg c1_1, if_pos c1_2])
        subst hQ
        rw [eR]
        exact zr_ireti C d_X6_about_83
      · by_cases c1_3 : what = 3
        · refine zr_tabIn C 84 (off := 83) d_X6_about_1 (by rw [c1_3]; decide) (by rw [c1_3]; decide) (by rw [c1_3]; rfl) (by decide) ?_
          refine zr_aload_n C d_X6_about_84 rfl ?_
          refine gf_Slots_1 C m228 d_X6_about_85 ?_
          refine gf_Mesh_1 C (by decide) m101 d_X6_about_88 ?_
          have eR : o_Slots_about h what = (h 3 1) := (by unfold o_Slots_about; rw [if_neg c1_0, if_neg c1_1, if_neg c1_2, if_pos c1_3])
          subst hQ
          rw [eR]
          exact zr_ireti C d_X6_about_91
        · by_cases c1_4 : what = 4
          · refine zr_tabIn C 92 (off := 91) d_X6_about_1 (by rw [c1_4]; decide) (by rw [c1_4]; decide) (by rw [c1_4]; rfl) (by decide) ?_
            refine zr_aload_n C d_X6_about_92 rfl ?_
            refine gf_Slots_1 C m228 d_X6_about_93 ?_
            refine zr_callVi (As := []) (st := []) (c := 3) C (c_Mesh_unsettledSet X h g 3 (by decide) hf0) k_Mesh_unsettledSet m402 m403 m404 (by decide) (zC_Mesh (by decide) X _ _) rfl rfl (by decide) rfl (Nat.le_of_ble_eq_true rfl) d_X6_about_96 ?_
            have eR : o_Slots_about h what = (o_Mesh_unsettledSet h 3) := (by unfold o_Slots_about; rw [if_neg c1_0, if_neg c1_1, if_neg c1_2, if_neg c1_3, if_pos c1_4])
            subst hQ
            rw [eR]
            exact zr_ireti C d_X6_about_99
          · by_cases c1_5 : what = 5
            · refine zr_tabIn C 100 (off := 99) d_X6_about_1 (by rw [c1_5]; decide) (by rw [c1_5]; decide) (by rw [c1_5]; rfl) (by decide) ?_
              refine zr_aload_n C d_X6_about_100 rfl ?_
              refine gf_Slots_1 C m228 d_X6_about_101 ?_
              refine zr_callVi (As := []) (st := []) (c := 3) C (c_Mesh_placedSet X h g 3 (by decide) hf0) k_Mesh_placedSet m410 m411 m412 (by decide) (zC_Mesh (by decide) X _ _) rfl rfl (by decide) rfl (Nat.le_of_ble_eq_true rfl) d_X6_about_104 ?_
              have eR : o_Slots_about h what = (o_Mesh_placedSet h 3) := (by unfold o_Slots_about; rw [if_neg c1_0, if_neg c1_1, if_neg c1_2, if_neg c1_3, if_neg c1_4, if_pos c1_5])
              subst hQ
              rw [eR]
              exact zr_ireti C d_X6_about_107
            · by_cases c1_6 : what = 6
              · refine zr_tabIn C 108 (off := 107) d_X6_about_1 (by rw [c1_6]; decide) (by rw [c1_6]; decide) (by rw [c1_6]; rfl) (by decide) ?_
                refine zr_aload_n C d_X6_about_108 rfl ?_
                refine gf_Slots_1 C m228 d_X6_about_109 ?_
                refine zr_callVi (As := []) (st := []) (c := 3) C (c_Mesh_isQuiet X h g 3 (by decide) hf0) k_Mesh_isQuiet m414 m415 m416 (by decide) (zC_Mesh (by decide) X _ _) rfl rfl (by decide) rfl (Nat.le_of_ble_eq_true rfl) d_X6_about_112 ?_
                suffices hJ115 : ∀ (y1 : Bool), (o_Mesh_isQuiet h 3) = y1 → zV X Γ Q 123 [none, none] [.int (zb y1)] h g by
                  refine zr_ifz_eq C 122 d_X6_about_115 (by decide) (fun c115 => ?_) (fun c115 => ?_)
                  · refine zr_iconst C (v := 0) d_X6_about_122 (by decide) ?_
                    refine zr_lv [none, none] (by simp [zle]) ?_
                    exact hJ115 false (by simp [c115])
                  · refine zr_iconst C (v := 1) d_X6_about_118 (by decide) ?_
                    refine zr_goto C 123 d_X6_about_119 (by decide) ?_
                    refine zr_lv [none, none] (by simp [zle]) ?_
                    exact hJ115 true (by simp [c115])
                intro y1 ey1
                have eR : o_Slots_about h what = (zb y1) := (by subst ey1; unfold o_Slots_about; rw [if_neg c1_0, if_neg c1_1, if_neg c1_2, if_neg c1_3, if_neg c1_4, if_neg c1_5, if_pos c1_6])
                subst hQ
                rw [eR]
                exact zr_ireti C d_X6_about_123
              · by_cases c1_7 : what = 7
                · refine zr_tabIn C 124 (off := 123) d_X6_about_1 (by rw [c1_7]; decide) (by rw [c1_7]; decide) (by rw [c1_7]; rfl) (by decide) ?_
                  refine zr_aload_n C d_X6_about_124 rfl ?_
                  refine gf_Slots_1 C m228 d_X6_about_125 ?_
                  refine zr_callVi (As := []) (st := []) (c := 3) C (c_Mesh_netCount X h g 3 (by decide) hf0) k_Mesh_netCount m427 m428 m429 (by decide) (zC_Mesh (by decide) X _ _) rfl rfl (by decide) rfl (Nat.le_of_ble_eq_true rfl) d_X6_about_128 ?_
                  have eR : o_Slots_about h what = (o_Mesh_netCount h 3) := (by unfold o_Slots_about; rw [if_neg c1_0, if_neg c1_1, if_neg c1_2, if_neg c1_3, if_neg c1_4, if_neg c1_5, if_neg c1_6, if_pos c1_7])
                  subst hQ
                  rw [eR]
                  exact zr_ireti C d_X6_about_131
                · by_cases c1_8 : what = 8
                  · refine zr_tabIn C 132 (off := 131) d_X6_about_1 (by rw [c1_8]; decide) (by rw [c1_8]; decide) (by rw [c1_8]; rfl) (by decide) ?_
                    refine zr_aload_n C d_X6_about_132 rfl ?_
                    refine gf_Slots_5 C m232 d_X6_about_133 ?_
                    refine gf_Acts_2 C m197 d_X6_about_136 ?_
                    have eR : o_Slots_about h what = (h 41 1) := (by unfold o_Slots_about; rw [if_neg c1_0, if_neg c1_1, if_neg c1_2, if_neg c1_3, if_neg c1_4, if_neg c1_5, if_neg c1_6, if_neg c1_7, if_pos c1_8])
                    subst hQ
                    rw [eR]
                    exact zr_ireti C d_X6_about_139
                  · by_cases c1_9 : what = 9
                    · refine zr_tabIn C 140 (off := 139) d_X6_about_1 (by rw [c1_9]; decide) (by rw [c1_9]; decide) (by rw [c1_9]; rfl) (by decide) ?_
                      refine zr_aload_n C d_X6_about_140 rfl ?_
                      refine gf_Slots_7 C m234 d_X6_about_141 ?_
                      refine gf_Obs_3 C m217 d_X6_about_144 ?_
                      have eR : o_Slots_about h what = (h 46 0) := (by unfold o_Slots_about; rw [if_neg c1_0, if_neg c1_1, if_neg c1_2, if_neg c1_3, if_neg c1_4, if_neg c1_5, if_neg c1_6, if_neg c1_7, if_neg c1_8, if_pos c1_9])
                      subst hQ
                      rw [eR]
                      exact zr_ireti C d_X6_about_147
                    · by_cases c1_10 : what = 10
                      · refine zr_tabIn C 148 (off := 147) d_X6_about_1 (by rw [c1_10]; decide) (by rw [c1_10]; decide) (by rw [c1_10]; rfl) (by decide) ?_
                        refine zr_aload_n C d_X6_about_148 rfl ?_
                        refine gf_Slots_0 C m227 d_X6_about_149 ?_
                        refine gf_Text_1 C m82 d_X6_about_152 ?_
                        have eR : o_Slots_about h what = (h 1 0) := (by unfold o_Slots_about; rw [if_neg c1_0, if_neg c1_1, if_neg c1_2, if_neg c1_3, if_neg c1_4, if_neg c1_5, if_neg c1_6, if_neg c1_7, if_neg c1_8, if_neg c1_9, if_pos c1_10])
                        subst hQ
                        rw [eR]
                        exact zr_ireti C d_X6_about_155
                      · have w1_0 : (what : Int32).toInt ≠ 0 := zne_toInt c1_0 (by decide)
                        have w1_1 : (what : Int32).toInt ≠ 1 := zne_toInt c1_1 (by decide)
                        have w1_2 : (what : Int32).toInt ≠ 2 := zne_toInt c1_2 (by decide)
                        have w1_3 : (what : Int32).toInt ≠ 3 := zne_toInt c1_3 (by decide)
                        have w1_4 : (what : Int32).toInt ≠ 4 := zne_toInt c1_4 (by decide)
                        have w1_5 : (what : Int32).toInt ≠ 5 := zne_toInt c1_5 (by decide)
                        have w1_6 : (what : Int32).toInt ≠ 6 := zne_toInt c1_6 (by decide)
                        have w1_7 : (what : Int32).toInt ≠ 7 := zne_toInt c1_7 (by decide)
                        have w1_8 : (what : Int32).toInt ≠ 8 := zne_toInt c1_8 (by decide)
                        have w1_9 : (what : Int32).toInt ≠ 9 := zne_toInt c1_9 (by decide)
                        have w1_10 : (what : Int32).toInt ≠ 10 := zne_toInt c1_10 (by decide)
                        refine zr_tabOut C 156 d_X6_about_1 (by omega) (by decide) ?_
                        refine zr_bipush C (v := (-2)) d_X6_about_156 (by decide) ?_
                        have eR : o_Slots_about h what = (-2) := (by unfold o_Slots_about; rw [if_neg c1_0, if_neg c1_1, if_neg c1_2, if_neg c1_3, if_neg c1_4, if_neg c1_5, if_neg c1_6, if_neg c1_7, if_neg c1_8, if_neg c1_9, if_neg c1_10])
                        subst hQ
                        rw [eR]
                        exact zr_ireti C d_X6_about_158
theorem d_X6_station_0 : decode prog_1_method_7_code 0 = .ok (.aload_n 0, 1) := by decide +kernel
theorem d_X6_station_1 : decode prog_1_method_7_code 1 = .ok (.getfield 19, 3) := by decide +kernel
theorem d_X6_station_4 : decode prog_1_method_7_code 4 = .ok (.iload_n 1, 1) := by decide +kernel
theorem d_X6_station_5 : decode prog_1_method_7_code 5 = .ok (.invokevirtual 118, 3) := by decide +kernel
theorem d_X6_station_8 : decode prog_1_method_7_code 8 = .ok (.ifCond .ne 5, 3) := by decide +kernel
theorem d_X6_station_11 : decode prog_1_method_7_code 11 = .ok (.iconst (-1), 1) := by decide +kernel
theorem d_X6_station_12 : decode prog_1_method_7_code 12 = .ok (.ireturn, 1) := by decide +kernel
theorem d_X6_station_13 : decode prog_1_method_7_code 13 = .ok (.iload_n 2, 1) := by decide +kernel
theorem d_X6_station_14 : decode prog_1_method_7_code 14 = .ok (.tableswitch 152 0 9 #[54, 64, 74, 84, 94, 104, 114, 124, 134, 143], 54) := by decide +kernel
theorem d_X6_station_68 : decode prog_1_method_7_code 68 = .ok (.aload_n 0, 1) := by decide +kernel
theorem d_X6_station_69 : decode prog_1_method_7_code 69 = .ok (.getfield 19, 3) := by decide +kernel
theorem d_X6_station_72 : decode prog_1_method_7_code 72 = .ok (.getfield 122, 3) := by decide +kernel
theorem d_X6_station_75 : decode prog_1_method_7_code 75 = .ok (.iload_n 1, 1) := by decide +kernel
theorem d_X6_station_76 : decode prog_1_method_7_code 76 = .ok (.iaload, 1) := by decide +kernel
theorem d_X6_station_77 : decode prog_1_method_7_code 77 = .ok (.ireturn, 1) := by decide +kernel
theorem d_X6_station_78 : decode prog_1_method_7_code 78 = .ok (.aload_n 0, 1) := by decide +kernel
theorem d_X6_station_79 : decode prog_1_method_7_code 79 = .ok (.getfield 19, 3) := by decide +kernel
theorem d_X6_station_82 : decode prog_1_method_7_code 82 = .ok (.getfield 125, 3) := by decide +kernel
theorem d_X6_station_85 : decode prog_1_method_7_code 85 = .ok (.iload_n 1, 1) := by decide +kernel
theorem d_X6_station_86 : decode prog_1_method_7_code 86 = .ok (.iaload, 1) := by decide +kernel
theorem d_X6_station_87 : decode prog_1_method_7_code 87 = .ok (.ireturn, 1) := by decide +kernel
theorem d_X6_station_88 : decode prog_1_method_7_code 88 = .ok (.aload_n 0, 1) := by decide +kernel
theorem d_X6_station_89 : decode prog_1_method_7_code 89 = .ok (.getfield 19, 3) := by decide +kernel
theorem d_X6_station_92 : decode prog_1_method_7_code 92 = .ok (.getfield 128, 3) := by decide +kernel
theorem d_X6_station_95 : decode prog_1_method_7_code 95 = .ok (.iload_n 1, 1) := by decide +kernel
theorem d_X6_station_96 : decode prog_1_method_7_code 96 = .ok (.iaload, 1) := by decide +kernel
theorem d_X6_station_97 : decode prog_1_method_7_code 97 = .ok (.ireturn, 1) := by decide +kernel
theorem d_X6_station_98 : decode prog_1_method_7_code 98 = .ok (.aload_n 0, 1) := by decide +kernel
theorem d_X6_station_99 : decode prog_1_method_7_code 99 = .ok (.getfield 19, 3) := by decide +kernel
theorem d_X6_station_102 : decode prog_1_method_7_code 102 = .ok (.getfield 131, 3) := by decide +kernel
theorem d_X6_station_105 : decode prog_1_method_7_code 105 = .ok (.iload_n 1, 1) := by decide +kernel
theorem d_X6_station_106 : decode prog_1_method_7_code 106 = .ok (.iaload, 1) := by decide +kernel
theorem d_X6_station_107 : decode prog_1_method_7_code 107 = .ok (.ireturn, 1) := by decide +kernel
theorem d_X6_station_108 : decode prog_1_method_7_code 108 = .ok (.aload_n 0, 1) := by decide +kernel
theorem d_X6_station_109 : decode prog_1_method_7_code 109 = .ok (.getfield 19, 3) := by decide +kernel
theorem d_X6_station_112 : decode prog_1_method_7_code 112 = .ok (.getfield 134, 3) := by decide +kernel
theorem d_X6_station_115 : decode prog_1_method_7_code 115 = .ok (.iload_n 1, 1) := by decide +kernel
theorem d_X6_station_116 : decode prog_1_method_7_code 116 = .ok (.iaload, 1) := by decide +kernel
theorem d_X6_station_117 : decode prog_1_method_7_code 117 = .ok (.ireturn, 1) := by decide +kernel
theorem d_X6_station_118 : decode prog_1_method_7_code 118 = .ok (.aload_n 0, 1) := by decide +kernel
theorem d_X6_station_119 : decode prog_1_method_7_code 119 = .ok (.getfield 19, 3) := by decide +kernel
theorem d_X6_station_122 : decode prog_1_method_7_code 122 = .ok (.getfield 137, 3) := by decide +kernel
theorem d_X6_station_125 : decode prog_1_method_7_code 125 = .ok (.iload_n 1, 1) := by decide +kernel
theorem d_X6_station_126 : decode prog_1_method_7_code 126 = .ok (.iaload, 1) := by decide +kernel
theorem d_X6_station_127 : decode prog_1_method_7_code 127 = .ok (.ireturn, 1) := by decide +kernel
theorem d_X6_station_128 : decode prog_1_method_7_code 128 = .ok (.aload_n 0, 1) := by decide +kernel
theorem d_X6_station_129 : decode prog_1_method_7_code 129 = .ok (.getfield 19, 3) := by decide +kernel
theorem d_X6_station_132 : decode prog_1_method_7_code 132 = .ok (.getfield 140, 3) := by decide +kernel
theorem d_X6_station_135 : decode prog_1_method_7_code 135 = .ok (.iload_n 1, 1) := by decide +kernel
theorem d_X6_station_136 : decode prog_1_method_7_code 136 = .ok (.iaload, 1) := by decide +kernel
theorem d_X6_station_137 : decode prog_1_method_7_code 137 = .ok (.ireturn, 1) := by decide +kernel
theorem d_X6_station_138 : decode prog_1_method_7_code 138 = .ok (.aload_n 0, 1) := by decide +kernel
theorem d_X6_station_139 : decode prog_1_method_7_code 139 = .ok (.getfield 19, 3) := by decide +kernel
theorem d_X6_station_142 : decode prog_1_method_7_code 142 = .ok (.getfield 143, 3) := by decide +kernel
theorem d_X6_station_145 : decode prog_1_method_7_code 145 = .ok (.iload_n 1, 1) := by decide +kernel
theorem d_X6_station_146 : decode prog_1_method_7_code 146 = .ok (.iaload, 1) := by decide +kernel
theorem d_X6_station_147 : decode prog_1_method_7_code 147 = .ok (.ireturn, 1) := by decide +kernel
theorem d_X6_station_148 : decode prog_1_method_7_code 148 = .ok (.aload_n 0, 1) := by decide +kernel
theorem d_X6_station_149 : decode prog_1_method_7_code 149 = .ok (.getfield 19, 3) := by decide +kernel
theorem d_X6_station_152 : decode prog_1_method_7_code 152 = .ok (.iload_n 1, 1) := by decide +kernel
theorem d_X6_station_153 : decode prog_1_method_7_code 153 = .ok (.invokevirtual 146, 3) := by decide +kernel
theorem d_X6_station_156 : decode prog_1_method_7_code 156 = .ok (.ireturn, 1) := by decide +kernel
theorem d_X6_station_157 : decode prog_1_method_7_code 157 = .ok (.aload_n 0, 1) := by decide +kernel
theorem d_X6_station_158 : decode prog_1_method_7_code 158 = .ok (.getfield 19, 3) := by decide +kernel
theorem d_X6_station_161 : decode prog_1_method_7_code 161 = .ok (.iload_n 1, 1) := by decide +kernel
theorem d_X6_station_162 : decode prog_1_method_7_code 162 = .ok (.invokevirtual 150, 3) := by decide +kernel
theorem d_X6_station_165 : decode prog_1_method_7_code 165 = .ok (.ireturn, 1) := by decide +kernel
theorem d_X6_station_166 : decode prog_1_method_7_code 166 = .ok (.bipush (-2), 2) := by decide +kernel
theorem d_X6_station_168 : decode prog_1_method_7_code 168 = .ok (.ireturn, 1) := by decide +kernel
abbrev M_Slots_station : zMT := (⟨"PeriodSlots", "station", "(II)I"⟩, prog_1_method_7_code, 3, (some .int))
theorem k_Slots_station : zcall M_Slots_station 2 := ⟨zU_in (i := 445) (by decide +kernel) rfl, m54, ⟨by decide, by decide, by decide +kernel⟩, by decide⟩
def o_Slots_station (h : zHp) (station : Int32) (what : Int32) : Int32 :=
  (if (o_Mesh_exists h 3 station) = true then (if what = 0 then (h 4 (zcn station)) else (if what = 1 then (h 6 (zcn station)) else (if what = 2 then (h 7 (zcn station)) else (if what = 3 then (h 12 (zcn station)) else (if what = 4 then (h 13 (zcn station)) else (if what = 5 then (h 5 (zcn station)) else (if what = 6 then (h 9 (zcn station)) else (if what = 7 then (h 10 (zcn station)) else (if what = 8 then (o_Mesh_freeOffsets h 3 (zcn station)) else (if what = 9 then (o_Mesh_netOf h 3 station) else (-2))))))))))) else (-1))
set_option maxHeartbeats 400000 in
set_option maxRecDepth 20000 in
theorem c_Slots_station (X : zXT) (h : zHp) (g : zLg) (station : Int32) (what : Int32) (hf0 : zfit h 3 0 8) : zDi X M_Slots_station 3 [zR X 0, .int station, .int what] h g (zI (o_Slots_station h station what)) h g := by
  have hf0_1 := hf0.1
  refine zDi_of "PeriodSlots" prog_1_method_7_code 3 (some .int) rfl (by decide) [zO X 0, zI station, zI what] rfl (fun _ q => q) (Nat.le_of_ble_eq_true rfl) ?_
  intro Γ Q C hQ
  refine zr_aload_n C d_X6_station_0 rfl ?_
  refine gf_Slots_1 C m228 d_X6_station_1 ?_
  refine zr_iload_n C d_X6_station_4 rfl ?_
  refine zr_callVi (As := [.int station]) (st := []) (c := 3) C (c_Mesh_exists X h g 3 station (by decide)) k_Mesh_exists m446 m359 m360 (by decide) (zC_Mesh (by decide) X _ _) rfl rfl (by decide) rfl (Nat.le_of_ble_eq_true rfl) d_X6_station_5 ?_
  refine zr_ifz_ne C 13 d_X6_station_8 (by decide) (fun c8 => ?_) (fun c8 => ?_)
  · have ex1 := zex c8
    have ex1_2 := ex1.2
    have ex1_b := (hf0).1
    refine zr_iload_n C d_X6_station_13 rfl ?_
    by_cases c14_0 : what = 0
    · refine zr_tabIn C 68 (off := 54) d_X6_station_14 (by rw [c14_0]; decide) (by rw [c14_0]; decide) (by rw [c14_0]; rfl) (by decide) ?_
      refine zr_aload_n C d_X6_station_68 rfl ?_
      refine gf_Slots_1 C m228 d_X6_station_69 ?_
      refine gf_Mesh_3 C (by decide) m106 d_X6_station_72 ?_
      refine zr_iload_n C d_X6_station_75 rfl ?_
      refine zr_iald C za_4 (zcn station) (zix ex1.1) (by omega) (by decide) d_X6_station_76 ?_
      have eR : o_Slots_station h station what = (h 4 (zcn station)) := (by unfold o_Slots_station; rw [if_pos c8, if_pos c14_0])
      subst hQ
      rw [eR]
      exact zr_ireti C d_X6_station_77
    · by_cases c14_1 : what = 1
      · refine zr_tabIn C 78 (off := 64) d_X6_station_14 (by rw [c14_1]; decide) (by rw [c14_1]; decide) (by rw [c14_1]; rfl) (by decide) ?_
        refine zr_aload_n C d_X6_station_78 rfl ?_
        refine gf_Slots_1 C m228 d_X6_station_79 ?_
        refine gf_Mesh_5 C (by decide) m113 d_X6_station_82 ?_
        refine zr_iload_n C d_X6_station_85 rfl ?_
        refine zr_iald C za_6 (zcn station) (zix ex1.1) (by omega) (by decide) d_X6_station_86 ?_
        have eR : o_Slots_station h station what = (h 6 (zcn station)) := (by unfold o_Slots_station; rw [if_pos c8, if_neg c14_0, if_pos c14_1])
        subst hQ
        rw [eR]
        exact zr_ireti C d_X6_station_87
      · by_cases c14_2 : what = 2
        · refine zr_tabIn C 88 (off := 74) d_X6_station_14 (by rw [c14_2]; decide) (by rw [c14_2]; decide) (by rw [c14_2]; rfl) (by decide) ?_
          refine zr_aload_n C d_X6_station_88 rfl ?_
          refine gf_Slots_1 C m228 d_X6_station_89 ?_
          refine gf_Mesh_6 C (by decide) m116 d_X6_station_92 ?_
          refine zr_iload_n C d_X6_station_95 rfl ?_
          refine zr_iald C za_7 (zcn station) (zix ex1.1) (by omega) (by decide) d_X6_station_96 ?_
          have eR : o_Slots_station h station what = (h 7 (zcn station)) := (by unfold o_Slots_station; rw [if_pos c8, if_neg c14_0, if_neg c14_1, if_pos c14_2])
          subst hQ
          rw [eR]
          exact zr_ireti C d_X6_station_97
        · by_cases c14_3 : what = 3
          · refine zr_tabIn C 98 (off := 84) d_X6_station_14 (by rw [c14_3]; decide) (by rw [c14_3]; decide) (by rw [c14_3]; rfl) (by decide) ?_
            refine zr_aload_n C d_X6_station_98 rfl ?_
            refine gf_Slots_1 C m228 d_X6_station_99 ?_
            refine gf_Mesh_11 C (by decide) m125 d_X6_station_102 ?_
            refine zr_iload_n C d_X6_station_105 rfl ?_
            refine zr_iald C za_12 (zcn station) (zix ex1.1) (by omega) (by decide) d_X6_station_106 ?_
            have eR : o_Slots_station h station what = (h 12 (zcn station)) := (by unfold o_Slots_station; rw [if_pos c8, if_neg c14_0, if_neg c14_1, if_neg c14_2, if_pos c14_3])
            subst hQ
            rw [eR]
            exact zr_ireti C d_X6_station_107
          · by_cases c14_4 : what = 4
            · refine zr_tabIn C 108 (off := 94) d_X6_station_14 (by rw [c14_4]; decide) (by rw [c14_4]; decide) (by rw [c14_4]; rfl) (by decide) ?_
              refine zr_aload_n C d_X6_station_108 rfl ?_
              refine gf_Slots_1 C m228 d_X6_station_109 ?_
              refine gf_Mesh_12 C (by decide) m127 d_X6_station_112 ?_
              refine zr_iload_n C d_X6_station_115 rfl ?_
              refine zr_iald C za_13 (zcn station) (zix ex1.1) (by omega) (by decide) d_X6_station_116 ?_
              have eR : o_Slots_station h station what = (h 13 (zcn station)) := (by unfold o_Slots_station; rw [if_pos c8, if_neg c14_0, if_neg c14_1, if_neg c14_2, if_neg c14_3, if_pos c14_4])
              subst hQ
              rw [eR]
              exact zr_ireti C d_X6_station_117
            · by_cases c14_5 : what = 5
              · refine zr_tabIn C 118 (off := 104) d_X6_station_14 (by rw [c14_5]; decide) (by rw [c14_5]; decide) (by rw [c14_5]; rfl) (by decide) ?_
                refine zr_aload_n C d_X6_station_118 rfl ?_
                refine gf_Slots_1 C m228 d_X6_station_119 ?_
                refine gf_Mesh_4 C (by decide) m110 d_X6_station_122 ?_
                refine zr_iload_n C d_X6_station_125 rfl ?_
                refine zr_iald C za_5 (zcn station) (zix ex1.1) (by omega) (by decide) d_X6_station_126 ?_
                have eR : o_Slots_station h station what = (h 5 (zcn station)) := (by unfold o_Slots_station; rw [if_pos c8, if_neg c14_0, if_neg c14_1, if_neg c14_2, if_neg c14_3, if_neg c14_4, if_pos c14_5])
                subst hQ
                rw [eR]
                exact zr_ireti C d_X6_station_127
              · by_cases c14_6 : what = 6
                · refine zr_tabIn C 128 (off := 114) d_X6_station_14 (by rw [c14_6]; decide) (by rw [c14_6]; decide) (by rw [c14_6]; rfl) (by decide) ?_
                  refine zr_aload_n C d_X6_station_128 rfl ?_
                  refine gf_Slots_1 C m228 d_X6_station_129 ?_
                  refine gf_Mesh_8 C (by decide) m120 d_X6_station_132 ?_
                  refine zr_iload_n C d_X6_station_135 rfl ?_
                  refine zr_iald C za_9 (zcn station) (zix ex1.1) (by omega) (by decide) d_X6_station_136 ?_
                  have eR : o_Slots_station h station what = (h 9 (zcn station)) := (by unfold o_Slots_station; rw [if_pos c8, if_neg c14_0, if_neg c14_1, if_neg c14_2, if_neg c14_3, if_neg c14_4, if_neg c14_5, if_pos c14_6])
                  subst hQ
                  rw [eR]
                  exact zr_ireti C d_X6_station_137
                · by_cases c14_7 : what = 7
                  · refine zr_tabIn C 138 (off := 124) d_X6_station_14 (by rw [c14_7]; decide) (by rw [c14_7]; decide) (by rw [c14_7]; rfl) (by decide) ?_
                    refine zr_aload_n C d_X6_station_138 rfl ?_
                    refine gf_Slots_1 C m228 d_X6_station_139 ?_
                    refine gf_Mesh_9 C (by decide) m122 d_X6_station_142 ?_
                    refine zr_iload_n C d_X6_station_145 rfl ?_
                    refine zr_iald C za_10 (zcn station) (zix ex1.1) (by omega) (by decide) d_X6_station_146 ?_
                    have eR : o_Slots_station h station what = (h 10 (zcn station)) := (by unfold o_Slots_station; rw [if_pos c8, if_neg c14_0, if_neg c14_1, if_neg c14_2, if_neg c14_3, if_neg c14_4, if_neg c14_5, if_neg c14_6, if_pos c14_7])
                    subst hQ
                    rw [eR]
                    exact zr_ireti C d_X6_station_147
                  · by_cases c14_8 : what = 8
                    · refine zr_tabIn C 148 (off := 134) d_X6_station_14 (by rw [c14_8]; decide) (by rw [c14_8]; decide) (by rw [c14_8]; rfl) (by decide) ?_
                      refine zr_aload_n C d_X6_station_148 rfl ?_
                      refine gf_Slots_1 C m228 d_X6_station_149 ?_
                      refine zr_iload_n C d_X6_station_152 rfl ?_
                      refine zr_callVi (As := [.int station]) (st := []) (c := 3) C (c_Mesh_freeOffsets X h g 3 (zcn station) (zix ex1.1) (by decide) hf0 (by omega)) k_Mesh_freeOffsets m447 m420 m421 (by decide) (zC_Mesh (by decide) X _ _) rfl rfl (by decide) rfl (Nat.le_of_ble_eq_true rfl) d_X6_station_153 ?_
                      have eR : o_Slots_station h station what = (o_Mesh_freeOffsets h 3 (zcn station)) := (by unfold o_Slots_station; rw [if_pos c8, if_neg c14_0, if_neg c14_1, if_neg c14_2, if_neg c14_3, if_neg c14_4, if_neg c14_5, if_neg c14_6, if_neg c14_7, if_pos c14_8])
                      subst hQ
                      rw [eR]
                      exact zr_ireti C d_X6_station_156
                    · by_cases c14_9 : what = 9
                      · refine zr_tabIn C 157 (off := 143) d_X6_station_14 (by rw [c14_9]; decide) (by rw [c14_9]; decide) (by rw [c14_9]; rfl) (by decide) ?_
                        refine zr_aload_n C d_X6_station_157 rfl ?_
                        refine gf_Slots_1 C m228 d_X6_station_158 ?_
                        refine zr_iload_n C d_X6_station_161 rfl ?_
                        refine zr_callVi (As := [.int station]) (st := []) (c := 3) C (c_Mesh_netOf X h g 3 station (by decide) hf0) k_Mesh_netOf m448 m436 m437 (by decide) (zC_Mesh (by decide) X _ _) rfl rfl (by decide) rfl (Nat.le_of_ble_eq_true rfl) d_X6_station_162 ?_
                        have eR : o_Slots_station h station what = (o_Mesh_netOf h 3 station) := (by unfold o_Slots_station; rw [if_pos c8, if_neg c14_0, if_neg c14_1, if_neg c14_2, if_neg c14_3, if_neg c14_4, if_neg c14_5, if_neg c14_6, if_neg c14_7, if_neg c14_8, if_pos c14_9])
                        subst hQ
                        rw [eR]
                        exact zr_ireti C d_X6_station_165
                      · have w14_0 : (what : Int32).toInt ≠ 0 := zne_toInt c14_0 (by decide)
                        have w14_1 : (what : Int32).toInt ≠ 1 := zne_toInt c14_1 (by decide)
                        have w14_2 : (what : Int32).toInt ≠ 2 := zne_toInt c14_2 (by decide)
                        have w14_3 : (what : Int32).toInt ≠ 3 := zne_toInt c14_3 (by decide)
                        have w14_4 : (what : Int32).toInt ≠ 4 := zne_toInt c14_4 (by decide)
                        have w14_5 : (what : Int32).toInt ≠ 5 := zne_toInt c14_5 (by decide)
                        have w14_6 : (what : Int32).toInt ≠ 6 := zne_toInt c14_6 (by decide)
                        have w14_7 : (what : Int32).toInt ≠ 7 := zne_toInt c14_7 (by decide)
                        have w14_8 : (what : Int32).toInt ≠ 8 := zne_toInt c14_8 (by decide)
                        have w14_9 : (what : Int32).toInt ≠ 9 := zne_toInt c14_9 (by decide)
                        refine zr_tabOut C 166 d_X6_station_14 (by omega) (by decide) ?_
                        refine zr_bipush C (v := (-2)) d_X6_station_166 (by decide) ?_
                        have eR : o_Slots_station h station what = (-2) := (by unfold o_Slots_station; rw [if_pos c8, if_neg c14_0, if_neg c14_1, if_neg c14_2, if_neg c14_3, if_neg c14_4, if_neg c14_5, if_neg c14_6, if_neg c14_7, if_neg c14_8, if_neg c14_9])
                        subst hQ
                        rw [eR]
                        exact zr_ireti C d_X6_station_168
  · refine zr_iconst C (v := (-1)) d_X6_station_11 (by decide) ?_
    have eR : o_Slots_station h station what = (-1) := (by unfold o_Slots_station; rw [if_neg (zbf c8)])
    subst hQ
    rw [eR]
    exact zr_ireti C d_X6_station_12
theorem d_X6_round_0 : decode prog_1_method_8_code 0 = .ok (.aload_n 0, 1) := by decide +kernel
theorem d_X6_round_1 : decode prog_1_method_8_code 1 = .ok (.getfield 39, 3) := by decide +kernel
theorem d_X6_round_4 : decode prog_1_method_8_code 4 = .ok (.aload_n 0, 1) := by decide +kernel
theorem d_X6_round_5 : decode prog_1_method_8_code 5 = .ok (.getfield 19, 3) := by decide +kernel
theorem d_X6_round_8 : decode prog_1_method_8_code 8 = .ok (.invokevirtual 153, 3) := by decide +kernel
theorem d_X6_round_11 : decode prog_1_method_8_code 11 = .ok (.aload_n 0, 1) := by decide +kernel
theorem d_X6_round_12 : decode prog_1_method_8_code 12 = .ok (.getfield 19, 3) := by decide +kernel
theorem d_X6_round_15 : decode prog_1_method_8_code 15 = .ok (.invokevirtual 156, 3) := by decide +kernel
theorem d_X6_round_18 : decode prog_1_method_8_code 18 = .ok (.invokestatic 159, 3) := by decide +kernel
theorem d_X6_round_21 : decode prog_1_method_8_code 21 = .ok (.ireturn, 1) := by decide +kernel
abbrev M_Slots_round : zMT := (⟨"PeriodSlots", "round", "()I"⟩, prog_1_method_8_code, 1, (some .int))
theorem k_Slots_round : zcall M_Slots_round 0 := ⟨zU_in (i := 452) (by decide +kernel) rfl, m54, ⟨by decide, by decide, by decide +kernel⟩, by decide⟩
def o_Slots_round (h : zHp) : Int32 × zHp :=
  ((o_Int_bitCount ((o_Mesh_advance (o_Acts_remember h 3) 3).1)), ((o_Mesh_advance (o_Acts_remember h 3) 3).2))
theorem fr_Slots_round {h : zHp} (c k : Nat) (q0 : ¬ (c = 41 ∧ k = 0)) (q1 : ¬ (c = 41 ∧ k = 1)) (q2 : c ≠ 43) (q3 : ¬ (c = 42 ∧ k = 1)) (q4 : ¬ (c = 3 ∧ k = 1)) (q5 : c ≠ 6) (q6 : c ≠ 7) (q7 : c ≠ 10) (q8 : c ≠ 11) (q9 : c ≠ 12) (q10 : c ≠ 13) (q11 : c ≠ 14) : (o_Slots_round h).2 c k = h c k := by
  unfold o_Slots_round
  try dsimp only
  first | done | exact ((fr_Mesh_advance _ _ (by assumption) (by assumption) (by assumption) (by assumption) (by assumption) (by assumption) (by assumption) (by assumption)).trans (fr_Acts_remember _ _ (by assumption) (by assumption) (by assumption) (by assumption)))
set_option maxHeartbeats 400000 in
set_option maxRecDepth 20000 in
theorem c_Slots_round (X : zXT) (h : zHp) (g : zLg) (hf0 : zfit h 41 0 13) (hf1 : zfit h 41 1 14) (hf2 : zfit h 42 0 14) (hf3 : zfit h 3 0 8) : zDi X M_Slots_round 4 [zR X 0] h g (zI ((o_Slots_round h).1)) ((o_Slots_round h).2) g := by
  have hf0_1 := hf0.1
  have hf1_1 := hf1.1
  have hf2_1 := hf2.1
  have hf3_1 := hf3.1
  refine zDi_of "PeriodSlots" prog_1_method_8_code 1 (some .int) rfl (by decide) [zO X 0] rfl (fun _ q => q) (Nat.le_of_ble_eq_true rfl) ?_
  intro Γ Q C hQ
  refine zr_aload_n C d_X6_round_0 rfl ?_
  refine gf_Slots_5 C m232 d_X6_round_1 ?_
  refine zr_aload_n C d_X6_round_4 rfl ?_
  refine gf_Slots_1 C m228 d_X6_round_5 ?_
  refine zr_callVv (As := [zR X 3]) (st := []) (c := 41) C (c_Acts_remember X h g 3 (by decide) hf0 hf1 hf2) k_Acts_remember m453 m454 m455 (by decide) (zC_Acts X _ _) rfl rfl (by decide) rfl (Nat.le_of_ble_eq_true rfl) d_X6_round_8 ?_
  refine zr_h (fun h1 eh1 => ?_)
  have hph1 : zfit h1 41 0 13 := by rw [← eh1]; exact pf_rem0 hf0
  have hph1_1 := hph1.1
  have hph1 : zfit h1 41 1 14 := by rw [← eh1]; exact pf_rem1 hf1
  have hph1_1 := hph1.1
  refine zr_aload_n C d_X6_round_11 rfl ?_
  refine gf_Slots_1 C m228 d_X6_round_12 ?_
  refine zr_callVi (As := []) (st := []) (c := 3) C (c_Mesh_advance X h1 g 3 (by decide) (zfit_fr ((congrFun (congrFun eh1.symm _) _).trans (fr_Acts_remember _ _ (by omega) (by omega) (by omega) (by omega))) hf3)) k_Mesh_advance m465 m466 m467 (by decide) (zC_Mesh (by decide) X _ _) rfl rfl (by decide) rfl (Nat.le_of_ble_eq_true rfl) d_X6_round_15 ?_
  refine zr_vi (fun y2 ey2 => ?_)
  refine zr_h (fun h3 eh3 => ?_)
  refine zr_callSi (As := [.int y2]) (st := []) C (c_Int_bitCount X h3 g y2) k_Int_bitCount m480 m349 rfl (by decide) rfl (Nat.le_of_ble_eq_true rfl) d_X6_round_18 ?_
  have eR : o_Slots_round h = ((o_Int_bitCount y2), h3) := (by subst eh3 ey2 eh1; unfold o_Slots_round; exact rfl)
  subst hQ
  exact zTQ_Ih eR (zr_ireti C d_X6_round_21)
theorem zpair {h : zHp} {b : Nat} {i j : Int32} (e : o_Mesh_pairError h b i j = 0) : (¬ i < 0 ∧ zcn i < zcn (h b 0)) ∧ (¬ j < 0 ∧ zcn j < zcn (h b 0)) ∧ ¬ i = j := by
  unfold o_Mesh_pairError at e
  repeat' split at e
  all_goals first
    | (exact absurd e (by decide))
    | (refine ⟨zex (by assumption), zex (by assumption), by assumption⟩)
theorem zoffE {h : zHp} {b : Nat} {v o : Int32} (e : o_Mesh_offsetError h b v o = 0) : ¬ v < 0 ∧ zcn v < zcn (h b 0) := by
  unfold o_Mesh_offsetError at e
  repeat' split at e
  all_goals first
    | (exact absurd e (by decide))
    | (exact zex (by assumption))
theorem zdistE {h : zHp} {b : Nat} {v d : Int32} (e : o_Mesh_distanceError h b v d = 0) : ¬ v < 0 ∧ zcn v < zcn (h b 0) := by
  unfold o_Mesh_distanceError at e
  repeat' split at e
  all_goals first
    | (exact absurd e (by decide))
    | (exact zex (by assumption))

theorem d_X6_turn_0 : decode prog_1_method_9_code 0 = .ok (.aload_n 0, 1) := by decide +kernel
theorem d_X6_turn_1 : decode prog_1_method_9_code 1 = .ok (.getfield 19, 3) := by decide +kernel
theorem d_X6_turn_4 : decode prog_1_method_9_code 4 = .ok (.iload_n 1, 1) := by decide +kernel
theorem d_X6_turn_5 : decode prog_1_method_9_code 5 = .ok (.iload_n 2, 1) := by decide +kernel
theorem d_X6_turn_6 : decode prog_1_method_9_code 6 = .ok (.invokevirtual 164, 3) := by decide +kernel
theorem d_X6_turn_9 : decode prog_1_method_9_code 9 = .ok (.istore_n 3, 1) := by decide +kernel
theorem d_X6_turn_10 : decode prog_1_method_9_code 10 = .ok (.iload_n 3, 1) := by decide +kernel
theorem d_X6_turn_11 : decode prog_1_method_9_code 11 = .ok (.ifCond .eq 5, 3) := by decide +kernel
theorem d_X6_turn_14 : decode prog_1_method_9_code 14 = .ok (.iload_n 3, 1) := by decide +kernel
theorem d_X6_turn_15 : decode prog_1_method_9_code 15 = .ok (.ireturn, 1) := by decide +kernel
theorem d_X6_turn_16 : decode prog_1_method_9_code 16 = .ok (.aload_n 0, 1) := by decide +kernel
theorem d_X6_turn_17 : decode prog_1_method_9_code 17 = .ok (.getfield 39, 3) := by decide +kernel
theorem d_X6_turn_20 : decode prog_1_method_9_code 20 = .ok (.aload_n 0, 1) := by decide +kernel
theorem d_X6_turn_21 : decode prog_1_method_9_code 21 = .ok (.getfield 19, 3) := by decide +kernel
theorem d_X6_turn_24 : decode prog_1_method_9_code 24 = .ok (.invokevirtual 153, 3) := by decide +kernel
theorem d_X6_turn_27 : decode prog_1_method_9_code 27 = .ok (.aload_n 0, 1) := by decide +kernel
theorem d_X6_turn_28 : decode prog_1_method_9_code 28 = .ok (.getfield 19, 3) := by decide +kernel
theorem d_X6_turn_31 : decode prog_1_method_9_code 31 = .ok (.iload_n 1, 1) := by decide +kernel
theorem d_X6_turn_32 : decode prog_1_method_9_code 32 = .ok (.iload_n 2, 1) := by decide +kernel
theorem d_X6_turn_33 : decode prog_1_method_9_code 33 = .ok (.invokevirtual 168, 3) := by decide +kernel
theorem d_X6_turn_36 : decode prog_1_method_9_code 36 = .ok (.aload_n 0, 1) := by decide +kernel
theorem d_X6_turn_37 : decode prog_1_method_9_code 37 = .ok (.getfield 19, 3) := by decide +kernel
theorem d_X6_turn_40 : decode prog_1_method_9_code 40 = .ok (.getfield 137, 3) := by decide +kernel
theorem d_X6_turn_43 : decode prog_1_method_9_code 43 = .ok (.iload_n 1, 1) := by decide +kernel
theorem d_X6_turn_44 : decode prog_1_method_9_code 44 = .ok (.iaload, 1) := by decide +kernel
theorem d_X6_turn_45 : decode prog_1_method_9_code 45 = .ok (.iload_n 2, 1) := by decide +kernel
theorem d_X6_turn_46 : decode prog_1_method_9_code 46 = .ok (.invokestatic 172, 3) := by decide +kernel
theorem d_X6_turn_49 : decode prog_1_method_9_code 49 = .ok (.ifCond .eq 7, 3) := by decide +kernel
theorem d_X6_turn_52 : decode prog_1_method_9_code 52 = .ok (.iconst 1, 1) := by decide +kernel
theorem d_X6_turn_53 : decode prog_1_method_9_code 53 = .ok (.goto 4, 3) := by decide +kernel
theorem d_X6_turn_56 : decode prog_1_method_9_code 56 = .ok (.iconst 0, 1) := by decide +kernel
theorem d_X6_turn_57 : decode prog_1_method_9_code 57 = .ok (.ireturn, 1) := by decide +kernel
abbrev M_Slots_turn : zMT := (⟨"PeriodSlots", "turn", "(II)I"⟩, prog_1_method_9_code, 4, (some .int))
theorem k_Slots_turn : zcall M_Slots_turn 2 := ⟨zU_in (i := 484) (by decide +kernel) rfl, m54, ⟨by decide, by decide, by decide +kernel⟩, by decide⟩
def o_Slots_turn (h : zHp) (i : Int32) (j : Int32) : Int32 × zHp :=
  (if (o_Mesh_pairError h 3 i j) = 0 then ((zb (o_Slots_has ((o_Mesh_flipLink (o_Acts_remember h 3) 3 (zcn i) (zcn j)) 5 (zcn i)) j)), (o_Mesh_flipLink (o_Acts_remember h 3) 3 (zcn i) (zcn j))) else ((o_Mesh_pairError h 3 i j), h))
theorem fr_Slots_turn {h : zHp} {i : Int32} {j : Int32} (c k : Nat) (q0 : ¬ (c = 41 ∧ k = 0)) (q1 : ¬ (c = 41 ∧ k = 1)) (q2 : c ≠ 43) (q3 : ¬ (c = 42 ∧ k = 1)) (q4 : c ≠ 5) (q5 : c ≠ 7) (q6 : c ≠ 9) (q7 : c ≠ 10) (q8 : c ≠ 11) (q9 : c ≠ 12) (q10 : c ≠ 13) : (o_Slots_turn h i j).2 c k = h c k := by
  unfold o_Slots_turn
  by_cases f1 : (o_Mesh_pairError h 3 i j) = 0
  · rw [if_pos f1]
    try dsimp only
    first | done | exact ((fr_Mesh_flipLink _ _ (by assumption) (by assumption) (by assumption) (by assumption) (by assumption) (by assumption) (by assumption)).trans (fr_Acts_remember _ _ (by assumption) (by assumption) (by assumption) (by assumption)))
  · rw [if_neg f1]
    try dsimp only
    first | done | exact rfl
set_option maxHeartbeats 400000 in
set_option maxRecDepth 20000 in
theorem c_Slots_turn (X : zXT) (h : zHp) (g : zLg) (i : Int32) (j : Int32) (hf0 : zfit h 41 0 13) (hf1 : zfit h 41 1 14) (hf2 : zfit h 42 0 14) (hf3 : zfit h 3 0 8) : zDi X M_Slots_turn 4 [zR X 0, .int i, .int j] h g (zI ((o_Slots_turn h i j).1)) ((o_Slots_turn h i j).2) g := by
  have hf0_1 := hf0.1
  have hf1_1 := hf1.1
  have hf2_1 := hf2.1
  have hf3_1 := hf3.1
  refine zDi_of "PeriodSlots" prog_1_method_9_code 4 (some .int) rfl (by decide) [zO X 0, zI i, zI j, none] rfl (fun _ q => q) (Nat.le_of_ble_eq_true rfl) ?_
  intro Γ Q C hQ
  refine zr_aload_n C d_X6_turn_0 rfl ?_
  refine gf_Slots_1 C m228 d_X6_turn_1 ?_
  refine zr_iload_n C d_X6_turn_4 rfl ?_
  refine zr_iload_n C d_X6_turn_5 rfl ?_
  refine zr_callVi (As := [.int i, .int j]) (st := []) (c := 3) C (c_Mesh_pairError X h g 3 i j (by decide)) k_Mesh_pairError m485 m486 m487 (by decide) (zC_Mesh (by decide) X _ _) rfl rfl (by decide) rfl (Nat.le_of_ble_eq_true rfl) d_X6_turn_6 ?_
  refine zr_istore_n C [zO X 0, zI i, zI j, zI (o_Mesh_pairError h 3 i j)] d_X6_turn_9 (Nat.le_of_ble_eq_true rfl) rfl rfl ?_
  refine zr_iload_n C d_X6_turn_10 rfl ?_
  refine zr_if_eq C 16 d_X6_turn_11 (by decide) (fun c11 => ?_) (fun c11 => ?_)
  · have ex1 := zpair c11
    have ex1_2 := ex1.1.2
    have ex1_3 := ex1.2.1.2
    have ex1_b := (hf3).1
    refine zr_aload_n C d_X6_turn_16 rfl ?_
    refine gf_Slots_5 C m232 d_X6_turn_17 ?_
    refine zr_aload_n C d_X6_turn_20 rfl ?_
    refine gf_Slots_1 C m228 d_X6_turn_21 ?_
    refine zr_callVv (As := [zR X 3]) (st := []) (c := 41) C (c_Acts_remember X h g 3 (by decide) hf0 hf1 hf2) k_Acts_remember m453 m454 m455 (by decide) (zC_Acts X _ _) rfl rfl (by decide) rfl (Nat.le_of_ble_eq_true rfl) d_X6_turn_24 ?_
    refine zr_h (fun h2 eh2 => ?_)
    have hph2 : zfit h2 41 0 13 := by rw [← eh2]; exact pf_rem0 hf0
    have hph2_1 := hph2.1
    have hph2 : zfit h2 41 1 14 := by rw [← eh2]; exact pf_rem1 hf1
    have hph2_1 := hph2.1
    refine zr_aload_n C d_X6_turn_27 rfl ?_
    refine gf_Slots_1 C m228 d_X6_turn_28 ?_
    refine zr_iload_n C d_X6_turn_31 rfl ?_
    refine zr_iload_n C d_X6_turn_32 rfl ?_
    refine zr_callVv (As := [.int i, .int j]) (st := []) (c := 3) C (c_Mesh_flipLink X h2 g 3 (zcn i) (zcn j) (zix ex1.1.1) (zix ex1.2.1.1) (by decide) (zfit_fr ((congrFun (congrFun eh2.symm _) _).trans (fr_Acts_remember _ _ (by omega) (by omega) (by omega) (by omega))) hf3) (by omega) (by omega)) k_Mesh_flipLink m490 m368 m369 (by decide) (zC_Mesh (by decide) X _ _) rfl rfl (by decide) rfl (Nat.le_of_ble_eq_true rfl) d_X6_turn_33 ?_
    refine zr_h (fun h3 eh3 => ?_)
    refine zr_aload_n C d_X6_turn_36 rfl ?_
    refine gf_Slots_1 C m228 d_X6_turn_37 ?_
    refine gf_Mesh_4 C (by decide) m110 d_X6_turn_40 ?_
    refine zr_iload_n C d_X6_turn_43 rfl ?_
    refine zr_iald C za_5 (zcn i) (zix ex1.1.1) (by omega) (by decide) d_X6_turn_44 ?_
    refine zr_iload_n C d_X6_turn_45 rfl ?_
    refine zr_callSi (As := [.int (h3 5 (zcn i)), .int j]) (st := []) C (c_Slots_has X h3 g (h3 5 (zcn i)) j) k_Slots_has m491 m322 rfl (by decide) rfl (Nat.le_of_ble_eq_true rfl) d_X6_turn_46 ?_
    suffices hJ49 : ∀ (y4 : Bool), (o_Slots_has (h3 5 (zcn i)) j) = y4 → zV X Γ Q 57 [none, none, none, none] [.int (zb y4)] h3 g by
      refine zr_ifz_eq C 56 d_X6_turn_49 (by decide) (fun c49 => ?_) (fun c49 => ?_)
      · refine zr_iconst C (v := 0) d_X6_turn_56 (by decide) ?_
        refine zr_lv [none, none, none, none] (by simp [zle]) ?_
        exact hJ49 false (by simp [c49])
      · refine zr_iconst C (v := 1) d_X6_turn_52 (by decide) ?_
        refine zr_goto C 57 d_X6_turn_53 (by decide) ?_
        refine zr_lv [none, none, none, none] (by simp [zle]) ?_
        exact hJ49 true (by simp [c49])
    intro y4 ey4
    have eR : o_Slots_turn h i j = ((zb y4), h3) := (by subst ey4 eh3 eh2; unfold o_Slots_turn; rw [if_pos c11])
    subst hQ
    exact zTQ_Ih eR (zr_ireti C d_X6_turn_57)
  · refine zr_iload_n C d_X6_turn_14 rfl ?_
    have eR : o_Slots_turn h i j = ((o_Mesh_pairError h 3 i j), h) := (by unfold o_Slots_turn; rw [if_neg c11])
    subst hQ
    exact zTQ_Ih eR (zr_ireti C d_X6_turn_15)
theorem d_X6_lay_0 : decode prog_1_method_10_code 0 = .ok (.aload_n 0, 1) := by decide +kernel
theorem d_X6_lay_1 : decode prog_1_method_10_code 1 = .ok (.getfield 19, 3) := by decide +kernel
theorem d_X6_lay_4 : decode prog_1_method_10_code 4 = .ok (.iload_n 1, 1) := by decide +kernel
theorem d_X6_lay_5 : decode prog_1_method_10_code 5 = .ok (.iload_n 2, 1) := by decide +kernel
theorem d_X6_lay_6 : decode prog_1_method_10_code 6 = .ok (.invokevirtual 176, 3) := by decide +kernel
theorem d_X6_lay_9 : decode prog_1_method_10_code 9 = .ok (.istore_n 3, 1) := by decide +kernel
theorem d_X6_lay_10 : decode prog_1_method_10_code 10 = .ok (.iload_n 3, 1) := by decide +kernel
theorem d_X6_lay_11 : decode prog_1_method_10_code 11 = .ok (.ifCond .eq 5, 3) := by decide +kernel
theorem d_X6_lay_14 : decode prog_1_method_10_code 14 = .ok (.iload_n 3, 1) := by decide +kernel
theorem d_X6_lay_15 : decode prog_1_method_10_code 15 = .ok (.ireturn, 1) := by decide +kernel
theorem d_X6_lay_16 : decode prog_1_method_10_code 16 = .ok (.aload_n 0, 1) := by decide +kernel
theorem d_X6_lay_17 : decode prog_1_method_10_code 17 = .ok (.getfield 39, 3) := by decide +kernel
theorem d_X6_lay_20 : decode prog_1_method_10_code 20 = .ok (.aload_n 0, 1) := by decide +kernel
theorem d_X6_lay_21 : decode prog_1_method_10_code 21 = .ok (.getfield 19, 3) := by decide +kernel
theorem d_X6_lay_24 : decode prog_1_method_10_code 24 = .ok (.invokevirtual 153, 3) := by decide +kernel
theorem d_X6_lay_27 : decode prog_1_method_10_code 27 = .ok (.aload_n 0, 1) := by decide +kernel
theorem d_X6_lay_28 : decode prog_1_method_10_code 28 = .ok (.getfield 19, 3) := by decide +kernel
theorem d_X6_lay_31 : decode prog_1_method_10_code 31 = .ok (.getfield 125, 3) := by decide +kernel
theorem d_X6_lay_34 : decode prog_1_method_10_code 34 = .ok (.iload_n 1, 1) := by decide +kernel
theorem d_X6_lay_35 : decode prog_1_method_10_code 35 = .ok (.iaload, 1) := by decide +kernel
theorem d_X6_lay_36 : decode prog_1_method_10_code 36 = .ok (.istore 4, 2) := by decide +kernel
theorem d_X6_lay_38 : decode prog_1_method_10_code 38 = .ok (.aload_n 0, 1) := by decide +kernel
theorem d_X6_lay_39 : decode prog_1_method_10_code 39 = .ok (.getfield 19, 3) := by decide +kernel
theorem d_X6_lay_42 : decode prog_1_method_10_code 42 = .ok (.iload_n 1, 1) := by decide +kernel
theorem d_X6_lay_43 : decode prog_1_method_10_code 43 = .ok (.iload_n 2, 1) := by decide +kernel
theorem d_X6_lay_44 : decode prog_1_method_10_code 44 = .ok (.invokevirtual 179, 3) := by decide +kernel
theorem d_X6_lay_47 : decode prog_1_method_10_code 47 = .ok (.iload 4, 2) := by decide +kernel
theorem d_X6_lay_49 : decode prog_1_method_10_code 49 = .ok (.ireturn, 1) := by decide +kernel
abbrev M_Slots_lay : zMT := (⟨"PeriodSlots", "lay", "(II)I"⟩, prog_1_method_10_code, 5, (some .int))
theorem k_Slots_lay : zcall M_Slots_lay 2 := ⟨zU_in (i := 495) (by decide +kernel) rfl, m54, ⟨by decide, by decide, by decide +kernel⟩, by decide⟩
def o_Slots_lay (h : zHp) (station : Int32) (offset : Int32) : Int32 × zHp :=
  (if (o_Mesh_offsetError h 3 station offset) = 0 then (((o_Acts_remember h 3) 6 (zcn station)), (o_Mesh_place (o_Acts_remember h 3) 3 (zcn station) offset)) else ((o_Mesh_offsetError h 3 station offset), h))
theorem fr_Slots_lay {h : zHp} {station : Int32} {offset : Int32} (c k : Nat) (q0 : ¬ (c = 41 ∧ k = 0)) (q1 : ¬ (c = 41 ∧ k = 1)) (q2 : c ≠ 43) (q3 : ¬ (c = 42 ∧ k = 1)) (q4 : c ≠ 6) (q5 : c ≠ 7) (q6 : c ≠ 12) (q7 : c ≠ 13) : (o_Slots_lay h station offset).2 c k = h c k := by
  unfold o_Slots_lay
  by_cases f1 : (o_Mesh_offsetError h 3 station offset) = 0
  · rw [if_pos f1]
    try dsimp only
    first | done | exact ((fr_Mesh_place _ _ (by assumption) (by assumption) (by assumption) (by assumption)).trans (fr_Acts_remember _ _ (by assumption) (by assumption) (by assumption) (by assumption)))
  · rw [if_neg f1]
    try dsimp only
    first | done | exact rfl
set_option maxHeartbeats 400000 in
set_option maxRecDepth 20000 in
theorem c_Slots_lay (X : zXT) (h : zHp) (g : zLg) (station : Int32) (offset : Int32) (hf0 : zfit h 41 0 13) (hf1 : zfit h 41 1 14) (hf2 : zfit h 42 0 14) (hf3 : zfit h 3 0 8) : zDi X M_Slots_lay 4 [zR X 0, .int station, .int offset] h g (zI ((o_Slots_lay h station offset).1)) ((o_Slots_lay h station offset).2) g := by
  have hf0_1 := hf0.1
  have hf1_1 := hf1.1
  have hf2_1 := hf2.1
  have hf3_1 := hf3.1
  refine zDi_of "PeriodSlots" prog_1_method_10_code 5 (some .int) rfl (by decide) [zO X 0, zI station, zI offset, none, none] rfl (fun _ q => q) (Nat.le_of_ble_eq_true rfl) ?_
  intro Γ Q C hQ
  refine zr_aload_n C d_X6_lay_0 rfl ?_
  refine gf_Slots_1 C m228 d_X6_lay_1 ?_
  refine zr_iload_n C d_X6_lay_4 rfl ?_
  refine zr_iload_n C d_X6_lay_5 rfl ?_
  refine zr_callVi (As := [.int station, .int offset]) (st := []) (c := 3) C (c_Mesh_offsetError X h g 3 station offset (by decide) hf3) k_Mesh_offsetError m496 m497 m498 (by decide) (zC_Mesh (by decide) X _ _) rfl rfl (by decide) rfl (Nat.le_of_ble_eq_true rfl) d_X6_lay_6 ?_
  refine zr_istore_n C [zO X 0, zI station, zI offset, zI (o_Mesh_offsetError h 3 station offset), none] d_X6_lay_9 (Nat.le_of_ble_eq_true rfl) rfl rfl ?_
  refine zr_iload_n C d_X6_lay_10 rfl ?_
  refine zr_if_eq C 16 d_X6_lay_11 (by decide) (fun c11 => ?_) (fun c11 => ?_)
  · have ex1 := zoffE c11
    have ex1_2 := ex1.2
    have ex1_b := (hf3).1
    refine zr_aload_n C d_X6_lay_16 rfl ?_
    refine gf_Slots_5 C m232 d_X6_lay_17 ?_
    refine zr_aload_n C d_X6_lay_20 rfl ?_
    refine gf_Slots_1 C m228 d_X6_lay_21 ?_
    refine zr_callVv (As := [zR X 3]) (st := []) (c := 41) C (c_Acts_remember X h g 3 (by decide) hf0 hf1 hf2) k_Acts_remember m453 m454 m455 (by decide) (zC_Acts X _ _) rfl rfl (by decide) rfl (Nat.le_of_ble_eq_true rfl) d_X6_lay_24 ?_
    refine zr_h (fun h2 eh2 => ?_)
    have hph2 : zfit h2 41 0 13 := by rw [← eh2]; exact pf_rem0 hf0
    have hph2_1 := hph2.1
    have hph2 : zfit h2 41 1 14 := by rw [← eh2]; exact pf_rem1 hf1
    have hph2_1 := hph2.1
    refine zr_aload_n C d_X6_lay_27 rfl ?_
    refine gf_Slots_1 C m228 d_X6_lay_28 ?_
    refine gf_Mesh_5 C (by decide) m113 d_X6_lay_31 ?_
    refine zr_iload_n C d_X6_lay_34 rfl ?_
    refine zr_iald C za_6 (zcn station) (zix ex1.1) (by omega) (by decide) d_X6_lay_35 ?_
    refine zr_istore C [zO X 0, zI station, zI offset, zI (o_Mesh_offsetError h 3 station offset), zI (h2 6 (zcn station))] d_X6_lay_36 (Nat.le_of_ble_eq_true rfl) rfl rfl ?_
    refine zr_aload_n C d_X6_lay_38 rfl ?_
    refine gf_Slots_1 C m228 d_X6_lay_39 ?_
    refine zr_iload_n C d_X6_lay_42 rfl ?_
    refine zr_iload_n C d_X6_lay_43 rfl ?_
    refine zr_callVv (As := [.int station, .int offset]) (st := []) (c := 3) C (c_Mesh_place X h2 g 3 (zcn station) offset (zix ex1.1) (by decide) (zfit_fr ((congrFun (congrFun eh2.symm _) _).trans (fr_Acts_remember _ _ (by omega) (by omega) (by omega) (by omega))) hf3) (by omega)) k_Mesh_place m500 m501 m502 (by decide) (zC_Mesh (by decide) X _ _) rfl rfl (by decide) rfl (Nat.le_of_ble_eq_true rfl) d_X6_lay_44 ?_
    refine zr_h (fun h3 eh3 => ?_)
    refine zr_iload C d_X6_lay_47 rfl ?_
    have eR : o_Slots_lay h station offset = ((h2 6 (zcn station)), h3) := (by subst eh3 eh2; unfold o_Slots_lay; rw [if_pos c11])
    subst hQ
    exact zTQ_Ih eR (zr_ireti C d_X6_lay_49)
  · refine zr_iload_n C d_X6_lay_14 rfl ?_
    have eR : o_Slots_lay h station offset = ((o_Mesh_offsetError h 3 station offset), h) := (by unfold o_Slots_lay; rw [if_neg c11])
    subst hQ
    exact zTQ_Ih eR (zr_ireti C d_X6_lay_15)
theorem d_X6_shift_0 : decode prog_1_method_11_code 0 = .ok (.aload_n 0, 1) := by decide +kernel
theorem d_X6_shift_1 : decode prog_1_method_11_code 1 = .ok (.getfield 19, 3) := by decide +kernel
theorem d_X6_shift_4 : decode prog_1_method_11_code 4 = .ok (.iload_n 1, 1) := by decide +kernel
theorem d_X6_shift_5 : decode prog_1_method_11_code 5 = .ok (.iload_n 2, 1) := by decide +kernel
theorem d_X6_shift_6 : decode prog_1_method_11_code 6 = .ok (.invokevirtual 182, 3) := by decide +kernel
theorem d_X6_shift_9 : decode prog_1_method_11_code 9 = .ok (.istore_n 3, 1) := by decide +kernel
theorem d_X6_shift_10 : decode prog_1_method_11_code 10 = .ok (.iload_n 3, 1) := by decide +kernel
theorem d_X6_shift_11 : decode prog_1_method_11_code 11 = .ok (.ifCond .eq 5, 3) := by decide +kernel
theorem d_X6_shift_14 : decode prog_1_method_11_code 14 = .ok (.iload_n 3, 1) := by decide +kernel
theorem d_X6_shift_15 : decode prog_1_method_11_code 15 = .ok (.ireturn, 1) := by decide +kernel
theorem d_X6_shift_16 : decode prog_1_method_11_code 16 = .ok (.aload_n 0, 1) := by decide +kernel
theorem d_X6_shift_17 : decode prog_1_method_11_code 17 = .ok (.getfield 39, 3) := by decide +kernel
theorem d_X6_shift_20 : decode prog_1_method_11_code 20 = .ok (.aload_n 0, 1) := by decide +kernel
theorem d_X6_shift_21 : decode prog_1_method_11_code 21 = .ok (.getfield 19, 3) := by decide +kernel
theorem d_X6_shift_24 : decode prog_1_method_11_code 24 = .ok (.invokevirtual 153, 3) := by decide +kernel
theorem d_X6_shift_27 : decode prog_1_method_11_code 27 = .ok (.aload_n 0, 1) := by decide +kernel
theorem d_X6_shift_28 : decode prog_1_method_11_code 28 = .ok (.getfield 19, 3) := by decide +kernel
theorem d_X6_shift_31 : decode prog_1_method_11_code 31 = .ok (.aload_n 0, 1) := by decide +kernel
theorem d_X6_shift_32 : decode prog_1_method_11_code 32 = .ok (.getfield 19, 3) := by decide +kernel
theorem d_X6_shift_35 : decode prog_1_method_11_code 35 = .ok (.iload_n 1, 1) := by decide +kernel
theorem d_X6_shift_36 : decode prog_1_method_11_code 36 = .ok (.invokevirtual 150, 3) := by decide +kernel
theorem d_X6_shift_39 : decode prog_1_method_11_code 39 = .ok (.iload_n 2, 1) := by decide +kernel
theorem d_X6_shift_40 : decode prog_1_method_11_code 40 = .ok (.invokevirtual 185, 3) := by decide +kernel
theorem d_X6_shift_43 : decode prog_1_method_11_code 43 = .ok (.aload_n 0, 1) := by decide +kernel
theorem d_X6_shift_44 : decode prog_1_method_11_code 44 = .ok (.getfield 19, 3) := by decide +kernel
theorem d_X6_shift_47 : decode prog_1_method_11_code 47 = .ok (.invokevirtual 95, 3) := by decide +kernel
theorem d_X6_shift_50 : decode prog_1_method_11_code 50 = .ok (.ireturn, 1) := by decide +kernel
abbrev M_Slots_shift : zMT := (⟨"PeriodSlots", "shift", "(II)I"⟩, prog_1_method_11_code, 4, (some .int))
theorem k_Slots_shift : zcall M_Slots_shift 2 := ⟨zU_in (i := 507) (by decide +kernel) rfl, m54, ⟨by decide, by decide, by decide +kernel⟩, by decide⟩
def o_Slots_shift (h : zHp) (station : Int32) (d : Int32) : Int32 × zHp :=
  (if (o_Mesh_distanceError h 3 station d) = 0 then ((o_Mesh_conflicts (o_Mesh_moveAll (o_Acts_remember h 3) 3 (o_Mesh_netOf (o_Acts_remember h 3) 3 station) d) 3), (o_Mesh_moveAll (o_Acts_remember h 3) 3 (o_Mesh_netOf (o_Acts_remember h 3) 3 station) d)) else ((o_Mesh_distanceError h 3 station d), h))
theorem fr_Slots_shift {h : zHp} {station : Int32} {d : Int32} (c k : Nat) (q0 : ¬ (c = 41 ∧ k = 0)) (q1 : ¬ (c = 41 ∧ k = 1)) (q2 : c ≠ 43) (q3 : ¬ (c = 42 ∧ k = 1)) (q4 : c ≠ 6) (q5 : c ≠ 7) (q6 : c ≠ 12) (q7 : c ≠ 13) : (o_Slots_shift h station d).2 c k = h c k := by
  unfold o_Slots_shift
  by_cases f1 : (o_Mesh_distanceError h 3 station d) = 0
  · rw [if_pos f1]
    try dsimp only
    first | done | exact ((fr_Mesh_moveAll _ _ (by assumption) (by assumption) (by assumption) (by assumption)).trans (fr_Acts_remember _ _ (by assumption) (by assumption) (by assumption) (by assumption)))
  · rw [if_neg f1]
    try dsimp only
    first | done | exact rfl
set_option maxHeartbeats 400000 in
set_option maxRecDepth 20000 in
theorem c_Slots_shift (X : zXT) (h : zHp) (g : zLg) (station : Int32) (d : Int32) (hf0 : zfit h 41 0 13) (hf1 : zfit h 41 1 14) (hf2 : zfit h 42 0 14) (hf3 : zfit h 3 0 8) : zDi X M_Slots_shift 4 [zR X 0, .int station, .int d] h g (zI ((o_Slots_shift h station d).1)) ((o_Slots_shift h station d).2) g := by
  have hf0_1 := hf0.1
  have hf1_1 := hf1.1
  have hf2_1 := hf2.1
  have hf3_1 := hf3.1
  refine zDi_of "PeriodSlots" prog_1_method_11_code 4 (some .int) rfl (by decide) [zO X 0, zI station, zI d, none] rfl (fun _ q => q) (Nat.le_of_ble_eq_true rfl) ?_
  intro Γ Q C hQ
  refine zr_aload_n C d_X6_shift_0 rfl ?_
  refine gf_Slots_1 C m228 d_X6_shift_1 ?_
  refine zr_iload_n C d_X6_shift_4 rfl ?_
  refine zr_iload_n C d_X6_shift_5 rfl ?_
  refine zr_callVi (As := [.int station, .int d]) (st := []) (c := 3) C (c_Mesh_distanceError X h g 3 station d (by decide)) k_Mesh_distanceError m508 m509 m510 (by decide) (zC_Mesh (by decide) X _ _) rfl rfl (by decide) rfl (Nat.le_of_ble_eq_true rfl) d_X6_shift_6 ?_
  refine zr_istore_n C [zO X 0, zI station, zI d, zI (o_Mesh_distanceError h 3 station d)] d_X6_shift_9 (Nat.le_of_ble_eq_true rfl) rfl rfl ?_
  refine zr_iload_n C d_X6_shift_10 rfl ?_
  refine zr_if_eq C 16 d_X6_shift_11 (by decide) (fun c11 => ?_) (fun c11 => ?_)
  · have ex1 := zdistE c11
    have ex1_2 := ex1.2
    have ex1_b := (hf3).1
    refine zr_aload_n C d_X6_shift_16 rfl ?_
    refine gf_Slots_5 C m232 d_X6_shift_17 ?_
    refine zr_aload_n C d_X6_shift_20 rfl ?_
    refine gf_Slots_1 C m228 d_X6_shift_21 ?_
    refine zr_callVv (As := [zR X 3]) (st := []) (c := 41) C (c_Acts_remember X h g 3 (by decide) hf0 hf1 hf2) k_Acts_remember m453 m454 m455 (by decide) (zC_Acts X _ _) rfl rfl (by decide) rfl (Nat.le_of_ble_eq_true rfl) d_X6_shift_24 ?_
    refine zr_h (fun h2 eh2 => ?_)
    have hph2 : zfit h2 41 0 13 := by rw [← eh2]; exact pf_rem0 hf0
    have hph2_1 := hph2.1
    have hph2 : zfit h2 41 1 14 := by rw [← eh2]; exact pf_rem1 hf1
    have hph2_1 := hph2.1
    refine zr_aload_n C d_X6_shift_27 rfl ?_
    refine gf_Slots_1 C m228 d_X6_shift_28 ?_
    refine zr_aload_n C d_X6_shift_31 rfl ?_
    refine gf_Slots_1 C m228 d_X6_shift_32 ?_
    refine zr_iload_n C d_X6_shift_35 rfl ?_
    refine zr_callVi (As := [.int station]) (st := [zR X 3]) (c := 3) C (c_Mesh_netOf X h2 g 3 station (by decide) (zfit_fr ((congrFun (congrFun eh2.symm _) _).trans (fr_Acts_remember _ _ (by omega) (by omega) (by omega) (by omega))) hf3)) k_Mesh_netOf m448 m436 m437 (by decide) (zC_Mesh (by decide) X _ _) rfl rfl (by decide) rfl (Nat.le_of_ble_eq_true rfl) d_X6_shift_36 ?_
    refine zr_iload_n C d_X6_shift_39 rfl ?_
    refine zr_callVv (As := [.int (o_Mesh_netOf h2 3 station), .int d]) (st := []) (c := 3) C (c_Mesh_moveAll X h2 g 3 (o_Mesh_netOf h2 3 station) d (by decide) (zfit_fr ((congrFun (congrFun eh2.symm _) _).trans (fr_Acts_remember _ _ (by omega) (by omega) (by omega) (by omega))) hf3)) k_Mesh_moveAll m512 m513 m514 (by decide) (zC_Mesh (by decide) X _ _) rfl rfl (by decide) rfl (Nat.le_of_ble_eq_true rfl) d_X6_shift_40 ?_
    refine zr_h (fun h3 eh3 => ?_)
    refine zr_aload_n C d_X6_shift_43 rfl ?_
    refine gf_Slots_1 C m228 d_X6_shift_44 ?_
    refine zr_callVi (As := []) (st := []) (c := 3) C (c_Mesh_conflicts X h3 g 3 (by decide) (zfit_fr ((congrFun (congrFun eh3.symm _) _).trans ((fr_Mesh_moveAll _ _ (by omega) (by omega) (by omega) (by omega)).trans ((congrFun (congrFun eh2.symm _) _).trans (fr_Acts_remember _ _ (by omega) (by omega) (by omega) (by omega))))) hf3)) k_Mesh_conflicts m398 m399 m400 (by decide) (zC_Mesh (by decide) X _ _) rfl rfl (by decide) rfl (Nat.le_of_ble_eq_true rfl) d_X6_shift_47 ?_
    have eR : o_Slots_shift h station d = ((o_Mesh_conflicts h3 3), h3) := (by subst eh3 eh2; unfold o_Slots_shift; rw [if_pos c11])
    subst hQ
    exact zTQ_Ih eR (zr_ireti C d_X6_shift_50)
  · refine zr_iload_n C d_X6_shift_14 rfl ?_
    have eR : o_Slots_shift h station d = ((o_Mesh_distanceError h 3 station d), h) := (by unfold o_Slots_shift; rw [if_neg c11])
    subst hQ
    exact zTQ_Ih eR (zr_ireti C d_X6_shift_15)
theorem d_X6_netToMove_0 : decode prog_1_method_13_code 0 = .ok (.iload_n 0, 1) := by decide +kernel
theorem d_X6_netToMove_1 : decode prog_1_method_13_code 1 = .ok (.invokestatic 159, 3) := by decide +kernel
theorem d_X6_netToMove_4 : decode prog_1_method_13_code 4 = .ok (.iload_n 1, 1) := by decide +kernel
theorem d_X6_netToMove_5 : decode prog_1_method_13_code 5 = .ok (.invokestatic 159, 3) := by decide +kernel
theorem d_X6_netToMove_8 : decode prog_1_method_13_code 8 = .ok (.isub, 1) := by decide +kernel
theorem d_X6_netToMove_9 : decode prog_1_method_13_code 9 = .ok (.istore_n 2, 1) := by decide +kernel
theorem d_X6_netToMove_10 : decode prog_1_method_13_code 10 = .ok (.iload_n 2, 1) := by decide +kernel
theorem d_X6_netToMove_11 : decode prog_1_method_13_code 11 = .ok (.ifCond .ne 13, 3) := by decide +kernel
theorem d_X6_netToMove_14 : decode prog_1_method_13_code 14 = .ok (.iload_n 1, 1) := by decide +kernel
theorem d_X6_netToMove_15 : decode prog_1_method_13_code 15 = .ok (.invokestatic 194, 3) := by decide +kernel
theorem d_X6_netToMove_18 : decode prog_1_method_13_code 18 = .ok (.iload_n 0, 1) := by decide +kernel
theorem d_X6_netToMove_19 : decode prog_1_method_13_code 19 = .ok (.invokestatic 194, 3) := by decide +kernel
theorem d_X6_netToMove_22 : decode prog_1_method_13_code 22 = .ok (.isub, 1) := by decide +kernel
theorem d_X6_netToMove_23 : decode prog_1_method_13_code 23 = .ok (.istore_n 2, 1) := by decide +kernel
theorem d_X6_netToMove_24 : decode prog_1_method_13_code 24 = .ok (.iload_n 2, 1) := by decide +kernel
theorem d_X6_netToMove_25 : decode prog_1_method_13_code 25 = .ok (.ifCond .ge 7, 3) := by decide +kernel
theorem d_X6_netToMove_28 : decode prog_1_method_13_code 28 = .ok (.iload_n 0, 1) := by decide +kernel
theorem d_X6_netToMove_29 : decode prog_1_method_13_code 29 = .ok (.goto 4, 3) := by decide +kernel
theorem d_X6_netToMove_32 : decode prog_1_method_13_code 32 = .ok (.iload_n 1, 1) := by decide +kernel
theorem d_X6_netToMove_33 : decode prog_1_method_13_code 33 = .ok (.ireturn, 1) := by decide +kernel
abbrev M_Slots_netToMove : zMT := (⟨"PeriodSlots", "netToMove", "(II)I"⟩, prog_1_method_13_code, 3, (some .int))
theorem k_Slots_netToMove : zcall M_Slots_netToMove 2 := ⟨zU_in (i := 522) (by decide +kernel) rfl, m54, ⟨by decide, by decide, by decide +kernel⟩, by decide⟩
def o_Slots_netToMove (one : Int32) (other : Int32) : Int32 :=
  (if 0 ≤ (if ((o_Int_bitCount one) - (o_Int_bitCount other)) = 0 then ((o_Int_lowestOneBit other) - (o_Int_lowestOneBit one)) else ((o_Int_bitCount one) - (o_Int_bitCount other))) then other else one)
set_option maxHeartbeats 400000 in
set_option maxRecDepth 20000 in
theorem c_Slots_netToMove (X : zXT) (h : zHp) (g : zLg) (one : Int32) (other : Int32) : zDi X M_Slots_netToMove 1 [.int one, .int other] h g (zI (o_Slots_netToMove one other)) h g := by
  refine zDi_of "PeriodSlots" prog_1_method_13_code 3 (some .int) rfl (by decide) [zI one, zI other, none] rfl (fun _ q => q) (Nat.le_of_ble_eq_true rfl) ?_
  intro Γ Q C hQ
  refine zr_iload_n C d_X6_netToMove_0 rfl ?_
  refine zr_callSi (As := [.int one]) (st := []) C (c_Int_bitCount X h g one) k_Int_bitCount m480 m349 rfl (by decide) rfl (Nat.le_of_ble_eq_true rfl) d_X6_netToMove_1 ?_
  refine zr_iload_n C d_X6_netToMove_4 rfl ?_
  refine zr_callSi (As := [.int other]) (st := [.int (o_Int_bitCount one)]) C (c_Int_bitCount X h g other) k_Int_bitCount m480 m349 rfl (by decide) rfl (Nat.le_of_ble_eq_true rfl) d_X6_netToMove_5 ?_
  refine zr_isub C d_X6_netToMove_8 ?_
  refine zr_istore_n C [zI one, zI other, zI ((o_Int_bitCount one) - (o_Int_bitCount other))] d_X6_netToMove_9 (Nat.le_of_ble_eq_true rfl) rfl rfl ?_
  refine zr_iload_n C d_X6_netToMove_10 rfl ?_
  suffices hJ11 : ∀ (y1 : Int32), (if ((o_Int_bitCount one) - (o_Int_bitCount other)) = 0 then ((o_Int_lowestOneBit other) - (o_Int_lowestOneBit one)) else ((o_Int_bitCount one) - (o_Int_bitCount other))) = y1 → zV X Γ Q 24 [zI one, zI other, zI y1] [] h g by
    refine zr_if_ne C 24 d_X6_netToMove_11 (by decide) (fun c11 => ?_) (fun c11 => ?_)
    · exact hJ11 ((o_Int_bitCount one) - (o_Int_bitCount other)) (((if_neg c11)))
    · refine zr_iload_n C d_X6_netToMove_14 rfl ?_
      refine zr_callSi (As := [.int other]) (st := []) C (c_Int_lowestOneBit X h g other) k_Int_lowestOneBit m523 m440 rfl (by decide) rfl (Nat.le_of_ble_eq_true rfl) d_X6_netToMove_15 ?_
      refine zr_iload_n C d_X6_netToMove_18 rfl ?_
      refine zr_callSi (As := [.int one]) (st := [.int (o_Int_lowestOneBit other)]) C (c_Int_lowestOneBit X h g one) k_Int_lowestOneBit m523 m440 rfl (by decide) rfl (Nat.le_of_ble_eq_true rfl) d_X6_netToMove_19 ?_
      refine zr_isub C d_X6_netToMove_22 ?_
      refine zr_istore_n C [zI one, zI other, zI ((o_Int_lowestOneBit other) - (o_Int_lowestOneBit one))] d_X6_netToMove_23 (Nat.le_of_ble_eq_true rfl) rfl rfl ?_
      exact hJ11 ((o_Int_lowestOneBit other) - (o_Int_lowestOneBit one)) (((if_pos c11)))
  intro y1 ey1
  refine zr_iload_n C d_X6_netToMove_24 rfl ?_
  suffices hJ25 : ∀ (y2 : Int32), (if 0 ≤ y1 then other else one) = y2 → zV X Γ Q 33 [none, none, none] [.int y2] h g by
    refine zr_if_ge C 32 d_X6_netToMove_25 (by decide) (fun c25 => ?_) (fun c25 => ?_)
    · refine zr_iload_n C d_X6_netToMove_32 rfl ?_
      refine zr_lv [none, none, none] (by simp [zle]) ?_
      exact hJ25 other (((if_pos c25)))
    · refine zr_iload_n C d_X6_netToMove_28 rfl ?_
      refine zr_goto C 33 d_X6_netToMove_29 (by decide) ?_
      refine zr_lv [none, none, none] (by simp [zle]) ?_
      exact hJ25 one (((if_neg c25)))
  intro y2 ey2
  have eR : o_Slots_netToMove one other = y2 := (by subst ey2 ey1; unfold o_Slots_netToMove; exact rfl)
  subst hQ
  rw [eR]
  exact zr_ireti C d_X6_netToMove_33
theorem d_X6_conflictsAfter_0 : decode prog_1_method_15_code 0 = .ok (.aload_n 0, 1) := by decide +kernel
theorem d_X6_conflictsAfter_1 : decode prog_1_method_15_code 1 = .ok (.getfield 26, 3) := by decide +kernel
theorem d_X6_conflictsAfter_4 : decode prog_1_method_15_code 4 = .ok (.aload_n 0, 1) := by decide +kernel
theorem d_X6_conflictsAfter_5 : decode prog_1_method_15_code 5 = .ok (.getfield 19, 3) := by decide +kernel
theorem d_X6_conflictsAfter_8 : decode prog_1_method_15_code 8 = .ok (.invokevirtual 78, 3) := by decide +kernel
theorem d_X6_conflictsAfter_11 : decode prog_1_method_15_code 11 = .ok (.aload_n 0, 1) := by decide +kernel
theorem d_X6_conflictsAfter_12 : decode prog_1_method_15_code 12 = .ok (.getfield 26, 3) := by decide +kernel
theorem d_X6_conflictsAfter_15 : decode prog_1_method_15_code 15 = .ok (.iload_n 1, 1) := by decide +kernel
theorem d_X6_conflictsAfter_16 : decode prog_1_method_15_code 16 = .ok (.iload_n 2, 1) := by decide +kernel
theorem d_X6_conflictsAfter_17 : decode prog_1_method_15_code 17 = .ok (.invokevirtual 185, 3) := by decide +kernel
theorem d_X6_conflictsAfter_20 : decode prog_1_method_15_code 20 = .ok (.aload_n 0, 1) := by decide +kernel
theorem d_X6_conflictsAfter_21 : decode prog_1_method_15_code 21 = .ok (.getfield 26, 3) := by decide +kernel
theorem d_X6_conflictsAfter_24 : decode prog_1_method_15_code 24 = .ok (.invokevirtual 95, 3) := by decide +kernel
theorem d_X6_conflictsAfter_27 : decode prog_1_method_15_code 27 = .ok (.ireturn, 1) := by decide +kernel
abbrev M_Slots_conflictsAfter : zMT := (⟨"PeriodSlots", "conflictsAfter", "(II)I"⟩, prog_1_method_15_code, 3, (some .int))
theorem k_Slots_conflictsAfter : zcall M_Slots_conflictsAfter 2 := ⟨zU_in (i := 531) (by decide +kernel) rfl, m54, ⟨by decide, by decide, by decide +kernel⟩, by decide⟩
def o_Slots_conflictsAfter (h : zHp) (moved : Int32) (d : Int32) : Int32 × zHp :=
  ((o_Mesh_conflicts (o_Mesh_moveAll (o_Mesh_copyFrom h 27 3) 27 moved d) 27), (o_Mesh_moveAll (o_Mesh_copyFrom h 27 3) 27 moved d))
theorem fr_Slots_conflictsAfter {h : zHp} {moved : Int32} {d : Int32} (c k : Nat) (q0 : ¬ (c = 27 ∧ k = 0)) (q1 : ¬ (c = 27 ∧ k = 1)) (q2 : ¬ (c = 27 ∧ k = 2)) (q3 : c ≠ 28) (q4 : c ≠ 29) (q5 : c ≠ 30) (q6 : c ≠ 31) (q7 : c ≠ 32) (q8 : c ≠ 33) (q9 : c ≠ 34) (q10 : c ≠ 35) (q11 : c ≠ 36) (q12 : c ≠ 37) (q13 : c ≠ 38) : (o_Slots_conflictsAfter h moved d).2 c k = h c k := by
  unfold o_Slots_conflictsAfter
  try dsimp only
  first | done | exact ((fr_Mesh_moveAll _ _ (by assumption) (by assumption) (by assumption) (by assumption)).trans (fr_Mesh_copyFrom _ _ (by assumption) (by assumption) (by assumption) (by assumption) (by assumption) (by assumption) (by assumption) (by assumption) (by assumption) (by assumption) (by assumption) (by assumption)))
set_option maxHeartbeats 400000 in
set_option maxRecDepth 20000 in
theorem c_Slots_conflictsAfter (X : zXT) (h : zHp) (g : zLg) (moved : Int32) (d : Int32) (hf0 : zfit h 3 0 8) : zDi X M_Slots_conflictsAfter 4 [zR X 0, .int moved, .int d] h g (zI ((o_Slots_conflictsAfter h moved d).1)) ((o_Slots_conflictsAfter h moved d).2) g := by
  have hf0_1 := hf0.1
  refine zDi_of "PeriodSlots" prog_1_method_15_code 3 (some .int) rfl (by decide) [zO X 0, zI moved, zI d] rfl (fun _ q => q) (Nat.le_of_ble_eq_true rfl) ?_
  intro Γ Q C hQ
  refine zr_aload_n C d_X6_conflictsAfter_0 rfl ?_
  refine gf_Slots_3 C m230 d_X6_conflictsAfter_1 ?_
  refine zr_aload_n C d_X6_conflictsAfter_4 rfl ?_
  refine gf_Slots_1 C m228 d_X6_conflictsAfter_5 ?_
  refine zr_callVv (As := [zR X 3]) (st := []) (c := 27) C (c_Mesh_copyFrom X h g 27 3 (by decide) (by decide)) k_Mesh_copyFrom m375 m376 m377 (by decide) (zC_Mesh (by decide) X _ _) rfl rfl (by decide) rfl (Nat.le_of_ble_eq_true rfl) d_X6_conflictsAfter_8 ?_
  refine zr_h (fun h1 eh1 => ?_)
  have hph1 : zfit h1 27 0 8 := by rw [← eh1]; exact pf_copyFrom hf0
  have hph1_1 := hph1.1
  refine zr_aload_n C d_X6_conflictsAfter_11 rfl ?_
  refine gf_Slots_3 C m230 d_X6_conflictsAfter_12 ?_
  refine zr_iload_n C d_X6_conflictsAfter_15 rfl ?_
  refine zr_iload_n C d_X6_conflictsAfter_16 rfl ?_
  refine zr_callVv (As := [.int moved, .int d]) (st := []) (c := 27) C (c_Mesh_moveAll X h1 g 27 moved d (by decide) hph1) k_Mesh_moveAll m512 m513 m514 (by decide) (zC_Mesh (by decide) X _ _) rfl rfl (by decide) rfl (Nat.le_of_ble_eq_true rfl) d_X6_conflictsAfter_17 ?_
  refine zr_h (fun h2 eh2 => ?_)
  refine zr_aload_n C d_X6_conflictsAfter_20 rfl ?_
  refine gf_Slots_3 C m230 d_X6_conflictsAfter_21 ?_
  refine zr_callVi (As := []) (st := []) (c := 27) C (c_Mesh_conflicts X h2 g 27 (by decide) (zfit_fr ((congrFun (congrFun eh2.symm _) _).trans (fr_Mesh_moveAll _ _ (by omega) (by omega) (by omega) (by omega))) hph1)) k_Mesh_conflicts m398 m399 m400 (by decide) (zC_Mesh (by decide) X _ _) rfl rfl (by decide) rfl (Nat.le_of_ble_eq_true rfl) d_X6_conflictsAfter_24 ?_
  have eR : o_Slots_conflictsAfter h moved d = ((o_Mesh_conflicts h2 27), h2) := (by subst eh2 eh1; unfold o_Slots_conflictsAfter; exact rfl)
  subst hQ
  exact zTQ_Ih eR (zr_ireti C d_X6_conflictsAfter_27)
theorem d_X6_bestDistance_0 : decode prog_1_method_14_code 0 = .ok (.iconst 0, 1) := by decide +kernel
theorem d_X6_bestDistance_1 : decode prog_1_method_14_code 1 = .ok (.istore_n 2, 1) := by decide +kernel
theorem d_X6_bestDistance_2 : decode prog_1_method_14_code 2 = .ok (.aload_n 0, 1) := by decide +kernel
theorem d_X6_bestDistance_3 : decode prog_1_method_14_code 3 = .ok (.iload_n 1, 1) := by decide +kernel
theorem d_X6_bestDistance_4 : decode prog_1_method_14_code 4 = .ok (.iconst 0, 1) := by decide +kernel
theorem d_X6_bestDistance_5 : decode prog_1_method_14_code 5 = .ok (.invokevirtual 197, 3) := by decide +kernel
theorem d_X6_bestDistance_8 : decode prog_1_method_14_code 8 = .ok (.istore_n 3, 1) := by decide +kernel
theorem d_X6_bestDistance_9 : decode prog_1_method_14_code 9 = .ok (.iconst 1, 1) := by decide +kernel
theorem d_X6_bestDistance_10 : decode prog_1_method_14_code 10 = .ok (.istore 4, 2) := by decide +kernel
theorem d_X6_bestDistance_12 : decode prog_1_method_14_code 12 = .ok (.iload 4, 2) := by decide +kernel
theorem d_X6_bestDistance_14 : decode prog_1_method_14_code 14 = .ok (.bipush 8, 2) := by decide +kernel
theorem d_X6_bestDistance_16 : decode prog_1_method_14_code 16 = .ok (.if_icmp .ge 30, 3) := by decide +kernel
theorem d_X6_bestDistance_19 : decode prog_1_method_14_code 19 = .ok (.aload_n 0, 1) := by decide +kernel
theorem d_X6_bestDistance_20 : decode prog_1_method_14_code 20 = .ok (.iload_n 1, 1) := by decide +kernel
theorem d_X6_bestDistance_21 : decode prog_1_method_14_code 21 = .ok (.iload 4, 2) := by decide +kernel
theorem d_X6_bestDistance_23 : decode prog_1_method_14_code 23 = .ok (.invokevirtual 197, 3) := by decide +kernel
theorem d_X6_bestDistance_26 : decode prog_1_method_14_code 26 = .ok (.istore 5, 2) := by decide +kernel
theorem d_X6_bestDistance_28 : decode prog_1_method_14_code 28 = .ok (.iload 5, 2) := by decide +kernel
theorem d_X6_bestDistance_30 : decode prog_1_method_14_code 30 = .ok (.iload_n 3, 1) := by decide +kernel
theorem d_X6_bestDistance_31 : decode prog_1_method_14_code 31 = .ok (.if_icmp .ge 9, 3) := by decide +kernel
theorem d_X6_bestDistance_34 : decode prog_1_method_14_code 34 = .ok (.iload 5, 2) := by decide +kernel
theorem d_X6_bestDistance_36 : decode prog_1_method_14_code 36 = .ok (.istore_n 3, 1) := by decide +kernel
theorem d_X6_bestDistance_37 : decode prog_1_method_14_code 37 = .ok (.iload 4, 2) := by decide +kernel
theorem d_X6_bestDistance_39 : decode prog_1_method_14_code 39 = .ok (.istore_n 2, 1) := by decide +kernel
theorem d_X6_bestDistance_40 : decode prog_1_method_14_code 40 = .ok (.iinc 4 1, 3) := by decide +kernel
theorem d_X6_bestDistance_43 : decode prog_1_method_14_code 43 = .ok (.goto (-31), 3) := by decide +kernel
theorem d_X6_bestDistance_46 : decode prog_1_method_14_code 46 = .ok (.iload_n 2, 1) := by decide +kernel
theorem d_X6_bestDistance_47 : decode prog_1_method_14_code 47 = .ok (.ireturn, 1) := by decide +kernel
abbrev M_Slots_bestDistance : zMT := (⟨"PeriodSlots", "bestDistance", "(I)I"⟩, prog_1_method_14_code, 6, (some .int))
theorem k_Slots_bestDistance : zcall M_Slots_bestDistance 1 := ⟨zU_in (i := 527) (by decide +kernel) rfl, m54, ⟨by decide, by decide, by decide +kernel⟩, by decide⟩
def o_Slots_bestDistance (h : zHp) (moved : Int32) : Int32 × zHp :=
  ((zrep (fun (i12_3 : Nat) (s12_3 : Int32 × Int32 × zHp) => ((if s12_3.2.1 ≤ ((o_Slots_conflictsAfter s12_3.2.2 moved (nI (1 + i12_3))).1) then s12_3.1 else (nI (1 + i12_3))), (if s12_3.2.1 ≤ ((o_Slots_conflictsAfter s12_3.2.2 moved (nI (1 + i12_3))).1) then s12_3.2.1 else ((o_Slots_conflictsAfter s12_3.2.2 moved (nI (1 + i12_3))).1)), ((o_Slots_conflictsAfter s12_3.2.2 moved (nI (1 + i12_3))).2))) (0, ((o_Slots_conflictsAfter h moved 0).1), ((o_Slots_conflictsAfter h moved 0).2)) 7).1, (zrep (fun (i12_3 : Nat) (s12_3 : Int32 × Int32 × zHp) => ((if s12_3.2.1 ≤ ((o_Slots_conflictsAfter s12_3.2.2 moved (nI (1 + i12_3))).1) then s12_3.1 else (nI (1 + i12_3))), (if s12_3.2.1 ≤ ((o_Slots_conflictsAfter s12_3.2.2 moved (nI (1 + i12_3))).1) then s12_3.2.1 else ((o_Slots_conflictsAfter s12_3.2.2 moved (nI (1 + i12_3))).1)), ((o_Slots_conflictsAfter s12_3.2.2 moved (nI (1 + i12_3))).2))) (0, ((o_Slots_conflictsAfter h moved 0).1), ((o_Slots_conflictsAfter h moved 0).2)) 7).2.2)
theorem fr_Slots_bestDistance {h : zHp} {moved : Int32} (c k : Nat) (q0 : ¬ (c = 27 ∧ k = 0)) (q1 : ¬ (c = 27 ∧ k = 1)) (q2 : ¬ (c = 27 ∧ k = 2)) (q3 : c ≠ 28) (q4 : c ≠ 29) (q5 : c ≠ 30) (q6 : c ≠ 31) (q7 : c ≠ 32) (q8 : c ≠ 33) (q9 : c ≠ 34) (q10 : c ≠ 35) (q11 : c ≠ 36) (q12 : c ≠ 37) (q13 : c ≠ 38) : (o_Slots_bestDistance h moved).2 c k = h c k := by
  unfold o_Slots_bestDistance
  have hI12_3 := zrep_inv (f := (fun (i12_3 : Nat) (s12_3 : Int32 × Int32 × zHp) => ((if s12_3.2.1 ≤ ((o_Slots_conflictsAfter s12_3.2.2 moved (nI (1 + i12_3))).1) then s12_3.1 else (nI (1 + i12_3))), (if s12_3.2.1 ≤ ((o_Slots_conflictsAfter s12_3.2.2 moved (nI (1 + i12_3))).1) then s12_3.2.1 else ((o_Slots_conflictsAfter s12_3.2.2 moved (nI (1 + i12_3))).1)), ((o_Slots_conflictsAfter s12_3.2.2 moved (nI (1 + i12_3))).2)))) (a := (0, ((o_Slots_conflictsAfter h moved 0).1), ((o_Slots_conflictsAfter h moved 0).2))) (fun _ s12_3 => ∀ c k : Nat, ¬ (c = 27 ∧ k = 0) → ¬ (c = 27 ∧ k = 1) → ¬ (c = 27 ∧ k = 2) → c ≠ 28 → c ≠ 29 → c ≠ 30 → c ≠ 31 → c ≠ 32 → c ≠ 33 → c ≠ 34 → c ≠ 35 → c ≠ 36 → c ≠ 37 → c ≠ 38 → s12_3.2.2 c k = ((o_Slots_conflictsAfter h moved 0).2) c k) (7) (fun _ _ _ _ _ _ _ _ _ _ _ _ _ _ _ _ => (by dsimp only)) (fun i12_3 s12_3 hi12_3 hI12_3 => (fun c k q0 q1 q2 q3 q4 q5 q6 q7 q8 q9 q10 q11 q12 q13 => (by (try dsimp only); exact ((fr_Slots_conflictsAfter _ _ (by assumption) (by assumption) (by assumption) (by assumption) (by assumption) (by assumption) (by assumption) (by assumption) (by assumption) (by assumption) (by assumption) (by assumption) (by assumption) (by assumption)).trans (hI12_3 _ _ (by assumption) (by assumption) (by assumption) (by assumption) (by assumption) (by assumption) (by assumption) (by assumption) (by assumption) (by assumption) (by assumption) (by assumption) (by assumption) (by assumption))))))
  try dsimp only
  first | done | exact ((hI12_3 _ _ (by assumption) (by assumption) (by assumption) (by assumption) (by assumption) (by assumption) (by assumption) (by assumption) (by assumption) (by assumption) (by assumption) (by assumption) (by assumption) (by assumption)).trans (fr_Slots_conflictsAfter _ _ (by assumption) (by assumption) (by assumption) (by assumption) (by assumption) (by assumption) (by assumption) (by assumption) (by assumption) (by assumption) (by assumption) (by assumption) (by assumption) (by assumption)))
set_option maxHeartbeats 400000 in
set_option maxRecDepth 20000 in
theorem c_Slots_bestDistance (X : zXT) (h : zHp) (g : zLg) (moved : Int32) (hf0 : zfit h 3 0 8) : zDi X M_Slots_bestDistance 5 [zR X 0, .int moved] h g (zI ((o_Slots_bestDistance h moved).1)) ((o_Slots_bestDistance h moved).2) g := by
  have hf0_1 := hf0.1
  refine zDi_of "PeriodSlots" prog_1_method_14_code 6 (some .int) rfl (by decide) [zO X 0, zI moved, none, none, none, none] rfl (fun _ q => q) (Nat.le_of_ble_eq_true rfl) ?_
  intro Γ Q C hQ
  refine zr_iconst C (v := 0) d_X6_bestDistance_0 (by decide) ?_
  refine zr_istore_n C [zO X 0, zI moved, zI 0, none, none, none] d_X6_bestDistance_1 (Nat.le_of_ble_eq_true rfl) rfl rfl ?_
  refine zr_aload_n C d_X6_bestDistance_2 rfl ?_
  refine zr_iload_n C d_X6_bestDistance_3 rfl ?_
  refine zr_iconst C (v := 0) d_X6_bestDistance_4 (by decide) ?_
  refine zr_callVi (As := [.int moved, .int 0]) (st := []) (c := 0) C (c_Slots_conflictsAfter X h g moved 0 hf0) k_Slots_conflictsAfter m528 m530 m10 (by decide) (zC_Slots X _ _) rfl rfl (by decide) rfl (Nat.le_of_ble_eq_true rfl) d_X6_bestDistance_5 ?_
  refine zr_vi (fun y1 ey1 => ?_)
  refine zr_h (fun h2 eh2 => ?_)
  refine zr_istore_n C [zO X 0, zI moved, zI 0, zI y1, none, none] d_X6_bestDistance_8 (Nat.le_of_ble_eq_true rfl) rfl rfl ?_
  refine zr_iconst C (v := 1) d_X6_bestDistance_9 (by decide) ?_
  refine zr_istore C [zO X 0, zI moved, zI 0, zI y1, zI 1, none] d_X6_bestDistance_10 (Nat.le_of_ble_eq_true rfl) rfl rfl ?_
  refine zfor (f := (fun (i12_3 : Nat) (s12_3 : Int32 × Int32 × zHp) => ((if s12_3.2.1 ≤ ((o_Slots_conflictsAfter s12_3.2.2 moved (nI (1 + i12_3))).1) then s12_3.1 else (nI (1 + i12_3))), (if s12_3.2.1 ≤ ((o_Slots_conflictsAfter s12_3.2.2 moved (nI (1 + i12_3))).1) then s12_3.2.1 else ((o_Slots_conflictsAfter s12_3.2.2 moved (nI (1 + i12_3))).1)), ((o_Slots_conflictsAfter s12_3.2.2 moved (nI (1 + i12_3))).2)))) (a := (0, y1, h2)) (fun i12_3 s12_3 => zV X Γ Q 12 [zO X 0, zI moved, zI s12_3.1, zI s12_3.2.1, zI (nI (1 + i12_3)), none] [] s12_3.2.2 g) (fun _ s12_3 => ∀ c k : Nat, ¬ (c = 27 ∧ k = 0) → ¬ (c = 27 ∧ k = 1) → ¬ (c = 27 ∧ k = 2) → c ≠ 28 → c ≠ 29 → c ≠ 30 → c ≠ 31 → c ≠ 32 → c ≠ 33 → c ≠ 34 → c ≠ 35 → c ≠ 36 → c ≠ 37 → c ≠ 38 → s12_3.2.2 c k = h2 c k) (7) (fun _ _ _ _ _ _ _ _ _ _ _ _ _ _ _ _ => (by dsimp only)) (fun i12_3 s12_3 hi12_3 hI12_3 => ⟨(fun c k q0 q1 q2 q3 q4 q5 q6 q7 q8 q9 q10 q11 q12 q13 => (by (try dsimp only); exact ((fr_Slots_conflictsAfter _ _ (by assumption) (by assumption) (by assumption) (by assumption) (by assumption) (by assumption) (by assumption) (by assumption) (by assumption) (by assumption) (by assumption) (by assumption) (by assumption) (by assumption)).trans (hI12_3 _ _ (by assumption) (by assumption) (by assumption) (by assumption) (by assumption) (by assumption) (by assumption) (by assumption) (by assumption) (by assumption) (by assumption) (by assumption) (by assumption) (by assumption))))), fun hk12_3 => ?_⟩) (fun r12_3 er12_3 hI12_3 => ?_)
  · refine zr_iload C d_X6_bestDistance_12 rfl ?_
    refine zr_bipush C (v := 8) d_X6_bestDistance_14 (by decide) ?_
    refine zr_icmp_ge C 46 d_X6_bestDistance_16 (by decide) (fun c => absurd c (zge_noN (B := 8) rfl (by omega) (by omega))) (fun _ => ?_)
    refine zr_aload_n C d_X6_bestDistance_19 rfl ?_
    refine zr_iload_n C d_X6_bestDistance_20 rfl ?_
    refine zr_iload C d_X6_bestDistance_21 rfl ?_
    refine zr_callVi (As := [.int moved, .int (nI (1 + i12_3))]) (st := []) (c := 0) C (c_Slots_conflictsAfter X s12_3.2.2 g moved (nI (1 + i12_3)) (zfit_fr ((hI12_3 _ _ (by omega) (by omega) (by omega) (by omega) (by omega) (by omega) (by omega) (by omega) (by omega) (by omega) (by omega) (by omega) (by omega) (by omega)).trans ((congrFun (congrFun eh2.symm _) _).trans (fr_Slots_conflictsAfter _ _ (by omega) (by omega) (by omega) (by omega) (by omega) (by omega) (by omega) (by omega) (by omega) (by omega) (by omega) (by omega) (by omega) (by omega)))) hf0)) k_Slots_conflictsAfter m528 m530 m10 (by decide) (zC_Slots X _ _) rfl rfl (by decide) rfl (Nat.le_of_ble_eq_true rfl) d_X6_bestDistance_23 ?_
    refine zr_vi (fun y4 ey4 => ?_)
    refine zr_h (fun h5 eh5 => ?_)
    refine zr_istore C [zO X 0, zI moved, zI s12_3.1, zI s12_3.2.1, zI (nI (1 + i12_3)), zI y4] d_X6_bestDistance_26 (Nat.le_of_ble_eq_true rfl) rfl rfl ?_
    refine zr_iload C d_X6_bestDistance_28 rfl ?_
    refine zr_iload_n C d_X6_bestDistance_30 rfl ?_
    suffices hJ31 : ∀ (y6 : Int32) (y7 : Int32), (if s12_3.2.1 ≤ y4 then s12_3.1 else (nI (1 + i12_3))) = y6 → (if s12_3.2.1 ≤ y4 then s12_3.2.1 else y4) = y7 → zV X Γ Q 40 [zO X 0, zI moved, zI y6, zI y7, zI (nI (1 + i12_3)), none] [] h5 g by
      refine zr_icmp_ge C 40 d_X6_bestDistance_31 (by decide) (fun c31 => ?_) (fun c31 => ?_)
      · refine zr_lv [zO X 0, zI moved, zI s12_3.1, zI s12_3.2.1, zI (nI (1 + i12_3)), none] (by simp [zle]) ?_
        exact hJ31 s12_3.1 s12_3.2.1 (((if_pos c31))) (((if_pos c31)))
      · refine zr_iload C d_X6_bestDistance_34 rfl ?_
        refine zr_istore_n C [zO X 0, zI moved, zI s12_3.1, zI y4, zI (nI (1 + i12_3)), zI y4] d_X6_bestDistance_36 (Nat.le_of_ble_eq_true rfl) rfl rfl ?_
        refine zr_iload C d_X6_bestDistance_37 rfl ?_
        refine zr_istore_n C [zO X 0, zI moved, zI (nI (1 + i12_3)), zI y4, zI (nI (1 + i12_3)), zI y4] d_X6_bestDistance_39 (Nat.le_of_ble_eq_true rfl) rfl rfl ?_
        refine zr_lv [zO X 0, zI moved, zI (nI (1 + i12_3)), zI y4, zI (nI (1 + i12_3)), none] (by simp [zle]) ?_
        exact hJ31 (nI (1 + i12_3)) y4 (((if_neg c31))) (((if_neg c31)))
    intro y6 y7 ey6 ey7
    refine zr_iinc C [zO X 0, zI moved, zI y6, zI y7, zI (nI ((1 + i12_3) + 1)), none] (v := (nI ((1 + i12_3) + 1))) d_X6_bestDistance_40 rfl (zn_add rfl rfl) (Nat.le_of_ble_eq_true rfl) rfl rfl ?_
    refine zr_goto C 12 d_X6_bestDistance_43 (by decide) ?_
    exact hk12_3 (y6, y7, h5) (by subst ey7 ey6 eh5 ey4; exact rfl)
  refine zr_iload C d_X6_bestDistance_12 rfl ?_
  refine zr_bipush C (v := 8) d_X6_bestDistance_14 (by decide) ?_
  refine zr_icmp_ge C 46 d_X6_bestDistance_16 (by decide) (fun _ => ?_) (fun c => absurd (zge_yesN (B := 8) rfl (by omega) (by omega)) c)
  refine zr_iload_n C d_X6_bestDistance_46 rfl ?_
  have eR : o_Slots_bestDistance h moved = (r12_3.1, r12_3.2.2) := (by subst er12_3 eh2 ey1; unfold o_Slots_bestDistance; exact rfl)
  subst hQ
  exact zTQ_Ih eR (zr_ireti C d_X6_bestDistance_47)
theorem d_X6_join_0 : decode prog_1_method_12_code 0 = .ok (.aload_n 0, 1) := by decide +kernel
theorem d_X6_join_1 : decode prog_1_method_12_code 1 = .ok (.getfield 19, 3) := by decide +kernel
theorem d_X6_join_4 : decode prog_1_method_12_code 4 = .ok (.iload_n 1, 1) := by decide +kernel
theorem d_X6_join_5 : decode prog_1_method_12_code 5 = .ok (.iload_n 2, 1) := by decide +kernel
theorem d_X6_join_6 : decode prog_1_method_12_code 6 = .ok (.invokevirtual 164, 3) := by decide +kernel
theorem d_X6_join_9 : decode prog_1_method_12_code 9 = .ok (.istore_n 3, 1) := by decide +kernel
theorem d_X6_join_10 : decode prog_1_method_12_code 10 = .ok (.iload_n 3, 1) := by decide +kernel
theorem d_X6_join_11 : decode prog_1_method_12_code 11 = .ok (.ifCond .eq 5, 3) := by decide +kernel
theorem d_X6_join_14 : decode prog_1_method_12_code 14 = .ok (.iload_n 3, 1) := by decide +kernel
theorem d_X6_join_15 : decode prog_1_method_12_code 15 = .ok (.ireturn, 1) := by decide +kernel
theorem d_X6_join_16 : decode prog_1_method_12_code 16 = .ok (.aload_n 0, 1) := by decide +kernel
theorem d_X6_join_17 : decode prog_1_method_12_code 17 = .ok (.getfield 19, 3) := by decide +kernel
theorem d_X6_join_20 : decode prog_1_method_12_code 20 = .ok (.iload_n 1, 1) := by decide +kernel
theorem d_X6_join_21 : decode prog_1_method_12_code 21 = .ok (.invokevirtual 150, 3) := by decide +kernel
theorem d_X6_join_24 : decode prog_1_method_12_code 24 = .ok (.iload_n 2, 1) := by decide +kernel
theorem d_X6_join_25 : decode prog_1_method_12_code 25 = .ok (.invokestatic 172, 3) := by decide +kernel
theorem d_X6_join_28 : decode prog_1_method_12_code 28 = .ok (.ifCond .eq 6, 3) := by decide +kernel
theorem d_X6_join_31 : decode prog_1_method_12_code 31 = .ok (.bipush (-3), 2) := by decide +kernel
theorem d_X6_join_33 : decode prog_1_method_12_code 33 = .ok (.ireturn, 1) := by decide +kernel
theorem d_X6_join_34 : decode prog_1_method_12_code 34 = .ok (.aload_n 0, 1) := by decide +kernel
theorem d_X6_join_35 : decode prog_1_method_12_code 35 = .ok (.getfield 39, 3) := by decide +kernel
theorem d_X6_join_38 : decode prog_1_method_12_code 38 = .ok (.aload_n 0, 1) := by decide +kernel
theorem d_X6_join_39 : decode prog_1_method_12_code 39 = .ok (.getfield 19, 3) := by decide +kernel
theorem d_X6_join_42 : decode prog_1_method_12_code 42 = .ok (.invokevirtual 153, 3) := by decide +kernel
theorem d_X6_join_45 : decode prog_1_method_12_code 45 = .ok (.aload_n 0, 1) := by decide +kernel
theorem d_X6_join_46 : decode prog_1_method_12_code 46 = .ok (.getfield 19, 3) := by decide +kernel
theorem d_X6_join_49 : decode prog_1_method_12_code 49 = .ok (.iload_n 1, 1) := by decide +kernel
theorem d_X6_join_50 : decode prog_1_method_12_code 50 = .ok (.invokevirtual 150, 3) := by decide +kernel
theorem d_X6_join_53 : decode prog_1_method_12_code 53 = .ok (.aload_n 0, 1) := by decide +kernel
theorem d_X6_join_54 : decode prog_1_method_12_code 54 = .ok (.getfield 19, 3) := by decide +kernel
theorem d_X6_join_57 : decode prog_1_method_12_code 57 = .ok (.iload_n 2, 1) := by decide +kernel
theorem d_X6_join_58 : decode prog_1_method_12_code 58 = .ok (.invokevirtual 150, 3) := by decide +kernel
theorem d_X6_join_61 : decode prog_1_method_12_code 61 = .ok (.invokestatic 188, 3) := by decide +kernel
theorem d_X6_join_64 : decode prog_1_method_12_code 64 = .ok (.istore 4, 2) := by decide +kernel
theorem d_X6_join_66 : decode prog_1_method_12_code 66 = .ok (.aload_n 0, 1) := by decide +kernel
theorem d_X6_join_67 : decode prog_1_method_12_code 67 = .ok (.getfield 19, 3) := by decide +kernel
theorem d_X6_join_70 : decode prog_1_method_12_code 70 = .ok (.iload_n 1, 1) := by decide +kernel
theorem d_X6_join_71 : decode prog_1_method_12_code 71 = .ok (.iload_n 2, 1) := by decide +kernel
theorem d_X6_join_72 : decode prog_1_method_12_code 72 = .ok (.invokevirtual 168, 3) := by decide +kernel
theorem d_X6_join_75 : decode prog_1_method_12_code 75 = .ok (.aload_n 0, 1) := by decide +kernel
theorem d_X6_join_76 : decode prog_1_method_12_code 76 = .ok (.iload 4, 2) := by decide +kernel
theorem d_X6_join_78 : decode prog_1_method_12_code 78 = .ok (.invokevirtual 191, 3) := by decide +kernel
theorem d_X6_join_81 : decode prog_1_method_12_code 81 = .ok (.istore 5, 2) := by decide +kernel
theorem d_X6_join_83 : decode prog_1_method_12_code 83 = .ok (.aload_n 0, 1) := by decide +kernel
theorem d_X6_join_84 : decode prog_1_method_12_code 84 = .ok (.getfield 19, 3) := by decide +kernel
theorem d_X6_join_87 : decode prog_1_method_12_code 87 = .ok (.iload 4, 2) := by decide +kernel
theorem d_X6_join_89 : decode prog_1_method_12_code 89 = .ok (.iload 5, 2) := by decide +kernel
theorem d_X6_join_91 : decode prog_1_method_12_code 91 = .ok (.invokevirtual 185, 3) := by decide +kernel
theorem d_X6_join_94 : decode prog_1_method_12_code 94 = .ok (.iload 5, 2) := by decide +kernel
theorem d_X6_join_96 : decode prog_1_method_12_code 96 = .ok (.ireturn, 1) := by decide +kernel
abbrev M_Slots_join : zMT := (⟨"PeriodSlots", "join", "(II)I"⟩, prog_1_method_12_code, 6, (some .int))
theorem k_Slots_join : zcall M_Slots_join 2 := ⟨zU_in (i := 519) (by decide +kernel) rfl, m54, ⟨by decide, by decide, by decide +kernel⟩, by decide⟩
def o_Slots_join (h : zHp) (i : Int32) (j : Int32) : Int32 × zHp :=
  (if (o_Mesh_pairError h 3 i j) = 0 then (if (o_Slots_has (o_Mesh_netOf h 3 i) j) = true then ((-3), h) else (((o_Slots_bestDistance (o_Mesh_flipLink (o_Acts_remember h 3) 3 (zcn i) (zcn j)) (o_Slots_netToMove (o_Mesh_netOf (o_Acts_remember h 3) 3 i) (o_Mesh_netOf (o_Acts_remember h 3) 3 j))).1), (o_Mesh_moveAll ((o_Slots_bestDistance (o_Mesh_flipLink (o_Acts_remember h 3) 3 (zcn i) (zcn j)) (o_Slots_netToMove (o_Mesh_netOf (o_Acts_remember h 3) 3 i) (o_Mesh_netOf (o_Acts_remember h 3) 3 j))).2) 3 (o_Slots_netToMove (o_Mesh_netOf (o_Acts_remember h 3) 3 i) (o_Mesh_netOf (o_Acts_remember h 3) 3 j)) ((o_Slots_bestDistance (o_Mesh_flipLink (o_Acts_remember h 3) 3 (zcn i) (zcn j)) (o_Slots_netToMove (o_Mesh_netOf (o_Acts_remember h 3) 3 i) (o_Mesh_netOf (o_Acts_remember h 3) 3 j))).1)))) else ((o_Mesh_pairError h 3 i j), h))
theorem fr_Slots_join {h : zHp} {i : Int32} {j : Int32} (c k : Nat) (q0 : ¬ (c = 41 ∧ k = 0)) (q1 : ¬ (c = 41 ∧ k = 1)) (q2 : c ≠ 43) (q3 : ¬ (c = 42 ∧ k = 1)) (q4 : ¬ (c = 27 ∧ k = 0)) (q5 : ¬ (c = 27 ∧ k = 1)) (q6 : ¬ (c = 27 ∧ k = 2)) (q7 : c ≠ 28) (q8 : c ≠ 29) (q9 : c ≠ 30) (q10 : c ≠ 31) (q11 : c ≠ 32) (q12 : c ≠ 33) (q13 : c ≠ 34) (q14 : c ≠ 35) (q15 : c ≠ 36) (q16 : c ≠ 37) (q17 : c ≠ 38) (q18 : c ≠ 5) (q19 : c ≠ 6) (q20 : c ≠ 7) (q21 : c ≠ 9) (q22 : c ≠ 10) (q23 : c ≠ 11) (q24 : c ≠ 12) (q25 : c ≠ 13) : (o_Slots_join h i j).2 c k = h c k := by
  unfold o_Slots_join
  by_cases f1 : (o_Mesh_pairError h 3 i j) = 0
  · rw [if_pos f1]
    by_cases f2 : (o_Slots_has (o_Mesh_netOf h 3 i) j) = true
    · rw [if_pos f2]
      try dsimp only
      first | done | exact rfl
    · rw [if_neg f2]
      try dsimp only
      first | done | exact ((fr_Mesh_moveAll _ _ (by assumption) (by assumption) (by assumption) (by assumption)).trans ((fr_Slots_bestDistance _ _ (by assumption) (by assumption) (by assumption) (by assumption) (by assumption) (by assumption) (by assumption) (by assumption) (by assumption) (by assumption) (by assumption) (by assumption) (by assumption) (by assumption)).trans ((fr_Mesh_flipLink _ _ (by assumption) (by assumption) (by assumption) (by assumption) (by assumption) (by assumption) (by assumption)).trans (fr_Acts_remember _ _ (by assumption) (by assumption) (by assumption) (by assumption)))))
  · rw [if_neg f1]
    try dsimp only
    first | done | exact rfl
set_option maxHeartbeats 400000 in
set_option maxRecDepth 20000 in
theorem c_Slots_join (X : zXT) (h : zHp) (g : zLg) (i : Int32) (j : Int32) (hf0 : zfit h 41 0 13) (hf1 : zfit h 41 1 14) (hf2 : zfit h 42 0 14) (hf3 : zfit h 3 0 8) : zDi X M_Slots_join 6 [zR X 0, .int i, .int j] h g (zI ((o_Slots_join h i j).1)) ((o_Slots_join h i j).2) g := by
  have hf0_1 := hf0.1
  have hf1_1 := hf1.1
  have hf2_1 := hf2.1
  have hf3_1 := hf3.1
  refine zDi_of "PeriodSlots" prog_1_method_12_code 6 (some .int) rfl (by decide) [zO X 0, zI i, zI j, none, none, none] rfl (fun _ q => q) (Nat.le_of_ble_eq_true rfl) ?_
  intro Γ Q C hQ
  refine zr_aload_n C d_X6_join_0 rfl ?_
  refine gf_Slots_1 C m228 d_X6_join_1 ?_
  refine zr_iload_n C d_X6_join_4 rfl ?_
  refine zr_iload_n C d_X6_join_5 rfl ?_
  refine zr_callVi (As := [.int i, .int j]) (st := []) (c := 3) C (c_Mesh_pairError X h g 3 i j (by decide)) k_Mesh_pairError m485 m486 m487 (by decide) (zC_Mesh (by decide) X _ _) rfl rfl (by decide) rfl (Nat.le_of_ble_eq_true rfl) d_X6_join_6 ?_
  refine zr_istore_n C [zO X 0, zI i, zI j, zI (o_Mesh_pairError h 3 i j), none, none] d_X6_join_9 (Nat.le_of_ble_eq_true rfl) rfl rfl ?_
  refine zr_iload_n C d_X6_join_10 rfl ?_
  refine zr_if_eq C 16 d_X6_join_11 (by decide) (fun c11 => ?_) (fun c11 => ?_)
  · have ex1 := zpair c11
    have ex1_2 := ex1.1.2
    have ex1_3 := ex1.2.1.2
    have ex1_b := (hf3).1
    refine zr_aload_n C d_X6_join_16 rfl ?_
    refine gf_Slots_1 C m228 d_X6_join_17 ?_
    refine zr_iload_n C d_X6_join_20 rfl ?_
    refine zr_callVi (As := [.int i]) (st := []) (c := 3) C (c_Mesh_netOf X h g 3 i (by decide) hf3) k_Mesh_netOf m448 m436 m437 (by decide) (zC_Mesh (by decide) X _ _) rfl rfl (by decide) rfl (Nat.le_of_ble_eq_true rfl) d_X6_join_21 ?_
    refine zr_iload_n C d_X6_join_24 rfl ?_
    refine zr_callSi (As := [.int (o_Mesh_netOf h 3 i), .int j]) (st := []) C (c_Slots_has X h g (o_Mesh_netOf h 3 i) j) k_Slots_has m491 m322 rfl (by decide) rfl (Nat.le_of_ble_eq_true rfl) d_X6_join_25 ?_
    refine zr_ifz_eq C 34 d_X6_join_28 (by decide) (fun c28 => ?_) (fun c28 => ?_)
    · refine zr_aload_n C d_X6_join_34 rfl ?_
      refine gf_Slots_5 C m232 d_X6_join_35 ?_
      refine zr_aload_n C d_X6_join_38 rfl ?_
      refine gf_Slots_1 C m228 d_X6_join_39 ?_
      refine zr_callVv (As := [zR X 3]) (st := []) (c := 41) C (c_Acts_remember X h g 3 (by decide) hf0 hf1 hf2) k_Acts_remember m453 m454 m455 (by decide) (zC_Acts X _ _) rfl rfl (by decide) rfl (Nat.le_of_ble_eq_true rfl) d_X6_join_42 ?_
      refine zr_h (fun h2 eh2 => ?_)
      have hph2 : zfit h2 41 0 13 := by rw [← eh2]; exact pf_rem0 hf0
      have hph2_1 := hph2.1
      have hph2 : zfit h2 41 1 14 := by rw [← eh2]; exact pf_rem1 hf1
      have hph2_1 := hph2.1
      refine zr_aload_n C d_X6_join_45 rfl ?_
      refine gf_Slots_1 C m228 d_X6_join_46 ?_
      refine zr_iload_n C d_X6_join_49 rfl ?_
      refine zr_callVi (As := [.int i]) (st := []) (c := 3) C (c_Mesh_netOf X h2 g 3 i (by decide) (zfit_fr ((congrFun (congrFun eh2.symm _) _).trans (fr_Acts_remember _ _ (by omega) (by omega) (by omega) (by omega))) hf3)) k_Mesh_netOf m448 m436 m437 (by decide) (zC_Mesh (by decide) X _ _) rfl rfl (by decide) rfl (Nat.le_of_ble_eq_true rfl) d_X6_join_50 ?_
      refine zr_aload_n C d_X6_join_53 rfl ?_
      refine gf_Slots_1 C m228 d_X6_join_54 ?_
      refine zr_iload_n C d_X6_join_57 rfl ?_
      refine zr_callVi (As := [.int j]) (st := [.int (o_Mesh_netOf h2 3 i)]) (c := 3) C (c_Mesh_netOf X h2 g 3 j (by decide) (zfit_fr ((congrFun (congrFun eh2.symm _) _).trans (fr_Acts_remember _ _ (by omega) (by omega) (by omega) (by omega))) hf3)) k_Mesh_netOf m448 m436 m437 (by decide) (zC_Mesh (by decide) X _ _) rfl rfl (by decide) rfl (Nat.le_of_ble_eq_true rfl) d_X6_join_58 ?_
      refine zr_callSi (As := [.int (o_Mesh_netOf h2 3 i), .int (o_Mesh_netOf h2 3 j)]) (st := []) C (c_Slots_netToMove X h2 g (o_Mesh_netOf h2 3 i) (o_Mesh_netOf h2 3 j)) k_Slots_netToMove m520 m521 rfl (by decide) rfl (Nat.le_of_ble_eq_true rfl) d_X6_join_61 ?_
      refine zr_istore C [zO X 0, zI i, zI j, zI (o_Mesh_pairError h 3 i j), zI (o_Slots_netToMove (o_Mesh_netOf h2 3 i) (o_Mesh_netOf h2 3 j)), none] d_X6_join_64 (Nat.le_of_ble_eq_true rfl) rfl rfl ?_
      refine zr_aload_n C d_X6_join_66 rfl ?_
      refine gf_Slots_1 C m228 d_X6_join_67 ?_
      refine zr_iload_n C d_X6_join_70 rfl ?_
      refine zr_iload_n C d_X6_join_71 rfl ?_
      refine zr_callVv (As := [.int i, .int j]) (st := []) (c := 3) C (c_Mesh_flipLink X h2 g 3 (zcn i) (zcn j) (zix ex1.1.1) (zix ex1.2.1.1) (by decide) (zfit_fr ((congrFun (congrFun eh2.symm _) _).trans (fr_Acts_remember _ _ (by omega) (by omega) (by omega) (by omega))) hf3) (by omega) (by omega)) k_Mesh_flipLink m490 m368 m369 (by decide) (zC_Mesh (by decide) X _ _) rfl rfl (by decide) rfl (Nat.le_of_ble_eq_true rfl) d_X6_join_72 ?_
      refine zr_h (fun h3 eh3 => ?_)
      refine zr_aload_n C d_X6_join_75 rfl ?_
      refine zr_iload C d_X6_join_76 rfl ?_
      refine zr_callVi (As := [.int (o_Slots_netToMove (o_Mesh_netOf h2 3 i) (o_Mesh_netOf h2 3 j))]) (st := []) (c := 0) C (c_Slots_bestDistance X h3 g (o_Slots_netToMove (o_Mesh_netOf h2 3 i) (o_Mesh_netOf h2 3 j)) (zfit_fr ((congrFun (congrFun eh3.symm _) _).trans ((fr_Mesh_flipLink _ _ (by omega) (by omega) (by omega) (by omega) (by omega) (by omega) (by omega)).trans ((congrFun (congrFun eh2.symm _) _).trans (fr_Acts_remember _ _ (by omega) (by omega) (by omega) (by omega))))) hf3)) k_Slots_bestDistance m524 m526 m9 (by decide) (zC_Slots X _ _) rfl rfl (by decide) rfl (Nat.le_of_ble_eq_true rfl) d_X6_join_78 ?_
      refine zr_vi (fun y4 ey4 => ?_)
      refine zr_h (fun h5 eh5 => ?_)
      refine zr_istore C [zO X 0, zI i, zI j, zI (o_Mesh_pairError h 3 i j), zI (o_Slots_netToMove (o_Mesh_netOf h2 3 i) (o_Mesh_netOf h2 3 j)), zI y4] d_X6_join_81 (Nat.le_of_ble_eq_true rfl) rfl rfl ?_
      refine zr_aload_n C d_X6_join_83 rfl ?_
      refine gf_Slots_1 C m228 d_X6_join_84 ?_
      refine zr_iload C d_X6_join_87 rfl ?_
      refine zr_iload C d_X6_join_89 rfl ?_
      refine zr_callVv (As := [.int (o_Slots_netToMove (o_Mesh_netOf h2 3 i) (o_Mesh_netOf h2 3 j)), .int y4]) (st := []) (c := 3) C (c_Mesh_moveAll X h5 g 3 (o_Slots_netToMove (o_Mesh_netOf h2 3 i) (o_Mesh_netOf h2 3 j)) y4 (by decide) (zfit_fr ((congrFun (congrFun eh5.symm _) _).trans ((fr_Slots_bestDistance _ _ (by omega) (by omega) (by omega) (by omega) (by omega) (by omega) (by omega) (by omega) (by omega) (by omega) (by omega) (by omega) (by omega) (by omega)).trans ((congrFun (congrFun eh3.symm _) _).trans ((fr_Mesh_flipLink _ _ (by omega) (by omega) (by omega) (by omega) (by omega) (by omega) (by omega)).trans ((congrFun (congrFun eh2.symm _) _).trans (fr_Acts_remember _ _ (by omega) (by omega) (by omega) (by omega))))))) hf3)) k_Mesh_moveAll m512 m513 m514 (by decide) (zC_Mesh (by decide) X _ _) rfl rfl (by decide) rfl (Nat.le_of_ble_eq_true rfl) d_X6_join_91 ?_
      refine zr_h (fun h6 eh6 => ?_)
      refine zr_iload C d_X6_join_94 rfl ?_
      have eR : o_Slots_join h i j = (y4, h6) := (by subst eh6 eh5 ey4 eh3 eh2; unfold o_Slots_join; rw [if_pos c11, if_neg (zbf c28)])
      subst hQ
      exact zTQ_Ih eR (zr_ireti C d_X6_join_96)
    · refine zr_bipush C (v := (-3)) d_X6_join_31 (by decide) ?_
      have eR : o_Slots_join h i j = ((-3), h) := (by unfold o_Slots_join; rw [if_pos c11, if_pos c28])
      subst hQ
      exact zTQ_Ih eR (zr_ireti C d_X6_join_33)
  · refine zr_iload_n C d_X6_join_14 rfl ?_
    have eR : o_Slots_join h i j = ((o_Mesh_pairError h 3 i j), h) := (by unfold o_Slots_join; rw [if_neg c11])
    subst hQ
    exact zTQ_Ih eR (zr_ireti C d_X6_join_15)
theorem d_X6_run_0 : decode prog_1_method_16_code 0 = .ok (.aload_n 0, 1) := by decide +kernel
theorem d_X6_run_1 : decode prog_1_method_16_code 1 = .ok (.getfield 39, 3) := by decide +kernel
theorem d_X6_run_4 : decode prog_1_method_16_code 4 = .ok (.aload_n 0, 1) := by decide +kernel
theorem d_X6_run_5 : decode prog_1_method_16_code 5 = .ok (.getfield 19, 3) := by decide +kernel
theorem d_X6_run_8 : decode prog_1_method_16_code 8 = .ok (.invokevirtual 153, 3) := by decide +kernel
theorem d_X6_run_11 : decode prog_1_method_16_code 11 = .ok (.aload_n 0, 1) := by decide +kernel
theorem d_X6_run_12 : decode prog_1_method_16_code 12 = .ok (.getfield 19, 3) := by decide +kernel
theorem d_X6_run_15 : decode prog_1_method_16_code 15 = .ok (.invokevirtual 200, 3) := by decide +kernel
theorem d_X6_run_18 : decode prog_1_method_16_code 18 = .ok (.istore_n 1, 1) := by decide +kernel
theorem d_X6_run_19 : decode prog_1_method_16_code 19 = .ok (.aload_n 0, 1) := by decide +kernel
theorem d_X6_run_20 : decode prog_1_method_16_code 20 = .ok (.getfield 19, 3) := by decide +kernel
theorem d_X6_run_23 : decode prog_1_method_16_code 23 = .ok (.invokevirtual 203, 3) := by decide +kernel
theorem d_X6_run_26 : decode prog_1_method_16_code 26 = .ok (.iload_n 1, 1) := by decide +kernel
theorem d_X6_run_27 : decode prog_1_method_16_code 27 = .ok (.ireturn, 1) := by decide +kernel
abbrev M_Slots_run : zMT := (⟨"PeriodSlots", "run", "()I"⟩, prog_1_method_16_code, 2, (some .int))
theorem k_Slots_run : zcall M_Slots_run 0 := ⟨zU_in (i := 535) (by decide +kernel) rfl, m54, ⟨by decide, by decide, by decide +kernel⟩, by decide⟩
def o_Slots_run (h : zHp) : Int32 × zHp :=
  (((o_Mesh_settle (o_Acts_remember h 3) 3).1), (o_Mesh_dropOlds ((o_Mesh_settle (o_Acts_remember h 3) 3).2) 3))
theorem fr_Slots_run {h : zHp} (c k : Nat) (q0 : ¬ (c = 41 ∧ k = 0)) (q1 : ¬ (c = 41 ∧ k = 1)) (q2 : c ≠ 43) (q3 : ¬ (c = 42 ∧ k = 1)) (q4 : ¬ (c = 3 ∧ k = 1)) (q5 : ¬ (c = 3 ∧ k = 2)) (q6 : c ≠ 6) (q7 : c ≠ 7) (q8 : c ≠ 10) (q9 : c ≠ 11) (q10 : c ≠ 12) (q11 : c ≠ 13) (q12 : c ≠ 14) : (o_Slots_run h).2 c k = h c k := by
  unfold o_Slots_run
  try dsimp only
  first | done | exact ((fr_Mesh_dropOlds _ _ (by assumption) (by assumption) (by assumption)).trans ((fr_Mesh_settle _ _ (by assumption) (by assumption) (by assumption) (by assumption) (by assumption) (by assumption) (by assumption) (by assumption) (by assumption)).trans (fr_Acts_remember _ _ (by assumption) (by assumption) (by assumption) (by assumption))))
set_option maxHeartbeats 400000 in
set_option maxRecDepth 20000 in
theorem c_Slots_run (X : zXT) (h : zHp) (g : zLg) (hf0 : zfit h 41 0 13) (hf1 : zfit h 41 1 14) (hf2 : zfit h 42 0 14) (hf3 : zfit h 3 0 8) : zDi X M_Slots_run 5 [zR X 0] h g (zI ((o_Slots_run h).1)) ((o_Slots_run h).2) g := by
  have hf0_1 := hf0.1
  have hf1_1 := hf1.1
  have hf2_1 := hf2.1
  have hf3_1 := hf3.1
  refine zDi_of "PeriodSlots" prog_1_method_16_code 2 (some .int) rfl (by decide) [zO X 0, none] rfl (fun _ q => q) (Nat.le_of_ble_eq_true rfl) ?_
  intro Γ Q C hQ
  refine zr_aload_n C d_X6_run_0 rfl ?_
  refine gf_Slots_5 C m232 d_X6_run_1 ?_
  refine zr_aload_n C d_X6_run_4 rfl ?_
  refine gf_Slots_1 C m228 d_X6_run_5 ?_
  refine zr_callVv (As := [zR X 3]) (st := []) (c := 41) C (c_Acts_remember X h g 3 (by decide) hf0 hf1 hf2) k_Acts_remember m453 m454 m455 (by decide) (zC_Acts X _ _) rfl rfl (by decide) rfl (Nat.le_of_ble_eq_true rfl) d_X6_run_8 ?_
  refine zr_h (fun h1 eh1 => ?_)
  have hph1 : zfit h1 41 0 13 := by rw [← eh1]; exact pf_rem0 hf0
  have hph1_1 := hph1.1
  have hph1 : zfit h1 41 1 14 := by rw [← eh1]; exact pf_rem1 hf1
  have hph1_1 := hph1.1
  refine zr_aload_n C d_X6_run_11 rfl ?_
  refine gf_Slots_1 C m228 d_X6_run_12 ?_
  refine zr_callVi (As := []) (st := []) (c := 3) C (c_Mesh_settle X h1 g 3 (by decide) (zfit_fr ((congrFun (congrFun eh1.symm _) _).trans (fr_Acts_remember _ _ (by omega) (by omega) (by omega) (by omega))) hf3)) k_Mesh_settle m536 m537 m538 (by decide) (zC_Mesh (by decide) X _ _) rfl rfl (by decide) rfl (Nat.le_of_ble_eq_true rfl) d_X6_run_15 ?_
  refine zr_vi (fun y2 ey2 => ?_)
  refine zr_h (fun h3 eh3 => ?_)
  refine zr_istore_n C [zO X 0, zI y2] d_X6_run_18 (Nat.le_of_ble_eq_true rfl) rfl rfl ?_
  refine zr_aload_n C d_X6_run_19 rfl ?_
  refine gf_Slots_1 C m228 d_X6_run_20 ?_
  refine zr_callVv (As := []) (st := []) (c := 3) C (c_Mesh_dropOlds X h3 g 3 (by decide) (zfit_fr ((congrFun (congrFun eh3.symm _) _).trans ((fr_Mesh_settle _ _ (by omega) (by omega) (by omega) (by omega) (by omega) (by omega) (by omega) (by omega) (by omega)).trans ((congrFun (congrFun eh1.symm _) _).trans (fr_Acts_remember _ _ (by omega) (by omega) (by omega) (by omega))))) hf3)) k_Mesh_dropOlds m543 m299 m300 (by decide) (zC_Mesh (by decide) X _ _) rfl rfl (by decide) rfl (Nat.le_of_ble_eq_true rfl) d_X6_run_23 ?_
  refine zr_h (fun h4 eh4 => ?_)
  refine zr_iload_n C d_X6_run_26 rfl ?_
  have eR : o_Slots_run h = (y2, h4) := (by subst eh4 eh3 ey2 eh1; unfold o_Slots_run; exact rfl)
  subst hQ
  exact zTQ_Ih eR (zr_ireti C d_X6_run_27)
theorem d_X6_undo_0 : decode prog_1_method_17_code 0 = .ok (.aload_n 0, 1) := by decide +kernel
theorem d_X6_undo_1 : decode prog_1_method_17_code 1 = .ok (.getfield 39, 3) := by decide +kernel
theorem d_X6_undo_4 : decode prog_1_method_17_code 4 = .ok (.getfield 114, 3) := by decide +kernel
theorem d_X6_undo_7 : decode prog_1_method_17_code 7 = .ok (.ifCond .ne 6, 3) := by decide +kernel
theorem d_X6_undo_10 : decode prog_1_method_17_code 10 = .ok (.bipush (-3), 2) := by decide +kernel
theorem d_X6_undo_12 : decode prog_1_method_17_code 12 = .ok (.ireturn, 1) := by decide +kernel
theorem d_X6_undo_13 : decode prog_1_method_17_code 13 = .ok (.aload_n 0, 1) := by decide +kernel
theorem d_X6_undo_14 : decode prog_1_method_17_code 14 = .ok (.getfield 39, 3) := by decide +kernel
theorem d_X6_undo_17 : decode prog_1_method_17_code 17 = .ok (.aload_n 0, 1) := by decide +kernel
theorem d_X6_undo_18 : decode prog_1_method_17_code 18 = .ok (.getfield 19, 3) := by decide +kernel
theorem d_X6_undo_21 : decode prog_1_method_17_code 21 = .ok (.invokevirtual 206, 3) := by decide +kernel
theorem d_X6_undo_24 : decode prog_1_method_17_code 24 = .ok (.aload_n 0, 1) := by decide +kernel
theorem d_X6_undo_25 : decode prog_1_method_17_code 25 = .ok (.getfield 39, 3) := by decide +kernel
theorem d_X6_undo_28 : decode prog_1_method_17_code 28 = .ok (.getfield 114, 3) := by decide +kernel
theorem d_X6_undo_31 : decode prog_1_method_17_code 31 = .ok (.ireturn, 1) := by decide +kernel
abbrev M_Slots_undo : zMT := (⟨"PeriodSlots", "undo", "()I"⟩, prog_1_method_17_code, 1, (some .int))
theorem k_Slots_undo : zcall M_Slots_undo 0 := ⟨zU_in (i := 547) (by decide +kernel) rfl, m54, ⟨by decide, by decide, by decide +kernel⟩, by decide⟩
def o_Slots_undo (h : zHp) : Int32 × zHp :=
  (if (h 41 1) = 0 then ((-3), h) else (((o_Acts_takeBack h 3) 41 1), (o_Acts_takeBack h 3)))
theorem fr_Slots_undo {h : zHp} (c k : Nat) (q0 : ¬ (c = 41 ∧ k = 0)) (q1 : ¬ (c = 41 ∧ k = 1)) (q2 : ¬ (c = 3 ∧ k = 1)) (q3 : c ≠ 5) (q4 : c ≠ 6) (q5 : c ≠ 7) (q6 : c ≠ 9) (q7 : c ≠ 10) (q8 : c ≠ 11) (q9 : c ≠ 12) (q10 : c ≠ 13) : (o_Slots_undo h).2 c k = h c k := by
  unfold o_Slots_undo
  by_cases f1 : (h 41 1) = 0
  · rw [if_pos f1]
    try dsimp only
    first | done | exact rfl
  · rw [if_neg f1]
    try dsimp only
    first | done | exact (fr_Acts_takeBack _ _ (by assumption) (by assumption) (by assumption) (by assumption) (by assumption) (by assumption) (by assumption) (by assumption) (by assumption) (by assumption) (by assumption))
set_option maxHeartbeats 400000 in
set_option maxRecDepth 20000 in
theorem c_Slots_undo (X : zXT) (h : zHp) (g : zLg) (hf0 : zfit h 41 0 13) (hf1 : zfit h 41 1 14) (hf2 : zfit h 42 0 14) (hf3 : zfit h 3 0 8) : zDi X M_Slots_undo 5 [zR X 0] h g (zI ((o_Slots_undo h).1)) ((o_Slots_undo h).2) g := by
  have hf0_1 := hf0.1
  have hf1_1 := hf1.1
  have hf2_1 := hf2.1
  have hf3_1 := hf3.1
  refine zDi_of "PeriodSlots" prog_1_method_17_code 1 (some .int) rfl (by decide) [zO X 0] rfl (fun _ q => q) (Nat.le_of_ble_eq_true rfl) ?_
  intro Γ Q C hQ
  refine zr_aload_n C d_X6_undo_0 rfl ?_
  refine gf_Slots_5 C m232 d_X6_undo_1 ?_
  refine gf_Acts_2 C m197 d_X6_undo_4 ?_
  refine zr_if_ne C 13 d_X6_undo_7 (by decide) (fun c7 => ?_) (fun c7 => ?_)
  · have en1 := zn_ne (a := zcn (h 41 1)) (b := 0) hf1.2 rfl c7 (zcn_small _) (by decide)
    refine zr_aload_n C d_X6_undo_13 rfl ?_
    refine gf_Slots_5 C m232 d_X6_undo_14 ?_
    refine zr_aload_n C d_X6_undo_17 rfl ?_
    refine gf_Slots_1 C m228 d_X6_undo_18 ?_
    refine zr_callVv (As := [zR X 3]) (st := []) (c := 41) C (c_Acts_takeBack X h g 3 (by decide) hf0 hf1 hf2 hf3) k_Acts_takeBack m548 m549 m550 (by decide) (zC_Acts X _ _) rfl rfl (by decide) rfl (Nat.le_of_ble_eq_true rfl) d_X6_undo_21 ?_
    refine zr_h (fun h2 eh2 => ?_)
    refine zr_aload_n C d_X6_undo_24 rfl ?_
    refine gf_Slots_5 C m232 d_X6_undo_25 ?_
    refine gf_Acts_2 C m197 d_X6_undo_28 ?_
    have eR : o_Slots_undo h = ((h2 41 1), h2) := (by subst eh2; unfold o_Slots_undo; rw [if_neg c7])
    subst hQ
    exact zTQ_Ih eR (zr_ireti C d_X6_undo_31)
  · have en3 := zn_nne (a := zcn (h 41 1)) (b := 0) hf1.2 rfl c7 (zcn_small _) (by decide)
    refine zr_bipush C (v := (-3)) d_X6_undo_10 (by decide) ?_
    have eR : o_Slots_undo h = ((-3), h) := (by unfold o_Slots_undo; rw [if_pos c7])
    subst hQ
    exact zTQ_Ih eR (zr_ireti C d_X6_undo_12)
theorem d_X6_ahead_0 : decode prog_1_method_18_code 0 = .ok (.iload_n 1, 1) := by decide +kernel
theorem d_X6_ahead_1 : decode prog_1_method_18_code 1 = .ok (.ifCond .lt 8, 3) := by decide +kernel
theorem d_X6_ahead_4 : decode prog_1_method_18_code 4 = .ok (.iload_n 1, 1) := by decide +kernel
theorem d_X6_ahead_5 : decode prog_1_method_18_code 5 = .ok (.iconst 3, 1) := by decide +kernel
theorem d_X6_ahead_6 : decode prog_1_method_18_code 6 = .ok (.if_icmp .le 6, 3) := by decide +kernel
theorem d_X6_ahead_9 : decode prog_1_method_18_code 9 = .ok (.bipush (-2), 2) := by decide +kernel
theorem d_X6_ahead_11 : decode prog_1_method_18_code 11 = .ok (.ireturn, 1) := by decide +kernel
theorem d_X6_ahead_12 : decode prog_1_method_18_code 12 = .ok (.aload_n 0, 1) := by decide +kernel
theorem d_X6_ahead_13 : decode prog_1_method_18_code 13 = .ok (.getfield 26, 3) := by decide +kernel
theorem d_X6_ahead_16 : decode prog_1_method_18_code 16 = .ok (.aload_n 0, 1) := by decide +kernel
theorem d_X6_ahead_17 : decode prog_1_method_18_code 17 = .ok (.getfield 19, 3) := by decide +kernel
theorem d_X6_ahead_20 : decode prog_1_method_18_code 20 = .ok (.invokevirtual 78, 3) := by decide +kernel
theorem d_X6_ahead_23 : decode prog_1_method_18_code 23 = .ok (.aload_n 0, 1) := by decide +kernel
theorem d_X6_ahead_24 : decode prog_1_method_18_code 24 = .ok (.getfield 26, 3) := by decide +kernel
theorem d_X6_ahead_27 : decode prog_1_method_18_code 27 = .ok (.invokevirtual 200, 3) := by decide +kernel
theorem d_X6_ahead_30 : decode prog_1_method_18_code 30 = .ok (.istore_n 2, 1) := by decide +kernel
theorem d_X6_ahead_31 : decode prog_1_method_18_code 31 = .ok (.iload_n 2, 1) := by decide +kernel
theorem d_X6_ahead_32 : decode prog_1_method_18_code 32 = .ok (.bipush (-9), 2) := by decide +kernel
theorem d_X6_ahead_34 : decode prog_1_method_18_code 34 = .ok (.if_icmp .ne 6, 3) := by decide +kernel
theorem d_X6_ahead_37 : decode prog_1_method_18_code 37 = .ok (.bipush (-9), 2) := by decide +kernel
theorem d_X6_ahead_39 : decode prog_1_method_18_code 39 = .ok (.ireturn, 1) := by decide +kernel
theorem d_X6_ahead_40 : decode prog_1_method_18_code 40 = .ok (.iload_n 1, 1) := by decide +kernel
theorem d_X6_ahead_41 : decode prog_1_method_18_code 41 = .ok (.tableswitch 49 0 2 #[27, 29, 37], 27) := by decide +kernel
theorem d_X6_ahead_68 : decode prog_1_method_18_code 68 = .ok (.iload_n 2, 1) := by decide +kernel
theorem d_X6_ahead_69 : decode prog_1_method_18_code 69 = .ok (.ireturn, 1) := by decide +kernel
theorem d_X6_ahead_70 : decode prog_1_method_18_code 70 = .ok (.aload_n 0, 1) := by decide +kernel
theorem d_X6_ahead_71 : decode prog_1_method_18_code 71 = .ok (.getfield 26, 3) := by decide +kernel
theorem d_X6_ahead_74 : decode prog_1_method_18_code 74 = .ok (.invokevirtual 104, 3) := by decide +kernel
theorem d_X6_ahead_77 : decode prog_1_method_18_code 77 = .ok (.ireturn, 1) := by decide +kernel
theorem d_X6_ahead_78 : decode prog_1_method_18_code 78 = .ok (.aload_n 0, 1) := by decide +kernel
theorem d_X6_ahead_79 : decode prog_1_method_18_code 79 = .ok (.getfield 26, 3) := by decide +kernel
theorem d_X6_ahead_82 : decode prog_1_method_18_code 82 = .ok (.aload_n 0, 1) := by decide +kernel
theorem d_X6_ahead_83 : decode prog_1_method_18_code 83 = .ok (.getfield 19, 3) := by decide +kernel
theorem d_X6_ahead_86 : decode prog_1_method_18_code 86 = .ok (.invokevirtual 209, 3) := by decide +kernel
theorem d_X6_ahead_89 : decode prog_1_method_18_code 89 = .ok (.ireturn, 1) := by decide +kernel
theorem d_X6_ahead_90 : decode prog_1_method_18_code 90 = .ok (.aload_n 0, 1) := by decide +kernel
theorem d_X6_ahead_91 : decode prog_1_method_18_code 91 = .ok (.getfield 26, 3) := by decide +kernel
theorem d_X6_ahead_94 : decode prog_1_method_18_code 94 = .ok (.getfield 212, 3) := by decide +kernel
theorem d_X6_ahead_97 : decode prog_1_method_18_code 97 = .ok (.ireturn, 1) := by decide +kernel
abbrev M_Slots_ahead : zMT := (⟨"PeriodSlots", "ahead", "(I)I"⟩, prog_1_method_18_code, 3, (some .int))
theorem k_Slots_ahead : zcall M_Slots_ahead 1 := ⟨zU_in (i := 567) (by decide +kernel) rfl, m54, ⟨by decide, by decide, by decide +kernel⟩, by decide⟩
def o_Slots_ahead (h : zHp) (what : Int32) : Int32 × zHp :=
  (if what < 0 then ((-2), h) else (if what ≤ 3 then (if ((o_Mesh_settle (o_Mesh_copyFrom h 27 3) 27).1) = (-9) then ((-9), ((o_Mesh_settle (o_Mesh_copyFrom h 27 3) 27).2)) else (if what = 0 then (((o_Mesh_settle (o_Mesh_copyFrom h 27 3) 27).1), ((o_Mesh_settle (o_Mesh_copyFrom h 27 3) 27).2)) else (if what = 1 then ((o_Mesh_placedSet ((o_Mesh_settle (o_Mesh_copyFrom h 27 3) 27).2) 27), ((o_Mesh_settle (o_Mesh_copyFrom h 27 3) 27).2)) else (if what = 2 then ((o_Mesh_differenceTo ((o_Mesh_settle (o_Mesh_copyFrom h 27 3) 27).2) 27 3), ((o_Mesh_settle (o_Mesh_copyFrom h 27 3) 27).2)) else ((((o_Mesh_settle (o_Mesh_copyFrom h 27 3) 27).2) 27 2), ((o_Mesh_settle (o_Mesh_copyFrom h 27 3) 27).2)))))) else ((-2), h)))
theorem fr_Slots_ahead {h : zHp} {what : Int32} (c k : Nat) (q0 : ¬ (c = 27 ∧ k = 0)) (q1 : ¬ (c = 27 ∧ k = 1)) (q2 : ¬ (c = 27 ∧ k = 2)) (q3 : c ≠ 28) (q4 : c ≠ 29) (q5 : c ≠ 30) (q6 : c ≠ 31) (q7 : c ≠ 32) (q8 : c ≠ 33) (q9 : c ≠ 34) (q10 : c ≠ 35) (q11 : c ≠ 36) (q12 : c ≠ 37) (q13 : c ≠ 38) : (o_Slots_ahead h what).2 c k = h c k := by
  unfold o_Slots_ahead
  by_cases f1 : what < 0
  · rw [if_pos f1]
    try dsimp only
    first | done | exact rfl
  · rw [if_neg f1]
    by_cases f2 : what ≤ 3
    · rw [if_pos f2]
      by_cases f3 : ((o_Mesh_settle (o_Mesh_copyFrom h 27 3) 27).1) = (-9)
      · rw [if_pos f3]
        try dsimp only
        first | done | exact ((fr_Mesh_settle _ _ (by assumption) (by assumption) (by assumption) (by assumption) (by assumption) (by assumption) (by assumption) (by assumption) (by assumption)).trans (fr_Mesh_copyFrom _ _ (by assumption) (by assumption) (by assumption) (by assumption) (by assumption) (by assumption) (by assumption) (by assumption) (by assumption) (by assumption) (by assumption) (by assumption)))
      · rw [if_neg f3]
        by_cases f4 : what = 0
        · rw [if_pos f4]
          try dsimp only
          first | done | exact ((fr_Mesh_settle _ _ (by assumption) (by assumption) (by assumption) (by assumption) (by assumption) (by assumption) (by assumption) (by assumption) (by assumption)).trans (fr_Mesh_copyFrom _ _ (by assumption) (by assumption) (by assumption) (by assumption) (by assumption) (by assumption) (by assumption) (by assumption) (by assumption) (by assumption) (by assumption) (by assumption)))
        · rw [if_neg f4]
          by_cases f5 : what = 1
          · rw [if_pos f5]
            try dsimp only
            first | done | exact ((fr_Mesh_settle _ _ (by assumption) (by assumption) (by assumption) (by assumption) (by assumption) (by assumption) (by assumption) (by assumption) (by assumption)).trans (fr_Mesh_copyFrom _ _ (by assumption) (by assumption) (by assumption) (by assumption) (by assumption) (by assumption) (by assumption) (by assumption) (by assumption) (by assumption) (by assumption) (by assumption)))
          · rw [if_neg f5]
            by_cases f6 : what = 2
            · rw [if_pos f6]
              try dsimp only
              first | done | exact ((fr_Mesh_settle _ _ (by assumption) (by assumption) (by assumption) (by assumption) (by assumption) (by assumption) (by assumption) (by assumption) (by assumption)).trans (fr_Mesh_copyFrom _ _ (by assumption) (by assumption) (by assumption) (by assumption) (by assumption) (by assumption) (by assumption) (by assumption) (by assumption) (by assumption) (by assumption) (by assumption)))
            · rw [if_neg f6]
              try dsimp only
              first | done | exact ((fr_Mesh_settle _ _ (by assumption) (by assumption) (by assumption) (by assumption) (by assumption) (by assumption) (by assumption) (by assumption) (by assumption)).trans (fr_Mesh_copyFrom _ _ (by assumption) (by assumption) (by assumption) (by assumption) (by assumption) (by assumption) (by assumption) (by assumption) (by assumption) (by assumption) (by assumption) (by assumption)))
    · rw [if_neg f2]
      try dsimp only
      first | done | exact rfl
set_option maxHeartbeats 400000 in
set_option maxRecDepth 20000 in
theorem c_Slots_ahead (X : zXT) (h : zHp) (g : zLg) (what : Int32) (hf0 : zfit h 3 0 8) : zDi X M_Slots_ahead 5 [zR X 0, .int what] h g (zI ((o_Slots_ahead h what).1)) ((o_Slots_ahead h what).2) g := by
  have hf0_1 := hf0.1
  refine zDi_of "PeriodSlots" prog_1_method_18_code 3 (some .int) rfl (by decide) [zO X 0, zI what, none] rfl (fun _ q => q) (Nat.le_of_ble_eq_true rfl) ?_
  intro Γ Q C hQ
  refine zr_iload_n C d_X6_ahead_0 rfl ?_
  refine zr_if_lt C 9 d_X6_ahead_1 (by decide) (fun c1 => ?_) (fun c1 => ?_)
  · refine zr_bipush C (v := (-2)) d_X6_ahead_9 (by decide) ?_
    have eR : o_Slots_ahead h what = ((-2), h) := (by unfold o_Slots_ahead; rw [if_pos c1])
    subst hQ
    exact zTQ_Ih eR (zr_ireti C d_X6_ahead_11)
  · refine zr_iload_n C d_X6_ahead_4 rfl ?_
    refine zr_iconst C (v := 3) d_X6_ahead_5 (by decide) ?_
    refine zr_icmp_le C 12 d_X6_ahead_6 (by decide) (fun c6 => ?_) (fun c6 => ?_)
    · have en1 := zn_le (a := zcn what) (b := 3) (zix c1) rfl c6 (zcn_small _) (by decide)
      refine zr_aload_n C d_X6_ahead_12 rfl ?_
      refine gf_Slots_3 C m230 d_X6_ahead_13 ?_
      refine zr_aload_n C d_X6_ahead_16 rfl ?_
      refine gf_Slots_1 C m228 d_X6_ahead_17 ?_
      refine zr_callVv (As := [zR X 3]) (st := []) (c := 27) C (c_Mesh_copyFrom X h g 27 3 (by decide) (by decide)) k_Mesh_copyFrom m375 m376 m377 (by decide) (zC_Mesh (by decide) X _ _) rfl rfl (by decide) rfl (Nat.le_of_ble_eq_true rfl) d_X6_ahead_20 ?_
      refine zr_h (fun h2 eh2 => ?_)
      have hph2 : zfit h2 27 0 8 := by rw [← eh2]; exact pf_copyFrom hf0
      have hph2_1 := hph2.1
      refine zr_aload_n C d_X6_ahead_23 rfl ?_
      refine gf_Slots_3 C m230 d_X6_ahead_24 ?_
      refine zr_callVi (As := []) (st := []) (c := 27) C (c_Mesh_settle X h2 g 27 (by decide) hph2) k_Mesh_settle m536 m537 m538 (by decide) (zC_Mesh (by decide) X _ _) rfl rfl (by decide) rfl (Nat.le_of_ble_eq_true rfl) d_X6_ahead_27 ?_
      refine zr_vi (fun y3 ey3 => ?_)
      refine zr_h (fun h4 eh4 => ?_)
      refine zr_istore_n C [zO X 0, zI what, zI y3] d_X6_ahead_30 (Nat.le_of_ble_eq_true rfl) rfl rfl ?_
      refine zr_iload_n C d_X6_ahead_31 rfl ?_
      refine zr_bipush C (v := (-9)) d_X6_ahead_32 (by decide) ?_
      refine zr_icmp_ne C 40 d_X6_ahead_34 (by decide) (fun c34 => ?_) (fun c34 => ?_)
      · refine zr_iload_n C d_X6_ahead_40 rfl ?_
        by_cases c41_0 : what = 0
        · refine zr_tabIn C 68 (off := 27) d_X6_ahead_41 (by rw [c41_0]; decide) (by rw [c41_0]; decide) (by rw [c41_0]; rfl) (by decide) ?_
          refine zr_iload_n C d_X6_ahead_68 rfl ?_
          have eR : o_Slots_ahead h what = (y3, h4) := (by subst eh4 ey3 eh2; unfold o_Slots_ahead; rw [if_neg c1, if_pos c6, if_neg c34, if_pos c41_0])
          subst hQ
          exact zTQ_Ih eR (zr_ireti C d_X6_ahead_69)
        · by_cases c41_1 : what = 1
          · refine zr_tabIn C 70 (off := 29) d_X6_ahead_41 (by rw [c41_1]; decide) (by rw [c41_1]; decide) (by rw [c41_1]; rfl) (by decide) ?_
            refine zr_aload_n C d_X6_ahead_70 rfl ?_
            refine gf_Slots_3 C m230 d_X6_ahead_71 ?_
            refine zr_callVi (As := []) (st := []) (c := 27) C (c_Mesh_placedSet X h4 g 27 (by decide) (zfit_fr ((congrFun (congrFun eh4.symm _) _).trans (fr_Mesh_settle _ _ (by omega) (by omega) (by omega) (by omega) (by omega) (by omega) (by omega) (by omega) (by omega))) hph2)) k_Mesh_placedSet m410 m411 m412 (by decide) (zC_Mesh (by decide) X _ _) rfl rfl (by decide) rfl (Nat.le_of_ble_eq_true rfl) d_X6_ahead_74 ?_
            have eR : o_Slots_ahead h what = ((o_Mesh_placedSet h4 27), h4) := (by subst eh4 ey3 eh2; unfold o_Slots_ahead; rw [if_neg c1, if_pos c6, if_neg c34, if_neg c41_0, if_pos c41_1])
            subst hQ
            exact zTQ_Ih eR (zr_ireti C d_X6_ahead_77)
          · by_cases c41_2 : what = 2
            · refine zr_tabIn C 78 (off := 37) d_X6_ahead_41 (by rw [c41_2]; decide) (by rw [c41_2]; decide) (by rw [c41_2]; rfl) (by decide) ?_
              refine zr_aload_n C d_X6_ahead_78 rfl ?_
              refine gf_Slots_3 C m230 d_X6_ahead_79 ?_
              refine zr_aload_n C d_X6_ahead_82 rfl ?_
              refine gf_Slots_1 C m228 d_X6_ahead_83 ?_
              refine zr_callVi (As := [zR X 3]) (st := []) (c := 27) C (c_Mesh_differenceTo X h4 g 27 3 (by decide) (by decide) (zfit_fr ((congrFun (congrFun eh4.symm _) _).trans (fr_Mesh_settle _ _ (by omega) (by omega) (by omega) (by omega) (by omega) (by omega) (by omega) (by omega) (by omega))) hph2)) k_Mesh_differenceTo m568 m569 m570 (by decide) (zC_Mesh (by decide) X _ _) rfl rfl (by decide) rfl (Nat.le_of_ble_eq_true rfl) d_X6_ahead_86 ?_
              have eR : o_Slots_ahead h what = ((o_Mesh_differenceTo h4 27 3), h4) := (by subst eh4 ey3 eh2; unfold o_Slots_ahead; rw [if_neg c1, if_pos c6, if_neg c34, if_neg c41_0, if_neg c41_1, if_pos c41_2])
              subst hQ
              exact zTQ_Ih eR (zr_ireti C d_X6_ahead_89)
            · have w41_0 : (what : Int32).toInt ≠ 0 := zne_toInt c41_0 (by decide)
              have w41_1 : (what : Int32).toInt ≠ 1 := zne_toInt c41_1 (by decide)
              have w41_2 : (what : Int32).toInt ≠ 2 := zne_toInt c41_2 (by decide)
              refine zr_tabOut C 90 d_X6_ahead_41 (by omega) (by decide) ?_
              refine zr_aload_n C d_X6_ahead_90 rfl ?_
              refine gf_Slots_3 C m230 d_X6_ahead_91 ?_
              refine gf_Mesh_2 C (by decide) m102 d_X6_ahead_94 ?_
              have eR : o_Slots_ahead h what = ((h4 27 2), h4) := (by subst eh4 ey3 eh2; unfold o_Slots_ahead; rw [if_neg c1, if_pos c6, if_neg c34, if_neg c41_0, if_neg c41_1, if_neg c41_2])
              subst hQ
              exact zTQ_Ih eR (zr_ireti C d_X6_ahead_97)
      · refine zr_bipush C (v := (-9)) d_X6_ahead_37 (by decide) ?_
        have eR : o_Slots_ahead h what = ((-9), h4) := (by subst eh4 ey3 eh2; unfold o_Slots_ahead; rw [if_neg c1, if_pos c6, if_pos c34])
        subst hQ
        exact zTQ_Ih eR (zr_ireti C d_X6_ahead_39)
    · have en5 := zn_nle (a := zcn what) (b := 3) (zix c1) rfl c6 (zcn_small _) (by decide)
      refine zr_bipush C (v := (-2)) d_X6_ahead_9 (by decide) ?_
      have eR : o_Slots_ahead h what = ((-2), h) := (by unfold o_Slots_ahead; rw [if_neg c1, if_neg c6])
      subst hQ
      exact zTQ_Ih eR (zr_ireti C d_X6_ahead_11)
theorem d_X6_plan_0 : decode prog_1_method_19_code 0 = .ok (.iload_n 1, 1) := by decide +kernel
theorem d_X6_plan_1 : decode prog_1_method_19_code 1 = .ok (.iconst (-1), 1) := by decide +kernel
theorem d_X6_plan_2 : decode prog_1_method_19_code 2 = .ok (.if_icmp .eq 16, 3) := by decide +kernel
theorem d_X6_plan_5 : decode prog_1_method_19_code 5 = .ok (.aload_n 0, 1) := by decide +kernel
theorem d_X6_plan_6 : decode prog_1_method_19_code 6 = .ok (.getfield 19, 3) := by decide +kernel
theorem d_X6_plan_9 : decode prog_1_method_19_code 9 = .ok (.iload_n 1, 1) := by decide +kernel
theorem d_X6_plan_10 : decode prog_1_method_19_code 10 = .ok (.invokevirtual 118, 3) := by decide +kernel
theorem d_X6_plan_13 : decode prog_1_method_19_code 13 = .ok (.ifCond .ne 5, 3) := by decide +kernel
theorem d_X6_plan_16 : decode prog_1_method_19_code 16 = .ok (.iconst (-1), 1) := by decide +kernel
theorem d_X6_plan_17 : decode prog_1_method_19_code 17 = .ok (.ireturn, 1) := by decide +kernel
theorem d_X6_plan_18 : decode prog_1_method_19_code 18 = .ok (.aload_n 0, 1) := by decide +kernel
theorem d_X6_plan_19 : decode prog_1_method_19_code 19 = .ok (.getfield 32, 3) := by decide +kernel
theorem d_X6_plan_22 : decode prog_1_method_19_code 22 = .ok (.aload_n 0, 1) := by decide +kernel
theorem d_X6_plan_23 : decode prog_1_method_19_code 23 = .ok (.getfield 19, 3) := by decide +kernel
theorem d_X6_plan_26 : decode prog_1_method_19_code 26 = .ok (.invokevirtual 215, 3) := by decide +kernel
theorem d_X6_plan_29 : decode prog_1_method_19_code 29 = .ok (.istore_n 2, 1) := by decide +kernel
theorem d_X6_plan_30 : decode prog_1_method_19_code 30 = .ok (.iload_n 1, 1) := by decide +kernel
theorem d_X6_plan_31 : decode prog_1_method_19_code 31 = .ok (.iconst (-1), 1) := by decide +kernel
theorem d_X6_plan_32 : decode prog_1_method_19_code 32 = .ok (.if_icmp .ne 13, 3) := by decide +kernel
theorem d_X6_plan_35 : decode prog_1_method_19_code 35 = .ok (.iload_n 2, 1) := by decide +kernel
theorem d_X6_plan_36 : decode prog_1_method_19_code 36 = .ok (.ifCond .eq 7, 3) := by decide +kernel
theorem d_X6_plan_39 : decode prog_1_method_19_code 39 = .ok (.iconst 1, 1) := by decide +kernel
theorem d_X6_plan_40 : decode prog_1_method_19_code 40 = .ok (.goto 4, 3) := by decide +kernel
theorem d_X6_plan_43 : decode prog_1_method_19_code 43 = .ok (.iconst 0, 1) := by decide +kernel
theorem d_X6_plan_44 : decode prog_1_method_19_code 44 = .ok (.ireturn, 1) := by decide +kernel
theorem d_X6_plan_45 : decode prog_1_method_19_code 45 = .ok (.iload_n 2, 1) := by decide +kernel
theorem d_X6_plan_46 : decode prog_1_method_19_code 46 = .ok (.ifCond .eq 15, 3) := by decide +kernel
theorem d_X6_plan_49 : decode prog_1_method_19_code 49 = .ok (.aload_n 0, 1) := by decide +kernel
theorem d_X6_plan_50 : decode prog_1_method_19_code 50 = .ok (.getfield 32, 3) := by decide +kernel
theorem d_X6_plan_53 : decode prog_1_method_19_code 53 = .ok (.getfield 219, 3) := by decide +kernel
theorem d_X6_plan_56 : decode prog_1_method_19_code 56 = .ok (.iload_n 1, 1) := by decide +kernel
theorem d_X6_plan_57 : decode prog_1_method_19_code 57 = .ok (.iaload, 1) := by decide +kernel
theorem d_X6_plan_58 : decode prog_1_method_19_code 58 = .ok (.goto 5, 3) := by decide +kernel
theorem d_X6_plan_61 : decode prog_1_method_19_code 61 = .ok (.bipush (-9), 2) := by decide +kernel
theorem d_X6_plan_63 : decode prog_1_method_19_code 63 = .ok (.ireturn, 1) := by decide +kernel
abbrev M_Slots_plan : zMT := (⟨"PeriodSlots", "plan", "(I)I"⟩, prog_1_method_19_code, 3, (some .int))
theorem k_Slots_plan : zcall M_Slots_plan 1 := ⟨zU_in (i := 575) (by decide +kernel) rfl, m54, ⟨by decide, by decide, by decide +kernel⟩, by decide⟩
def o_Slots_plan (h : zHp) (station : Int32) : Int32 × zHp :=
  (if station = (-1) then ((zb ((o_Planner_succeeds h 3).1)), ((o_Planner_succeeds h 3).2)) else (if (o_Mesh_exists h 3 station) = true then ((if ((o_Planner_succeeds h 3).1) = true then (((o_Planner_succeeds h 3).2) 40 (zcn station)) else (-9)), ((o_Planner_succeeds h 3).2)) else ((-1), h)))
theorem fr_Slots_plan {h : zHp} {station : Int32} (c k : Nat) (q0 : c ≠ 40) : (o_Slots_plan h station).2 c k = h c k := by
  unfold o_Slots_plan
  by_cases f1 : station = (-1)
  · rw [if_pos f1]
    try dsimp only
    first | done | exact (fr_Planner_succeeds _ _ (by assumption))
  · rw [if_neg f1]
    by_cases f2 : (o_Mesh_exists h 3 station) = true
    · rw [if_pos f2]
      try dsimp only
      first | done | exact (fr_Planner_succeeds _ _ (by assumption))
    · rw [if_neg f2]
      try dsimp only
      first | done | exact rfl
set_option maxHeartbeats 400000 in
set_option maxRecDepth 20000 in
theorem c_Slots_plan (X : zXT) (h : zHp) (g : zLg) (station : Int32) (hf0 : zfit h 3 0 8) : zDi X M_Slots_plan 16 [zR X 0, .int station] h g (zI ((o_Slots_plan h station).1)) ((o_Slots_plan h station).2) g := by
  have hf0_1 := hf0.1
  refine zDi_of "PeriodSlots" prog_1_method_19_code 3 (some .int) rfl (by decide) [zO X 0, zI station, none] rfl (fun _ q => q) (Nat.le_of_ble_eq_true rfl) ?_
  intro Γ Q C hQ
  refine zr_iload_n C d_X6_plan_0 rfl ?_
  refine zr_iconst C (v := (-1)) d_X6_plan_1 (by decide) ?_
  refine zr_icmp_eq C 18 d_X6_plan_2 (by decide) (fun c2 => ?_) (fun c2 => ?_)
  · refine zr_aload_n C d_X6_plan_18 rfl ?_
    refine gf_Slots_4 C m231 d_X6_plan_19 ?_
    refine zr_aload_n C d_X6_plan_22 rfl ?_
    refine gf_Slots_1 C m228 d_X6_plan_23 ?_
    refine zr_callVi (As := [zR X 3]) (st := []) (c := 39) C (c_Planner_succeeds X h g 3 (by decide) hf0) k_Planner_succeeds m576 m577 m578 (by decide) (zC_Planner X _ _) rfl rfl (by decide) rfl (Nat.le_of_ble_eq_true rfl) d_X6_plan_26 ?_
    refine zr_vz (fun y1 ey1 => ?_)
    refine zr_h (fun h2 eh2 => ?_)
    refine zr_istore_n C [zO X 0, zI station, zI (zb y1)] d_X6_plan_29 (Nat.le_of_ble_eq_true rfl) rfl rfl ?_
    refine zr_iload_n C d_X6_plan_30 rfl ?_
    refine zr_iconst C (v := (-1)) d_X6_plan_31 (by decide) ?_
    refine zr_icmp_ne C 45 d_X6_plan_32 (by decide) (fun c => absurd c2 c) (fun _ => ?_)
    refine zr_iload_n C d_X6_plan_35 rfl ?_
    suffices hJ36 : ∀ (y3 : Bool), y1 = y3 → zV X Γ Q 44 [none, none, none] [.int (zb y3)] h2 g by
      refine zr_ifz_eq C 43 d_X6_plan_36 (by decide) (fun c36 => ?_) (fun c36 => ?_)
      · refine zr_iconst C (v := 0) d_X6_plan_43 (by decide) ?_
        refine zr_lv [none, none, none] (by simp [zle]) ?_
        exact hJ36 false (by simp [c36])
      · refine zr_iconst C (v := 1) d_X6_plan_39 (by decide) ?_
        refine zr_goto C 44 d_X6_plan_40 (by decide) ?_
        refine zr_lv [none, none, none] (by simp [zle]) ?_
        exact hJ36 true (by simp [c36])
    intro y3 ey3
    have eR : o_Slots_plan h station = ((zb y3), h2) := (by subst ey3 eh2 ey1; unfold o_Slots_plan; rw [if_pos c2])
    subst hQ
    exact zTQ_Ih eR (zr_ireti C d_X6_plan_44)
  · refine zr_aload_n C d_X6_plan_5 rfl ?_
    refine gf_Slots_1 C m228 d_X6_plan_6 ?_
    refine zr_iload_n C d_X6_plan_9 rfl ?_
    refine zr_callVi (As := [.int station]) (st := []) (c := 3) C (c_Mesh_exists X h g 3 station (by decide)) k_Mesh_exists m446 m359 m360 (by decide) (zC_Mesh (by decide) X _ _) rfl rfl (by decide) rfl (Nat.le_of_ble_eq_true rfl) d_X6_plan_10 ?_
    refine zr_ifz_ne C 18 d_X6_plan_13 (by decide) (fun c13 => ?_) (fun c13 => ?_)
    · have ex4 := zex c13
      have ex4_2 := ex4.2
      have ex4_b := (hf0).1
      refine zr_aload_n C d_X6_plan_18 rfl ?_
      refine gf_Slots_4 C m231 d_X6_plan_19 ?_
      refine zr_aload_n C d_X6_plan_22 rfl ?_
      refine gf_Slots_1 C m228 d_X6_plan_23 ?_
      refine zr_callVi (As := [zR X 3]) (st := []) (c := 39) C (c_Planner_succeeds X h g 3 (by decide) hf0) k_Planner_succeeds m576 m577 m578 (by decide) (zC_Planner X _ _) rfl rfl (by decide) rfl (Nat.le_of_ble_eq_true rfl) d_X6_plan_26 ?_
      refine zr_vz (fun y5 ey5 => ?_)
      refine zr_h (fun h6 eh6 => ?_)
      refine zr_istore_n C [zO X 0, zI station, zI (zb y5)] d_X6_plan_29 (Nat.le_of_ble_eq_true rfl) rfl rfl ?_
      refine zr_iload_n C d_X6_plan_30 rfl ?_
      refine zr_iconst C (v := (-1)) d_X6_plan_31 (by decide) ?_
      refine zr_icmp_ne C 45 d_X6_plan_32 (by decide) (fun _ => ?_) (fun c => absurd c c2)
      refine zr_iload_n C d_X6_plan_45 rfl ?_
      suffices hJ46 : ∀ (y7 : Int32), (if y5 = true then (h6 40 (zcn station)) else (-9)) = y7 → zV X Γ Q 63 [none, none, none] [.int y7] h6 g by
        refine zr_ifz_eq C 61 d_X6_plan_46 (by decide) (fun c46 => ?_) (fun c46 => ?_)
        · refine zr_bipush C (v := (-9)) d_X6_plan_61 (by decide) ?_
          refine zr_lv [none, none, none] (by simp [zle]) ?_
          exact hJ46 (-9) (((if_neg (zbf c46))))
        · refine zr_aload_n C d_X6_plan_49 rfl ?_
          refine gf_Slots_4 C m231 d_X6_plan_50 ?_
          refine gf_Planner_0 C m165 d_X6_plan_53 ?_
          refine zr_iload_n C d_X6_plan_56 rfl ?_
          refine zr_iald C za_40 (zcn station) (zix ex4.1) (by omega) (by decide) d_X6_plan_57 ?_
          refine zr_goto C 63 d_X6_plan_58 (by decide) ?_
          refine zr_lv [none, none, none] (by simp [zle]) ?_
          exact hJ46 (h6 40 (zcn station)) (((if_pos c46)))
      intro y7 ey7
      have eR : o_Slots_plan h station = (y7, h6) := (by subst ey7 eh6 ey5; unfold o_Slots_plan; rw [if_neg c2, if_pos c13])
      subst hQ
      exact zTQ_Ih eR (zr_ireti C d_X6_plan_63)
    · refine zr_iconst C (v := (-1)) d_X6_plan_16 (by decide) ?_
      have eR : o_Slots_plan h station = ((-1), h) := (by unfold o_Slots_plan; rw [if_neg c2, if_neg (zbf c13)])
      subst hQ
      exact zTQ_Ih eR (zr_ireti C d_X6_plan_17)
end
