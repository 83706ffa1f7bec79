section
-- ===== PART A: goes FIRST, ahead of the names: the tables' words, and 'selects' of the private methods out of them =====
/-- a private method of a class that the tables say can be made, by its rows of tables_1 -/
def lw_okq (q : MethodName × Nat) : Prop := (q.1.cls ≠ "java/lang/invoke/MethodHandle" ∧ q.1.cls ≠ "java/lang/invoke/VarHandle") ∧ Cond.instantiable q.1.cls q.2 ∈ tables_1 ∧ Cond.privateMethod q.1 ∈ tables_1 ∧ Cond.instanceMethod q.1 ∈ tables_1
theorem lw_p0 : lw_okq (⟨"PeriodSlots$Text", "byteAt", "(I)I"⟩, 2) := ⟨⟨by decide +kernel, by decide +kernel⟩, List.mem_of_getElem? (i := 22) (by decide +kernel), List.mem_of_getElem? (i := 230) (by decide +kernel), List.mem_of_getElem? (i := 231) (by decide +kernel)⟩
theorem lw_p1 : lw_okq (⟨"PeriodSlots$Text", "readStation", "(ILPeriodSlots$Mesh;)I"⟩, 2) := ⟨⟨by decide +kernel, by decide +kernel⟩, List.mem_of_getElem? (i := 22) (by decide +kernel), List.mem_of_getElem? (i := 234) (by decide +kernel), List.mem_of_getElem? (i := 235) (by decide +kernel)⟩
theorem lw_p2 : lw_okq (⟨"PeriodSlots$Mesh", "neighboursOf", "(I)I"⟩, 14) := ⟨⟨by decide +kernel, by decide +kernel⟩, List.mem_of_getElem? (i := 37) (by decide +kernel), List.mem_of_getElem? (i := 265) (by decide +kernel), List.mem_of_getElem? (i := 266) (by decide +kernel)⟩
theorem lw_p3 : lw_okq (⟨"PeriodSlots$Mesh", "rank", "()V"⟩, 14) := ⟨⟨by decide +kernel, by decide +kernel⟩, List.mem_of_getElem? (i := 37) (by decide +kernel), List.mem_of_getElem? (i := 272) (by decide +kernel), List.mem_of_getElem? (i := 273) (by decide +kernel)⟩
theorem lw_p4 : lw_okq (⟨"PeriodSlots$Mesh", "priority", "(I)I"⟩, 14) := ⟨⟨by decide +kernel, by decide +kernel⟩, List.mem_of_getElem? (i := 37) (by decide +kernel), List.mem_of_getElem? (i := 276) (by decide +kernel), List.mem_of_getElem? (i := 277) (by decide +kernel)⟩
theorem lw_p5 : lw_okq (⟨"PeriodSlots$Mesh", "stationsAbove", "(I)I"⟩, 14) := ⟨⟨by decide +kernel, by decide +kernel⟩, List.mem_of_getElem? (i := 37) (by decide +kernel), List.mem_of_getElem? (i := 284) (by decide +kernel), List.mem_of_getElem? (i := 285) (by decide +kernel)⟩
theorem lw_p6 : lw_okq (⟨"PeriodSlots$Text", "readLink", "(ILPeriodSlots$Mesh;)I"⟩, 2) := ⟨⟨by decide +kernel, by decide +kernel⟩, List.mem_of_getElem? (i := 22) (by decide +kernel), List.mem_of_getElem? (i := 302) (by decide +kernel), List.mem_of_getElem? (i := 303) (by decide +kernel)⟩
theorem lw_p7 : lw_okq (⟨"PeriodSlots$Mesh", "occupiedByAny", "(I)I"⟩, 14) := ⟨⟨by decide +kernel, by decide +kernel⟩, List.mem_of_getElem? (i := 37) (by decide +kernel), List.mem_of_getElem? (i := 354) (by decide +kernel), List.mem_of_getElem? (i := 355) (by decide +kernel)⟩
theorem lw_p8 : lw_okq (⟨"PeriodSlots$Mesh", "moveToNext", "(I)I"⟩, 14) := ⟨⟨by decide +kernel, by decide +kernel⟩, List.mem_of_getElem? (i := 37) (by decide +kernel), List.mem_of_getElem? (i := 424) (by decide +kernel), List.mem_of_getElem? (i := 425) (by decide +kernel)⟩
theorem lw_p9 : lw_okq (⟨"PeriodSlots", "bestDistance", "(I)I"⟩, 10) := ⟨⟨by decide +kernel, by decide +kernel⟩, List.mem_of_getElem? (i := 14) (by decide +kernel), List.mem_of_getElem? (i := 472) (by decide +kernel), List.mem_of_getElem? (i := 473) (by decide +kernel)⟩
theorem lw_p10 : lw_okq (⟨"PeriodSlots", "conflictsAfter", "(II)I"⟩, 10) := ⟨⟨by decide +kernel, by decide +kernel⟩, List.mem_of_getElem? (i := 14) (by decide +kernel), List.mem_of_getElem? (i := 476) (by decide +kernel), List.mem_of_getElem? (i := 477) (by decide +kernel)⟩
theorem lw_p11 : lw_okq (⟨"PeriodSlots$Mesh", "heardBy", "(II)I"⟩, 14) := ⟨⟨by decide +kernel, by decide +kernel⟩, List.mem_of_getElem? (i := 37) (by decide +kernel), List.mem_of_getElem? (i := 563) (by decide +kernel), List.mem_of_getElem? (i := 564) (by decide +kernel)⟩
theorem lw_p12 : lw_okq (⟨"PeriodSlots", "isTrue", "(I)Z"⟩, 10) := ⟨⟨by decide +kernel, by decide +kernel⟩, List.mem_of_getElem? (i := 14) (by decide +kernel), List.mem_of_getElem? (i := 584) (by decide +kernel), List.mem_of_getElem? (i := 585) (by decide +kernel)⟩
theorem lw_p13 : lw_okq (⟨"PeriodSlots", "turnsDraft", "(II)Z"⟩, 10) := ⟨⟨by decide +kernel, by decide +kernel⟩, List.mem_of_getElem? (i := 14) (by decide +kernel), List.mem_of_getElem? (i := 588) (by decide +kernel), List.mem_of_getElem? (i := 589) (by decide +kernel)⟩
theorem lw_p14 : lw_okq (⟨"PeriodSlots", "laysDraft", "(II)Z"⟩, 10) := ⟨⟨by decide +kernel, by decide +kernel⟩, List.mem_of_getElem? (i := 14) (by decide +kernel), List.mem_of_getElem? (i := 592) (by decide +kernel), List.mem_of_getElem? (i := 593) (by decide +kernel)⟩
theorem lw_p15 : lw_okq (⟨"PeriodSlots", "shiftsDraft", "(II)Z"⟩, 10) := ⟨⟨by decide +kernel, by decide +kernel⟩, List.mem_of_getElem? (i := 14) (by decide +kernel), List.mem_of_getElem? (i := 596) (by decide +kernel), List.mem_of_getElem? (i := 597) (by decide +kernel)⟩
def lw_privs_1 : List (MethodName × Nat) := [(⟨"PeriodSlots$Text", "byteAt", "(I)I"⟩, 2), (⟨"PeriodSlots$Text", "readStation", "(ILPeriodSlots$Mesh;)I"⟩, 2), (⟨"PeriodSlots$Mesh", "neighboursOf", "(I)I"⟩, 14), (⟨"PeriodSlots$Mesh", "rank", "()V"⟩, 14), (⟨"PeriodSlots$Mesh", "priority", "(I)I"⟩, 14), (⟨"PeriodSlots$Mesh", "stationsAbove", "(I)I"⟩, 14), (⟨"PeriodSlots$Text", "readLink", "(ILPeriodSlots$Mesh;)I"⟩, 2), (⟨"PeriodSlots$Mesh", "occupiedByAny", "(I)I"⟩, 14), (⟨"PeriodSlots$Mesh", "moveToNext", "(I)I"⟩, 14), (⟨"PeriodSlots", "bestDistance", "(I)I"⟩, 10), (⟨"PeriodSlots", "conflictsAfter", "(II)I"⟩, 10), (⟨"PeriodSlots$Mesh", "heardBy", "(II)I"⟩, 14), (⟨"PeriodSlots", "isTrue", "(I)Z"⟩, 10), (⟨"PeriodSlots", "turnsDraft", "(II)Z"⟩, 10), (⟨"PeriodSlots", "laysDraft", "(II)Z"⟩, 10), (⟨"PeriodSlots", "shiftsDraft", "(II)Z"⟩, 10)]
theorem lw_r1 : ∀ q ∈ lw_privs_1, lw_okq q := List.forall_mem_cons.mpr ⟨lw_p0, List.forall_mem_cons.mpr ⟨lw_p1, List.forall_mem_cons.mpr ⟨lw_p2, List.forall_mem_cons.mpr ⟨lw_p3, List.forall_mem_cons.mpr ⟨lw_p4, List.forall_mem_cons.mpr ⟨lw_p5, List.forall_mem_cons.mpr ⟨lw_p6, List.forall_mem_cons.mpr ⟨lw_p7, List.forall_mem_cons.mpr ⟨lw_p8, List.forall_mem_cons.mpr ⟨lw_p9, List.forall_mem_cons.mpr ⟨lw_p10, List.forall_mem_cons.mpr ⟨lw_p11, List.forall_mem_cons.mpr ⟨lw_p12, List.forall_mem_cons.mpr ⟨lw_p13, List.forall_mem_cons.mpr ⟨lw_p14, List.forall_mem_cons.mpr ⟨lw_p15, fun _ h => absurd h List.not_mem_nil⟩⟩⟩⟩⟩⟩⟩⟩⟩⟩⟩⟩⟩⟩⟩⟩
theorem lw_p16 : lw_okq (⟨"PeriodSlots", "advancesDraft", "()Z"⟩, 10) := ⟨⟨by decide +kernel, by decide +kernel⟩, List.mem_of_getElem? (i := 14) (by decide +kernel), List.mem_of_getElem? (i := 600) (by decide +kernel), List.mem_of_getElem? (i := 601) (by decide +kernel)⟩
theorem lw_p17 : lw_okq (⟨"PeriodSlots", "ordersCounting", "(II)I"⟩, 10) := ⟨⟨by decide +kernel, by decide +kernel⟩, List.mem_of_getElem? (i := 14) (by decide +kernel), List.mem_of_getElem? (i := 635) (by decide +kernel), List.mem_of_getElem? (i := 636) (by decide +kernel)⟩
theorem lw_p18 : lw_okq (⟨"PeriodSlots", "placedIfOnly", "(I)I"⟩, 10) := ⟨⟨by decide +kernel, by decide +kernel⟩, List.mem_of_getElem? (i := 14) (by decide +kernel), List.mem_of_getElem? (i := 642) (by decide +kernel), List.mem_of_getElem? (i := 643) (by decide +kernel)⟩
theorem lw_p19 : lw_okq (⟨"PeriodSlots", "drawOffsets", "()V"⟩, 10) := ⟨⟨by decide +kernel, by decide +kernel⟩, List.mem_of_getElem? (i := 14) (by decide +kernel), List.mem_of_getElem? (i := 674) (by decide +kernel), List.mem_of_getElem? (i := 675) (by decide +kernel)⟩
theorem lw_p20 : lw_okq (⟨"PeriodSlotsModel", "readText", "()I"⟩, 32) := ⟨⟨by decide +kernel, by decide +kernel⟩, List.mem_of_getElem? (i := 692) (by decide +kernel), List.mem_of_getElem? (i := 815) (by decide +kernel), List.mem_of_getElem? (i := 816) (by decide +kernel)⟩
theorem lw_p21 : lw_okq (⟨"PeriodSlotsModel", "takeSign", "(I)Z"⟩, 32) := ⟨⟨by decide +kernel, by decide +kernel⟩, List.mem_of_getElem? (i := 692) (by decide +kernel), List.mem_of_getElem? (i := 819) (by decide +kernel), List.mem_of_getElem? (i := 820) (by decide +kernel)⟩
theorem lw_p22 : lw_okq (⟨"PeriodSlotsModel", "hasRoom", "(I)Z"⟩, 32) := ⟨⟨by decide +kernel, by decide +kernel⟩, List.mem_of_getElem? (i := 692) (by decide +kernel), List.mem_of_getElem? (i := 823) (by decide +kernel), List.mem_of_getElem? (i := 824) (by decide +kernel)⟩
theorem lw_p23 : lw_okq (⟨"PeriodSlotsModel", "takeOfStation", "(I)Z"⟩, 32) := ⟨⟨by decide +kernel, by decide +kernel⟩, List.mem_of_getElem? (i := 692) (by decide +kernel), List.mem_of_getElem? (i := 827) (by decide +kernel), List.mem_of_getElem? (i := 828) (by decide +kernel)⟩
theorem lw_p24 : lw_okq (⟨"PeriodSlotsModel", "takeOfLink", "(I)Z"⟩, 32) := ⟨⟨by decide +kernel, by decide +kernel⟩, List.mem_of_getElem? (i := 692) (by decide +kernel), List.mem_of_getElem? (i := 834) (by decide +kernel), List.mem_of_getElem? (i := 835) (by decide +kernel)⟩
theorem lw_p25 : lw_okq (⟨"PeriodSlotsModel", "all", "()I"⟩, 32) := ⟨⟨by decide +kernel, by decide +kernel⟩, List.mem_of_getElem? (i := 692) (by decide +kernel), List.mem_of_getElem? (i := 849) (by decide +kernel), List.mem_of_getElem? (i := 850) (by decide +kernel)⟩
theorem lw_p26 : lw_okq (⟨"PeriodSlotsModel", "layNear", "([II)V"⟩, 32) := ⟨⟨by decide +kernel, by decide +kernel⟩, List.mem_of_getElem? (i := 692) (by decide +kernel), List.mem_of_getElem? (i := 853) (by decide +kernel), List.mem_of_getElem? (i := 854) (by decide +kernel)⟩
theorem lw_p27 : lw_okq (⟨"PeriodSlotsModel", "neighbours", "([II)I"⟩, 32) := ⟨⟨by decide +kernel, by decide +kernel⟩, List.mem_of_getElem? (i := 692) (by decide +kernel), List.mem_of_getElem? (i := 857) (by decide +kernel), List.mem_of_getElem? (i := 858) (by decide +kernel)⟩
theorem lw_p28 : lw_okq (⟨"PeriodSlotsModel", "links", "()I"⟩, 32) := ⟨⟨by decide +kernel, by decide +kernel⟩, List.mem_of_getElem? (i := 692) (by decide +kernel), List.mem_of_getElem? (i := 861) (by decide +kernel), List.mem_of_getElem? (i := 862) (by decide +kernel)⟩
theorem lw_p29 : lw_okq (⟨"PeriodSlotsModel", "clashes", "([I)I"⟩, 32) := ⟨⟨by decide +kernel, by decide +kernel⟩, List.mem_of_getElem? (i := 692) (by decide +kernel), List.mem_of_getElem? (i := 868) (by decide +kernel), List.mem_of_getElem? (i := 869) (by decide +kernel)⟩
theorem lw_p30 : lw_okq (⟨"PeriodSlotsModel", "ticks", "([II)I"⟩, 32) := ⟨⟨by decide +kernel, by decide +kernel⟩, List.mem_of_getElem? (i := 692) (by decide +kernel), List.mem_of_getElem? (i := 872) (by decide +kernel), List.mem_of_getElem? (i := 873) (by decide +kernel)⟩
theorem lw_p31 : lw_okq (⟨"PeriodSlotsModel", "unsettled", "([I)I"⟩, 32) := ⟨⟨by decide +kernel, by decide +kernel⟩, List.mem_of_getElem? (i := 692) (by decide +kernel), List.mem_of_getElem? (i := 879) (by decide +kernel), List.mem_of_getElem? (i := 880) (by decide +kernel)⟩
def lw_privs_2 : List (MethodName × Nat) := [(⟨"PeriodSlots", "advancesDraft", "()Z"⟩, 10), (⟨"PeriodSlots", "ordersCounting", "(II)I"⟩, 10), (⟨"PeriodSlots", "placedIfOnly", "(I)I"⟩, 10), (⟨"PeriodSlots", "drawOffsets", "()V"⟩, 10), (⟨"PeriodSlotsModel", "readText", "()I"⟩, 32), (⟨"PeriodSlotsModel", "takeSign", "(I)Z"⟩, 32), (⟨"PeriodSlotsModel", "hasRoom", "(I)Z"⟩, 32), (⟨"PeriodSlotsModel", "takeOfStation", "(I)Z"⟩, 32), (⟨"PeriodSlotsModel", "takeOfLink", "(I)Z"⟩, 32), (⟨"PeriodSlotsModel", "all", "()I"⟩, 32), (⟨"PeriodSlotsModel", "layNear", "([II)V"⟩, 32), (⟨"PeriodSlotsModel", "neighbours", "([II)I"⟩, 32), (⟨"PeriodSlotsModel", "links", "()I"⟩, 32), (⟨"PeriodSlotsModel", "clashes", "([I)I"⟩, 32), (⟨"PeriodSlotsModel", "ticks", "([II)I"⟩, 32), (⟨"PeriodSlotsModel", "unsettled", "([I)I"⟩, 32)]
theorem lw_r2 : ∀ q ∈ lw_privs_2, lw_okq q := List.forall_mem_cons.mpr ⟨lw_p16, List.forall_mem_cons.mpr ⟨lw_p17, List.forall_mem_cons.mpr ⟨lw_p18, List.forall_mem_cons.mpr ⟨lw_p19, List.forall_mem_cons.mpr ⟨lw_p20, List.forall_mem_cons.mpr ⟨lw_p21, List.forall_mem_cons.mpr ⟨lw_p22, List.forall_mem_cons.mpr ⟨lw_p23, List.forall_mem_cons.mpr ⟨lw_p24, List.forall_mem_cons.mpr ⟨lw_p25, List.forall_mem_cons.mpr ⟨lw_p26, List.forall_mem_cons.mpr ⟨lw_p27, List.forall_mem_cons.mpr ⟨lw_p28, List.forall_mem_cons.mpr ⟨lw_p29, List.forall_mem_cons.mpr ⟨lw_p30, List.forall_mem_cons.mpr ⟨lw_p31, fun _ h => absurd h List.not_mem_nil⟩⟩⟩⟩⟩⟩⟩⟩⟩⟩⟩⟩⟩⟩⟩⟩
theorem lw_p32 : lw_okq (⟨"PeriodSlotsModel", "isUnsettled", "([II)Z"⟩, 32) := ⟨⟨by decide +kernel, by decide +kernel⟩, List.mem_of_getElem? (i := 692) (by decide +kernel), List.mem_of_getElem? (i := 883) (by decide +kernel), List.mem_of_getElem? (i := 884) (by decide +kernel)⟩
theorem lw_p33 : lw_okq (⟨"PeriodSlotsModel", "heldNear", "([IIZ)I"⟩, 32) := ⟨⟨by decide +kernel, by decide +kernel⟩, List.mem_of_getElem? (i := 692) (by decide +kernel), List.mem_of_getElem? (i := 887) (by decide +kernel), List.mem_of_getElem? (i := 888) (by decide +kernel)⟩
theorem lw_p34 : lw_okq (⟨"PeriodSlotsModel", "held", "([II)I"⟩, 32) := ⟨⟨by decide +kernel, by decide +kernel⟩, List.mem_of_getElem? (i := 692) (by decide +kernel), List.mem_of_getElem? (i := 897) (by decide +kernel), List.mem_of_getElem? (i := 898) (by decide +kernel)⟩
theorem lw_p35 : lw_okq (⟨"PeriodSlotsModel", "withOffset", "([I)I"⟩, 32) := ⟨⟨by decide +kernel, by decide +kernel⟩, List.mem_of_getElem? (i := 692) (by decide +kernel), List.mem_of_getElem? (i := 901) (by decide +kernel), List.mem_of_getElem? (i := 902) (by decide +kernel)⟩
theorem lw_p36 : lw_okq (⟨"PeriodSlotsModel", "isQuiet", "([I)Z"⟩, 32) := ⟨⟨by decide +kernel, by decide +kernel⟩, List.mem_of_getElem? (i := 692) (by decide +kernel), List.mem_of_getElem? (i := 905) (by decide +kernel), List.mem_of_getElem? (i := 906) (by decide +kernel)⟩
theorem lw_p37 : lw_okq (⟨"PeriodSlotsModel", "free", "([II)I"⟩, 32) := ⟨⟨by decide +kernel, by decide +kernel⟩, List.mem_of_getElem? (i := 692) (by decide +kernel), List.mem_of_getElem? (i := 909) (by decide +kernel), List.mem_of_getElem? (i := 910) (by decide +kernel)⟩
theorem lw_p38 : lw_okq (⟨"PeriodSlotsModel", "nets", "()I"⟩, 32) := ⟨⟨by decide +kernel, by decide +kernel⟩, List.mem_of_getElem? (i := 692) (by decide +kernel), List.mem_of_getElem? (i := 913) (by decide +kernel), List.mem_of_getElem? (i := 914) (by decide +kernel)⟩
theorem lw_p39 : lw_okq (⟨"PeriodSlotsModel", "netOf", "([II)I"⟩, 32) := ⟨⟨by decide +kernel, by decide +kernel⟩, List.mem_of_getElem? (i := 692) (by decide +kernel), List.mem_of_getElem? (i := 917) (by decide +kernel), List.mem_of_getElem? (i := 918) (by decide +kernel)⟩
theorem lw_p40 : lw_okq (⟨"PeriodSlotsModel", "isStation", "(I)Z"⟩, 32) := ⟨⟨by decide +kernel, by decide +kernel⟩, List.mem_of_getElem? (i := 692) (by decide +kernel), List.mem_of_getElem? (i := 928) (by decide +kernel), List.mem_of_getElem? (i := 929) (by decide +kernel)⟩
theorem lw_p41 : lw_okq (⟨"PeriodSlotsModel", "note", "()V"⟩, 32) := ⟨⟨by decide +kernel, by decide +kernel⟩, List.mem_of_getElem? (i := 692) (by decide +kernel), List.mem_of_getElem? (i := 936) (by decide +kernel), List.mem_of_getElem? (i := 937) (by decide +kernel)⟩
theorem lw_p42 : lw_okq (⟨"PeriodSlotsModel", "roundOf", "([I)I"⟩, 32) := ⟨⟨by decide +kernel, by decide +kernel⟩, List.mem_of_getElem? (i := 692) (by decide +kernel), List.mem_of_getElem? (i := 940) (by decide +kernel), List.mem_of_getElem? (i := 941) (by decide +kernel)⟩
theorem lw_p43 : lw_okq (⟨"PeriodSlotsModel", "isOffset", "(II)Z"⟩, 32) := ⟨⟨by decide +kernel, by decide +kernel⟩, List.mem_of_getElem? (i := 692) (by decide +kernel), List.mem_of_getElem? (i := 958) (by decide +kernel), List.mem_of_getElem? (i := 959) (by decide +kernel)⟩
theorem lw_p44 : lw_okq (⟨"PeriodSlotsModel", "shiftOf", "([III)V"⟩, 32) := ⟨⟨by decide +kernel, by decide +kernel⟩, List.mem_of_getElem? (i := 692) (by decide +kernel), List.mem_of_getElem? (i := 967) (by decide +kernel), List.mem_of_getElem? (i := 968) (by decide +kernel)⟩
theorem lw_p45 : lw_okq (⟨"PeriodSlotsModel", "runOf", "([I)I"⟩, 32) := ⟨⟨by decide +kernel, by decide +kernel⟩, List.mem_of_getElem? (i := 692) (by decide +kernel), List.mem_of_getElem? (i := 982) (by decide +kernel), List.mem_of_getElem? (i := 983) (by decide +kernel)⟩
theorem lw_p46 : lw_okq (⟨"PeriodSlotsModel", "layPlan", "()Z"⟩, 32) := ⟨⟨by decide +kernel, by decide +kernel⟩, List.mem_of_getElem? (i := 692) (by decide +kernel), List.mem_of_getElem? (i := 999) (by decide +kernel), List.mem_of_getElem? (i := 1000) (by decide +kernel)⟩
theorem lw_p47 : lw_okq (⟨"PeriodSlotsModel", "fits", "(I)Z"⟩, 32) := ⟨⟨by decide +kernel, by decide +kernel⟩, List.mem_of_getElem? (i := 692) (by decide +kernel), List.mem_of_getElem? (i := 1003) (by decide +kernel), List.mem_of_getElem? (i := 1004) (by decide +kernel)⟩
def lw_privs_3 : List (MethodName × Nat) := [(⟨"PeriodSlotsModel", "isUnsettled", "([II)Z"⟩, 32), (⟨"PeriodSlotsModel", "heldNear", "([IIZ)I"⟩, 32), (⟨"PeriodSlotsModel", "held", "([II)I"⟩, 32), (⟨"PeriodSlotsModel", "withOffset", "([I)I"⟩, 32), (⟨"PeriodSlotsModel", "isQuiet", "([I)Z"⟩, 32), (⟨"PeriodSlotsModel", "free", "([II)I"⟩, 32), (⟨"PeriodSlotsModel", "nets", "()I"⟩, 32), (⟨"PeriodSlotsModel", "netOf", "([II)I"⟩, 32), (⟨"PeriodSlotsModel", "isStation", "(I)Z"⟩, 32), (⟨"PeriodSlotsModel", "note", "()V"⟩, 32), (⟨"PeriodSlotsModel", "roundOf", "([I)I"⟩, 32), (⟨"PeriodSlotsModel", "isOffset", "(II)Z"⟩, 32), (⟨"PeriodSlotsModel", "shiftOf", "([III)V"⟩, 32), (⟨"PeriodSlotsModel", "runOf", "([I)I"⟩, 32), (⟨"PeriodSlotsModel", "layPlan", "()Z"⟩, 32), (⟨"PeriodSlotsModel", "fits", "(I)Z"⟩, 32)]
theorem lw_r3 : ∀ q ∈ lw_privs_3, lw_okq q := List.forall_mem_cons.mpr ⟨lw_p32, List.forall_mem_cons.mpr ⟨lw_p33, List.forall_mem_cons.mpr ⟨lw_p34, List.forall_mem_cons.mpr ⟨lw_p35, List.forall_mem_cons.mpr ⟨lw_p36, List.forall_mem_cons.mpr ⟨lw_p37, List.forall_mem_cons.mpr ⟨lw_p38, List.forall_mem_cons.mpr ⟨lw_p39, List.forall_mem_cons.mpr ⟨lw_p40, List.forall_mem_cons.mpr ⟨lw_p41, List.forall_mem_cons.mpr ⟨lw_p42, List.forall_mem_cons.mpr ⟨lw_p43, List.forall_mem_cons.mpr ⟨lw_p44, List.forall_mem_cons.mpr ⟨lw_p45, List.forall_mem_cons.mpr ⟨lw_p46, List.forall_mem_cons.mpr ⟨lw_p47, fun _ h => absurd h List.not_mem_nil⟩⟩⟩⟩⟩⟩⟩⟩⟩⟩⟩⟩⟩⟩⟩⟩
theorem lw_p48 : lw_okq (⟨"PeriodSlotsModel", "awakeTicks", "(I)I"⟩, 32) := ⟨⟨by decide +kernel, by decide +kernel⟩, List.mem_of_getElem? (i := 692) (by decide +kernel), List.mem_of_getElem? (i := 1015) (by decide +kernel), List.mem_of_getElem? (i := 1016) (by decide +kernel)⟩
theorem lw_p49 : lw_okq (⟨"PeriodSlotsModel", "heardAt", "(II)I"⟩, 32) := ⟨⟨by decide +kernel, by decide +kernel⟩, List.mem_of_getElem? (i := 692) (by decide +kernel), List.mem_of_getElem? (i := 1019) (by decide +kernel), List.mem_of_getElem? (i := 1020) (by decide +kernel)⟩
theorem lw_p50 : lw_okq (⟨"PeriodSlotsModel", "senders", "([III)I"⟩, 32) := ⟨⟨by decide +kernel, by decide +kernel⟩, List.mem_of_getElem? (i := 692) (by decide +kernel), List.mem_of_getElem? (i := 1023) (by decide +kernel), List.mem_of_getElem? (i := 1024) (by decide +kernel)⟩
theorem lw_p51 : lw_okq (⟨"PeriodSlotsModel", "judged", "(IIII)Z"⟩, 32) := ⟨⟨by decide +kernel, by decide +kernel⟩, List.mem_of_getElem? (i := 692) (by decide +kernel), List.mem_of_getElem? (i := 1040) (by decide +kernel), List.mem_of_getElem? (i := 1041) (by decide +kernel)⟩
theorem lw_p52 : lw_okq (⟨"PeriodSlotsModel", "runWith", "(I)I"⟩, 32) := ⟨⟨by decide +kernel, by decide +kernel⟩, List.mem_of_getElem? (i := 692) (by decide +kernel), List.mem_of_getElem? (i := 1061) (by decide +kernel), List.mem_of_getElem? (i := 1062) (by decide +kernel)⟩
def lw_privs_4 : List (MethodName × Nat) := [(⟨"PeriodSlotsModel", "awakeTicks", "(I)I"⟩, 32), (⟨"PeriodSlotsModel", "heardAt", "(II)I"⟩, 32), (⟨"PeriodSlotsModel", "senders", "([III)I"⟩, 32), (⟨"PeriodSlotsModel", "judged", "(IIII)Z"⟩, 32), (⟨"PeriodSlotsModel", "runWith", "(I)I"⟩, 32)]
theorem lw_r4 : ∀ q ∈ lw_privs_4, lw_okq q := List.forall_mem_cons.mpr ⟨lw_p48, List.forall_mem_cons.mpr ⟨lw_p49, List.forall_mem_cons.mpr ⟨lw_p50, List.forall_mem_cons.mpr ⟨lw_p51, List.forall_mem_cons.mpr ⟨lw_p52, fun _ h => absurd h List.not_mem_nil⟩⟩⟩⟩⟩
def lw_privs : List (MethodName × Nat) := lw_privs_1 ++ (lw_privs_2 ++ (lw_privs_3 ++ (lw_privs_4)))
def lw_tbl : List Cond := k2_sels lw_privs ++ tables_1
theorem lw_privs_ok : ∀ q ∈ lw_privs, lw_okq q := by
  show ∀ q ∈ lw_privs_1 ++ (lw_privs_2 ++ (lw_privs_3 ++ (lw_privs_4))), lw_okq q
  exact List.forall_mem_append.mpr ⟨lw_r1, List.forall_mem_append.mpr ⟨lw_r2, List.forall_mem_append.mpr ⟨lw_r3, lw_r4⟩⟩⟩
-- ===== end of PART A; then your names; then what follows =====
end
section
/-! The fixed world: 71 cells at addresses that are variables, their numbers in two functions: h (ints, by cell and place), g (longs). -/
abbrev zHp : Type := Nat → Nat → Int32
abbrev zLg : Type := Nat → Int64
/-- launch, classes and slots as the tables have them, the classes of int[] and boolean[], the addresses -/
abbrev zXT : Type := Launch × va_G × ClassId × ClassId × (Nat → Nat)
/-- program, env, room, state at the entry, method, arguments, below, method, code, cells and slots made so far -/
abbrev zGT : Type := Program × Env × Room × State × MethodId × Array Value × List Frame × Method × Code × Nat × Nat
abbrev zR (X : zXT) (c : Nat) : Value := .ref (X.2.2.2.2 c)
def zkind : Nat → Nat := fun c => ([6, 5, 8, 1, 8, 8, 8, 8, 8, 8, 8, 8, 8, 8, 8, 1, 8, 8, 8, 8, 8, 8, 8, 8, 8, 8, 8, 1, 8, 8, 8, 8, 8, 8, 8, 8, 8, 8, 8, 3, 8, 0, 4, 8, 4, 8, 2, 8, 8, 8, 8, 7, 8, 8, 8, 8, 8, 8, 8, 9, 8, 8, 8, 8, 8, 8, 8, 8, 8, 8, 8] : List Nat).getD c 10
def zlen : Nat → Nat := fun c => ([0, 0, 110, 0, 8, 8, 8, 8, 8, 8, 8, 8, 8, 8, 8, 0, 8, 8, 8, 8, 8, 8, 8, 8, 8, 8, 8, 0, 8, 8, 8, 8, 8, 8, 8, 8, 8, 8, 8, 0, 8, 0, 0, 350, 0, 50, 0, 6, 6, 6, 4, 0, 110, 8, 25, 25, 25, 350, 50, 2, 6, 6, 6, 8, 8, 8, 8, 8, 8, 8, 256] : List Nat).getD c 0
def zF_Acts (X : zXT) (c : Nat) (r : Nat → Int32) : List Value := [zR X (c + 1), .int (r 0), .int (r 1)]
def zF_Mesh (X : zXT) (c : Nat) (r : Nat → Int32) : List Value := [.int (r 0), .int (r 1), .int (r 2), zR X (c + 1), zR X (c + 2), zR X (c + 3), zR X (c + 4), zR X (c + 5), zR X (c + 6), zR X (c + 7), zR X (c + 8), zR X (c + 9), zR X (c + 10), zR X (c + 11)]
def zF_Obs (X : zXT) (c : Nat) (r : Nat → Int32) : List Value := [zR X (c + 1), zR X (c + 2), zR X (c + 3), .int (r 0)]
def zF_Planner (X : zXT) (c : Nat) : List Value := [zR X (c + 1)]
def zF_Shelf (X : zXT) (c : Nat) (r : Nat → Int32) : List Value := [.int (r 0), zR X (c + 1), .int (r 1)]
def zF_Text (X : zXT) (c : Nat) (r : Nat → Int32) : List Value := [zR X (c + 1), .int (r 0)]
def zF_Slots (X : zXT) (g : zLg) : List Value := [zR X 1, zR X 3, zR X 15, zR X 27, zR X 39, zR X 41, zR X 44, zR X 46, zR X 50, .long (g 0)]
def zF_Model (X : zXT) (g : zLg) (r : Nat → Int32) : List Value := [zR X 52, .int (r 0), .int (r 1), zR X 53, zR X 54, zR X 55, zR X 56, zR X 57, .int (r 2), .int (r 3), zR X 58, zR X 59, zR X 60, zR X 61, zR X 62, .int (r 4), .long (g 1), .int (r 5), zR X 63, zR X 64, zR X 65, .int (r 6), .int (r 7), .int (r 8), .int (r 9), zR X 66, zR X 67, zR X 68, .int (r 10), .int (r 11), zR X 69, zR X 70]
def zC (X : zXT) (g : zLg) (c : Nat) (r : Nat → Int32) : va_E := match zkind c with
  | 0 => .inr (0, zF_Acts X c r)
  | 1 => .inr (1, zF_Mesh X c r)
  | 2 => .inr (2, zF_Obs X c r)
  | 3 => .inr (3, zF_Planner X c)
  | 4 => .inr (4, zF_Shelf X c r)
  | 5 => .inr (5, zF_Text X c r)
  | 6 => .inr (6, zF_Slots X g)
  | 7 => .inr (7, zF_Model X g r)
  | 8 => .inl (X.2.2.1, zlen c, .inl r)
  | _ => .inl (X.2.2.2.1, zlen c, .inl r)
def zw (X : zXT) (h : zHp) (g : zLg) : va_W := (List.range 71).map fun c => (X.2.2.2.2 c, zC X g c (h c))
theorem zw_at (X : zXT) (h : zHp) (g : zLg) {c : Nat} (hc : c < 71) : (zw X h g)[c]? = some (X.2.2.2.2 c, zC X g c (h c)) := by
  simp [zw, hc]
/-- one place of one cell -/
def zup (h : zHp) (c k : Nat) (x : Int32) : zHp := fun c2 => if c2 = c then upd (h c) k x else h c2
def zupg (g : zLg) (k : Nat) (x : Int64) : zLg := fun j => if j = k then x else g j
/-- a row copied into another -/
def zcp (h : zHp) (c d sp dp n : Nat) : zHp := fun c2 => if c2 = d then va_cpy (h c) (h d) sp dp n else h c2
theorem zw_set (X : zXT) (h h2 : zHp) (g g2 : zLg) {c : Nat} {e : va_E} (he : zC X g2 c (h2 c) = e) (ho : ∀ d, d ≠ c → zC X g2 d (h2 d) = zC X g d (h d)) : (zw X h g).set c (X.2.2.2.2 c, e) = zw X h2 g2 := by
  apply List.ext_getElem?
  intro i
  by_cases hi : i = c
  · subst hi
    by_cases hl : i < 71
    · rw [List.getElem?_set_self (by simp [zw]; omega), zw_at X h2 g2 hl, he]
    · rw [List.getElem?_eq_none (by simp [zw]; omega), List.getElem?_eq_none (by simp [zw]; omega)]
  · rw [List.getElem?_set_ne (Ne.symm hi)]
    by_cases hl : i < 71
    · rw [zw_at X h g hl, zw_at X h2 g2 hl, ho i hi]
    · rw [List.getElem?_eq_none (by simp [zw]; omega), List.getElem?_eq_none (by simp [zw]; omega)]
theorem zup_ne {h : zHp} {c d k : Nat} {x : Int32} (hd : d ≠ c) : zup h c k x d = h d := if_neg hd
theorem zup_eq {h : zHp} {c k : Nat} {x : Int32} : zup h c k x c = upd (h c) k x := if_pos rfl
theorem zcp_ne {h : zHp} {c d e sp dp n : Nat} (hd : e ≠ d) : zcp h c d sp dp n e = h e := if_neg hd
theorem zcp_eq {h : zHp} {c d sp dp n : Nat} : zcp h c d sp dp n d = va_cpy (h c) (h d) sp dp n := if_pos rfl
theorem zw_up (X : zXT) (h : zHp) (g : zLg) {c k : Nat} {x : Int32} {e : va_E} (he : zC X g c (upd (h c) k x) = e) : (zw X h g).set c (X.2.2.2.2 c, e) = zw X (zup h c k x) g :=
  zw_set X h _ g g (by rw [zup_eq]; exact he) (fun d hd => by rw [zup_ne hd])
theorem zw_upg (X : zXT) (h : zHp) (g : zLg) {c k : Nat} {x : Int64} {e : va_E} (he : zC X (zupg g k x) c (h c) = e) (ho : ∀ d, d ≠ c → zC X (zupg g k x) d (h d) = zC X g d (h d)) : (zw X h g).set c (X.2.2.2.2 c, e) = zw X h (zupg g k x) :=
  zw_set X h _ g _ he ho
/-- the addresses are apart -/
def zInj (X : zXT) : Prop := ∀ i j, i < 71 → j < 71 → X.2.2.2.2 i = X.2.2.2.2 j → i = j
def zA (X : zXT) : Nat → Prop := fun q => ∃ c, c < 71 ∧ q = X.2.2.2.2 c
theorem zw_D {X : zXT} (hI : zInj X) (h : zHp) (g : zLg) : va_D (zA X) (zw X h g) := by
  have key : ∀ (i : Nat) (p : Nat × va_E), (zw X h g)[i]? = some p → i < 71 ∧ p.1 = X.2.2.2.2 i := by
    intro i p hp
    have hl : i < 71 := by
      have := (List.getElem?_eq_some_iff.mp hp).1
      simpa [zw] using this
    rw [zw_at X h g hl] at hp
    cases hp
    exact ⟨hl, rfl⟩
  refine ⟨fun i j p q hi hj hpq => ?_, fun k q hk => ?_⟩
  · obtain ⟨h1, e1⟩ := key i p hi
    obtain ⟨h2, e2⟩ := key j q hj
    exact hI i j h1 h2 (by rw [← e1, ← e2]; exact hpq)
  · obtain ⟨h1, e1⟩ := key k q hk
    exact ⟨k, h1, e1⟩
-- the classes
def zN_Acts : String := "PeriodSlots$Acts"
def zN_Mesh : String := "PeriodSlots$Mesh"
def zN_Obs : String := "PeriodSlots$Observations"
def zN_Planner : String := "PeriodSlots$Planner"
def zN_Shelf : String := "PeriodSlots$Shelf"
def zN_Text : String := "PeriodSlots$Text"
def zN_Slots : String := "PeriodSlots"
def zN_Model : String := "PeriodSlotsModel"
def zT_Acts : u_T := fun k => match k with
  | 0 => ("PeriodSlots$Acts", "before", "LPeriodSlots$Shelf;", true)
  | 1 => ("PeriodSlots$Acts", "newest", "I", false)
  | _ => ("PeriodSlots$Acts", "size", "I", false)
def zY_Acts : Nat → FieldType := fun k => match k with
  | 0 => .object "PeriodSlots$Shelf"
  | 1 => .int
  | _ => .int
theorem zY_Acts_ok : ∀ k, k < 3 → parseFieldDescriptor (zT_Acts k).2.2.1 = some (zY_Acts k) := by decide +kernel
theorem zT_Acts_nm : ∀ a, a < 3 → ∀ b, b < 3 → a ≠ b → (zT_Acts a).2.1 ≠ (zT_Acts b).2.1 := by decide +kernel
def zT_Mesh : u_T := fun k => match k with
  | 0 => ("PeriodSlots$Mesh", "count", "I", false)
  | 1 => ("PeriodSlots$Mesh", "roundNumber", "I", false)
  | 2 => ("PeriodSlots$Mesh", "gainfulRounds", "I", false)
  | 3 => ("PeriodSlots$Mesh", "periods", "[I", true)
  | 4 => ("PeriodSlots$Mesh", "links", "[I", true)
  | 5 => ("PeriodSlots$Mesh", "offsets", "[I", true)
  | 6 => ("PeriodSlots$Mesh", "olds", "[I", true)
  | 7 => ("PeriodSlots$Mesh", "patterns", "[I", true)
  | 8 => ("PeriodSlots$Mesh", "near", "[I", true)
  | 9 => ("PeriodSlots$Mesh", "priorities", "[I", true)
  | 10 => ("PeriodSlots$Mesh", "nearAbove", "[I", true)
  | 11 => ("PeriodSlots$Mesh", "ticks", "[I", true)
  | 12 => ("PeriodSlots$Mesh", "occupied", "[I", true)
  | _ => ("PeriodSlots$Mesh", "next", "[I", true)
def zY_Mesh : Nat → FieldType := fun k => match k with
  | 0 => .int
  | 1 => .int
  | 2 => .int
  | 3 => .array .int
  | 4 => .array .int
  | 5 => .array .int
  | 6 => .array .int
  | 7 => .array .int
  | 8 => .array .int
  | 9 => .array .int
  | 10 => .array .int
  | 11 => .array .int
  | 12 => .array .int
  | _ => .array .int
theorem zY_Mesh_ok : ∀ k, k < 14 → parseFieldDescriptor (zT_Mesh k).2.2.1 = some (zY_Mesh k) := by decide +kernel
theorem zT_Mesh_nm : ∀ a, a < 14 → ∀ b, b < 14 → a ≠ b → (zT_Mesh a).2.1 ≠ (zT_Mesh b).2.1 := by decide +kernel
def zT_Obs : u_T := fun k => match k with
  | 0 => ("PeriodSlots$Observations", "stations", "[I", true)
  | 1 => ("PeriodSlots$Observations", "ticks", "[I", true)
  | 2 => ("PeriodSlots$Observations", "sights", "[I", true)
  | _ => ("PeriodSlots$Observations", "size", "I", false)
def zY_Obs : Nat → FieldType := fun k => match k with
  | 0 => .array .int
  | 1 => .array .int
  | 2 => .array .int
  | _ => .int
theorem zY_Obs_ok : ∀ k, k < 4 → parseFieldDescriptor (zT_Obs k).2.2.1 = some (zY_Obs k) := by decide +kernel
theorem zT_Obs_nm : ∀ a, a < 4 → ∀ b, b < 4 → a ≠ b → (zT_Obs a).2.1 ≠ (zT_Obs b).2.1 := by decide +kernel
def zT_Planner : u_T := fun k => match k with
  | _ => ("PeriodSlots$Planner", "offsets", "[I", true)
def zY_Planner : Nat → FieldType := fun k => match k with
  | _ => .array .int
theorem zY_Planner_ok : ∀ k, k < 1 → parseFieldDescriptor (zT_Planner k).2.2.1 = some (zY_Planner k) := by decide +kernel
theorem zT_Planner_nm : ∀ a, a < 1 → ∀ b, b < 1 → a ≠ b → (zT_Planner a).2.1 ≠ (zT_Planner b).2.1 := by decide +kernel
def zT_Shelf : u_T := fun k => match k with
  | 0 => ("PeriodSlots$Shelf", "rows", "I", true)
  | 1 => ("PeriodSlots$Shelf", "cells", "[I", true)
  | _ => ("PeriodSlots$Shelf", "filled", "I", false)
def zY_Shelf : Nat → FieldType := fun k => match k with
  | 0 => .int
  | 1 => .array .int
  | _ => .int
theorem zY_Shelf_ok : ∀ k, k < 3 → parseFieldDescriptor (zT_Shelf k).2.2.1 = some (zY_Shelf k) := by decide +kernel
theorem zT_Shelf_nm : ∀ a, a < 3 → ∀ b, b < 3 → a ≠ b → (zT_Shelf a).2.1 ≠ (zT_Shelf b).2.1 := by decide +kernel
def zT_Text : u_T := fun k => match k with
  | 0 => ("PeriodSlots$Text", "bytes", "[I", true)
  | _ => ("PeriodSlots$Text", "length", "I", false)
def zY_Text : Nat → FieldType := fun k => match k with
  | 0 => .array .int
  | _ => .int
theorem zY_Text_ok : ∀ k, k < 2 → parseFieldDescriptor (zT_Text k).2.2.1 = some (zY_Text k) := by decide +kernel
theorem zT_Text_nm : ∀ a, a < 2 → ∀ b, b < 2 → a ≠ b → (zT_Text a).2.1 ≠ (zT_Text b).2.1 := by decide +kernel
def zT_Slots : u_T := fun k => match k with
  | 0 => ("PeriodSlots", "text", "LPeriodSlots$Text;", true)
  | 1 => ("PeriodSlots", "mesh", "LPeriodSlots$Mesh;", true)
  | 2 => ("PeriodSlots", "draft", "LPeriodSlots$Mesh;", true)
  | 3 => ("PeriodSlots", "trial", "LPeriodSlots$Mesh;", true)
  | 4 => ("PeriodSlots", "planner", "LPeriodSlots$Planner;", true)
  | 5 => ("PeriodSlots", "acts", "LPeriodSlots$Acts;", true)
  | 6 => ("PeriodSlots", "slots", "LPeriodSlots$Shelf;", true)
  | 7 => ("PeriodSlots", "observations", "LPeriodSlots$Observations;", true)
  | 8 => ("PeriodSlots", "statements", "[I", true)
  | _ => ("PeriodSlots", "chance", "J", false)
def zY_Slots : Nat → FieldType := fun k => match k with
  | 0 => .object "PeriodSlots$Text"
  | 1 => .object "PeriodSlots$Mesh"
  | 2 => .object "PeriodSlots$Mesh"
  | 3 => .object "PeriodSlots$Mesh"
  | 4 => .object "PeriodSlots$Planner"
  | 5 => .object "PeriodSlots$Acts"
  | 6 => .object "PeriodSlots$Shelf"
  | 7 => .object "PeriodSlots$Observations"
  | 8 => .array .int
  | _ => .long
theorem zY_Slots_ok : ∀ k, k < 10 → parseFieldDescriptor (zT_Slots k).2.2.1 = some (zY_Slots k) := by decide +kernel
theorem zT_Slots_nm : ∀ a, a < 10 → ∀ b, b < 10 → a ≠ b → (zT_Slots a).2.1 ≠ (zT_Slots b).2.1 := by decide +kernel
def zT_Model : u_T := fun k => match k with
  | 0 => ("PeriodSlotsModel", "text", "[I", true)
  | 1 => ("PeriodSlotsModel", "length", "I", false)
  | 2 => ("PeriodSlotsModel", "stations", "I", false)
  | 3 => ("PeriodSlotsModel", "period", "[I", true)
  | 4 => ("PeriodSlotsModel", "now", "[I", true)
  | 5 => ("PeriodSlotsModel", "trial", "[I", true)
  | 6 => ("PeriodSlotsModel", "spare", "[I", true)
  | 7 => ("PeriodSlotsModel", "diary", "[I", true)
  | 8 => ("PeriodSlotsModel", "doings", "I", false)
  | 9 => ("PeriodSlotsModel", "next", "I", false)
  | 10 => ("PeriodSlotsModel", "kept", "[I", true)
  | 11 => ("PeriodSlotsModel", "isKept", "[Z", true)
  | 12 => ("PeriodSlotsModel", "seenBy", "[I", true)
  | 13 => ("PeriodSlotsModel", "seenTick", "[I", true)
  | 14 => ("PeriodSlotsModel", "seenWas", "[I", true)
  | 15 => ("PeriodSlotsModel", "seen", "I", false)
  | 16 => ("PeriodSlotsModel", "seed", "J", false)
  | 17 => ("PeriodSlotsModel", "readStations", "I", false)
  | 18 => ("PeriodSlotsModel", "readPeriod", "[I", true)
  | 19 => ("PeriodSlotsModel", "readOffset", "[I", true)
  | 20 => ("PeriodSlotsModel", "readLinks", "[I", true)
  | 21 => ("PeriodSlotsModel", "part", "I", false)
  | 22 => ("PeriodSlotsModel", "place", "I", false)
  | 23 => ("PeriodSlotsModel", "readFirst", "I", false)
  | 24 => ("PeriodSlotsModel", "on", "I", false)
  | 25 => ("PeriodSlotsModel", "near", "[I", true)
  | 26 => ("PeriodSlotsModel", "moved", "[I", true)
  | 27 => ("PeriodSlotsModel", "movedOld", "[I", true)
  | 28 => ("PeriodSlotsModel", "moves", "Z", false)
  | 29 => ("PeriodSlotsModel", "movingRounds", "I", false)
  | 30 => ("PeriodSlotsModel", "planned", "[I", true)
  | _ => ("PeriodSlotsModel", "worth", "[I", true)
def zY_Model : Nat → FieldType := fun k => match k with
  | 0 => .array .int
  | 1 => .int
  | 2 => .int
  | 3 => .array .int
  | 4 => .array .int
  | 5 => .array .int
  | 6 => .array .int
  | 7 => .array .int
  | 8 => .int
  | 9 => .int
  | 10 => .array .int
  | 11 => .array .boolean
  | 12 => .array .int
  | 13 => .array .int
  | 14 => .array .int
  | 15 => .int
  | 16 => .long
  | 17 => .int
  | 18 => .array .int
  | 19 => .array .int
  | 20 => .array .int
  | 21 => .int
  | 22 => .int
  | 23 => .int
  | 24 => .int
  | 25 => .array .int
  | 26 => .array .int
  | 27 => .array .int
  | 28 => .boolean
  | 29 => .int
  | 30 => .array .int
  | _ => .array .int
theorem zY_Model_ok : ∀ k, k < 32 → parseFieldDescriptor (zT_Model k).2.2.1 = some (zY_Model k) := by decide +kernel
theorem zT_Model_nm : ∀ a, a < 32 → ∀ b, b < 32 → a ≠ b → (zT_Model a).2.1 ≠ (zT_Model b).2.1 := by decide +kernel
abbrev zcl : List vw_C := [(zN_Acts, zT_Acts, 3), (zN_Mesh, zT_Mesh, 14), (zN_Obs, zT_Obs, 4), (zN_Planner, zT_Planner, 1), (zN_Shelf, zT_Shelf, 3), (zN_Text, zT_Text, 2), (zN_Slots, zT_Slots, 10), (zN_Model, zT_Model, 32)]
/-- the words that every method may use -/
def zU : List Cond := lw_tbl.filter goodWord
theorem zU_in {i : Nat} {w : Cond} (hi : lw_tbl[i]? = some w) (hw : goodWord w = true) : w ∈ zU := List.mem_filter.mpr ⟨List.mem_of_getElem? hi, hw⟩
theorem zU_good (c : Cond) (hc : c ∈ zU) (d : Cond) : GoodIn (d :: zU) (c :: zU) := by
  intro w hw
  have h1 : w ∈ zU := by
    rcases List.mem_cons.mp hw with rfl | h
    · exact hc
    · exact h
  exact ⟨List.mem_cons_of_mem _ h1, good_of_word (List.mem_filter.mp h1).2⟩
theorem zU_good' (c : Cond) (hc : c ∈ zU) : GoodIn zU (c :: zU) := by
  intro w hw
  have h1 : w ∈ zU := by
    rcases List.mem_cons.mp hw with rfl | h
    · exact hc
    · exact h
  exact ⟨h1, good_of_word (List.mem_filter.mp h1).2⟩
/-- calls of a private method of a nest mate -/
def zNest : List Cond := [Cond.methodLinkNest "PeriodSlots" (9 : Nat) ({ cls := "PeriodSlots$Text", name := "<init>", desc := "()V" } : Jvm.MethodName) "PeriodSlots", Cond.methodLinkNest "PeriodSlots" (18 : Nat) ({ cls := "PeriodSlots$Mesh", name := "<init>", desc := "()V" } : Jvm.MethodName) "PeriodSlots", Cond.methodLinkNest "PeriodSlots" (31 : Nat) ({ cls := "PeriodSlots$Planner", name := "<init>", desc := "()V" } : Jvm.MethodName) "PeriodSlots", Cond.methodLinkNest "PeriodSlots" (38 : Nat) ({ cls := "PeriodSlots$Acts", name := "<init>", desc := "()V" } : Jvm.MethodName) "PeriodSlots", Cond.methodLinkNest "PeriodSlots" (54 : Nat) ({ cls := "PeriodSlots$Observations", name := "<init>", desc := "()V" } : Jvm.MethodName) "PeriodSlots", Cond.methodLinkNest "PeriodSlots$Mesh" (89 : Nat) ({ cls := "PeriodSlots", name := "has", desc := "(II)Z" } : Jvm.MethodName) "PeriodSlots", Cond.methodLinkNest "PeriodSlots$Text" (56 : Nat) ({ cls := "PeriodSlots", name := "has", desc := "(II)Z" } : Jvm.MethodName) "PeriodSlots", Cond.methodLinkNest "PeriodSlots$Mesh" (143 : Nat) ({ cls := "PeriodSlots", name := "lowestOrNone", desc := "(I)I" } : Jvm.MethodName) "PeriodSlots", Cond.methodLinkNest "PeriodSlots$Shelf" (28 : Nat) ({ cls := "PeriodSlots", name := "has", desc := "(II)Z" } : Jvm.MethodName) "PeriodSlots", Cond.methodLinkNest "PeriodSlots$Planner" (42 : Nat) ({ cls := "PeriodSlots", name := "has", desc := "(II)Z" } : Jvm.MethodName) "PeriodSlots"]
theorem zNest_warm {s U : State} (hW : s.WarmedH U.vm) (h : ∀ w ∈ zNest, va_Nw w s) : ∀ w ∈ zNest, va_Nw w U := by
  intro w hw
  have h1 := h w hw
  simp only [zNest, List.mem_cons, List.not_mem_nil, or_false] at hw
  rcases hw with rfl | rfl | rfl | rfl | rfl | rfl | rfl | rfl | rfl | rfl <;> exact va_Nw.warmM hW h1
theorem zNest_same {u U : State} (hv : u.vm = U.vm) (h : ∀ w ∈ zNest, va_Nw w u) : ∀ w ∈ zNest, va_Nw w U := by
  intro w hw
  have h1 := h w hw
  simp only [zNest, List.mem_cons, List.not_mem_nil, or_false] at hw
  rcases hw with rfl | rfl | rfl | rfl | rfl | rfl | rfl | rfl | rfl | rfl <;> exact va_Nw.same rfl hv h1
abbrev ztys (X : zXT) : List (ClassId × FieldType) := [(X.2.2.1, .int), (X.2.2.2.1, .boolean)]
/-- the picture of a state -/
def zSt (X : zXT) (h : zHp) (g : zLg) (U : State) : Prop := va_P X.2.1 zcl (zw X h g) U.heap
/-- what the tables say, and stays -/
def zKn (X : zXT) (U : State) : Prop := va_K X.2.1 zcl (ztys X) U ∧ zInj X ∧ ∀ w ∈ zNest, va_Nw w U
theorem zKn_warm {X : zXT} {s U : State} (hW : s.WarmedH U.vm) (h : zKn X s) : zKn X U := ⟨va_K.moved hW.alike h.1, h.2.1, zNest_warm hW h.2.2⟩
/-- a method: its name, bytes, locals, what it returns -/
abbrev zMT : Type := MethodName × ByteArray × Nat × Option FieldType
def zrm (d : Nat) : Room := { frames := d, cells := 0, slots := 0, locals := 64 * d }
abbrev zws (M : zMT) : List Cond := Cond.code M.1 M.2.1 M.2.2.1 M.2.2.2 :: zU
def zQD (X : zXT) (o : Option Value) (h : zHp) (g : zLg) : Array Value → State → Outcome → State → Prop := fun _ st oc t => (oc = .returned o ∧ zSt X h g t) ∧ va_F (zA X) st t
/-- the contract: from the numbers h, g, with these arguments, the method returns o, and the numbers are h2, g2 -/
def zDi (X : zXT) (M : zMT) (d : Nat) (av : List Value) (h : zHp) (g : zLg) (o : Option Value) (h2 : zHp) (g2 : zLg) : Prop :=
  Met X.1 M.1 (zws M) (zrm d) (va_Pc av (fun U => zSt X h g U ∧ zKn X U)) (zQD X o h2 g2) 0 0 (zA X)
-- the places of the context
abbrev zGp (Γ : zGT) : Program := Γ.1
abbrev zGe (Γ : zGT) : Env := Γ.2.1
abbrev zGR (Γ : zGT) : Room := Γ.2.2.1
abbrev zGs (Γ : zGT) : State := Γ.2.2.2.1
abbrev zGm (Γ : zGT) : MethodId := Γ.2.2.2.2.1
abbrev zGa (Γ : zGT) : Array Value := Γ.2.2.2.2.2.1
abbrev zGb (Γ : zGT) : List Frame := Γ.2.2.2.2.2.2.1
abbrev zGM (Γ : zGT) : Method := Γ.2.2.2.2.2.2.2.1
abbrev zGc (Γ : zGT) : Code := Γ.2.2.2.2.2.2.2.2.1
abbrev zGkc (Γ : zGT) : Nat := Γ.2.2.2.2.2.2.2.2.2.1
abbrev zGks (Γ : zGT) : Nat := Γ.2.2.2.2.2.2.2.2.2.2
def zasc : Nat → List (Option Value) → List (Nat × Value)
  | _, [] => []
  | k, none :: l => zasc (k + 1) l
  | k, some v :: l => (k, v) :: zasc (k + 1) l
abbrev zI (x : Int32) : Option Value := some (.int x)
abbrev zL (x : Int64) : Option Value := some (.long x)
abbrev zO (X : zXT) (c : Nat) : Option Value := some (zR X c)
/-- the machine in this method at pc, with these locals and stack, with the numbers h, g -/
def zV (X : zXT) (Γ : zGT) (Q : State → Prop) (pc : Nat) (lv : List (Option Value)) (st : List Value) (h : zHp) (g : zLg) : Prop :=
  ∀ (H : Heap) (locs : List Loc) (ls : Array Slot), va_P X.2.1 zcl (zw X h g) H → va_S (zA X) (zGs Γ).heap H locs → lv_has ls lv.length (zasc 0 lv) →
    W (zGp Γ) X.1 (zGe Γ) (zGR Γ) (zGs Γ) (zGm Γ) (zGa Γ) (zGb Γ) (zGM Γ) (zGc Γ) H locs (zGkc Γ) (zGks Γ) Q (F0 (zGm Γ) pc ls st)
/-- what stands fast in a method -/
def zOk (X : zXT) (Γ : zGT) (cc : ByteArray) (own : String) (nL d : Nat) (rt : Option FieldType) : Prop :=
  (zGp Γ).tables.exec = Jvm.exec ∧ (zGc Γ).code = cc ∧ (zGc Γ).maxLocals = nL ∧ (zGs Γ).vm.findClass own = some (zGm Γ).cls ∧ (∀ w ∈ zU, w.before (zGa Γ) (zGs Γ) = true) ∧ zKn X (zGs Γ) ∧ (d ≤ (zGR Γ).frames ∧ 64 * d ≤ (zGR Γ).locals ∧ zGkc Γ ≤ (zGR Γ).cells ∧ zGks Γ ≤ (zGR Γ).slots) ∧ (zGM Γ).sig.returnType = rt ∧ (zGM Γ).locks = false
def zTQ (X : zXT) (Γ : zGT) (o : Option Value) (h : zHp) (g : zLg) : State → Prop := MQ (zGb Γ) (zQD X o h g) (zGa Γ) (zGs Γ) (zGkc Γ) (zGks Γ) (zA X)
end
section
/-! The kit's rows over the fixed world. -/
theorem zasc_mem (lv : List (Option Value)) : ∀ (k i : Nat) (v : Value), lv[i]? = some (some v) → (k + i, v) ∈ zasc k lv := by
  induction lv with
  | nil => intro k i v h; simp at h
  | cons a l ih =>
    intro k i v h
    cases i with
    | zero =>
      simp at h
      subst h
      exact List.mem_cons_self
    | succ i =>
      rw [List.getElem?_cons_succ] at h
      have h2 := ih (k + 1) i v h
      rw [show k + 1 + i = k + (i + 1) by omega] at h2
      cases a with
      | none => exact h2
      | some w => exact List.mem_cons_of_mem _ h2
theorem zasc_of (lv : List (Option Value)) : ∀ (k : Nat) (q : Nat × Value), q ∈ zasc k lv → k ≤ q.1 ∧ lv[q.1 - k]? = some (some q.2) := by
  induction lv with
  | nil => intro k q h; cases h
  | cons a l ih =>
    intro k q h
    have step : q ∈ zasc (k + 1) l → k ≤ q.1 ∧ (a :: l)[q.1 - k]? = some (some q.2) := by
      intro h
      obtain ⟨h1, h2⟩ := ih (k + 1) q h
      refine ⟨by omega, ?_⟩
      rw [show q.1 - k = (q.1 - (k + 1)) + 1 by omega, List.getElem?_cons_succ]
      exact h2
    cases a with
    | none => exact step h
    | some w =>
      rcases List.mem_cons.mp h with rfl | h
      · refine ⟨Nat.le_refl _, ?_⟩
        simp
      · exact step h
theorem zasc_has {ls : Array Slot} {lv : List (Option Value)} {n : Nat} (h : lv_has ls n (zasc 0 lv)) {i : Nat} {v : Value} (hi : lv[i]? = some (some v)) : ls[i]? = some (.val v) := by
  have := h.2.2 _ (zasc_mem lv 0 i v hi)
  simpa using this
/-- fewer locals, or the same in other words -/
theorem zasc_sub {ls : Array Slot} {lv lv2 : List (Option Value)} {n : Nat} (h : lv_has ls n (zasc 0 lv)) (hs : ∀ (i : Nat) (v : Value), lv2[i]? = some (some v) → lv[i]? = some (some v)) : lv_has ls n (zasc 0 lv2) := by
  refine ⟨h.1, h.2.1, fun q hq => ?_⟩
  obtain ⟨-, h2⟩ := zasc_of lv2 0 q hq
  exact zasc_has h (hs _ _ h2)
/-- may the place i be written (no long reaches into it) -/
def zfree (lv : List (Option Value)) : Nat → Bool
  | 0 => true
  | i + 1 => match lv[i]? with
    | some (some v) => v.category == 1
    | _ => true
theorem zasc_store1 {ls : Array Slot} {lv : List (Option Value)} {n i : Nat} {w : Value} (h : lv_has ls n ((i, w) :: (zasc 0 lv).filter (fun q => !(q.1 == i) && !(q.1 + 1 == i && q.2.category == 2)))) (hf : zfree lv i = true) : lv_has ls n (zasc 0 (lv.set i (some w))) := by
  refine ⟨h.1, h.2.1, fun q hq => ?_⟩
  obtain ⟨-, h2⟩ := zasc_of _ 0 q hq
  obtain ⟨j, v⟩ := q
  simp only [Nat.sub_zero] at h2
  by_cases hj : j = i
  · subst hj
    have hl : j < lv.length := by
      have := (List.getElem?_eq_some_iff.mp h2).1
      simpa using this
    rw [List.getElem?_set_self hl] at h2
    cases h2
    exact h.2.2 _ List.mem_cons_self
  · rw [List.getElem?_set_ne (Ne.symm hj)] at h2
    refine h.2.2 _ (List.mem_cons_of_mem _ (List.mem_filter.mpr ⟨by simpa using zasc_mem lv 0 j v h2, ?_⟩))
    have hne : (j == i) = false := by simpa using hj
    simp only [hne, Bool.not_false, Bool.true_and]
    by_cases hs : j + 1 = i
    · subst hs
      simp only [zfree, h2] at hf
      have : v.category = 1 := by simpa using hf
      simp [this]
    · simp [hs]
theorem zasc_store2 {ls : Array Slot} {lv : List (Option Value)} {n i : Nat} {w : Value} (h : lv_has ls n ((i, w) :: (zasc 0 lv).filter (fun q => !(q.1 == i) && (!(q.1 == i + 1) && !(q.1 + 1 == i && q.2.category == 2))))) (hf : zfree lv i = true) : lv_has ls n (zasc 0 ((lv.set i (some w)).set (i + 1) none)) := by
  refine ⟨h.1, h.2.1, fun q hq => ?_⟩
  obtain ⟨-, h2⟩ := zasc_of _ 0 q hq
  obtain ⟨j, v⟩ := q
  simp only [Nat.sub_zero] at h2
  by_cases hj1 : j = i + 1
  · subst hj1
    have hl : i + 1 < (lv.set i (some w)).length := by
      have := (List.getElem?_eq_some_iff.mp h2).1
      simpa using this
    rw [List.getElem?_set_self hl] at h2
    cases h2
  · rw [List.getElem?_set_ne (Ne.symm hj1)] at h2
    by_cases hj : j = i
    · subst hj
      have hl : j < lv.length := by
        have := (List.getElem?_eq_some_iff.mp h2).1
        simpa using this
      rw [List.getElem?_set_self hl] at h2
      cases h2
      exact h.2.2 _ List.mem_cons_self
    · rw [List.getElem?_set_ne (Ne.symm hj)] at h2
      refine h.2.2 _ (List.mem_cons_of_mem _ (List.mem_filter.mpr ⟨by simpa using zasc_mem lv 0 j v h2, ?_⟩))
      have hne : (j == i) = false := by simpa using hj
      have hne1 : (j == i + 1) = false := by simpa using hj1
      simp only [hne, hne1, Bool.not_false, Bool.true_and]
      by_cases hs : j + 1 = i
      · subst hs
        simp only [zfree, h2] at hf
        have : v.category = 1 := by simpa using hf
        simp [this]
      · simp [hs]
/-- the first has the second's locals, or nothing -/
def zle : List (Option Value) → List (Option Value) → Prop
  | [], [] => True
  | none :: a, _ :: b => zle a b
  | some v :: a, some w :: b => v = w ∧ zle a b
  | _, _ => False
theorem zle_of : ∀ (a b : List (Option Value)), zle a b → a.length = b.length ∧ ∀ (i : Nat) (v : Value), a[i]? = some (some v) → b[i]? = some (some v)
  | [], [], _ => ⟨rfl, fun i v h => by simp at h⟩
  | none :: a, _ :: b, h => by
    obtain ⟨h1, h2⟩ := zle_of a b h
    refine ⟨by simp [h1], fun i v hi => ?_⟩
    cases i with
    | zero => simp at hi
    | succ i => exact h2 i v (by simpa using hi)
  | some v0 :: a, some w :: b, h => by
    obtain ⟨h1, h2⟩ := zle_of a b h.2
    refine ⟨by simp [h1], fun i v hi => ?_⟩
    cases i with
    | zero => rw [← h.1]; exact hi
    | succ i => exact h2 i v (by simpa using hi)
  | [], _ :: _, h => h.elim
  | some _ :: _, none :: _, h => h.elim
  | none :: _, [], h => h.elim
  | some _ :: _, [], h => h.elim
def zrem (x y : Int32) : Int32 := x - x / y * y
def zlrem (x y : Int64) : Int64 := x - x / y * y
def zshl (x y : Int32) : Int32 := x <<< (y &&& 31)
def zsar (x y : Int32) : Int32 := x >>> (y &&& 31)
def zshr (x y : Int32) : Int32 := (x.toUInt32 >>> (y.toUInt32 &&& Int32.toUInt32 31)).toInt32
def zlshr (x : Int64) (y : Int32) : Int64 := (x.toUInt64 >>> (y.toInt64.toUInt64 &&& Int64.toUInt64 63)).toInt64
section ZR
variable {X : zXT} {Γ : zGT} {Q : State → Prop} {cc : ByteArray} {own : String} {nL d : Nat} {rt : Option FieldType} {pc : Nat} {lv lv2 : List (Option Value)} {st : List Value} {h : zHp} {g : zLg}
theorem zr_iconst (C : zOk X Γ cc own nL d rt) {n : Int} {v : Int32} (hd : decode cc pc = .ok (.iconst n, 1)) (hv : Int32.ofInt n = v) (k : zV X Γ Q (pc + 1) lv (.int v :: st) h g) : zV X Γ Q pc lv st h g :=
  fun H L ls a b c => lv_iconst C.1 C.2.1 hd hv (k H L ls a b c)
theorem zr_bipush (C : zOk X Γ cc own nL d rt) {n : Int} {v : Int32} (hd : decode cc pc = .ok (.bipush n, 2)) (hv : (Int8.ofInt n).toInt32 = v) (k : zV X Γ Q (pc + 2) lv (.int v :: st) h g) : zV X Γ Q pc lv st h g :=
  fun H L ls a b c => lv_bipush C.1 C.2.1 hd hv (k H L ls a b c)
theorem zr_sipush (C : zOk X Γ cc own nL d rt) {n : Int} {v : Int32} (hd : decode cc pc = .ok (.sipush n, 3)) (hv : (Int16.ofInt n).toInt32 = v) (k : zV X Γ Q (pc + 3) lv (.int v :: st) h g) : zV X Γ Q pc lv st h g :=
  fun H L ls a b c => lv_sipush C.1 C.2.1 hd hv (k H L ls a b c)
theorem zr_lconst (C : zOk X Γ cc own nL d rt) {n : Fin 2} {v : Int64} (hd : decode cc pc = .ok (.lconst n, 1)) (hv : Int64.ofNat (n : Nat) = v) (k : zV X Γ Q (pc + 1) lv (.long v :: st) h g) : zV X Γ Q pc lv st h g :=
  fun H L ls a b c => lv_lconst C.1 C.2.1 hd hv (k H L ls a b c)
theorem zr_ldcw (C : zOk X Γ cc own nL d rt) {v : Int32} {idx : Nat} (hw : Cond.constant own idx v ∈ zU) (hd : decode cc pc = .ok (.ldc_w idx, 3)) (k : zV X Γ Q (pc + 3) lv (.int v :: st) h g) : zV X Γ Q pc lv st h g :=
  fun H L ls a b c => lv_ldcw C.1 C.2.1 C.2.2.2.1 (C.2.2.2.2.1 _ hw) hd (k H L ls a b c)
theorem zr_ldc2 (C : zOk X Γ cc own nL d rt) {v : Int64} {idx : Nat} (hw : Cond.constantLong own idx v ∈ zU) (hd : decode cc pc = .ok (.ldc2_w idx, 3)) (k : zV X Γ Q (pc + 3) lv (.long v :: st) h g) : zV X Γ Q pc lv st h g :=
  fun H L ls a b c => lv_ldc2 C.1 C.2.1 C.2.2.2.1 (C.2.2.2.2.1 _ hw) hd (k H L ls a b c)
theorem zr_iload_n (C : zOk X Γ cc own nL d rt) {k : Fin 4} {x : Int32} (hd : decode cc pc = .ok (.iload_n k, 1)) (hl : lv[(k : Nat)]? = some (zI x)) (kk : zV X Γ Q (pc + 1) lv (.int x :: st) h g) : zV X Γ Q pc lv st h g :=
  fun H L ls a b c => lv_iload_n C.1 C.2.1 hd rfl (zasc_has c hl) (kk H L ls a b c)
theorem zr_iload (C : zOk X Γ cc own nL d rt) {i : Nat} {x : Int32} (hd : decode cc pc = .ok (.iload i, 2)) (hl : lv[i]? = some (zI x)) (kk : zV X Γ Q (pc + 2) lv (.int x :: st) h g) : zV X Γ Q pc lv st h g :=
  fun H L ls a b c => lv_iload C.1 C.2.1 hd (zasc_has c hl) (kk H L ls a b c)
theorem zr_lload_n (C : zOk X Γ cc own nL d rt) {k : Fin 4} {x : Int64} (hd : decode cc pc = .ok (.lload_n k, 1)) (hl : lv[(k : Nat)]? = some (zL x)) (kk : zV X Γ Q (pc + 1) lv (.long x :: st) h g) : zV X Γ Q pc lv st h g :=
  fun H L ls a b c => lv_lload_n C.1 C.2.1 hd rfl (zasc_has c hl) (kk H L ls a b c)
theorem zr_lload (C : zOk X Γ cc own nL d rt) {i : Nat} {x : Int64} (hd : decode cc pc = .ok (.lload i, 2)) (hl : lv[i]? = some (zL x)) (kk : zV X Γ Q (pc + 2) lv (.long x :: st) h g) : zV X Γ Q pc lv st h g :=
  fun H L ls a b c => lv_lload C.1 C.2.1 hd (zasc_has c hl) (kk H L ls a b c)
theorem zr_aload_n (C : zOk X Γ cc own nL d rt) {k : Fin 4} {a0 : Nat} (hd : decode cc pc = .ok (.aload_n k, 1)) (hl : lv[(k : Nat)]? = some (some (.ref a0))) (kk : zV X Γ Q (pc + 1) lv (.ref a0 :: st) h g) : zV X Γ Q pc lv st h g :=
  fun H L ls a b c => lv_aload_n C.1 C.2.1 hd rfl (zasc_has c hl) (kk H L ls a b c)
theorem zr_aload (C : zOk X Γ cc own nL d rt) {i : Nat} {a0 : Nat} (hd : decode cc pc = .ok (.aload i, 2)) (hl : lv[i]? = some (some (.ref a0))) (kk : zV X Γ Q (pc + 2) lv (.ref a0 :: st) h g) : zV X Γ Q pc lv st h g :=
  fun H L ls a b c => lv_aload C.1 C.2.1 hd (zasc_has c hl) (kk H L ls a b c)
theorem zr_istore_n (C : zOk X Γ cc own nL d rt) (lv2 : List (Option Value)) {k : Fin 4} {x : Int32} (hd : decode cc pc = .ok (.istore_n k, 1)) (hn : (k : Nat) < lv.length) (hf : zfree lv k = true) (hl : lv.set k (zI x) = lv2) (kk : zV X Γ Q (pc + 1) lv2 st h g) : zV X Γ Q pc lv (.int x :: st) h g := by
  subst hl
  exact fun H L ls a b c => lv_istore_n C.1 C.2.1 hd rfl c hn rfl (fun ls' h' => kk H L ls' a b (by rw [List.length_set]; exact zasc_store1 h' hf))
theorem zr_istore (C : zOk X Γ cc own nL d rt) (lv2 : List (Option Value)) {i : Nat} {x : Int32} (hd : decode cc pc = .ok (.istore i, 2)) (hn : i < lv.length) (hf : zfree lv i = true) (hl : lv.set i (zI x) = lv2) (kk : zV X Γ Q (pc + 2) lv2 st h g) : zV X Γ Q pc lv (.int x :: st) h g := by
  subst hl
  exact fun H L ls a b c => lv_istore C.1 C.2.1 hd c hn rfl (fun ls' h' => kk H L ls' a b (by rw [List.length_set]; exact zasc_store1 h' hf))
theorem zr_astore_n (C : zOk X Γ cc own nL d rt) (lv2 : List (Option Value)) {k : Fin 4} {x : Nat} (hd : decode cc pc = .ok (.astore_n k, 1)) (hn : (k : Nat) < lv.length) (hf : zfree lv k = true) (hl : lv.set k (some (.ref x)) = lv2) (kk : zV X Γ Q (pc + 1) lv2 st h g) : zV X Γ Q pc lv (.ref x :: st) h g := by
  subst hl
  exact fun H L ls a b c => lv_astore_n C.1 C.2.1 hd rfl c hn rfl (fun ls' h' => kk H L ls' a b (by rw [List.length_set]; exact zasc_store1 h' hf))
theorem zr_lstore_n (C : zOk X Γ cc own nL d rt) (lv2 : List (Option Value)) {k : Fin 4} {x : Int64} (hd : decode cc pc = .ok (.lstore_n k, 1)) (hn : (k : Nat) + 1 < lv.length) (hf : zfree lv k = true) (hl : (lv.set k (zL x)).set (k + 1) none = lv2) (kk : zV X Γ Q (pc + 1) lv2 st h g) : zV X Γ Q pc lv (.long x :: st) h g := by
  subst hl
  exact fun H L ls a b c => lv_lstore_n C.1 C.2.1 hd rfl c hn rfl (fun ls' h' => kk H L ls' a b (by rw [List.length_set, List.length_set]; exact zasc_store2 h' hf))
theorem zr_lstore (C : zOk X Γ cc own nL d rt) (lv2 : List (Option Value)) {i : Nat} {x : Int64} (hd : decode cc pc = .ok (.lstore i, 2)) (hn : i + 1 < lv.length) (hf : zfree lv i = true) (hl : (lv.set i (zL x)).set (i + 1) none = lv2) (kk : zV X Γ Q (pc + 2) lv2 st h g) : zV X Γ Q pc lv (.long x :: st) h g := by
  subst hl
  exact fun H L ls a b c => lv_lstore C.1 C.2.1 hd c hn rfl (fun ls' h' => kk H L ls' a b (by rw [List.length_set, List.length_set]; exact zasc_store2 h' hf))
theorem zr_iinc (C : zOk X Γ cc own nL d rt) (lv2 : List (Option Value)) {i : Nat} {n : Int} {x v : Int32} (hd : decode cc pc = .ok (.iinc i n, 3)) (hx : lv[i]? = some (zI x)) (hv : x + Int32.ofInt n = v) (hn : i < lv.length) (hf : zfree lv i = true) (hl : lv.set i (zI v) = lv2) (kk : zV X Γ Q (pc + 3) lv2 st h g) : zV X Γ Q pc lv st h g := by
  subst hl
  intro H L ls a b c
  obtain ⟨k, hk⟩ : ∃ k : Nat, (zasc 0 lv)[k]? = some (i, .int x) := by
    have := zasc_mem lv 0 i _ hx
    rw [Nat.zero_add] at this
    exact List.getElem?_of_mem this
  exact lv_iinc C.1 C.2.1 hd c hk hv hn rfl (fun ls' h' => kk H L ls' a b (by rw [List.length_set]; exact zasc_store1 h' hf))
/-- the locals in other words, fewer of them -/
theorem zr_lv (lv2 : List (Option Value)) (hs : zle lv2 lv) (kk : zV X Γ Q pc lv2 st h g) : zV X Γ Q pc lv st h g :=
  fun H L ls a b c => kk H L ls a b (by rw [(zle_of lv2 lv hs).1]; exact zasc_sub c (zle_of lv2 lv hs).2)
theorem zr_iadd (C : zOk X Γ cc own nL d rt) {x y : Int32} (hd : decode cc pc = .ok (.iadd, 1)) (k : zV X Γ Q (pc + 1) lv (.int (x + y) :: st) h g) : zV X Γ Q pc lv (.int y :: .int x :: st) h g :=
  fun H L ls a b c => lv_iadd C.1 C.2.1 hd (k H L ls a b c)
theorem zr_isub (C : zOk X Γ cc own nL d rt) {x y : Int32} (hd : decode cc pc = .ok (.isub, 1)) (k : zV X Γ Q (pc + 1) lv (.int (x - y) :: st) h g) : zV X Γ Q pc lv (.int y :: .int x :: st) h g :=
  fun H L ls a b c => lv_isub C.1 C.2.1 hd (k H L ls a b c)
theorem zr_imul (C : zOk X Γ cc own nL d rt) {x y : Int32} (hd : decode cc pc = .ok (.imul, 1)) (k : zV X Γ Q (pc + 1) lv (.int (x * y) :: st) h g) : zV X Γ Q pc lv (.int y :: .int x :: st) h g :=
  fun H L ls a b c => lv_imul C.1 C.2.1 hd (k H L ls a b c)
theorem zr_iand (C : zOk X Γ cc own nL d rt) {x y : Int32} (hd : decode cc pc = .ok (.iand, 1)) (k : zV X Γ Q (pc + 1) lv (.int (x &&& y) :: st) h g) : zV X Γ Q pc lv (.int y :: .int x :: st) h g :=
  fun H L ls a b c => lv_iand C.1 C.2.1 hd (k H L ls a b c)
theorem zr_ior (C : zOk X Γ cc own nL d rt) {x y : Int32} (hd : decode cc pc = .ok (.ior, 1)) (k : zV X Γ Q (pc + 1) lv (.int (x ||| y) :: st) h g) : zV X Γ Q pc lv (.int y :: .int x :: st) h g :=
  fun H L ls a b c => lv_ior C.1 C.2.1 hd (k H L ls a b c)
theorem zr_ixor (C : zOk X Γ cc own nL d rt) {x y : Int32} (hd : decode cc pc = .ok (.ixor, 1)) (k : zV X Γ Q (pc + 1) lv (.int (x ^^^ y) :: st) h g) : zV X Γ Q pc lv (.int y :: .int x :: st) h g :=
  fun H L ls a b c => lv_ixor C.1 C.2.1 hd (k H L ls a b c)
theorem zr_ladd (C : zOk X Γ cc own nL d rt) {x y : Int64} (hd : decode cc pc = .ok (.ladd, 1)) (k : zV X Γ Q (pc + 1) lv (.long (x + y) :: st) h g) : zV X Γ Q pc lv (.long y :: .long x :: st) h g :=
  fun H L ls a b c => lv_ladd C.1 C.2.1 hd (k H L ls a b c)
theorem zr_lsub (C : zOk X Γ cc own nL d rt) {x y : Int64} (hd : decode cc pc = .ok (.lsub, 1)) (k : zV X Γ Q (pc + 1) lv (.long (x - y) :: st) h g) : zV X Γ Q pc lv (.long y :: .long x :: st) h g :=
  fun H L ls a b c => lv_lsub C.1 C.2.1 hd (k H L ls a b c)
theorem zr_lmul (C : zOk X Γ cc own nL d rt) {x y : Int64} (hd : decode cc pc = .ok (.lmul, 1)) (k : zV X Γ Q (pc + 1) lv (.long (x * y) :: st) h g) : zV X Γ Q pc lv (.long y :: .long x :: st) h g :=
  fun H L ls a b c => lv_lmul C.1 C.2.1 hd (k H L ls a b c)
theorem zr_land (C : zOk X Γ cc own nL d rt) {x y : Int64} (hd : decode cc pc = .ok (.land, 1)) (k : zV X Γ Q (pc + 1) lv (.long (x &&& y) :: st) h g) : zV X Γ Q pc lv (.long y :: .long x :: st) h g :=
  fun H L ls a b c => lv_land C.1 C.2.1 hd (k H L ls a b c)
theorem zr_lor (C : zOk X Γ cc own nL d rt) {x y : Int64} (hd : decode cc pc = .ok (.lor, 1)) (k : zV X Γ Q (pc + 1) lv (.long (x ||| y) :: st) h g) : zV X Γ Q pc lv (.long y :: .long x :: st) h g :=
  fun H L ls a b c => lv_lor C.1 C.2.1 hd (k H L ls a b c)
theorem zr_idiv (C : zOk X Γ cc own nL d rt) {x y : Int32} (hd : decode cc pc = .ok (.idiv, 1)) (hne : ¬ y = 0) (k : zV X Γ Q (pc + 1) lv (.int (x / y) :: st) h g) : zV X Γ Q pc lv (.int y :: .int x :: st) h g :=
  fun H L ls a b c => lv_idiv C.1 C.2.1 hd hne (k H L ls a b c)
theorem zr_irem (C : zOk X Γ cc own nL d rt) {x y : Int32} (hd : decode cc pc = .ok (.irem, 1)) (hne : ¬ y = 0) (k : zV X Γ Q (pc + 1) lv (.int (zrem x y) :: st) h g) : zV X Γ Q pc lv (.int y :: .int x :: st) h g :=
  fun H L ls a b c => lv_irem C.1 C.2.1 hd hne (k H L ls a b c)
theorem zr_ldiv (C : zOk X Γ cc own nL d rt) {x y : Int64} (hd : decode cc pc = .ok (.ldiv, 1)) (hne : ¬ y = 0) (k : zV X Γ Q (pc + 1) lv (.long (x / y) :: st) h g) : zV X Γ Q pc lv (.long y :: .long x :: st) h g :=
  fun H L ls a b c => lv_ldiv C.1 C.2.1 hd hne (k H L ls a b c)
theorem zr_lrem (C : zOk X Γ cc own nL d rt) {x y : Int64} (hd : decode cc pc = .ok (.lrem, 1)) (hne : ¬ y = 0) (k : zV X Γ Q (pc + 1) lv (.long (zlrem x y) :: st) h g) : zV X Γ Q pc lv (.long y :: .long x :: st) h g :=
  fun H L ls a b c => lv_lrem C.1 C.2.1 hd hne (k H L ls a b c)
theorem zr_ineg (C : zOk X Γ cc own nL d rt) {x : Int32} (hd : decode cc pc = .ok (.ineg, 1)) (k : zV X Γ Q (pc + 1) lv (.int (0 - x) :: st) h g) : zV X Γ Q pc lv (.int x :: st) h g :=
  fun H L ls a b c => lv_ineg C.1 C.2.1 hd (k H L ls a b c)
theorem zr_ishl (C : zOk X Γ cc own nL d rt) {x y : Int32} (hd : decode cc pc = .ok (.ishl, 1)) (k : zV X Γ Q (pc + 1) lv (.int (zshl x y) :: st) h g) : zV X Γ Q pc lv (.int y :: .int x :: st) h g :=
  fun H L ls a b c => lv_ishl C.1 C.2.1 hd (k H L ls a b c)
theorem zr_ishr (C : zOk X Γ cc own nL d rt) {x y : Int32} (hd : decode cc pc = .ok (.ishr, 1)) (k : zV X Γ Q (pc + 1) lv (.int (zsar x y) :: st) h g) : zV X Γ Q pc lv (.int y :: .int x :: st) h g :=
  fun H L ls a b c => lv_ishr C.1 C.2.1 hd (k H L ls a b c)
theorem zr_iushr (C : zOk X Γ cc own nL d rt) {x y : Int32} (hd : decode cc pc = .ok (.iushr, 1)) (k : zV X Γ Q (pc + 1) lv (.int (zshr x y) :: st) h g) : zV X Γ Q pc lv (.int y :: .int x :: st) h g :=
  fun H L ls a b c => lv_iushr C.1 C.2.1 hd rfl (k H L ls a b c)
theorem zr_lshl (C : zOk X Γ cc own nL d rt) {x : Int64} {y : Int32} (hd : decode cc pc = .ok (.lshl, 1)) (k : zV X Γ Q (pc + 1) lv (.long (x <<< (y.toInt64 &&& 63)) :: st) h g) : zV X Γ Q pc lv (.int y :: .long x :: st) h g :=
  fun H L ls a b c => lv_lshl C.1 C.2.1 hd rfl (k H L ls a b c)
theorem zr_lushr (C : zOk X Γ cc own nL d rt) {x : Int64} {y : Int32} (hd : decode cc pc = .ok (.lushr, 1)) (k : zV X Γ Q (pc + 1) lv (.long (zlshr x y) :: st) h g) : zV X Γ Q pc lv (.int y :: .long x :: st) h g :=
  fun H L ls a b c => lv_lushr C.1 C.2.1 hd rfl (k H L ls a b c)
theorem zr_i2l (C : zOk X Γ cc own nL d rt) {x : Int32} (hd : decode cc pc = .ok (.i2l, 1)) (k : zV X Γ Q (pc + 1) lv (.long x.toInt64 :: st) h g) : zV X Γ Q pc lv (.int x :: st) h g :=
  fun H L ls a b c => lv_i2l C.1 C.2.1 hd rfl (k H L ls a b c)
theorem zr_l2i (C : zOk X Γ cc own nL d rt) {x : Int64} (hd : decode cc pc = .ok (.l2i, 1)) (k : zV X Γ Q (pc + 1) lv (.int x.toInt32 :: st) h g) : zV X Γ Q pc lv (.long x :: st) h g :=
  fun H L ls a b c => lv_l2i C.1 C.2.1 hd rfl (k H L ls a b c)
theorem zr_lcmp (C : zOk X Γ cc own nL d rt) {x y : Int64} (hd : decode cc pc = .ok (.lcmp, 1)) (k : zV X Γ Q (pc + 1) lv (.int (lg_cmp x y) :: st) h g) : zV X Γ Q pc lv (.long y :: .long x :: st) h g :=
  fun H L ls a b c => W.lcmp C.1 C.2.1 hd (k H L ls a b c)
theorem zr_dup (C : zOk X Γ cc own nL d rt) {va : Value} (hd : decode cc pc = .ok (.dup, 1)) (hva : va.category = 1) (k : zV X Γ Q (pc + 1) lv (va :: va :: st) h g) : zV X Γ Q pc lv (va :: st) h g :=
  fun H L ls a b c => lv_dup C.1 C.2.1 hd hva (k H L ls a b c)
theorem zr_pop (C : zOk X Γ cc own nL d rt) {va : Value} (hd : decode cc pc = .ok (.pop, 1)) (hva : va.category = 1) (k : zV X Γ Q (pc + 1) lv st h g) : zV X Γ Q pc lv (va :: st) h g :=
  fun H L ls a b c => lv_pop C.1 C.2.1 hd hva (k H L ls a b c)
theorem zr_dup2 (C : zOk X Γ cc own nL d rt) {va vb : Value} (hd : decode cc pc = .ok (.dup2, 1)) (hva : va.category = 1) (hvb : vb.category = 1) (k : zV X Γ Q (pc + 1) lv (va :: vb :: va :: vb :: st) h g) : zV X Γ Q pc lv (va :: vb :: st) h g :=
  fun H L ls a b c => lv_dup2_11 C.1 C.2.1 hd hva hvb (k H L ls a b c)
theorem zr_icmp_eq (C : zOk X Γ cc own nL d rt) {x y : Int32} {off : Int} (tgt : Nat) (hd : decode cc pc = .ok (.if_icmp .eq off, 3)) (ht : (pc : Int) + off = (tgt : Int)) (kt : x = y → zV X Γ Q tgt lv st h g) (kf : ¬ x = y → zV X Γ Q (pc + 3) lv st h g) : zV X Γ Q pc lv (.int y :: .int x :: st) h g :=
  fun H L ls a b c => lv_icmp_eq C.1 C.2.1 hd ht (fun e => kt e H L ls a b c) (fun e => kf e H L ls a b c)
theorem zr_if_eq (C : zOk X Γ cc own nL d rt) {x : Int32} {off : Int} (tgt : Nat) (hd : decode cc pc = .ok (.ifCond .eq off, 3)) (ht : (pc : Int) + off = (tgt : Int)) (kt : x = 0 → zV X Γ Q tgt lv st h g) (kf : ¬ x = 0 → zV X Γ Q (pc + 3) lv st h g) : zV X Γ Q pc lv (.int x :: st) h g :=
  fun H L ls a b c => lv_if_eq C.1 C.2.1 hd ht (fun e => kt e H L ls a b c) (fun e => kf e H L ls a b c)
theorem zr_icmp_ne (C : zOk X Γ cc own nL d rt) {x y : Int32} {off : Int} (tgt : Nat) (hd : decode cc pc = .ok (.if_icmp .ne off, 3)) (ht : (pc : Int) + off = (tgt : Int)) (kt : ¬ x = y → zV X Γ Q tgt lv st h g) (kf : x = y → zV X Γ Q (pc + 3) lv st h g) : zV X Γ Q pc lv (.int y :: .int x :: st) h g :=
  fun H L ls a b c => lv_icmp_ne C.1 C.2.1 hd ht (fun e => kt e H L ls a b c) (fun e => kf e H L ls a b c)
theorem zr_if_ne (C : zOk X Γ cc own nL d rt) {x : Int32} {off : Int} (tgt : Nat) (hd : decode cc pc = .ok (.ifCond .ne off, 3)) (ht : (pc : Int) + off = (tgt : Int)) (kt : ¬ x = 0 → zV X Γ Q tgt lv st h g) (kf : x = 0 → zV X Γ Q (pc + 3) lv st h g) : zV X Γ Q pc lv (.int x :: st) h g :=
  fun H L ls a b c => lv_if_ne C.1 C.2.1 hd ht (fun e => kt e H L ls a b c) (fun e => kf e H L ls a b c)
theorem zr_icmp_lt (C : zOk X Γ cc own nL d rt) {x y : Int32} {off : Int} (tgt : Nat) (hd : decode cc pc = .ok (.if_icmp .lt off, 3)) (ht : (pc : Int) + off = (tgt : Int)) (kt : x < y → zV X Γ Q tgt lv st h g) (kf : ¬ x < y → zV X Γ Q (pc + 3) lv st h g) : zV X Γ Q pc lv (.int y :: .int x :: st) h g :=
  fun H L ls a b c => lv_icmp_lt C.1 C.2.1 hd ht (fun e => kt e H L ls a b c) (fun e => kf e H L ls a b c)
theorem zr_if_lt (C : zOk X Γ cc own nL d rt) {x : Int32} {off : Int} (tgt : Nat) (hd : decode cc pc = .ok (.ifCond .lt off, 3)) (ht : (pc : Int) + off = (tgt : Int)) (kt : x < 0 → zV X Γ Q tgt lv st h g) (kf : ¬ x < 0 → zV X Γ Q (pc + 3) lv st h g) : zV X Γ Q pc lv (.int x :: st) h g :=
  fun H L ls a b c => lv_if_lt C.1 C.2.1 hd ht (fun e => kt e H L ls a b c) (fun e => kf e H L ls a b c)
theorem zr_icmp_ge (C : zOk X Γ cc own nL d rt) {x y : Int32} {off : Int} (tgt : Nat) (hd : decode cc pc = .ok (.if_icmp .ge off, 3)) (ht : (pc : Int) + off = (tgt : Int)) (kt : y ≤ x → zV X Γ Q tgt lv st h g) (kf : ¬ y ≤ x → zV X Γ Q (pc + 3) lv st h g) : zV X Γ Q pc lv (.int y :: .int x :: st) h g :=
  fun H L ls a b c => lv_icmp_ge C.1 C.2.1 hd ht (fun e => kt e H L ls a b c) (fun e => kf e H L ls a b c)
theorem zr_if_ge (C : zOk X Γ cc own nL d rt) {x : Int32} {off : Int} (tgt : Nat) (hd : decode cc pc = .ok (.ifCond .ge off, 3)) (ht : (pc : Int) + off = (tgt : Int)) (kt : 0 ≤ x → zV X Γ Q tgt lv st h g) (kf : ¬ 0 ≤ x → zV X Γ Q (pc + 3) lv st h g) : zV X Γ Q pc lv (.int x :: st) h g :=
  fun H L ls a b c => lv_if_ge C.1 C.2.1 hd ht (fun e => kt e H L ls a b c) (fun e => kf e H L ls a b c)
theorem zr_icmp_gt (C : zOk X Γ cc own nL d rt) {x y : Int32} {off : Int} (tgt : Nat) (hd : decode cc pc = .ok (.if_icmp .gt off, 3)) (ht : (pc : Int) + off = (tgt : Int)) (kt : y < x → zV X Γ Q tgt lv st h g) (kf : ¬ y < x → zV X Γ Q (pc + 3) lv st h g) : zV X Γ Q pc lv (.int y :: .int x :: st) h g :=
  fun H L ls a b c => lv_icmp_gt C.1 C.2.1 hd ht (fun e => kt e H L ls a b c) (fun e => kf e H L ls a b c)
theorem zr_if_gt (C : zOk X Γ cc own nL d rt) {x : Int32} {off : Int} (tgt : Nat) (hd : decode cc pc = .ok (.ifCond .gt off, 3)) (ht : (pc : Int) + off = (tgt : Int)) (kt : 0 < x → zV X Γ Q tgt lv st h g) (kf : ¬ 0 < x → zV X Γ Q (pc + 3) lv st h g) : zV X Γ Q pc lv (.int x :: st) h g :=
  fun H L ls a b c => lv_if_gt C.1 C.2.1 hd ht (fun e => kt e H L ls a b c) (fun e => kf e H L ls a b c)
theorem zr_icmp_le (C : zOk X Γ cc own nL d rt) {x y : Int32} {off : Int} (tgt : Nat) (hd : decode cc pc = .ok (.if_icmp .le off, 3)) (ht : (pc : Int) + off = (tgt : Int)) (kt : x ≤ y → zV X Γ Q tgt lv st h g) (kf : ¬ x ≤ y → zV X Γ Q (pc + 3) lv st h g) : zV X Γ Q pc lv (.int y :: .int x :: st) h g :=
  fun H L ls a b c => lv_icmp_le C.1 C.2.1 hd ht (fun e => kt e H L ls a b c) (fun e => kf e H L ls a b c)
theorem zr_if_le (C : zOk X Γ cc own nL d rt) {x : Int32} {off : Int} (tgt : Nat) (hd : decode cc pc = .ok (.ifCond .le off, 3)) (ht : (pc : Int) + off = (tgt : Int)) (kt : x ≤ 0 → zV X Γ Q tgt lv st h g) (kf : ¬ x ≤ 0 → zV X Γ Q (pc + 3) lv st h g) : zV X Γ Q pc lv (.int x :: st) h g :=
  fun H L ls a b c => lv_if_le C.1 C.2.1 hd ht (fun e => kt e H L ls a b c) (fun e => kf e H L ls a b c)
theorem zr_goto (C : zOk X Γ cc own nL d rt) {off : Int} (tgt : Nat) (hd : decode cc pc = .ok (.goto off, 3)) (ht : (pc : Int) + off = (tgt : Int)) (k : zV X Γ Q tgt lv st h g) : zV X Γ Q pc lv st h g :=
  fun H L ls a b c => lv_goto C.1 C.2.1 hd ht (k H L ls a b c)
theorem zr_tabOut (C : zOk X Γ cc own nL d rt) {dflt lo hi : Int} {offs : Array Int} {len : Nat} {x : Int32} (tgt : Nat) (hd : decode cc pc = .ok (.tableswitch dflt lo hi offs, len)) (hx : x.toInt < lo ∨ hi < x.toInt) (ht : (pc : Int) + dflt = (tgt : Int)) (k : zV X Γ Q tgt lv st h g) : zV X Γ Q pc lv (.int x :: st) h g :=
  fun H L ls a b c => lv_tableOut C.1 C.2.1 hd hx ht (k H L ls a b c)
theorem zr_tabIn (C : zOk X Γ cc own nL d rt) {dflt lo hi : Int} {offs : Array Int} {len : Nat} {x : Int32} {off : Int} (tgt : Nat) (hd : decode cc pc = .ok (.tableswitch dflt lo hi offs, len)) (h1 : ¬ x.toInt < lo) (h2 : ¬ hi < x.toInt) (ho : offs[(x.toInt - lo).toNat]? = some off) (ht : (pc : Int) + off = (tgt : Int)) (k : zV X Γ Q tgt lv st h g) : zV X Γ Q pc lv (.int x :: st) h g :=
  fun H L ls a b c => lv_tableIn C.1 C.2.1 hd h1 h2 ho ht (k H L ls a b c)
/-- the top of the stack in other words -/
theorem zr_top {x y : Int32} (e : x = y) (k : zV X Γ Q pc lv (.int y :: st) h g) : zV X Γ Q pc lv (.int x :: st) h g := e ▸ k
end ZR
end
section
/-! Fields, rows, calls, returns over the fixed world. -/
section ZS
variable {X : zXT} {Γ : zGT} {Q : State → Prop} {cc : ByteArray} {own : String} {nL d : Nat} {rt : Option FieldType} {pc : Nat} {lv : List (Option Value)} {st : List Value} {h : zHp} {g : zLg}
theorem zr_get {c ci N idx : Nat} {C : String} {T : u_T} {fs : List Value} (K : zOk X Γ cc own nL d rt) (hc : c < 71) (he : zC X g c (h c) = .inr (ci, fs)) (hcl : zcl[ci]? = some (C, T, N)) (hin : ∀ w ∈ u_ws C T N, w ∈ zU) (k : Nat) (hk : k < N) (hw : Cond.fieldLink own idx (T k).1 (T k).2.1 (T k).2.2.1 ∈ zU) {v : Value} (hv : fs[k]? = some v) (hd : decode cc pc = .ok (.getfield idx, 3)) (kk : zV X Γ Q (pc + 3) lv (v :: st) h g) : zV X Γ Q pc lv (zR X c :: st) h g :=
  fun H L ls a b e => va_get (D := X.2.1) (cl := zcl) (ws := zw X h g) (tys := ztys X) K.1 K.2.1 K.2.2.2.2.1 hin K.2.2.2.1 K.2.2.2.2.2.1.1 a c (fs := fs) (by rw [zw_at X h g hc, he]) hcl k hk (K.2.2.2.2.1 _ hw) (fun x hx => hx) hv hd (kk H L ls a b e)
theorem zr_put {c ci N idx : Nat} {C : String} {T : u_T} {fs : List Value} {h2 : zHp} {g2 : zLg} (K : zOk X Γ cc own nL d rt) (hc : c < 71) (he : zC X g c (h c) = .inr (ci, fs)) (hcl : zcl[ci]? = some (C, T, N)) (hin : ∀ w ∈ u_ws C T N, w ∈ zU) (ty0 : Nat → FieldType) (hty : ∀ k, k < N → parseFieldDescriptor (T k).2.2.1 = some (ty0 k)) (hnm : ∀ a, a < N → ∀ b, b < N → a ≠ b → (T a).2.1 ≠ (T b).2.1) (k : Nat) (hk : k < N) (hw : Cond.fieldLink own idx (T k).1 (T k).2.1 (T k).2.2.1 ∈ zU) (hfin : (T k).2.2.2 = false) {v : Value} (hn : narrow (ty0 k) v = v) (hfit : fits (ty0 k) v = true) (hl : k < fs.length) (he2 : (zw X h g).set c (X.2.2.2.2 c, .inr (ci, fs.set k v)) = zw X h2 g2) (hd : decode cc pc = .ok (.putfield idx, 3)) (kk : zV X Γ Q (pc + 3) lv st h2 g2) : zV X Γ Q pc lv (v :: zR X c :: st) h g := by
  intro H L ls a b e
  refine va_put (D := X.2.1) (cl := zcl) (ws := zw X h g) (tys := ztys X) K.1 K.2.1 K.2.2.2.2.1 hin ty0 hty hnm K.2.2.2.1 K.2.2.2.2.2.1.1 a (zw_D K.2.2.2.2.2.1.2.1 h g) b c (fs := fs) (by rw [zw_at X h g hc, he]) hcl k hk (K.2.2.2.2.1 _ hw) (fun x hx => hx) hfin (hty k hk) hn hfit hl hd (fun H1 L1 hP hD hS => ?_)
  rw [he2] at hP
  exact kk H1 L1 ls hP hS e
/-- c is an int[] of n places -/
def zar (c n : Nat) : Prop := c < 71 ∧ zkind c = 8 ∧ zlen c = n
theorem zC_ar {c n : Nat} (ha : zar c n) (X : zXT) (g : zLg) (r : Nat → Int32) : zC X g c r = .inl (X.2.2.1, n, .inl r) := by
  unfold zC
  rw [ha.2.1, ha.2.2]
  rfl
theorem zr_iald {c n : Nat} (K : zOk X Γ cc own nL d rt) (ha : zar c n) (i : Nat) {x : Int32} (hx : x = nI i) (hi : i < n) (hn : n < 2 ^ 31 := by decide) (hd : decode cc pc = .ok (.iaload, 1)) (kk : zV X Γ Q (pc + 1) lv (.int (h c i) :: st) h g) : zV X Γ Q pc lv (.int x :: zR X c :: st) h g := by
  subst hx
  intro H L ls a b e
  refine va_iald (D := X.2.1) (cl := zcl) (ws := zw X h g) (tys := ztys X) K.1 K.2.1 K.2.2.2.2.2.1.1 a c 0 (cA := X.2.2.1) (n := n) (f := h c) (by rw [zw_at X h g ha.1, zC_ar ha]) rfl (vp_in_nI hi hn) hd ?_
  rw [nI_clamp (by omega)]
  exact kk H L ls a b e
theorem zr_iast {c n : Nat} (K : zOk X Γ cc own nL d rt) (ha : zar c n) (i : Nat) {x v : Int32} (hx : x = nI i) (hi : i < n) (hn : n < 2 ^ 31 := by decide) (hd : decode cc pc = .ok (.iastore, 1)) (kk : zV X Γ Q (pc + 1) lv st (zup h c i v) g) : zV X Γ Q pc lv (.int v :: .int x :: zR X c :: st) h g := by
  subst hx
  intro H L ls a b e
  refine va_iast (D := X.2.1) (cl := zcl) (ws := zw X h g) (tys := ztys X) K.1 K.2.1 K.2.2.2.2.2.1.1 a (zw_D K.2.2.2.2.2.1.2.1 h g) b c 0 (cA := X.2.2.1) (n := n) (f := h c) (by rw [zw_at X h g ha.1, zC_ar ha]) rfl (vp_in_nI hi hn) hd (fun H1 L1 hP hD hS => ?_)
  rw [nI_clamp (by omega), zw_up X h g (zC_ar ha X g _)] at hP
  exact kk H1 L1 ls hP hS e
theorem zr_alen {c n : Nat} (K : zOk X Γ cc own nL d rt) (ha : zar c n) (hd : decode cc pc = .ok (.arraylength, 1)) (kk : zV X Γ Q (pc + 1) lv (.int (nI n) :: st) h g) : zV X Γ Q pc lv (zR X c :: st) h g := by
  intro H L ls a b e
  exact va_alen (D := X.2.1) (cl := zcl) (ws := zw X h g) (tys := ztys X) K.1 K.2.1 K.2.2.2.2.2.1.1 a c 0 (cA := X.2.2.1) (x := (n, .inl (h c))) (by rw [zw_at X h g ha.1, zC_ar ha]) (ty := .int) rfl rfl hd (kk H L ls a b e)
theorem zr_zald (K : zOk X Γ cc own nL d rt) (i : Nat) {x : Int32} (hx : x = nI i) (hi : i < 2) (hd : decode cc pc = .ok (.baload, 1)) (kk : zV X Γ Q (pc + 1) lv (.int (h 59 i) :: st) h g) : zV X Γ Q pc lv (.int x :: zR X 59 :: st) h g := by
  subst hx
  intro H L ls a b e
  refine va_zald (D := X.2.1) (cl := zcl) (ws := zw X h g) (tys := ztys X) K.1 K.2.1 K.2.2.2.2.2.1.1 a 59 1 (cA := X.2.2.2.1) (n := 2) (f := h 59) (by rw [zw_at X h g (by decide)]; rfl) rfl (vp_in_nI hi (by decide)) hd ?_
  rw [nI_clamp (by omega)]
  exact kk H L ls a b e
theorem zr_zast (K : zOk X Γ cc own nL d rt) (i : Nat) {x v : Int32} (hx : x = nI i) (hi : i < 2) (hv : v = 0 ∨ v = 1) (hd : decode cc pc = .ok (.bastore, 1)) (kk : zV X Γ Q (pc + 1) lv st (zup h 59 i v) g) : zV X Γ Q pc lv (.int v :: .int x :: zR X 59 :: st) h g := by
  subst hx
  intro H L ls a b e
  refine va_zast (D := X.2.1) (cl := zcl) (ws := zw X h g) (tys := ztys X) K.1 K.2.1 K.2.2.2.2.2.1.1 a (zw_D K.2.2.2.2.2.1.2.1 h g) b 59 1 (cA := X.2.2.2.1) (n := 2) (f := h 59) (by rw [zw_at X h g (by decide)]; rfl) rfl (vp_in_nI hi (by decide)) hd (fun H1 L1 hP hD hS => ?_)
  rw [nI_clamp (by omega), show vp_nar .boolean v = v from (by rcases hv with rfl | rfl <;> rfl), zw_up X h g (c := 59) (k := i) (x := v) (e := .inl (X.2.2.2.1, 2, .inl (upd (h 59) i v))) rfl] at hP
  exact kk H1 L1 ls hP hS e
/-- System.arraycopy between int[]s -/
theorem zr_copy {c c2 n n2 idx : Nat} (K : zOk X Γ cc own nL d rt) (ha : zar c n) (ha2 : zar c2 n2) (hw : Cond.methodLink own idx arraycopyName ∈ zU) (i j k : Nat) {x y z : Int32} (hx : x = nI i) (hy : y = nI j) (hz : z = nI k) (h1 : i + k ≤ n) (h2 : j + k ≤ n2) (hn : n < 2 ^ 31 := by decide) (hn2 : n2 < 2 ^ 31 := by decide) (hnL : lv.length = nL) (hst : (st.map fun v => v.category).sum ≤ 8 := by decide) (hd1 : 1 ≤ d := by decide) (hd : decode cc pc = .ok (.invokestatic idx, 3)) (kk : zV X Γ Q (pc + 3) lv st (zcp h c c2 i j k) g) : zV X Γ Q pc lv (.int z :: .int y :: zR X c2 :: .int x :: zR X c :: st) h g := by
  subst hx hy hz
  intro H L ls a b e
  have q0 : ∀ t : Nat, t < 2 ^ 31 → ¬ nI t < 0 := fun t ht => nI_pos ht
  have h3 : nativeFrameWords "java/lang/System" "arraycopy" 5 + 11 ≤ 56 := by decide +kernel
  have h4 := K.2.2.2.2.2.2.1.1
  have h5 := K.2.2.2.2.2.2.1.2.1
  have hfr : 1 ≤ (zGR Γ).frames := by omega
  have hlo : (st.map fun v => v.category).sum + (nativeFrameWords "java/lang/System" "arraycopy" 5 + 11) ≤ (zGR Γ).locals := by omega
  refine va_copyi (D := X.2.1) (cl := zcl) (ws := zw X h g) (tys := ztys X) K.1 K.2.1 (by rw [K.2.2.1, e.1, hnL]) K.2.2.2.1 (K.2.2.2.2.1 _ hw) (K.2.2.2.2.1 _ (zU_in (i := 384) (by decide +kernel) rfl)) (K.2.2.2.2.1 _ (zU_in (i := 383) (by decide +kernel) rfl)) (K.2.2.2.2.1 _ (zU_in (i := 65) (by decide +kernel) rfl)) K.2.2.2.2.2.1.1 a (zw_D K.2.2.2.2.2.1.2.1 h g) b c c2 0 0 (c0 := X.2.2.1) (c1 := X.2.2.1) (n0 := n) (n1 := n2) (f := h c) (g := h c2) (ty := .int) (by rw [zw_at X h g ha.1, zC_ar ha]) (by rw [zw_at X h g ha2.1, zC_ar ha2]) rfl rfl rfl (q0 i (by omega)) (q0 j (by omega)) (q0 k (by omega)) (by rw [nI_clamp (by omega), nI_clamp (by omega)]; exact h1) (by rw [nI_clamp (by omega), nI_clamp (by omega)]; exact h2) (fun _ _ => rfl) hfr hlo hd (fun H1 L1 hP hD hS => ?_)
  rw [nI_clamp (by omega), nI_clamp (by omega), nI_clamp (by omega), zw_set X h (zcp h c c2 i j k) g g (by rw [zcp_eq]; exact zC_ar ha2 X g _) (fun e he => by rw [zcp_ne he])] at hP
  exact kk H1 L1 ls hP hS e
theorem zr_mmax {idx : Nat} {x y : Int32} (K : zOk X Γ cc own nL d rt) (hw : Cond.methodLink own idx Lib.Math.max.name ∈ zU) (hnL : lv.length = nL) (hst : (st.map fun v => v.category).sum ≤ 8 := by decide) (hd1 : 1 ≤ d := by decide) (hd : decode cc pc = .ok (.invokestatic idx, 3)) (kk : zV X Γ Q (pc + 3) lv (.int (if x < y then y else x) :: st) h g) : zV X Γ Q pc lv (.int y :: .int x :: st) h g :=
  fun H L ls a b e => va_mmax K.1 K.2.1 (by rw [K.2.2.1, e.1, hnL]) K.2.2.2.1 (K.2.2.2.2.1 _ hw) (K.2.2.2.2.1 _ (zU_in (i := 182) (by decide +kernel) rfl)) (K.2.2.2.2.1 _ (zU_in (i := 60) (by decide +kernel) rfl)) (K.2.2.2.2.1 _ (zU_in (i := 183) (by decide +kernel) rfl)) (by have := K.2.2.2.2.2.2.1.1; omega) (by have := K.2.2.2.2.2.2.1.2.1; omega) K.2.2.2.2.2.2.1.2.2.1 K.2.2.2.2.2.2.1.2.2.2 hd (kk H L ls a b e)
theorem zr_mmin {idx : Nat} {x y : Int32} (K : zOk X Γ cc own nL d rt) (hw : Cond.methodLink own idx Lib.Math.min.name ∈ zU) (hnL : lv.length = nL) (hst : (st.map fun v => v.category).sum ≤ 8 := by decide) (hd1 : 1 ≤ d := by decide) (hd : decode cc pc = .ok (.invokestatic idx, 3)) (kk : zV X Γ Q (pc + 3) lv (.int (if y < x then y else x) :: st) h g) : zV X Γ Q pc lv (.int y :: .int x :: st) h g :=
  fun H L ls a b e => va_mmin K.1 K.2.1 (by rw [K.2.2.1, e.1, hnL]) K.2.2.2.1 (K.2.2.2.2.1 _ hw) (K.2.2.2.2.1 _ (zU_in (i := 463) (by decide +kernel) rfl)) (K.2.2.2.2.1 _ (zU_in (i := 60) (by decide +kernel) rfl)) (K.2.2.2.2.1 _ (zU_in (i := 464) (by decide +kernel) rfl)) (by have := K.2.2.2.2.2.2.1.1; omega) (by have := K.2.2.2.2.2.2.1.2.1; omega) K.2.2.2.2.2.2.1.2.2.1 K.2.2.2.2.2.2.1.2.2.2 hd (kk H L ls a b e)
theorem zr_mabs {idx : Nat} {x : Int32} (K : zOk X Γ cc own nL d rt) (hw : Cond.methodLink own idx Lib.Math.abs.name ∈ zU) (hnL : lv.length = nL) (hst : (st.map fun v => v.category).sum ≤ 8 := by decide) (hd1 : 1 ≤ d := by decide) (hd : decode cc pc = .ok (.invokestatic idx, 3)) (kk : zV X Γ Q (pc + 3) lv (.int (if 0 ≤ x then x else 0 - x) :: st) h g) : zV X Γ Q pc lv (.int x :: st) h g :=
  fun H L ls a b e => va_mabs K.1 K.2.1 (by rw [K.2.2.1, e.1, hnL]) K.2.2.2.1 (K.2.2.2.2.1 _ hw) (K.2.2.2.2.1 _ (zU_in (i := 706) (by decide +kernel) rfl)) (K.2.2.2.2.1 _ (zU_in (i := 60) (by decide +kernel) rfl)) (K.2.2.2.2.1 _ (zU_in (i := 707) (by decide +kernel) rfl)) (by have := K.2.2.2.2.2.2.1.1; omega) (by have := K.2.2.2.2.2.2.1.2.1; omega) K.2.2.2.2.2.2.1.2.2.1 K.2.2.2.2.2.2.1.2.2.2 hd (kk H L ls a b e)
-- returns
theorem zr_end {H : Heap} {locs : List Loc} {o : Option Value} (K : zOk X Γ cc own nL d rt) (hP : va_P X.2.1 zcl (zw X h g) H) (hS : va_S (zA X) (zGs Γ).heap H locs) (t : State) (ht : t.heap = H) : zQD X o h g (zGa Γ) (zGs Γ) (.returned o) t :=
  ⟨⟨rfl, by unfold zSt; rw [ht]; exact hP⟩, hS.F ht⟩
theorem zr_ireti {x : Int32} (K : zOk X Γ cc own nL d (some .int)) (hd : decode cc pc = .ok (.ireturn, 1)) : zV X Γ (zTQ X Γ (zI x) h g) pc lv [.int x] h g :=
  fun H L ls a b e => W.iret K.1 K.2.1 K.2.2.2.2.2.2.2.1 (fun t ht _ => zr_end K a b t ht) b.2.2 hd K.2.2.2.2.2.2.2.2
theorem zr_iretz {x : Int32} (K : zOk X Γ cc own nL d (some .boolean)) (hx : x = 0 ∨ x = 1) (hd : decode cc pc = .ok (.ireturn, 1)) : zV X Γ (zTQ X Γ (zI x) h g) pc lv [.int x] h g :=
  fun H L ls a b e => W.zret K.1 K.2.1 K.2.2.2.2.2.2.2.1 (by rcases hx with rfl | rfl <;> rfl) (fun t ht _ => zr_end K a b t ht) b.2.2 hd K.2.2.2.2.2.2.2.2
theorem zr_lret {x : Int64} (K : zOk X Γ cc own nL d (some .long)) (hd : decode cc pc = .ok (.lreturn, 1)) : zV X Γ (zTQ X Γ (zL x) h g) pc lv [.long x] h g :=
  fun H L ls a b e => W.lret K.1 K.2.1 K.2.2.2.2.2.2.2.1 (fun t ht _ => zr_end K a b t ht) b.2.2 hd K.2.2.2.2.2.2.2.2
theorem zr_vret (K : zOk X Γ cc own nL d none) (hd : decode cc pc = .ok (.return_, 1)) : zV X Γ (zTQ X Γ none h g) pc lv [] h g :=
  fun H L ls a b e => W.vret K.1 K.2.1 K.2.2.2.2.2.2.2.1 (fun t ht _ => zr_end K a b t ht) b.2.2 hd K.2.2.2.2.2.2.2.2
/-- the numbers and the answer in other words -/
theorem zTQ_eq {o o2 : Option Value} {h2 h3 : zHp} {g2 g3 : zLg} (e1 : o = o2) (e2 : h2 = h3) (e3 : g2 = g3) (k : zV X Γ (zTQ X Γ o h2 g2) pc lv st h g) : zV X Γ (zTQ X Γ o2 h3 g3) pc lv st h g := by
  subst e1; subst e2; subst e3; exact k
-- calls
theorem zr_after {M : zMT} {dy : Nat} {av rest st0 : List Value} {o : Option Value} {h2 : zHp} {g2 : zLg} {H : Heap} {locs : List Loc} {ls : Array Slot} (K : zOk X Γ cc own nL d rt) (hr : va_Run (zGp Γ) X.1 (zGe Γ) (zGR Γ) (zGs Γ) (zGm Γ) (zGa Γ) (zGb Γ) (zGM Γ) (zGc Γ) H locs (zGkc Γ) (zGks Γ) 0 0 (F0 (zGm Γ) pc ls st0) rest (zQD X o h2 g2 av.toArray) (zA X)) (hS : va_S (zA X) (zGs Γ).heap H locs) (e : lv_has ls lv.length (zasc 0 lv)) (kk : zV X Γ Q (pc + 3) lv (o.toList ++ rest) h2 g2) : W (zGp Γ) X.1 (zGe Γ) (zGR Γ) (zGs Γ) (zGm Γ) (zGa Γ) (zGb Γ) (zGM Γ) (zGc Γ) H locs (zGkc Γ) (zGks Γ) Q (F0 (zGm Γ) pc ls st0) := by
  intro T hT Y
  obtain ⟨v, st₀, t, T', L, h0, Y', hL, e1, e2, ⟨⟨hv, hb⟩, hz, hk⟩, stp⟩ := hr T hT Y
  cases hv
  rw [h0] at hz hk
  have hP : va_P X.2.1 zcl (zw X h2 g2) T'.heap := by rw [e1]; exact hb
  have hS2 : va_S (zA X) (zGs Γ).heap T'.heap (locs ++ L) := ⟨Nat.le_trans hS.1 (by rw [e1]; exact hz), fun q q1 q2 => by rw [e1, hk q (Nat.lt_of_lt_of_le q1 hS.1) q2]; exact hS.2.1 q q1 q2, fun q hq => by
      rcases List.mem_append.mp hq with h | h
      · exact hS.2.2 q h
      · exact hL q h⟩
  obtain ⟨t2, a1, b1⟩ := kk T'.heap (locs ++ L) ls hP hS2 e T' rfl Y'
  exact ⟨t2, stp t2 a1, b1⟩
theorem zr_fix (K : zOk X Γ cc own nL d rt) : CallFix (zGp Γ) (zGm Γ) (zGc Γ) cc nL (zGs Γ) (zGa Γ) zU own := ⟨K.1, K.2.1, K.2.2.1, K.2.2.2.1, K.2.2.2.2.1⟩
theorem zr_blind (X : zXT) (av : List Value) (h : zHp) (g : zLg) : FrameBlind (va_Pc av (fun U => zSt X h g U ∧ zKn X U)) :=
  fun a U g mk q => ⟨q.1, q.2.1, va_K.moved (u := U) (U := U.calling g mk a) (Vm.Alike.refl U.vm) q.2.2.1, q.2.2.2.1, zNest_same (u := U) (U := U.calling g mk a) rfl q.2.2.2.2⟩
theorem zr_pre {H : Heap} (K : zOk X Γ cc own nL d rt) (av : List Value) (hP : va_P X.2.1 zcl (zw X h g) H) : ∀ U : State, U.heap = H → (zGs Γ).WarmedH U.vm → va_Pc av (fun U => zSt X h g U ∧ zKn X U) av.toArray U :=
  fun U hU hW => ⟨rfl, by unfold zSt; rw [hU]; exact hP, zKn_warm hW K.2.2.2.2.2.1⟩
theorem zr_room (K : zOk X Γ cc own nL d rt) {dy maxL : Nat} (h1 : dy + 1 ≤ d) (h2 : maxL ≤ 40) : (zrm dy).frames + 1 ≤ (zGR Γ).frames ∧ 8 + (maxL + 11) + (zrm dy).locals ≤ (zGR Γ).locals := by
  have := K.2.2.2.2.2.2.1.1
  have := K.2.2.2.2.2.2.1.2.1
  unfold zrm
  constructor
  · show dy + 1 ≤ _; omega
  · show 8 + (maxL + 11) + 64 * dy ≤ _; omega
/-- what a call of M needs of the tables (n: how many parameters) -/
def zcall (M : zMT) (n : Nat) : Prop := Cond.code M.1 M.2.1 M.2.2.1 M.2.2.2 ∈ zU ∧ Cond.initialized M.1.cls ∈ zU ∧ (M.1.cls ≠ "java/lang/invoke/MethodHandle" ∧ M.1.cls ≠ "java/lang/invoke/VarHandle" ∧ (parseMethodDescriptor M.1.desc).map (fun d => d.parameters.length) = some n) ∧ M.2.2.1 ≤ 40
/-- an object's method, public or private, by its own link -/
theorem zr_callV {M : zMT} {dy n idx c ci N : Nat} {C : String} {T : u_T} {fs As : List Value} {o : Option Value} {h2 : zHp} {g2 : zLg} (K : zOk X Γ cc own nL d rt) (hM : zDi X M dy (zR X c :: As) h g o h2 g2) (hm : zcall M n) (hl : Cond.methodLink own idx M.1 ∈ zU) (hi : Cond.instanceMethod M.1 ∈ zU) (hs : Cond.selects C M.1 M.1 ∈ zU) (hc : c < 71) (he : zC X g c (h c) = .inr (ci, fs)) (hcl : zcl[ci]? = some (C, T, N)) (hn : As.length = n) (hdy : dy + 1 ≤ d) (hnL : lv.length = nL) (hst : (st.map fun v => v.category).sum ≤ 8) (hd : decode cc pc = .ok (.invokevirtual idx, 3)) (kk : zV X Γ Q (pc + 3) lv (o.toList ++ st) h2 g2) : zV X Γ Q pc lv (As.reverse ++ zR X c :: st) h g := by
  intro H L ls a b e
  refine zr_after (M := M) (dy := dy) (av := zR X c :: As) K (va_runV (As := As) (rest := st) (zr_fix K) hM (C := C) ⟨callB_of n K.2.2.2.2.1 (zU_good' _ hm.1) rfl rfl rfl (K.2.2.2.2.1 _ hm.2.1) (K.2.2.2.2.1 _ hl) hm.2.2.1 (zr_room K hdy hm.2.2.2), K.2.2.2.2.1 _ hi, K.2.2.2.2.1 _ hs⟩ ⟨zr_blind X _ h g, va_recv (tys := ztys X) K.2.2.2.2.2.1.1 a hcl (q0 := c) (by rw [zw_at X h g hc, he]), zr_pre K _ a⟩ rfl hn (by rw [← hnL]; exact e.1) rfl (lv_room hst) hd ⟨K.2.2.2.2.2.2.1.2.2.1, K.2.2.2.2.2.2.1.2.2.2⟩) b e kk
/-- a static method by its own link -/
theorem zr_callS {M : zMT} {dy n idx : Nat} {As : List Value} {o : Option Value} {h2 : zHp} {g2 : zLg} (K : zOk X Γ cc own nL d rt) (hM : zDi X M dy As h g o h2 g2) (hm : zcall M n) (hl : Cond.methodLink own idx M.1 ∈ zU) (hi : Cond.static M.1 ∈ zU) (hn : As.length = n) (hdy : dy + 1 ≤ d) (hnL : lv.length = nL) (hst : (st.map fun v => v.category).sum ≤ 8) (hd : decode cc pc = .ok (.invokestatic idx, 3)) (kk : zV X Γ Q (pc + 3) lv (o.toList ++ st) h2 g2) : zV X Γ Q pc lv (As.reverse ++ st) h g := by
  intro H L ls a b e
  refine zr_after (M := M) (dy := dy) (av := As) K (va_runS (As := As) (rest := st) (zr_fix K) hM ⟨callB_of n K.2.2.2.2.1 (zU_good' _ hm.1) rfl rfl rfl (K.2.2.2.2.1 _ hm.2.1) (K.2.2.2.2.1 _ hl) hm.2.2.1 (zr_room K hdy hm.2.2.2), K.2.2.2.2.1 _ hi⟩ ⟨zr_blind X _ h g, zr_pre K _ a⟩ rfl hn (by rw [← hnL]; exact e.1) rfl (lv_room hst) hd ⟨K.2.2.2.2.2.2.1.2.2.1, K.2.2.2.2.2.2.1.2.2.2⟩) b e kk
/-- a private static method of the nest's host -/
theorem zr_callN {M : zMT} {dy n idx : Nat} {host : String} {As : List Value} {o : Option Value} {h2 : zHp} {g2 : zLg} (K : zOk X Γ cc own nL d rt) (hM : zDi X M dy As h g o h2 g2) (hm : zcall M n) (hl : Cond.methodLinkNest own idx M.1 host ∈ zNest) (hi : Cond.static M.1 ∈ zU) (hn : As.length = n) (hdy : dy + 1 ≤ d) (hnL : lv.length = nL) (hst : (st.map fun v => v.category).sum ≤ 8) (hd : decode cc pc = .ok (.invokestatic idx, 3)) (kk : zV X Γ Q (pc + 3) lv (o.toList ++ st) h2 g2) : zV X Γ Q pc lv (As.reverse ++ st) h g := by
  intro H L ls a b e
  refine zr_after (M := M) (dy := dy) (av := As) K (va_runSN (As := As) (rest := st) (zr_fix K) hM ⟨va_cnB n K.2.2.2.2.1 (zU_good' _ hm.1) rfl rfl rfl (K.2.2.2.2.2.1.2.2 _ hl) (K.2.2.2.2.1 _ hm.2.1) hm.2.2.1 (zr_room K hdy hm.2.2.2), K.2.2.2.2.1 _ hi, trivial⟩ ⟨zr_blind X _ h g, zr_pre K _ a⟩ rfl hn (by rw [← hnL]; exact e.1) rfl (lv_room hst) hd ⟨K.2.2.2.2.2.2.1.2.2.1, K.2.2.2.2.2.2.1.2.2.2⟩) b e kk
end ZS
/-- a method's contract out of its walk -/
theorem zDi_of {X : zXT} {M : zMT} {d : Nat} {av : List Value} {h : zHp} {g : zLg} {o : Option Value} {h2 : zHp} {g2 : zLg} (own : String) (cc : ByteArray) (nL : Nat) (rt : Option FieldType) (hM : M = (⟨own, M.1.name, M.1.desc⟩, cc, nL, rt)) (hy : plainName M.1.cls = true) (lv : List (Option Value)) (hlv : lv.length = nL) (hle : ∀ q ∈ zasc 0 lv, q ∈ lv_args 0 av) (hav : (lg_sl av).length ≤ nL)
    (body : ∀ (Γ : zGT) (Q : State → Prop), zOk X Γ cc own nL d rt → Q = zTQ X Γ o h2 g2 → zV X Γ Q 0 lv [] h g) : zDi X M d av h g o h2 g2 := by
  obtain ⟨y, cc', nL', rt'⟩ := M
  simp only [Prod.mk.injEq] at hM
  obtain ⟨hy0, rfl, rfl, rfl⟩ := hM
  unfold zDi
  refine Met.ofW (cc := cc') (maxL := nL') (ret := rt') hy rfl ?_
  intro p e s m args below meth c s₁ B hml hv
  obtain ⟨rfl, hP, hK⟩ := hv
  have hts := atoms_spec (ws := zws (y, cc', nL', rt')) B.pre
  have hown : s.vm.findClass own = some m.cls := by
    have := findClass_of_methodNamed B.named
    rw [hy0] at this
    exact this
  have C : zOk X (p, e, (headSpec (zws (y, cc', nL', rt')) (zrm d)).room, s, m, av.toArray, below, meth, c, 0, 0) cc' own nL' d rt' := ⟨B.exec, B.bytes, hml, hown, fun w hw => hts w (List.mem_cons_of_mem _ hw), hK, ⟨Nat.le_refl _, Nat.le_refl _, Nat.zero_le _, Nat.zero_le _⟩, B.returns, B.notSynchronized⟩
  have hl := lv_entry av (n := nL') hav
  rw [lg_entry_eq]
  have hl2 : lv_has (lg_sl av ++ List.replicate (nL' - (lg_sl av).length) Slot.unset).toArray lv.length (zasc 0 lv) := ⟨by rw [hlv]; exact hl.1, hl.2.1, fun q hq => hl.2.2 q (hle q hq)⟩
  exact body _ _ C rfl s.heap [] _ hP va_S.rf hl2
end
section
/-! Loops. -/
/-- a row of steps, from 0 up -/
def zrep {σ : Type} (f : Nat → σ → σ) (a : σ) : Nat → σ
  | 0 => a
  | n + 1 => f n (zrep f a n)
/-- a row of steps that may end early -/
def zrex {σ ρ : Type} (f : Nat → σ → σ ⊕ ρ) (a : σ) : Nat → σ ⊕ ρ
  | 0 => .inl a
  | n + 1 => match zrex f a n with
    | .inl s => f n s
    | .inr r => .inr r
theorem zrep_inv {σ : Type} {f : Nat → σ → σ} {a : σ} (I : Nat → σ → Prop) (n : Nat) (h0 : I 0 a) (hs : ∀ i s, i < n → I i s → I (i + 1) (f i s)) : I n (zrep f a n) := by
  have hI : ∀ i, i ≤ n → I i (zrep f a i) := by
    intro i
    induction i with
    | zero => exact fun _ => h0
    | succ i ih => exact fun h => hs i _ (by omega) (ih (by omega))
  exact hI n (Nat.le_refl _)
theorem zfor {σ : Type} {f : Nat → σ → σ} {a : σ} (P : Nat → σ → Prop) (I : Nat → σ → Prop) (n : Nat) (h0 : I 0 a) (hs : ∀ i s, i < n → I i s → (I (i + 1) (f i s) ∧ ((∀ s2, s2 = f i s → P (i + 1) s2) → P i s))) (he : ∀ r, r = zrep f a n → I n r → P n r) : P 0 a := by
  have hI : ∀ i, i ≤ n → I i (zrep f a i) := fun i hi => zrep_inv I i h0 (fun j s hj h => (hs j s (by omega) h).1)
  have hP : ∀ k i, i + k = n → P i (zrep f a i) := by
    intro k
    induction k with
    | zero =>
      intro i h
      obtain rfl : i = n := by omega
      exact he _ rfl (hI _ (Nat.le_refl _))
    | succ k ih =>
      intro i h
      exact (hs i _ (by omega) (hI i (by omega))).2 (fun s2 e => by rw [e]; exact ih (i + 1) (by omega))
  exact hP n 0 (by omega)
theorem zrex_inv {σ ρ : Type} {f : Nat → σ → σ ⊕ ρ} {a : σ} (I : Nat → σ → Prop) (J : ρ → Prop) (n : Nat) (h0 : I 0 a) (hs : ∀ i s, i < n → I i s → (∀ s2, f i s = .inl s2 → I (i + 1) s2) ∧ ∀ r, f i s = .inr r → J r) : (∀ s, zrex f a n = .inl s → I n s) ∧ ∀ r, zrex f a n = .inr r → J r := by
  have hI : ∀ i, i ≤ n → (∀ s, zrex f a i = .inl s → I i s) ∧ ∀ r, zrex f a i = .inr r → J r := by
    intro i
    induction i with
    | zero =>
      intro _
      exact ⟨fun s h => (by cases h; exact h0), fun r h => (by cases h)⟩
    | succ i ih =>
      intro hi
      have ih := ih (by omega)
      simp only [zrex]
      cases hx : zrex f a i with
      | inl s1 => exact hs i s1 (by omega) (ih.1 s1 hx)
      | inr r1 => exact ⟨fun s h => (by cases h), fun r h => (by cases h; exact ih.2 _ hx)⟩
  exact hI n (Nat.le_refl _)
theorem zforx {σ ρ : Type} {f : Nat → σ → σ ⊕ ρ} {a : σ} (P : Nat → σ → Prop) (I : Nat → σ → Prop) (n : Nat) (h0 : I 0 a) (hs : ∀ i s, i < n → I i s → (∀ s2, f i s = .inl s2 → I (i + 1) s2) ∧ ((∀ s2, f i s = .inl s2 → P (i + 1) s2) → (∀ r, f i s = .inr r → zrex f a n = .inr r) → P i s)) (he : ∀ s, zrex f a n = .inl s → I n s → P n s) : P 0 a := by
  have hI : ∀ i s, i ≤ n → zrex f a i = .inl s → I i s := by
    intro i
    induction i with
    | zero =>
      intro s _ h
      cases h
      exact h0
    | succ i ih =>
      intro s hi h
      simp only [zrex] at h
      cases hx : zrex f a i with
      | inl s1 =>
        rw [hx] at h
        exact (hs i s1 (by omega) (ih s1 (by omega) hx)).1 s h
      | inr r =>
        rw [hx] at h
        cases h
  have hR : ∀ k i r, i + k = n → zrex f a i = .inr r → zrex f a n = .inr r := by
    intro k
    induction k with
    | zero =>
      intro i r h hx
      obtain rfl : i = n := by omega
      exact hx
    | succ k ih =>
      intro i r h hx
      exact ih (i + 1) r (by omega) (by simp only [zrex, hx])
  have hP : ∀ k i s, i + k = n → zrex f a i = .inl s → P i s := by
    intro k
    induction k with
    | zero =>
      intro i s h hx
      obtain rfl : i = n := by omega
      exact he s hx (hI _ s (Nat.le_refl _) hx)
    | succ k ih =>
      intro i s h hx
      refine (hs i s (by omega) (hI i s (by omega) hx)).2 (fun s2 h2 => ih (i + 1) s2 (by omega) ?_) (fun r hr => hR k (i + 1) r (by omega) ?_)
      · simp only [zrex, hx]; exact h2
      · simp only [zrex, hx]; exact hr
  exact hP n 0 a (by omega) rfl
/-- how often 'for (v = 0; v < x; v++)' goes round -/
def zcn (x : Int32) : Nat := x.toNatClampNeg
theorem zcn_lt {x : Int32} {i : Nat} (h : i < zcn x) : ¬ x ≤ nI i := by
  have h1 : zcn x = x.toInt.toNat := rfl
  have h2 := x.toInt_lt
  rw [Int32.le_iff_toInt_le, nI_toInt (by omega)]
  omega
theorem zcn_ge {x : Int32} : x ≤ nI (zcn x) := by
  have h1 : zcn x = x.toInt.toNat := rfl
  have h2 := x.toInt_lt
  rw [Int32.le_iff_toInt_le, nI_toInt (by omega)]
  omega
theorem zcn_small (x : Int32) : zcn x < 2 ^ 31 := by
  have h1 : zcn x = x.toInt.toNat := rfl
  have h2 := x.toInt_lt
  omega
theorem zcn_nI {n : Nat} (h : n < 2 ^ 31) : zcn (nI n) = n := nI_clamp h
theorem znI_cn {x : Int32} (h : 0 ≤ x) : nI (zcn x) = x := by
  have h1 : zcn x = x.toInt.toNat := rfl
  have h2 := x.toInt_lt
  have h3 : 0 ≤ x.toInt := by simpa using Int32.le_iff_toInt_le.mp h
  apply Int32.toInt_inj.mp
  rw [nI_toInt (by omega)]
  omega
/-- booleans as numbers -/
def zb (b : Bool) : Int32 := if b = true then 1 else 0
theorem zb_01 (b : Bool) : zb b = 0 ∨ zb b = 1 := by cases b <;> simp [zb]
theorem zb_0 {b : Bool} : zb b = 0 ↔ b = false := by cases b <;> simp [zb]
theorem zb_n0 {b : Bool} : ¬ zb b = 0 ↔ b = true := by cases b <;> simp [zb]
theorem zb_t {b : Bool} (h : b = true) : zb b = 1 := by rw [h]; rfl
theorem zb_f {b : Bool} (h : b = false) : zb b = 0 := by rw [h]; rfl
end
section
/-! Words of the fields, the cells' shapes, small facts: by program. -/
theorem zup_fr {h : zHp} {c k c2 k2 : Nat} {x : Int32} (hn : c2 ≠ c ∨ k2 ≠ k) : zup h c k x c2 k2 = h c2 k2 := by
  by_cases hc : c2 = c
  · subst hc
    rw [zup_eq]
    exact if_neg (by omega)
  · rw [zup_ne hc]
theorem zup_at {h : zHp} {c k : Nat} {x : Int32} : zup h c k x c k = x := by
  rw [zup_eq]
  exact if_pos rfl
theorem zcp_fr {h : zHp} {c d sp dp n c2 k2 : Nat} (hn : c2 ≠ d) : zcp h c d sp dp n c2 k2 = h c2 k2 := by rw [zcp_ne hn]
theorem zite_fr {P : Prop} [Decidable P] {A B : zHp} {c k : Nat} {r : Int32} (ha : P → A c k = r) (hb : ¬ P → B c k = r) : (if P then A else B) c k = r := by
  by_cases hP : P
  · rw [if_pos hP]; exact ha hP
  · rw [if_neg hP]; exact hb hP
/-- a field holds a number of at most N -/
def zfit (h : zHp) (c k N : Nat) : Prop := zcn (h c k) ≤ N ∧ h c k = nI (zcn (h c k))
theorem zfit_fr {h h2 : zHp} {c k N : Nat} (e : h2 c k = h c k) (f : zfit h c k N) : zfit h2 c k N := by
  unfold zfit
  rw [e]
  exact f
theorem zfit_le {h : zHp} {c k N N2 : Nat} (f : zfit h c k N) (hN : N ≤ N2) : zfit h c k N2 := ⟨Nat.le_trans f.1 hN, f.2⟩
theorem zfit_of {h : zHp} {c k N m : Nat} (e : h c k = nI m) (hm : m ≤ N) (hN : N < 2 ^ 31) : zfit h c k N := by
  unfold zfit
  rw [e, zcn_nI (by omega)]
  exact ⟨hm, rfl⟩
theorem zn_add {x y : Int32} {a b : Nat} (hx : x = nI a) (hy : y = nI b) : x + y = nI (a + b) := by rw [hx, hy, nI_add]
theorem zn_mul {x y : Int32} {a b : Nat} (hx : x = nI a) (hy : y = nI b) : x * y = nI (a * b) := by rw [hx, hy, pk_mul]
theorem zn_sub {x y : Int32} {a b : Nat} (hx : x = nI a) (hy : y = nI b) (h : b ≤ a) : x - y = nI (a - b) := by rw [hx, hy, pk_sub h]
theorem zn_rem {x y : Int32} {a b : Nat} (hx : x = nI a) (hy : y = nI b) (ha : a < 2 ^ 31) (h0 : 0 < b) (hb : b < 2 ^ 31) : zrem x y = nI (a % b) := by rw [hx, hy]; exact pk_rem ha h0 hb
theorem zn_div {x y : Int32} {a b : Nat} (hx : x = nI a) (hy : y = nI b) (ha : a < 2 ^ 31) (h0 : 0 < b) (hb : b < 2 ^ 31) : x / y = nI (a / b) := by rw [hx, hy]; exact pk_div ha h0 hb
theorem zn_min {x y : Int32} {a b : Nat} (hx : x = nI a) (hy : y = nI b) (ha : a < 2 ^ 31) (hb : b < 2 ^ 31) : (if y < x then y else x) = nI (min a b) := by
  rw [hx, hy]
  by_cases h : b < a
  · rw [if_pos (nI_lt h ha), Nat.min_eq_right (by omega)]
  · rw [if_neg (nI_nlt (by omega) hb), Nat.min_eq_left (by omega)]
theorem zge_no {y y0 : Int32} {m : Nat} (e : y = y0) (h : m < zcn y0) : ¬ y ≤ nI m := by rw [e]; exact zcn_lt h
theorem zge_yes {y y0 : Int32} {m : Nat} (e : y = y0) (h : zcn y0 ≤ m) (hm : m < 2 ^ 31) : y ≤ nI m := by
  rw [e]
  have h1 := zcn_ge (x := y0)
  have h2 := nI_le h hm
  rw [Int32.le_iff_toInt_le] at *
  omega
theorem zge_noN {y : Int32} {m B : Nat} (e : y = nI B) (h : m < B) (hB : B < 2 ^ 31) : ¬ y ≤ nI m := by rw [e]; exact nI_ge h hB
theorem zge_yesN {y : Int32} {m B : Nat} (e : y = nI B) (h : B ≤ m) (hm : m < 2 ^ 31) : y ≤ nI m := by rw [e]; exact nI_le h hm
theorem zgt_noN {y : Int32} {m B : Nat} (e : y = nI B) (h : m ≤ B) (hB : B < 2 ^ 31) : ¬ y < nI m := by rw [e]; exact nI_nlt h hB
theorem zgt_yesN {y : Int32} {m B : Nat} (e : y = nI B) (h : B < m) (hm : m < 2 ^ 31) : y < nI m := by rw [e]; exact nI_lt h hm
theorem zgt_no {y y0 : Int32} {m : Nat} (e : y = y0) (h : m ≤ zcn y0) (h0 : 1 ≤ m) : ¬ y < nI m := by
  rw [e]
  have h1 : zcn y0 = y0.toInt.toNat := rfl
  have h2 := y0.toInt_lt
  rw [Int32.lt_iff_toInt_lt, nI_toInt (by omega)]
  omega
theorem zgt_yes {y y0 : Int32} {m : Nat} (e : y = y0) (h : zcn y0 < m) (hm : m < 2 ^ 31) : y < nI m := by
  rw [e]
  have h1 : zcn y0 = y0.toInt.toNat := rfl
  rw [Int32.lt_iff_toInt_lt, nI_toInt (by omega)]
  omega
theorem zbf {b : Bool} (h : b = false) : ¬ b = true := by rw [h]; exact fun h => by cases h
theorem zne_toInt {x y : Int32} {k : Int} (h : ¬ x = y) (hk : y.toInt = k) : x.toInt ≠ k := fun e => h (Int32.toInt_inj.mp (e.trans hk.symm))
theorem zix {x : Int32} (h : ¬ x < 0) : x = nI (zcn x) := (znI_cn (Int32.not_lt.mp h)).symm
theorem zix' {x : Int32} (h : 0 ≤ x) : x = nI (zcn x) := (znI_cn h).symm
theorem zcn_ltN {x y : Int32} {n : Nat} (h : ¬ y ≤ x) (hx : ¬ x < 0) (e : y = nI n) (hn : n < 2 ^ 31) : zcn x < n := by
  rw [e, zix hx] at h
  have := zcn_small x
  rcases Nat.lt_or_ge (zcn x) n with q | q
  · exact q
  · exact absurd (nI_le q (zcn_small x)) h
section ZT
variable {X : zXT} {Γ : zGT} {Q : State → Prop} {cc : ByteArray} {own : String} {nL d : Nat} {rt : Option FieldType} {pc : Nat} {lv : List (Option Value)} {st : List Value} {h : zHp} {g : zLg}
theorem zr_h (k : ∀ h2 : zHp, h2 = h → zV X Γ Q pc lv st h2 g) : zV X Γ Q pc lv st h g := k h rfl
theorem zr_g (k : ∀ g2 : zLg, g2 = g → zV X Γ Q pc lv st h g2) : zV X Γ Q pc lv st h g := k g rfl
theorem zr_ifz_eq (C : zOk X Γ cc own nL d rt) {x : Bool} {off : Int} (tgt : Nat) (hd : decode cc pc = .ok (.ifCond .eq off, 3)) (ht : (pc : Int) + off = (tgt : Int)) (kt : x = false → zV X Γ Q tgt lv st h g) (kf : x = true → zV X Γ Q (pc + 3) lv st h g) : zV X Γ Q pc lv (.int (zb x) :: st) h g :=
  zr_if_eq C tgt hd ht (fun c => kt (zb_0.mp c)) (fun c => kf (zb_n0.mp c))
theorem zr_ifz_ne (C : zOk X Γ cc own nL d rt) {x : Bool} {off : Int} (tgt : Nat) (hd : decode cc pc = .ok (.ifCond .ne off, 3)) (ht : (pc : Int) + off = (tgt : Int)) (kt : x = true → zV X Γ Q tgt lv st h g) (kf : x = false → zV X Γ Q (pc + 3) lv st h g) : zV X Γ Q pc lv (.int (zb x) :: st) h g :=
  zr_if_ne C tgt hd ht (fun c => kt (zb_n0.mp c)) (fun c => kf (zb_0.mp c))
theorem zr_callVi {M : zMT} {dy n idx c ci N : Nat} {C : String} {T : u_T} {fs As : List Value} {r : Int32} {h2 : zHp} {g2 : zLg} (K : zOk X Γ cc own nL d rt) (hM : zDi X M dy (zR X c :: As) h g (zI r) h2 g2) (hm : zcall M n) (hl : Cond.methodLink own idx M.1 ∈ zU) (hi : Cond.instanceMethod M.1 ∈ zU) (hs : Cond.selects C M.1 M.1 ∈ zU) (hc : c < 71) (he : zC X g c (h c) = .inr (ci, fs)) (hcl : zcl[ci]? = some (C, T, N)) (hn : As.length = n) (hdy : dy + 1 ≤ d) (hnL : lv.length = nL) (hst : (st.map fun v => v.category).sum ≤ 8) (hd : decode cc pc = .ok (.invokevirtual idx, 3)) (kk : zV X Γ Q (pc + 3) lv (.int r :: st) h2 g2) : zV X Γ Q pc lv (As.reverse ++ zR X c :: st) h g :=
  zr_callV K hM hm hl hi hs hc he hcl hn hdy hnL hst hd kk
theorem zr_callSi {M : zMT} {dy n idx : Nat} {As : List Value} {r : Int32} {h2 : zHp} {g2 : zLg} (K : zOk X Γ cc own nL d rt) (hM : zDi X M dy As h g (zI r) h2 g2) (hm : zcall M n) (hl : Cond.methodLink own idx M.1 ∈ zU) (hi : Cond.static M.1 ∈ zU) (hn : As.length = n) (hdy : dy + 1 ≤ d) (hnL : lv.length = nL) (hst : (st.map fun v => v.category).sum ≤ 8) (hd : decode cc pc = .ok (.invokestatic idx, 3)) (kk : zV X Γ Q (pc + 3) lv (.int r :: st) h2 g2) : zV X Γ Q pc lv (As.reverse ++ st) h g :=
  zr_callS K hM hm hl hi hn hdy hnL hst hd kk
theorem zr_callNi {M : zMT} {dy n idx : Nat} {As : List Value} {r : Int32} {h2 : zHp} {g2 : zLg} (K : zOk X Γ cc own nL d rt) (hM : zDi X M dy As h g (zI r) h2 g2) (hm : zcall M n) (hl : Cond.methodLinkNest own idx M.1 "PeriodSlots" ∈ zNest) (hi : Cond.static M.1 ∈ zU) (hn : As.length = n) (hdy : dy + 1 ≤ d) (hnL : lv.length = nL) (hst : (st.map fun v => v.category).sum ≤ 8) (hd : decode cc pc = .ok (.invokestatic idx, 3)) (kk : zV X Γ Q (pc + 3) lv (.int r :: st) h2 g2) : zV X Γ Q pc lv (As.reverse ++ st) h g :=
  zr_callN K hM hm hl hi hn hdy hnL hst hd kk
theorem zr_callVz {M : zMT} {dy n idx c ci N : Nat} {C : String} {T : u_T} {fs As : List Value} {r : Bool} {h2 : zHp} {g2 : zLg} (K : zOk X Γ cc own nL d rt) (hM : zDi X M dy (zR X c :: As) h g (zI (zb r)) h2 g2) (hm : zcall M n) (hl : Cond.methodLink own idx M.1 ∈ zU) (hi : Cond.instanceMethod M.1 ∈ zU) (hs : Cond.selects C M.1 M.1 ∈ zU) (hc : c < 71) (he : zC X g c (h c) = .inr (ci, fs)) (hcl : zcl[ci]? = some (C, T, N)) (hn : As.length = n) (hdy : dy + 1 ≤ d) (hnL : lv.length = nL) (hst : (st.map fun v => v.category).sum ≤ 8) (hd : decode cc pc = .ok (.invokevirtual idx, 3)) (kk : zV X Γ Q (pc + 3) lv (.int (zb r) :: st) h2 g2) : zV X Γ Q pc lv (As.reverse ++ zR X c :: st) h g :=
  zr_callV K hM hm hl hi hs hc he hcl hn hdy hnL hst hd kk
theorem zr_callSz {M : zMT} {dy n idx : Nat} {As : List Value} {r : Bool} {h2 : zHp} {g2 : zLg} (K : zOk X Γ cc own nL d rt) (hM : zDi X M dy As h g (zI (zb r)) h2 g2) (hm : zcall M n) (hl : Cond.methodLink own idx M.1 ∈ zU) (hi : Cond.static M.1 ∈ zU) (hn : As.length = n) (hdy : dy + 1 ≤ d) (hnL : lv.length = nL) (hst : (st.map fun v => v.category).sum ≤ 8) (hd : decode cc pc = .ok (.invokestatic idx, 3)) (kk : zV X Γ Q (pc + 3) lv (.int (zb r) :: st) h2 g2) : zV X Γ Q pc lv (As.reverse ++ st) h g :=
  zr_callS K hM hm hl hi hn hdy hnL hst hd kk
theorem zr_callNz {M : zMT} {dy n idx : Nat} {As : List Value} {r : Bool} {h2 : zHp} {g2 : zLg} (K : zOk X Γ cc own nL d rt) (hM : zDi X M dy As h g (zI (zb r)) h2 g2) (hm : zcall M n) (hl : Cond.methodLinkNest own idx M.1 "PeriodSlots" ∈ zNest) (hi : Cond.static M.1 ∈ zU) (hn : As.length = n) (hdy : dy + 1 ≤ d) (hnL : lv.length = nL) (hst : (st.map fun v => v.category).sum ≤ 8) (hd : decode cc pc = .ok (.invokestatic idx, 3)) (kk : zV X Γ Q (pc + 3) lv (.int (zb r) :: st) h2 g2) : zV X Γ Q pc lv (As.reverse ++ st) h g :=
  zr_callN K hM hm hl hi hn hdy hnL hst hd kk
theorem zr_callVl {M : zMT} {dy n idx c ci N : Nat} {C : String} {T : u_T} {fs As : List Value} {r : Int64} {h2 : zHp} {g2 : zLg} (K : zOk X Γ cc own nL d rt) (hM : zDi X M dy (zR X c :: As) h g (zL r) h2 g2) (hm : zcall M n) (hl : Cond.methodLink own idx M.1 ∈ zU) (hi : Cond.instanceMethod M.1 ∈ zU) (hs : Cond.selects C M.1 M.1 ∈ zU) (hc : c < 71) (he : zC X g c (h c) = .inr (ci, fs)) (hcl : zcl[ci]? = some (C, T, N)) (hn : As.length = n) (hdy : dy + 1 ≤ d) (hnL : lv.length = nL) (hst : (st.map fun v => v.category).sum ≤ 8) (hd : decode cc pc = .ok (.invokevirtual idx, 3)) (kk : zV X Γ Q (pc + 3) lv (.long r :: st) h2 g2) : zV X Γ Q pc lv (As.reverse ++ zR X c :: st) h g :=
  zr_callV K hM hm hl hi hs hc he hcl hn hdy hnL hst hd kk
theorem zr_callSl {M : zMT} {dy n idx : Nat} {As : List Value} {r : Int64} {h2 : zHp} {g2 : zLg} (K : zOk X Γ cc own nL d rt) (hM : zDi X M dy As h g (zL r) h2 g2) (hm : zcall M n) (hl : Cond.methodLink own idx M.1 ∈ zU) (hi : Cond.static M.1 ∈ zU) (hn : As.length = n) (hdy : dy + 1 ≤ d) (hnL : lv.length = nL) (hst : (st.map fun v => v.category).sum ≤ 8) (hd : decode cc pc = .ok (.invokestatic idx, 3)) (kk : zV X Γ Q (pc + 3) lv (.long r :: st) h2 g2) : zV X Γ Q pc lv (As.reverse ++ st) h g :=
  zr_callS K hM hm hl hi hn hdy hnL hst hd kk
theorem zr_callNl {M : zMT} {dy n idx : Nat} {As : List Value} {r : Int64} {h2 : zHp} {g2 : zLg} (K : zOk X Γ cc own nL d rt) (hM : zDi X M dy As h g (zL r) h2 g2) (hm : zcall M n) (hl : Cond.methodLinkNest own idx M.1 "PeriodSlots" ∈ zNest) (hi : Cond.static M.1 ∈ zU) (hn : As.length = n) (hdy : dy + 1 ≤ d) (hnL : lv.length = nL) (hst : (st.map fun v => v.category).sum ≤ 8) (hd : decode cc pc = .ok (.invokestatic idx, 3)) (kk : zV X Γ Q (pc + 3) lv (.long r :: st) h2 g2) : zV X Γ Q pc lv (As.reverse ++ st) h g :=
  zr_callN K hM hm hl hi hn hdy hnL hst hd kk
theorem zr_callVv {M : zMT} {dy n idx c ci N : Nat} {C : String} {T : u_T} {fs As : List Value} {h2 : zHp} {g2 : zLg} (K : zOk X Γ cc own nL d rt) (hM : zDi X M dy (zR X c :: As) h g none h2 g2) (hm : zcall M n) (hl : Cond.methodLink own idx M.1 ∈ zU) (hi : Cond.instanceMethod M.1 ∈ zU) (hs : Cond.selects C M.1 M.1 ∈ zU) (hc : c < 71) (he : zC X g c (h c) = .inr (ci, fs)) (hcl : zcl[ci]? = some (C, T, N)) (hn : As.length = n) (hdy : dy + 1 ≤ d) (hnL : lv.length = nL) (hst : (st.map fun v => v.category).sum ≤ 8) (hd : decode cc pc = .ok (.invokevirtual idx, 3)) (kk : zV X Γ Q (pc + 3) lv (st) h2 g2) : zV X Γ Q pc lv (As.reverse ++ zR X c :: st) h g :=
  zr_callV K hM hm hl hi hs hc he hcl hn hdy hnL hst hd kk
theorem zr_callSv {M : zMT} {dy n idx : Nat} {As : List Value} {h2 : zHp} {g2 : zLg} (K : zOk X Γ cc own nL d rt) (hM : zDi X M dy As h g none h2 g2) (hm : zcall M n) (hl : Cond.methodLink own idx M.1 ∈ zU) (hi : Cond.static M.1 ∈ zU) (hn : As.length = n) (hdy : dy + 1 ≤ d) (hnL : lv.length = nL) (hst : (st.map fun v => v.category).sum ≤ 8) (hd : decode cc pc = .ok (.invokestatic idx, 3)) (kk : zV X Γ Q (pc + 3) lv (st) h2 g2) : zV X Γ Q pc lv (As.reverse ++ st) h g :=
  zr_callS K hM hm hl hi hn hdy hnL hst hd kk
theorem zr_callNv {M : zMT} {dy n idx : Nat} {As : List Value} {h2 : zHp} {g2 : zLg} (K : zOk X Γ cc own nL d rt) (hM : zDi X M dy As h g none h2 g2) (hm : zcall M n) (hl : Cond.methodLinkNest own idx M.1 "PeriodSlots" ∈ zNest) (hi : Cond.static M.1 ∈ zU) (hn : As.length = n) (hdy : dy + 1 ≤ d) (hnL : lv.length = nL) (hst : (st.map fun v => v.category).sum ≤ 8) (hd : decode cc pc = .ok (.invokestatic idx, 3)) (kk : zV X Γ Q (pc + 3) lv (st) h2 g2) : zV X Γ Q pc lv (As.reverse ++ st) h g :=
  zr_callN K hM hm hl hi hn hdy hnL hst hd kk
end ZT
theorem zC_Acts (X : zXT) (g : zLg) (r : Nat → Int32) : zC X g 41 r = .inr (0, zF_Acts X 41 r) := rfl
theorem zi_Acts : ∀ w ∈ u_ws zN_Acts zT_Acts 3, w ∈ zU := by
  intro w hw
  obtain ⟨k, hk, rfl⟩ := List.mem_map.mp hw
  have hk : k < 3 := List.mem_range.mp hk
  match k, hk with
  | 0, _ => exact zU_in (i := 198) (by decide +kernel) rfl
  | 1, _ => exact zU_in (i := 200) (by decide +kernel) rfl
  | 2, _ => exact zU_in (i := 202) (by decide +kernel) rfl
  | k + 3, hk => exact absurd hk (by omega)
theorem zC_Mesh {b : Nat} (hb : b = 3 ∨ b = 15 ∨ b = 27) (X : zXT) (g : zLg) (r : Nat → Int32) : zC X g b r = .inr (1, zF_Mesh X b r) := by
  rcases hb with rfl | rfl | rfl <;> rfl
theorem zi_Mesh : ∀ w ∈ u_ws zN_Mesh zT_Mesh 14, w ∈ zU := by
  intro w hw
  obtain ⟨k, hk, rfl⟩ := List.mem_map.mp hw
  have hk : k < 14 := List.mem_range.mp hk
  match k, hk with
  | 0, _ => exact zU_in (i := 129) (by decide +kernel) rfl
  | 1, _ => exact zU_in (i := 131) (by decide +kernel) rfl
  | 2, _ => exact zU_in (i := 133) (by decide +kernel) rfl
  | 3, _ => exact zU_in (i := 135) (by decide +kernel) rfl
  | 4, _ => exact zU_in (i := 137) (by decide +kernel) rfl
  | 5, _ => exact zU_in (i := 139) (by decide +kernel) rfl
  | 6, _ => exact zU_in (i := 141) (by decide +kernel) rfl
  | 7, _ => exact zU_in (i := 143) (by decide +kernel) rfl
  | 8, _ => exact zU_in (i := 145) (by decide +kernel) rfl
  | 9, _ => exact zU_in (i := 147) (by decide +kernel) rfl
  | 10, _ => exact zU_in (i := 149) (by decide +kernel) rfl
  | 11, _ => exact zU_in (i := 151) (by decide +kernel) rfl
  | 12, _ => exact zU_in (i := 153) (by decide +kernel) rfl
  | 13, _ => exact zU_in (i := 155) (by decide +kernel) rfl
  | k + 14, hk => exact absurd hk (by omega)
theorem zC_Obs (X : zXT) (g : zLg) (r : Nat → Int32) : zC X g 46 r = .inr (2, zF_Obs X 46 r) := rfl
theorem zi_Obs : ∀ w ∈ u_ws zN_Obs zT_Obs 4, w ∈ zU := by
  intro w hw
  obtain ⟨k, hk, rfl⟩ := List.mem_map.mp hw
  have hk : k < 4 := List.mem_range.mp hk
  match k, hk with
  | 0, _ => exact zU_in (i := 218) (by decide +kernel) rfl
  | 1, _ => exact zU_in (i := 220) (by decide +kernel) rfl
  | 2, _ => exact zU_in (i := 222) (by decide +kernel) rfl
  | 3, _ => exact zU_in (i := 224) (by decide +kernel) rfl
  | k + 4, hk => exact absurd hk (by omega)
theorem zC_Planner (X : zXT) (g : zLg) (r : Nat → Int32) : zC X g 39 r = .inr (3, zF_Planner X 39) := rfl
theorem zi_Planner : ∀ w ∈ u_ws zN_Planner zT_Planner 1, w ∈ zU := by
  intro w hw
  obtain ⟨k, hk, rfl⟩ := List.mem_map.mp hw
  have hk : k < 1 := List.mem_range.mp hk
  match k, hk with
  | 0, _ => exact zU_in (i := 166) (by decide +kernel) rfl
  | k + 1, hk => exact absurd hk (by omega)
theorem zC_Shelf {b : Nat} (hb : b = 42 ∨ b = 44) (X : zXT) (g : zLg) (r : Nat → Int32) : zC X g b r = .inr (4, zF_Shelf X b r) := by
  rcases hb with rfl | rfl <;> rfl
theorem zi_Shelf : ∀ w ∈ u_ws zN_Shelf zT_Shelf 3, w ∈ zU := by
  intro w hw
  obtain ⟨k, hk, rfl⟩ := List.mem_map.mp hw
  have hk : k < 3 := List.mem_range.mp hk
  match k, hk with
  | 0, _ => exact zU_in (i := 187) (by decide +kernel) rfl
  | 1, _ => exact zU_in (i := 189) (by decide +kernel) rfl
  | 2, _ => exact zU_in (i := 191) (by decide +kernel) rfl
  | k + 3, hk => exact absurd hk (by omega)
theorem zC_Text (X : zXT) (g : zLg) (r : Nat → Int32) : zC X g 1 r = .inr (5, zF_Text X 1 r) := rfl
theorem zi_Text : ∀ w ∈ u_ws zN_Text zT_Text 2, w ∈ zU := by
  intro w hw
  obtain ⟨k, hk, rfl⟩ := List.mem_map.mp hw
  have hk : k < 2 := List.mem_range.mp hk
  match k, hk with
  | 0, _ => exact zU_in (i := 83) (by decide +kernel) rfl
  | 1, _ => exact zU_in (i := 85) (by decide +kernel) rfl
  | k + 2, hk => exact absurd hk (by omega)
theorem zC_Slots (X : zXT) (g : zLg) (r : Nat → Int32) : zC X g 0 r = .inr (6, zF_Slots X g) := rfl
theorem zi_Slots : ∀ w ∈ u_ws zN_Slots zT_Slots 10, w ∈ zU := by
  intro w hw
  obtain ⟨k, hk, rfl⟩ := List.mem_map.mp hw
  have hk : k < 10 := List.mem_range.mp hk
  match k, hk with
  | 0, _ => exact zU_in (i := 237) (by decide +kernel) rfl
  | 1, _ => exact zU_in (i := 239) (by decide +kernel) rfl
  | 2, _ => exact zU_in (i := 241) (by decide +kernel) rfl
  | 3, _ => exact zU_in (i := 243) (by decide +kernel) rfl
  | 4, _ => exact zU_in (i := 245) (by decide +kernel) rfl
  | 5, _ => exact zU_in (i := 247) (by decide +kernel) rfl
  | 6, _ => exact zU_in (i := 249) (by decide +kernel) rfl
  | 7, _ => exact zU_in (i := 251) (by decide +kernel) rfl
  | 8, _ => exact zU_in (i := 253) (by decide +kernel) rfl
  | 9, _ => exact zU_in (i := 255) (by decide +kernel) rfl
  | k + 10, hk => exact absurd hk (by omega)
theorem zC_Model (X : zXT) (g : zLg) (r : Nat → Int32) : zC X g 51 r = .inr (7, zF_Model X g r) := rfl
theorem zi_Model : ∀ w ∈ u_ws zN_Model zT_Model 32, w ∈ zU := by
  intro w hw
  obtain ⟨k, hk, rfl⟩ := List.mem_map.mp hw
  have hk : k < 32 := List.mem_range.mp hk
  match k, hk with
  | 0, _ => exact zU_in (i := 785) (by decide +kernel) rfl
  | 1, _ => exact zU_in (i := 787) (by decide +kernel) rfl
  | 2, _ => exact zU_in (i := 789) (by decide +kernel) rfl
  | 3, _ => exact zU_in (i := 791) (by decide +kernel) rfl
  | 4, _ => exact zU_in (i := 793) (by decide +kernel) rfl
  | 5, _ => exact zU_in (i := 795) (by decide +kernel) rfl
  | 6, _ => exact zU_in (i := 797) (by decide +kernel) rfl
  | 7, _ => exact zU_in (i := 799) (by decide +kernel) rfl
  | 8, _ => exact zU_in (i := 801) (by decide +kernel) rfl
  | 9, _ => exact zU_in (i := 803) (by decide +kernel) rfl
  | 10, _ => exact zU_in (i := 805) (by decide +kernel) rfl
  | 11, _ => exact zU_in (i := 807) (by decide +kernel) rfl
  | 12, _ => exact zU_in (i := 809) (by decide +kernel) rfl
  | 13, _ => exact zU_in (i := 811) (by decide +kernel) rfl
  | 14, _ => exact zU_in (i := 813) (by decide +kernel) rfl
  | 15, _ => exact zU_in (i := 815) (by decide +kernel) rfl
  | 16, _ => exact zU_in (i := 817) (by decide +kernel) rfl
  | 17, _ => exact zU_in (i := 819) (by decide +kernel) rfl
  | 18, _ => exact zU_in (i := 821) (by decide +kernel) rfl
  | 19, _ => exact zU_in (i := 823) (by decide +kernel) rfl
  | 20, _ => exact zU_in (i := 825) (by decide +kernel) rfl
  | 21, _ => exact zU_in (i := 827) (by decide +kernel) rfl
  | 22, _ => exact zU_in (i := 829) (by decide +kernel) rfl
  | 23, _ => exact zU_in (i := 831) (by decide +kernel) rfl
  | 24, _ => exact zU_in (i := 833) (by decide +kernel) rfl
  | 25, _ => exact zU_in (i := 835) (by decide +kernel) rfl
  | 26, _ => exact zU_in (i := 837) (by decide +kernel) rfl
  | 27, _ => exact zU_in (i := 839) (by decide +kernel) rfl
  | 28, _ => exact zU_in (i := 841) (by decide +kernel) rfl
  | 29, _ => exact zU_in (i := 843) (by decide +kernel) rfl
  | 30, _ => exact zU_in (i := 845) (by decide +kernel) rfl
  | 31, _ => exact zU_in (i := 847) (by decide +kernel) rfl
  | k + 32, hk => exact absurd hk (by omega)
theorem za_2 : zar 2 110 := ⟨by decide, rfl, rfl⟩
theorem za_4 : zar 4 8 := ⟨by decide, rfl, rfl⟩
theorem za_5 : zar 5 8 := ⟨by decide, rfl, rfl⟩
theorem za_6 : zar 6 8 := ⟨by decide, rfl, rfl⟩
theorem za_7 : zar 7 8 := ⟨by decide, rfl, rfl⟩
theorem za_8 : zar 8 8 := ⟨by decide, rfl, rfl⟩
theorem za_9 : zar 9 8 := ⟨by decide, rfl, rfl⟩
theorem za_10 : zar 10 8 := ⟨by decide, rfl, rfl⟩
theorem za_11 : zar 11 8 := ⟨by decide, rfl, rfl⟩
theorem za_12 : zar 12 8 := ⟨by decide, rfl, rfl⟩
theorem za_13 : zar 13 8 := ⟨by decide, rfl, rfl⟩
theorem za_14 : zar 14 8 := ⟨by decide, rfl, rfl⟩
theorem za_16 : zar 16 8 := ⟨by decide, rfl, rfl⟩
theorem za_17 : zar 17 8 := ⟨by decide, rfl, rfl⟩
theorem za_18 : zar 18 8 := ⟨by decide, rfl, rfl⟩
theorem za_19 : zar 19 8 := ⟨by decide, rfl, rfl⟩
theorem za_20 : zar 20 8 := ⟨by decide, rfl, rfl⟩
theorem za_21 : zar 21 8 := ⟨by decide, rfl, rfl⟩
theorem za_22 : zar 22 8 := ⟨by decide, rfl, rfl⟩
theorem za_23 : zar 23 8 := ⟨by decide, rfl, rfl⟩
theorem za_24 : zar 24 8 := ⟨by decide, rfl, rfl⟩
theorem za_25 : zar 25 8 := ⟨by decide, rfl, rfl⟩
theorem za_26 : zar 26 8 := ⟨by decide, rfl, rfl⟩
theorem za_28 : zar 28 8 := ⟨by decide, rfl, rfl⟩
theorem za_29 : zar 29 8 := ⟨by decide, rfl, rfl⟩
theorem za_30 : zar 30 8 := ⟨by decide, rfl, rfl⟩
theorem za_31 : zar 31 8 := ⟨by decide, rfl, rfl⟩
theorem za_32 : zar 32 8 := ⟨by decide, rfl, rfl⟩
theorem za_33 : zar 33 8 := ⟨by decide, rfl, rfl⟩
theorem za_34 : zar 34 8 := ⟨by decide, rfl, rfl⟩
theorem za_35 : zar 35 8 := ⟨by decide, rfl, rfl⟩
theorem za_36 : zar 36 8 := ⟨by decide, rfl, rfl⟩
theorem za_37 : zar 37 8 := ⟨by decide, rfl, rfl⟩
theorem za_38 : zar 38 8 := ⟨by decide, rfl, rfl⟩
theorem za_40 : zar 40 8 := ⟨by decide, rfl, rfl⟩
theorem za_43 : zar 43 350 := ⟨by decide, rfl, rfl⟩
theorem za_45 : zar 45 50 := ⟨by decide, rfl, rfl⟩
theorem za_47 : zar 47 6 := ⟨by decide, rfl, rfl⟩
theorem za_48 : zar 48 6 := ⟨by decide, rfl, rfl⟩
theorem za_49 : zar 49 6 := ⟨by decide, rfl, rfl⟩
theorem za_50 : zar 50 4 := ⟨by decide, rfl, rfl⟩
theorem za_52 : zar 52 110 := ⟨by decide, rfl, rfl⟩
theorem za_53 : zar 53 8 := ⟨by decide, rfl, rfl⟩
theorem za_54 : zar 54 25 := ⟨by decide, rfl, rfl⟩
theorem za_55 : zar 55 25 := ⟨by decide, rfl, rfl⟩
theorem za_56 : zar 56 25 := ⟨by decide, rfl, rfl⟩
theorem za_57 : zar 57 350 := ⟨by decide, rfl, rfl⟩
theorem za_58 : zar 58 50 := ⟨by decide, rfl, rfl⟩
theorem za_60 : zar 60 6 := ⟨by decide, rfl, rfl⟩
theorem za_61 : zar 61 6 := ⟨by decide, rfl, rfl⟩
theorem za_62 : zar 62 6 := ⟨by decide, rfl, rfl⟩
theorem za_63 : zar 63 8 := ⟨by decide, rfl, rfl⟩
theorem za_64 : zar 64 8 := ⟨by decide, rfl, rfl⟩
theorem za_65 : zar 65 8 := ⟨by decide, rfl, rfl⟩
theorem za_66 : zar 66 8 := ⟨by decide, rfl, rfl⟩
theorem za_67 : zar 67 8 := ⟨by decide, rfl, rfl⟩
theorem za_68 : zar 68 8 := ⟨by decide, rfl, rfl⟩
theorem za_69 : zar 69 8 := ⟨by decide, rfl, rfl⟩
theorem za_70 : zar 70 256 := ⟨by decide, rfl, rfl⟩
theorem za_mesh_1 {b : Nat} (hb : b = 3 ∨ b = 15 ∨ b = 27) : zar (b + 1) 8 := by
  rcases hb with rfl | rfl | rfl <;> exact ⟨by decide, rfl, rfl⟩
theorem za_mesh_2 {b : Nat} (hb : b = 3 ∨ b = 15 ∨ b = 27) : zar (b + 2) 8 := by
  rcases hb with rfl | rfl | rfl <;> exact ⟨by decide, rfl, rfl⟩
theorem za_mesh_3 {b : Nat} (hb : b = 3 ∨ b = 15 ∨ b = 27) : zar (b + 3) 8 := by
  rcases hb with rfl | rfl | rfl <;> exact ⟨by decide, rfl, rfl⟩
theorem za_mesh_4 {b : Nat} (hb : b = 3 ∨ b = 15 ∨ b = 27) : zar (b + 4) 8 := by
  rcases hb with rfl | rfl | rfl <;> exact ⟨by decide, rfl, rfl⟩
theorem za_mesh_5 {b : Nat} (hb : b = 3 ∨ b = 15 ∨ b = 27) : zar (b + 5) 8 := by
  rcases hb with rfl | rfl | rfl <;> exact ⟨by decide, rfl, rfl⟩
theorem za_mesh_6 {b : Nat} (hb : b = 3 ∨ b = 15 ∨ b = 27) : zar (b + 6) 8 := by
  rcases hb with rfl | rfl | rfl <;> exact ⟨by decide, rfl, rfl⟩
theorem za_mesh_7 {b : Nat} (hb : b = 3 ∨ b = 15 ∨ b = 27) : zar (b + 7) 8 := by
  rcases hb with rfl | rfl | rfl <;> exact ⟨by decide, rfl, rfl⟩
theorem za_mesh_8 {b : Nat} (hb : b = 3 ∨ b = 15 ∨ b = 27) : zar (b + 8) 8 := by
  rcases hb with rfl | rfl | rfl <;> exact ⟨by decide, rfl, rfl⟩
theorem za_mesh_9 {b : Nat} (hb : b = 3 ∨ b = 15 ∨ b = 27) : zar (b + 9) 8 := by
  rcases hb with rfl | rfl | rfl <;> exact ⟨by decide, rfl, rfl⟩
theorem za_mesh_10 {b : Nat} (hb : b = 3 ∨ b = 15 ∨ b = 27) : zar (b + 10) 8 := by
  rcases hb with rfl | rfl | rfl <;> exact ⟨by decide, rfl, rfl⟩
theorem za_mesh_11 {b : Nat} (hb : b = 3 ∨ b = 15 ∨ b = 27) : zar (b + 11) 8 := by
  rcases hb with rfl | rfl | rfl <;> exact ⟨by decide, rfl, rfl⟩
theorem za_row {r : Nat} (hr : r = 54 ∨ r = 55 ∨ r = 56) : zar r 25 := by
  rcases hr with rfl | rfl | rfl <;> exact ⟨by decide, rfl, rfl⟩
theorem zC_g {c : Nat} (h0 : c ≠ 0) (h1 : c ≠ 51) (X : zXT) (g g2 : zLg) (r : Nat → Int32) : zC X g c r = zC X g2 c r := by
  by_cases hc : c < 71
  · have key : zkind c ≠ 6 ∧ zkind c ≠ 7 := by
      have : ∀ c, c < 71 → c ≠ 0 → c ≠ 51 → zkind c ≠ 6 ∧ zkind c ≠ 7 := by decide +kernel
      exact this c hc h0 h1
    unfold zC
    split <;> first | rfl | (exfalso; omega)
  · have key : zkind c = 10 := by
      have hl : 71 ≤ c := by omega
      unfold zkind
      rw [List.getD_eq_getElem?_getD, List.getElem?_eq_none (by simpa using hl)]
      rfl
    unfold zC
    rw [key]
    rfl
theorem zg_other_Slots (X : zXT) (h : zHp) (g : zLg) (x : Int64) : ∀ d, d ≠ 0 → zC X (zupg g 0 x) d (h d) = zC X g d (h d) := by
  intro d hd
  by_cases h1 : d = 51
  · subst h1; rfl
  · exact zC_g hd h1 X _ _ _
theorem zg_other_Model (X : zXT) (h : zHp) (g : zLg) (x : Int64) : ∀ d, d ≠ 51 → zC X (zupg g 1 x) d (h d) = zC X g d (h d) := by
  intro d hd
  by_cases h1 : d = 0
  · subst h1; rfl
  · exact zC_g h1 hd X _ _ _
section ZG
variable {X : zXT} {Γ : zGT} {Q : State → Prop} {cc : ByteArray} {own : String} {nL d : Nat} {rt : Option FieldType} {pc : Nat} {lv : List (Option Value)} {st : List Value} {h : zHp} {g : zLg}
theorem gf_Acts_0  (K : zOk X Γ cc own nL d rt) {idx : Nat} (hw : Cond.fieldLink own idx "PeriodSlots$Acts" "before" "LPeriodSlots$Shelf;" ∈ zU) (hd : decode cc pc = .ok (.getfield idx, 3)) (kk : zV X Γ Q (pc + 3) lv (zR X 42 :: st) h g) : zV X Γ Q pc lv (zR X 41 :: st) h g :=
  zr_get K (by decide) (zC_Acts X g _) rfl zi_Acts 0 (by decide) hw rfl hd kk
theorem gf_Acts_1  (K : zOk X Γ cc own nL d rt) {idx : Nat} (hw : Cond.fieldLink own idx "PeriodSlots$Acts" "newest" "I" ∈ zU) (hd : decode cc pc = .ok (.getfield idx, 3)) (kk : zV X Γ Q (pc + 3) lv (.int (h 41 0) :: st) h g) : zV X Γ Q pc lv (zR X 41 :: st) h g :=
  zr_get K (by decide) (zC_Acts X g _) rfl zi_Acts 1 (by decide) hw rfl hd kk
theorem pf_Acts_1  {x : Int32} (K : zOk X Γ cc own nL d rt) {idx : Nat} (hw : Cond.fieldLink own idx "PeriodSlots$Acts" "newest" "I" ∈ zU) (hd : decode cc pc = .ok (.putfield idx, 3)) (kk : zV X Γ Q (pc + 3) lv st (zup h 41 0 x) g) : zV X Γ Q pc lv (.int x :: zR X 41 :: st) h g :=
  zr_put K (by decide) (zC_Acts X g _) rfl zi_Acts zY_Acts zY_Acts_ok zT_Acts_nm 1 (by decide) hw rfl rfl rfl (Nat.le_of_ble_eq_true rfl) (zw_up X h g (by rw [zC_Acts X g _]; rfl)) hd kk
theorem gf_Acts_2  (K : zOk X Γ cc own nL d rt) {idx : Nat} (hw : Cond.fieldLink own idx "PeriodSlots$Acts" "size" "I" ∈ zU) (hd : decode cc pc = .ok (.getfield idx, 3)) (kk : zV X Γ Q (pc + 3) lv (.int (h 41 1) :: st) h g) : zV X Γ Q pc lv (zR X 41 :: st) h g :=
  zr_get K (by decide) (zC_Acts X g _) rfl zi_Acts 2 (by decide) hw rfl hd kk
theorem pf_Acts_2  {x : Int32} (K : zOk X Γ cc own nL d rt) {idx : Nat} (hw : Cond.fieldLink own idx "PeriodSlots$Acts" "size" "I" ∈ zU) (hd : decode cc pc = .ok (.putfield idx, 3)) (kk : zV X Γ Q (pc + 3) lv st (zup h 41 1 x) g) : zV X Γ Q pc lv (.int x :: zR X 41 :: st) h g :=
  zr_put K (by decide) (zC_Acts X g _) rfl zi_Acts zY_Acts zY_Acts_ok zT_Acts_nm 2 (by decide) hw rfl rfl rfl (Nat.le_of_ble_eq_true rfl) (zw_up X h g (by rw [zC_Acts X g _]; rfl)) hd kk
theorem gf_Mesh_0 {b : Nat} (K : zOk X Γ cc own nL d rt) (hb : b = 3 ∨ b = 15 ∨ b = 27) {idx : Nat} (hw : Cond.fieldLink own idx "PeriodSlots$Mesh" "count" "I" ∈ zU) (hd : decode cc pc = .ok (.getfield idx, 3)) (kk : zV X Γ Q (pc + 3) lv (.int (h b 0) :: st) h g) : zV X Γ Q pc lv (zR X b :: st) h g :=
  zr_get K (by omega) (zC_Mesh hb X g _) rfl zi_Mesh 0 (by decide) hw rfl hd kk
theorem pf_Mesh_0 {b : Nat} {x : Int32} (K : zOk X Γ cc own nL d rt) (hb : b = 3 ∨ b = 15 ∨ b = 27) {idx : Nat} (hw : Cond.fieldLink own idx "PeriodSlots$Mesh" "count" "I" ∈ zU) (hd : decode cc pc = .ok (.putfield idx, 3)) (kk : zV X Γ Q (pc + 3) lv st (zup h b 0 x) g) : zV X Γ Q pc lv (.int x :: zR X b :: st) h g :=
  zr_put K (by omega) (zC_Mesh hb X g _) rfl zi_Mesh zY_Mesh zY_Mesh_ok zT_Mesh_nm 0 (by decide) hw rfl rfl rfl (Nat.le_of_ble_eq_true rfl) (zw_up X h g (by rw [zC_Mesh hb X g _]; rfl)) hd kk
theorem gf_Mesh_1 {b : Nat} (K : zOk X Γ cc own nL d rt) (hb : b = 3 ∨ b = 15 ∨ b = 27) {idx : Nat} (hw : Cond.fieldLink own idx "PeriodSlots$Mesh" "roundNumber" "I" ∈ zU) (hd : decode cc pc = .ok (.getfield idx, 3)) (kk : zV X Γ Q (pc + 3) lv (.int (h b 1) :: st) h g) : zV X Γ Q pc lv (zR X b :: st) h g :=
  zr_get K (by omega) (zC_Mesh hb X g _) rfl zi_Mesh 1 (by decide) hw rfl hd kk
theorem pf_Mesh_1 {b : Nat} {x : Int32} (K : zOk X Γ cc own nL d rt) (hb : b = 3 ∨ b = 15 ∨ b = 27) {idx : Nat} (hw : Cond.fieldLink own idx "PeriodSlots$Mesh" "roundNumber" "I" ∈ zU) (hd : decode cc pc = .ok (.putfield idx, 3)) (kk : zV X Γ Q (pc + 3) lv st (zup h b 1 x) g) : zV X Γ Q pc lv (.int x :: zR X b :: st) h g :=
  zr_put K (by omega) (zC_Mesh hb X g _) rfl zi_Mesh zY_Mesh zY_Mesh_ok zT_Mesh_nm 1 (by decide) hw rfl rfl rfl (Nat.le_of_ble_eq_true rfl) (zw_up X h g (by rw [zC_Mesh hb X g _]; rfl)) hd kk
theorem gf_Mesh_2 {b : Nat} (K : zOk X Γ cc own nL d rt) (hb : b = 3 ∨ b = 15 ∨ b = 27) {idx : Nat} (hw : Cond.fieldLink own idx "PeriodSlots$Mesh" "gainfulRounds" "I" ∈ zU) (hd : decode cc pc = .ok (.getfield idx, 3)) (kk : zV X Γ Q (pc + 3) lv (.int (h b 2) :: st) h g) : zV X Γ Q pc lv (zR X b :: st) h g :=
  zr_get K (by omega) (zC_Mesh hb X g _) rfl zi_Mesh 2 (by decide) hw rfl hd kk
theorem pf_Mesh_2 {b : Nat} {x : Int32} (K : zOk X Γ cc own nL d rt) (hb : b = 3 ∨ b = 15 ∨ b = 27) {idx : Nat} (hw : Cond.fieldLink own idx "PeriodSlots$Mesh" "gainfulRounds" "I" ∈ zU) (hd : decode cc pc = .ok (.putfield idx, 3)) (kk : zV X Γ Q (pc + 3) lv st (zup h b 2 x) g) : zV X Γ Q pc lv (.int x :: zR X b :: st) h g :=
  zr_put K (by omega) (zC_Mesh hb X g _) rfl zi_Mesh zY_Mesh zY_Mesh_ok zT_Mesh_nm 2 (by decide) hw rfl rfl rfl (Nat.le_of_ble_eq_true rfl) (zw_up X h g (by rw [zC_Mesh hb X g _]; rfl)) hd kk
theorem gf_Mesh_3 {b : Nat} (K : zOk X Γ cc own nL d rt) (hb : b = 3 ∨ b = 15 ∨ b = 27) {idx : Nat} (hw : Cond.fieldLink own idx "PeriodSlots$Mesh" "periods" "[I" ∈ zU) (hd : decode cc pc = .ok (.getfield idx, 3)) (kk : zV X Γ Q (pc + 3) lv (zR X (b + 1) :: st) h g) : zV X Γ Q pc lv (zR X b :: st) h g :=
  zr_get K (by omega) (zC_Mesh hb X g _) rfl zi_Mesh 3 (by decide) hw rfl hd kk
theorem gf_Mesh_4 {b : Nat} (K : zOk X Γ cc own nL d rt) (hb : b = 3 ∨ b = 15 ∨ b = 27) {idx : Nat} (hw : Cond.fieldLink own idx "PeriodSlots$Mesh" "links" "[I" ∈ zU) (hd : decode cc pc = .ok (.getfield idx, 3)) (kk : zV X Γ Q (pc + 3) lv (zR X (b + 2) :: st) h g) : zV X Γ Q pc lv (zR X b :: st) h g :=
  zr_get K (by omega) (zC_Mesh hb X g _) rfl zi_Mesh 4 (by decide) hw rfl hd kk
theorem gf_Mesh_5 {b : Nat} (K : zOk X Γ cc own nL d rt) (hb : b = 3 ∨ b = 15 ∨ b = 27) {idx : Nat} (hw : Cond.fieldLink own idx "PeriodSlots$Mesh" "offsets" "[I" ∈ zU) (hd : decode cc pc = .ok (.getfield idx, 3)) (kk : zV X Γ Q (pc + 3) lv (zR X (b + 3) :: st) h g) : zV X Γ Q pc lv (zR X b :: st) h g :=
  zr_get K (by omega) (zC_Mesh hb X g _) rfl zi_Mesh 5 (by decide) hw rfl hd kk
theorem gf_Mesh_6 {b : Nat} (K : zOk X Γ cc own nL d rt) (hb : b = 3 ∨ b = 15 ∨ b = 27) {idx : Nat} (hw : Cond.fieldLink own idx "PeriodSlots$Mesh" "olds" "[I" ∈ zU) (hd : decode cc pc = .ok (.getfield idx, 3)) (kk : zV X Γ Q (pc + 3) lv (zR X (b + 4) :: st) h g) : zV X Γ Q pc lv (zR X b :: st) h g :=
  zr_get K (by omega) (zC_Mesh hb X g _) rfl zi_Mesh 6 (by decide) hw rfl hd kk
theorem gf_Mesh_7 {b : Nat} (K : zOk X Γ cc own nL d rt) (hb : b = 3 ∨ b = 15 ∨ b = 27) {idx : Nat} (hw : Cond.fieldLink own idx "PeriodSlots$Mesh" "patterns" "[I" ∈ zU) (hd : decode cc pc = .ok (.getfield idx, 3)) (kk : zV X Γ Q (pc + 3) lv (zR X (b + 5) :: st) h g) : zV X Γ Q pc lv (zR X b :: st) h g :=
  zr_get K (by omega) (zC_Mesh hb X g _) rfl zi_Mesh 7 (by decide) hw rfl hd kk
theorem gf_Mesh_8 {b : Nat} (K : zOk X Γ cc own nL d rt) (hb : b = 3 ∨ b = 15 ∨ b = 27) {idx : Nat} (hw : Cond.fieldLink own idx "PeriodSlots$Mesh" "near" "[I" ∈ zU) (hd : decode cc pc = .ok (.getfield idx, 3)) (kk : zV X Γ Q (pc + 3) lv (zR X (b + 6) :: st) h g) : zV X Γ Q pc lv (zR X b :: st) h g :=
  zr_get K (by omega) (zC_Mesh hb X g _) rfl zi_Mesh 8 (by decide) hw rfl hd kk
theorem gf_Mesh_9 {b : Nat} (K : zOk X Γ cc own nL d rt) (hb : b = 3 ∨ b = 15 ∨ b = 27) {idx : Nat} (hw : Cond.fieldLink own idx "PeriodSlots$Mesh" "priorities" "[I" ∈ zU) (hd : decode cc pc = .ok (.getfield idx, 3)) (kk : zV X Γ Q (pc + 3) lv (zR X (b + 7) :: st) h g) : zV X Γ Q pc lv (zR X b :: st) h g :=
  zr_get K (by omega) (zC_Mesh hb X g _) rfl zi_Mesh 9 (by decide) hw rfl hd kk
theorem gf_Mesh_10 {b : Nat} (K : zOk X Γ cc own nL d rt) (hb : b = 3 ∨ b = 15 ∨ b = 27) {idx : Nat} (hw : Cond.fieldLink own idx "PeriodSlots$Mesh" "nearAbove" "[I" ∈ zU) (hd : decode cc pc = .ok (.getfield idx, 3)) (kk : zV X Γ Q (pc + 3) lv (zR X (b + 8) :: st) h g) : zV X Γ Q pc lv (zR X b :: st) h g :=
  zr_get K (by omega) (zC_Mesh hb X g _) rfl zi_Mesh 10 (by decide) hw rfl hd kk
theorem gf_Mesh_11 {b : Nat} (K : zOk X Γ cc own nL d rt) (hb : b = 3 ∨ b = 15 ∨ b = 27) {idx : Nat} (hw : Cond.fieldLink own idx "PeriodSlots$Mesh" "ticks" "[I" ∈ zU) (hd : decode cc pc = .ok (.getfield idx, 3)) (kk : zV X Γ Q (pc + 3) lv (zR X (b + 9) :: st) h g) : zV X Γ Q pc lv (zR X b :: st) h g :=
  zr_get K (by omega) (zC_Mesh hb X g _) rfl zi_Mesh 11 (by decide) hw rfl hd kk
theorem gf_Mesh_12 {b : Nat} (K : zOk X Γ cc own nL d rt) (hb : b = 3 ∨ b = 15 ∨ b = 27) {idx : Nat} (hw : Cond.fieldLink own idx "PeriodSlots$Mesh" "occupied" "[I" ∈ zU) (hd : decode cc pc = .ok (.getfield idx, 3)) (kk : zV X Γ Q (pc + 3) lv (zR X (b + 10) :: st) h g) : zV X Γ Q pc lv (zR X b :: st) h g :=
  zr_get K (by omega) (zC_Mesh hb X g _) rfl zi_Mesh 12 (by decide) hw rfl hd kk
theorem gf_Mesh_13 {b : Nat} (K : zOk X Γ cc own nL d rt) (hb : b = 3 ∨ b = 15 ∨ b = 27) {idx : Nat} (hw : Cond.fieldLink own idx "PeriodSlots$Mesh" "next" "[I" ∈ zU) (hd : decode cc pc = .ok (.getfield idx, 3)) (kk : zV X Γ Q (pc + 3) lv (zR X (b + 11) :: st) h g) : zV X Γ Q pc lv (zR X b :: st) h g :=
  zr_get K (by omega) (zC_Mesh hb X g _) rfl zi_Mesh 13 (by decide) hw rfl hd kk
theorem gf_Obs_0  (K : zOk X Γ cc own nL d rt) {idx : Nat} (hw : Cond.fieldLink own idx "PeriodSlots$Observations" "stations" "[I" ∈ zU) (hd : decode cc pc = .ok (.getfield idx, 3)) (kk : zV X Γ Q (pc + 3) lv (zR X 47 :: st) h g) : zV X Γ Q pc lv (zR X 46 :: st) h g :=
  zr_get K (by decide) (zC_Obs X g _) rfl zi_Obs 0 (by decide) hw rfl hd kk
theorem gf_Obs_1  (K : zOk X Γ cc own nL d rt) {idx : Nat} (hw : Cond.fieldLink own idx "PeriodSlots$Observations" "ticks" "[I" ∈ zU) (hd : decode cc pc = .ok (.getfield idx, 3)) (kk : zV X Γ Q (pc + 3) lv (zR X 48 :: st) h g) : zV X Γ Q pc lv (zR X 46 :: st) h g :=
  zr_get K (by decide) (zC_Obs X g _) rfl zi_Obs 1 (by decide) hw rfl hd kk
theorem gf_Obs_2  (K : zOk X Γ cc own nL d rt) {idx : Nat} (hw : Cond.fieldLink own idx "PeriodSlots$Observations" "sights" "[I" ∈ zU) (hd : decode cc pc = .ok (.getfield idx, 3)) (kk : zV X Γ Q (pc + 3) lv (zR X 49 :: st) h g) : zV X Γ Q pc lv (zR X 46 :: st) h g :=
  zr_get K (by decide) (zC_Obs X g _) rfl zi_Obs 2 (by decide) hw rfl hd kk
theorem gf_Obs_3  (K : zOk X Γ cc own nL d rt) {idx : Nat} (hw : Cond.fieldLink own idx "PeriodSlots$Observations" "size" "I" ∈ zU) (hd : decode cc pc = .ok (.getfield idx, 3)) (kk : zV X Γ Q (pc + 3) lv (.int (h 46 0) :: st) h g) : zV X Γ Q pc lv (zR X 46 :: st) h g :=
  zr_get K (by decide) (zC_Obs X g _) rfl zi_Obs 3 (by decide) hw rfl hd kk
theorem pf_Obs_3  {x : Int32} (K : zOk X Γ cc own nL d rt) {idx : Nat} (hw : Cond.fieldLink own idx "PeriodSlots$Observations" "size" "I" ∈ zU) (hd : decode cc pc = .ok (.putfield idx, 3)) (kk : zV X Γ Q (pc + 3) lv st (zup h 46 0 x) g) : zV X Γ Q pc lv (.int x :: zR X 46 :: st) h g :=
  zr_put K (by decide) (zC_Obs X g _) rfl zi_Obs zY_Obs zY_Obs_ok zT_Obs_nm 3 (by decide) hw rfl rfl rfl (Nat.le_of_ble_eq_true rfl) (zw_up X h g (by rw [zC_Obs X g _]; rfl)) hd kk
theorem gf_Planner_0  (K : zOk X Γ cc own nL d rt) {idx : Nat} (hw : Cond.fieldLink own idx "PeriodSlots$Planner" "offsets" "[I" ∈ zU) (hd : decode cc pc = .ok (.getfield idx, 3)) (kk : zV X Γ Q (pc + 3) lv (zR X 40 :: st) h g) : zV X Γ Q pc lv (zR X 39 :: st) h g :=
  zr_get K (by decide) (zC_Planner X g _) rfl zi_Planner 0 (by decide) hw rfl hd kk
theorem gf_Shelf_0 {b : Nat} (K : zOk X Γ cc own nL d rt) (hb : b = 42 ∨ b = 44) {idx : Nat} (hw : Cond.fieldLink own idx "PeriodSlots$Shelf" "rows" "I" ∈ zU) (hd : decode cc pc = .ok (.getfield idx, 3)) (kk : zV X Γ Q (pc + 3) lv (.int (h b 0) :: st) h g) : zV X Γ Q pc lv (zR X b :: st) h g :=
  zr_get K (by omega) (zC_Shelf hb X g _) rfl zi_Shelf 0 (by decide) hw rfl hd kk
theorem gf_Shelf_1 {b : Nat} (K : zOk X Γ cc own nL d rt) (hb : b = 42 ∨ b = 44) {idx : Nat} (hw : Cond.fieldLink own idx "PeriodSlots$Shelf" "cells" "[I" ∈ zU) (hd : decode cc pc = .ok (.getfield idx, 3)) (kk : zV X Γ Q (pc + 3) lv (zR X (b + 1) :: st) h g) : zV X Γ Q pc lv (zR X b :: st) h g :=
  zr_get K (by omega) (zC_Shelf hb X g _) rfl zi_Shelf 1 (by decide) hw rfl hd kk
theorem gf_Shelf_2 {b : Nat} (K : zOk X Γ cc own nL d rt) (hb : b = 42 ∨ b = 44) {idx : Nat} (hw : Cond.fieldLink own idx "PeriodSlots$Shelf" "filled" "I" ∈ zU) (hd : decode cc pc = .ok (.getfield idx, 3)) (kk : zV X Γ Q (pc + 3) lv (.int (h b 1) :: st) h g) : zV X Γ Q pc lv (zR X b :: st) h g :=
  zr_get K (by omega) (zC_Shelf hb X g _) rfl zi_Shelf 2 (by decide) hw rfl hd kk
theorem pf_Shelf_2 {b : Nat} {x : Int32} (K : zOk X Γ cc own nL d rt) (hb : b = 42 ∨ b = 44) {idx : Nat} (hw : Cond.fieldLink own idx "PeriodSlots$Shelf" "filled" "I" ∈ zU) (hd : decode cc pc = .ok (.putfield idx, 3)) (kk : zV X Γ Q (pc + 3) lv st (zup h b 1 x) g) : zV X Γ Q pc lv (.int x :: zR X b :: st) h g :=
  zr_put K (by omega) (zC_Shelf hb X g _) rfl zi_Shelf zY_Shelf zY_Shelf_ok zT_Shelf_nm 2 (by decide) hw rfl rfl rfl (Nat.le_of_ble_eq_true rfl) (zw_up X h g (by rw [zC_Shelf hb X g _]; rfl)) hd kk
theorem gf_Text_0  (K : zOk X Γ cc own nL d rt) {idx : Nat} (hw : Cond.fieldLink own idx "PeriodSlots$Text" "bytes" "[I" ∈ zU) (hd : decode cc pc = .ok (.getfield idx, 3)) (kk : zV X Γ Q (pc + 3) lv (zR X 2 :: st) h g) : zV X Γ Q pc lv (zR X 1 :: st) h g :=
  zr_get K (by decide) (zC_Text X g _) rfl zi_Text 0 (by decide) hw rfl hd kk
theorem gf_Text_1  (K : zOk X Γ cc own nL d rt) {idx : Nat} (hw : Cond.fieldLink own idx "PeriodSlots$Text" "length" "I" ∈ zU) (hd : decode cc pc = .ok (.getfield idx, 3)) (kk : zV X Γ Q (pc + 3) lv (.int (h 1 0) :: st) h g) : zV X Γ Q pc lv (zR X 1 :: st) h g :=
  zr_get K (by decide) (zC_Text X g _) rfl zi_Text 1 (by decide) hw rfl hd kk
theorem pf_Text_1  {x : Int32} (K : zOk X Γ cc own nL d rt) {idx : Nat} (hw : Cond.fieldLink own idx "PeriodSlots$Text" "length" "I" ∈ zU) (hd : decode cc pc = .ok (.putfield idx, 3)) (kk : zV X Γ Q (pc + 3) lv st (zup h 1 0 x) g) : zV X Γ Q pc lv (.int x :: zR X 1 :: st) h g :=
  zr_put K (by decide) (zC_Text X g _) rfl zi_Text zY_Text zY_Text_ok zT_Text_nm 1 (by decide) hw rfl rfl rfl (Nat.le_of_ble_eq_true rfl) (zw_up X h g (by rw [zC_Text X g _]; rfl)) hd kk
theorem gf_Slots_0  (K : zOk X Γ cc own nL d rt) {idx : Nat} (hw : Cond.fieldLink own idx "PeriodSlots" "text" "LPeriodSlots$Text;" ∈ zU) (hd : decode cc pc = .ok (.getfield idx, 3)) (kk : zV X Γ Q (pc + 3) lv (zR X 1 :: st) h g) : zV X Γ Q pc lv (zR X 0 :: st) h g :=
  zr_get K (by decide) (zC_Slots X g _) rfl zi_Slots 0 (by decide) hw rfl hd kk
theorem gf_Slots_1  (K : zOk X Γ cc own nL d rt) {idx : Nat} (hw : Cond.fieldLink own idx "PeriodSlots" "mesh" "LPeriodSlots$Mesh;" ∈ zU) (hd : decode cc pc = .ok (.getfield idx, 3)) (kk : zV X Γ Q (pc + 3) lv (zR X 3 :: st) h g) : zV X Γ Q pc lv (zR X 0 :: st) h g :=
  zr_get K (by decide) (zC_Slots X g _) rfl zi_Slots 1 (by decide) hw rfl hd kk
theorem gf_Slots_2  (K : zOk X Γ cc own nL d rt) {idx : Nat} (hw : Cond.fieldLink own idx "PeriodSlots" "draft" "LPeriodSlots$Mesh;" ∈ zU) (hd : decode cc pc = .ok (.getfield idx, 3)) (kk : zV X Γ Q (pc + 3) lv (zR X 15 :: st) h g) : zV X Γ Q pc lv (zR X 0 :: st) h g :=
  zr_get K (by decide) (zC_Slots X g _) rfl zi_Slots 2 (by decide) hw rfl hd kk
theorem gf_Slots_3  (K : zOk X Γ cc own nL d rt) {idx : Nat} (hw : Cond.fieldLink own idx "PeriodSlots" "trial" "LPeriodSlots$Mesh;" ∈ zU) (hd : decode cc pc = .ok (.getfield idx, 3)) (kk : zV X Γ Q (pc + 3) lv (zR X 27 :: st) h g) : zV X Γ Q pc lv (zR X 0 :: st) h g :=
  zr_get K (by decide) (zC_Slots X g _) rfl zi_Slots 3 (by decide) hw rfl hd kk
theorem gf_Slots_4  (K : zOk X Γ cc own nL d rt) {idx : Nat} (hw : Cond.fieldLink own idx "PeriodSlots" "planner" "LPeriodSlots$Planner;" ∈ zU) (hd : decode cc pc = .ok (.getfield idx, 3)) (kk : zV X Γ Q (pc + 3) lv (zR X 39 :: st) h g) : zV X Γ Q pc lv (zR X 0 :: st) h g :=
  zr_get K (by decide) (zC_Slots X g _) rfl zi_Slots 4 (by decide) hw rfl hd kk
theorem gf_Slots_5  (K : zOk X Γ cc own nL d rt) {idx : Nat} (hw : Cond.fieldLink own idx "PeriodSlots" "acts" "LPeriodSlots$Acts;" ∈ zU) (hd : decode cc pc = .ok (.getfield idx, 3)) (kk : zV X Γ Q (pc + 3) lv (zR X 41 :: st) h g) : zV X Γ Q pc lv (zR X 0 :: st) h g :=
  zr_get K (by decide) (zC_Slots X g _) rfl zi_Slots 5 (by decide) hw rfl hd kk
theorem gf_Slots_6  (K : zOk X Γ cc own nL d rt) {idx : Nat} (hw : Cond.fieldLink own idx "PeriodSlots" "slots" "LPeriodSlots$Shelf;" ∈ zU) (hd : decode cc pc = .ok (.getfield idx, 3)) (kk : zV X Γ Q (pc + 3) lv (zR X 44 :: st) h g) : zV X Γ Q pc lv (zR X 0 :: st) h g :=
  zr_get K (by decide) (zC_Slots X g _) rfl zi_Slots 6 (by decide) hw rfl hd kk
theorem gf_Slots_7  (K : zOk X Γ cc own nL d rt) {idx : Nat} (hw : Cond.fieldLink own idx "PeriodSlots" "observations" "LPeriodSlots$Observations;" ∈ zU) (hd : decode cc pc = .ok (.getfield idx, 3)) (kk : zV X Γ Q (pc + 3) lv (zR X 46 :: st) h g) : zV X Γ Q pc lv (zR X 0 :: st) h g :=
  zr_get K (by decide) (zC_Slots X g _) rfl zi_Slots 7 (by decide) hw rfl hd kk
theorem gf_Slots_8  (K : zOk X Γ cc own nL d rt) {idx : Nat} (hw : Cond.fieldLink own idx "PeriodSlots" "statements" "[I" ∈ zU) (hd : decode cc pc = .ok (.getfield idx, 3)) (kk : zV X Γ Q (pc + 3) lv (zR X 50 :: st) h g) : zV X Γ Q pc lv (zR X 0 :: st) h g :=
  zr_get K (by decide) (zC_Slots X g _) rfl zi_Slots 8 (by decide) hw rfl hd kk
theorem gf_Slots_9  (K : zOk X Γ cc own nL d rt) {idx : Nat} (hw : Cond.fieldLink own idx "PeriodSlots" "chance" "J" ∈ zU) (hd : decode cc pc = .ok (.getfield idx, 3)) (kk : zV X Γ Q (pc + 3) lv (.long (g 0) :: st) h g) : zV X Γ Q pc lv (zR X 0 :: st) h g :=
  zr_get K (by decide) (zC_Slots X g _) rfl zi_Slots 9 (by decide) hw rfl hd kk
theorem pf_Slots_9 {x : Int64} (K : zOk X Γ cc own nL d rt) {idx : Nat} (hw : Cond.fieldLink own idx "PeriodSlots" "chance" "J" ∈ zU) (hd : decode cc pc = .ok (.putfield idx, 3)) (kk : zV X Γ Q (pc + 3) lv st h (zupg g 0 x)) : zV X Γ Q pc lv (.long x :: zR X 0 :: st) h g :=
  zr_put K (by decide) (zC_Slots X g _) rfl zi_Slots zY_Slots zY_Slots_ok zT_Slots_nm 9 (by decide) hw rfl rfl rfl (Nat.le_of_ble_eq_true rfl) (zw_upg X h g rfl (zg_other_Slots X h g x)) hd kk
theorem gf_Model_0  (K : zOk X Γ cc own nL d rt) {idx : Nat} (hw : Cond.fieldLink own idx "PeriodSlotsModel" "text" "[I" ∈ zU) (hd : decode cc pc = .ok (.getfield idx, 3)) (kk : zV X Γ Q (pc + 3) lv (zR X 52 :: st) h g) : zV X Γ Q pc lv (zR X 51 :: st) h g :=
  zr_get K (by decide) (zC_Model X g _) rfl zi_Model 0 (by decide) hw rfl hd kk
theorem gf_Model_1  (K : zOk X Γ cc own nL d rt) {idx : Nat} (hw : Cond.fieldLink own idx "PeriodSlotsModel" "length" "I" ∈ zU) (hd : decode cc pc = .ok (.getfield idx, 3)) (kk : zV X Γ Q (pc + 3) lv (.int (h 51 0) :: st) h g) : zV X Γ Q pc lv (zR X 51 :: st) h g :=
  zr_get K (by decide) (zC_Model X g _) rfl zi_Model 1 (by decide) hw rfl hd kk
theorem pf_Model_1  {x : Int32} (K : zOk X Γ cc own nL d rt) {idx : Nat} (hw : Cond.fieldLink own idx "PeriodSlotsModel" "length" "I" ∈ zU) (hd : decode cc pc = .ok (.putfield idx, 3)) (kk : zV X Γ Q (pc + 3) lv st (zup h 51 0 x) g) : zV X Γ Q pc lv (.int x :: zR X 51 :: st) h g :=
  zr_put K (by decide) (zC_Model X g _) rfl zi_Model zY_Model zY_Model_ok zT_Model_nm 1 (by decide) hw rfl rfl rfl (Nat.le_of_ble_eq_true rfl) (zw_up X h g (by rw [zC_Model X g _]; rfl)) hd kk
theorem gf_Model_2  (K : zOk X Γ cc own nL d rt) {idx : Nat} (hw : Cond.fieldLink own idx "PeriodSlotsModel" "stations" "I" ∈ zU) (hd : decode cc pc = .ok (.getfield idx, 3)) (kk : zV X Γ Q (pc + 3) lv (.int (h 51 1) :: st) h g) : zV X Γ Q pc lv (zR X 51 :: st) h g :=
  zr_get K (by decide) (zC_Model X g _) rfl zi_Model 2 (by decide) hw rfl hd kk
theorem pf_Model_2  {x : Int32} (K : zOk X Γ cc own nL d rt) {idx : Nat} (hw : Cond.fieldLink own idx "PeriodSlotsModel" "stations" "I" ∈ zU) (hd : decode cc pc = .ok (.putfield idx, 3)) (kk : zV X Γ Q (pc + 3) lv st (zup h 51 1 x) g) : zV X Γ Q pc lv (.int x :: zR X 51 :: st) h g :=
  zr_put K (by decide) (zC_Model X g _) rfl zi_Model zY_Model zY_Model_ok zT_Model_nm 2 (by decide) hw rfl rfl rfl (Nat.le_of_ble_eq_true rfl) (zw_up X h g (by rw [zC_Model X g _]; rfl)) hd kk
theorem gf_Model_3  (K : zOk X Γ cc own nL d rt) {idx : Nat} (hw : Cond.fieldLink own idx "PeriodSlotsModel" "period" "[I" ∈ zU) (hd : decode cc pc = .ok (.getfield idx, 3)) (kk : zV X Γ Q (pc + 3) lv (zR X 53 :: st) h g) : zV X Γ Q pc lv (zR X 51 :: st) h g :=
  zr_get K (by decide) (zC_Model X g _) rfl zi_Model 3 (by decide) hw rfl hd kk
theorem gf_Model_4  (K : zOk X Γ cc own nL d rt) {idx : Nat} (hw : Cond.fieldLink own idx "PeriodSlotsModel" "now" "[I" ∈ zU) (hd : decode cc pc = .ok (.getfield idx, 3)) (kk : zV X Γ Q (pc + 3) lv (zR X 54 :: st) h g) : zV X Γ Q pc lv (zR X 51 :: st) h g :=
  zr_get K (by decide) (zC_Model X g _) rfl zi_Model 4 (by decide) hw rfl hd kk
theorem gf_Model_5  (K : zOk X Γ cc own nL d rt) {idx : Nat} (hw : Cond.fieldLink own idx "PeriodSlotsModel" "trial" "[I" ∈ zU) (hd : decode cc pc = .ok (.getfield idx, 3)) (kk : zV X Γ Q (pc + 3) lv (zR X 55 :: st) h g) : zV X Γ Q pc lv (zR X 51 :: st) h g :=
  zr_get K (by decide) (zC_Model X g _) rfl zi_Model 5 (by decide) hw rfl hd kk
theorem gf_Model_6  (K : zOk X Γ cc own nL d rt) {idx : Nat} (hw : Cond.fieldLink own idx "PeriodSlotsModel" "spare" "[I" ∈ zU) (hd : decode cc pc = .ok (.getfield idx, 3)) (kk : zV X Γ Q (pc + 3) lv (zR X 56 :: st) h g) : zV X Γ Q pc lv (zR X 51 :: st) h g :=
  zr_get K (by decide) (zC_Model X g _) rfl zi_Model 6 (by decide) hw rfl hd kk
theorem gf_Model_7  (K : zOk X Γ cc own nL d rt) {idx : Nat} (hw : Cond.fieldLink own idx "PeriodSlotsModel" "diary" "[I" ∈ zU) (hd : decode cc pc = .ok (.getfield idx, 3)) (kk : zV X Γ Q (pc + 3) lv (zR X 57 :: st) h g) : zV X Γ Q pc lv (zR X 51 :: st) h g :=
  zr_get K (by decide) (zC_Model X g _) rfl zi_Model 7 (by decide) hw rfl hd kk
theorem gf_Model_8  (K : zOk X Γ cc own nL d rt) {idx : Nat} (hw : Cond.fieldLink own idx "PeriodSlotsModel" "doings" "I" ∈ zU) (hd : decode cc pc = .ok (.getfield idx, 3)) (kk : zV X Γ Q (pc + 3) lv (.int (h 51 2) :: st) h g) : zV X Γ Q pc lv (zR X 51 :: st) h g :=
  zr_get K (by decide) (zC_Model X g _) rfl zi_Model 8 (by decide) hw rfl hd kk
theorem pf_Model_8  {x : Int32} (K : zOk X Γ cc own nL d rt) {idx : Nat} (hw : Cond.fieldLink own idx "PeriodSlotsModel" "doings" "I" ∈ zU) (hd : decode cc pc = .ok (.putfield idx, 3)) (kk : zV X Γ Q (pc + 3) lv st (zup h 51 2 x) g) : zV X Γ Q pc lv (.int x :: zR X 51 :: st) h g :=
  zr_put K (by decide) (zC_Model X g _) rfl zi_Model zY_Model zY_Model_ok zT_Model_nm 8 (by decide) hw rfl rfl rfl (Nat.le_of_ble_eq_true rfl) (zw_up X h g (by rw [zC_Model X g _]; rfl)) hd kk
theorem gf_Model_9  (K : zOk X Γ cc own nL d rt) {idx : Nat} (hw : Cond.fieldLink own idx "PeriodSlotsModel" "next" "I" ∈ zU) (hd : decode cc pc = .ok (.getfield idx, 3)) (kk : zV X Γ Q (pc + 3) lv (.int (h 51 3) :: st) h g) : zV X Γ Q pc lv (zR X 51 :: st) h g :=
  zr_get K (by decide) (zC_Model X g _) rfl zi_Model 9 (by decide) hw rfl hd kk
theorem pf_Model_9  {x : Int32} (K : zOk X Γ cc own nL d rt) {idx : Nat} (hw : Cond.fieldLink own idx "PeriodSlotsModel" "next" "I" ∈ zU) (hd : decode cc pc = .ok (.putfield idx, 3)) (kk : zV X Γ Q (pc + 3) lv st (zup h 51 3 x) g) : zV X Γ Q pc lv (.int x :: zR X 51 :: st) h g :=
  zr_put K (by decide) (zC_Model X g _) rfl zi_Model zY_Model zY_Model_ok zT_Model_nm 9 (by decide) hw rfl rfl rfl (Nat.le_of_ble_eq_true rfl) (zw_up X h g (by rw [zC_Model X g _]; rfl)) hd kk
theorem gf_Model_10  (K : zOk X Γ cc own nL d rt) {idx : Nat} (hw : Cond.fieldLink own idx "PeriodSlotsModel" "kept" "[I" ∈ zU) (hd : decode cc pc = .ok (.getfield idx, 3)) (kk : zV X Γ Q (pc + 3) lv (zR X 58 :: st) h g) : zV X Γ Q pc lv (zR X 51 :: st) h g :=
  zr_get K (by decide) (zC_Model X g _) rfl zi_Model 10 (by decide) hw rfl hd kk
theorem gf_Model_11  (K : zOk X Γ cc own nL d rt) {idx : Nat} (hw : Cond.fieldLink own idx "PeriodSlotsModel" "isKept" "[Z" ∈ zU) (hd : decode cc pc = .ok (.getfield idx, 3)) (kk : zV X Γ Q (pc + 3) lv (zR X 59 :: st) h g) : zV X Γ Q pc lv (zR X 51 :: st) h g :=
  zr_get K (by decide) (zC_Model X g _) rfl zi_Model 11 (by decide) hw rfl hd kk
theorem gf_Model_12  (K : zOk X Γ cc own nL d rt) {idx : Nat} (hw : Cond.fieldLink own idx "PeriodSlotsModel" "seenBy" "[I" ∈ zU) (hd : decode cc pc = .ok (.getfield idx, 3)) (kk : zV X Γ Q (pc + 3) lv (zR X 60 :: st) h g) : zV X Γ Q pc lv (zR X 51 :: st) h g :=
  zr_get K (by decide) (zC_Model X g _) rfl zi_Model 12 (by decide) hw rfl hd kk
theorem gf_Model_13  (K : zOk X Γ cc own nL d rt) {idx : Nat} (hw : Cond.fieldLink own idx "PeriodSlotsModel" "seenTick" "[I" ∈ zU) (hd : decode cc pc = .ok (.getfield idx, 3)) (kk : zV X Γ Q (pc + 3) lv (zR X 61 :: st) h g) : zV X Γ Q pc lv (zR X 51 :: st) h g :=
  zr_get K (by decide) (zC_Model X g _) rfl zi_Model 13 (by decide) hw rfl hd kk
theorem gf_Model_14  (K : zOk X Γ cc own nL d rt) {idx : Nat} (hw : Cond.fieldLink own idx "PeriodSlotsModel" "seenWas" "[I" ∈ zU) (hd : decode cc pc = .ok (.getfield idx, 3)) (kk : zV X Γ Q (pc + 3) lv (zR X 62 :: st) h g) : zV X Γ Q pc lv (zR X 51 :: st) h g :=
  zr_get K (by decide) (zC_Model X g _) rfl zi_Model 14 (by decide) hw rfl hd kk
theorem gf_Model_15  (K : zOk X Γ cc own nL d rt) {idx : Nat} (hw : Cond.fieldLink own idx "PeriodSlotsModel" "seen" "I" ∈ zU) (hd : decode cc pc = .ok (.getfield idx, 3)) (kk : zV X Γ Q (pc + 3) lv (.int (h 51 4) :: st) h g) : zV X Γ Q pc lv (zR X 51 :: st) h g :=
  zr_get K (by decide) (zC_Model X g _) rfl zi_Model 15 (by decide) hw rfl hd kk
theorem pf_Model_15  {x : Int32} (K : zOk X Γ cc own nL d rt) {idx : Nat} (hw : Cond.fieldLink own idx "PeriodSlotsModel" "seen" "I" ∈ zU) (hd : decode cc pc = .ok (.putfield idx, 3)) (kk : zV X Γ Q (pc + 3) lv st (zup h 51 4 x) g) : zV X Γ Q pc lv (.int x :: zR X 51 :: st) h g :=
  zr_put K (by decide) (zC_Model X g _) rfl zi_Model zY_Model zY_Model_ok zT_Model_nm 15 (by decide) hw rfl rfl rfl (Nat.le_of_ble_eq_true rfl) (zw_up X h g (by rw [zC_Model X g _]; rfl)) hd kk
theorem gf_Model_16  (K : zOk X Γ cc own nL d rt) {idx : Nat} (hw : Cond.fieldLink own idx "PeriodSlotsModel" "seed" "J" ∈ zU) (hd : decode cc pc = .ok (.getfield idx, 3)) (kk : zV X Γ Q (pc + 3) lv (.long (g 1) :: st) h g) : zV X Γ Q pc lv (zR X 51 :: st) h g :=
  zr_get K (by decide) (zC_Model X g _) rfl zi_Model 16 (by decide) hw rfl hd kk
theorem pf_Model_16 {x : Int64} (K : zOk X Γ cc own nL d rt) {idx : Nat} (hw : Cond.fieldLink own idx "PeriodSlotsModel" "seed" "J" ∈ zU) (hd : decode cc pc = .ok (.putfield idx, 3)) (kk : zV X Γ Q (pc + 3) lv st h (zupg g 1 x)) : zV X Γ Q pc lv (.long x :: zR X 51 :: st) h g :=
  zr_put K (by decide) (zC_Model X g _) rfl zi_Model zY_Model zY_Model_ok zT_Model_nm 16 (by decide) hw rfl rfl rfl (Nat.le_of_ble_eq_true rfl) (zw_upg X h g rfl (zg_other_Model X h g x)) hd kk
theorem gf_Model_17  (K : zOk X Γ cc own nL d rt) {idx : Nat} (hw : Cond.fieldLink own idx "PeriodSlotsModel" "readStations" "I" ∈ zU) (hd : decode cc pc = .ok (.getfield idx, 3)) (kk : zV X Γ Q (pc + 3) lv (.int (h 51 5) :: st) h g) : zV X Γ Q pc lv (zR X 51 :: st) h g :=
  zr_get K (by decide) (zC_Model X g _) rfl zi_Model 17 (by decide) hw rfl hd kk
theorem pf_Model_17  {x : Int32} (K : zOk X Γ cc own nL d rt) {idx : Nat} (hw : Cond.fieldLink own idx "PeriodSlotsModel" "readStations" "I" ∈ zU) (hd : decode cc pc = .ok (.putfield idx, 3)) (kk : zV X Γ Q (pc + 3) lv st (zup h 51 5 x) g) : zV X Γ Q pc lv (.int x :: zR X 51 :: st) h g :=
  zr_put K (by decide) (zC_Model X g _) rfl zi_Model zY_Model zY_Model_ok zT_Model_nm 17 (by decide) hw rfl rfl rfl (Nat.le_of_ble_eq_true rfl) (zw_up X h g (by rw [zC_Model X g _]; rfl)) hd kk
theorem gf_Model_18  (K : zOk X Γ cc own nL d rt) {idx : Nat} (hw : Cond.fieldLink own idx "PeriodSlotsModel" "readPeriod" "[I" ∈ zU) (hd : decode cc pc = .ok (.getfield idx, 3)) (kk : zV X Γ Q (pc + 3) lv (zR X 63 :: st) h g) : zV X Γ Q pc lv (zR X 51 :: st) h g :=
  zr_get K (by decide) (zC_Model X g _) rfl zi_Model 18 (by decide) hw rfl hd kk
theorem gf_Model_19  (K : zOk X Γ cc own nL d rt) {idx : Nat} (hw : Cond.fieldLink own idx "PeriodSlotsModel" "readOffset" "[I" ∈ zU) (hd : decode cc pc = .ok (.getfield idx, 3)) (kk : zV X Γ Q (pc + 3) lv (zR X 64 :: st) h g) : zV X Γ Q pc lv (zR X 51 :: st) h g :=
  zr_get K (by decide) (zC_Model X g _) rfl zi_Model 19 (by decide) hw rfl hd kk
theorem gf_Model_20  (K : zOk X Γ cc own nL d rt) {idx : Nat} (hw : Cond.fieldLink own idx "PeriodSlotsModel" "readLinks" "[I" ∈ zU) (hd : decode cc pc = .ok (.getfield idx, 3)) (kk : zV X Γ Q (pc + 3) lv (zR X 65 :: st) h g) : zV X Γ Q pc lv (zR X 51 :: st) h g :=
  zr_get K (by decide) (zC_Model X g _) rfl zi_Model 20 (by decide) hw rfl hd kk
theorem gf_Model_21  (K : zOk X Γ cc own nL d rt) {idx : Nat} (hw : Cond.fieldLink own idx "PeriodSlotsModel" "part" "I" ∈ zU) (hd : decode cc pc = .ok (.getfield idx, 3)) (kk : zV X Γ Q (pc + 3) lv (.int (h 51 6) :: st) h g) : zV X Γ Q pc lv (zR X 51 :: st) h g :=
  zr_get K (by decide) (zC_Model X g _) rfl zi_Model 21 (by decide) hw rfl hd kk
theorem pf_Model_21  {x : Int32} (K : zOk X Γ cc own nL d rt) {idx : Nat} (hw : Cond.fieldLink own idx "PeriodSlotsModel" "part" "I" ∈ zU) (hd : decode cc pc = .ok (.putfield idx, 3)) (kk : zV X Γ Q (pc + 3) lv st (zup h 51 6 x) g) : zV X Γ Q pc lv (.int x :: zR X 51 :: st) h g :=
  zr_put K (by decide) (zC_Model X g _) rfl zi_Model zY_Model zY_Model_ok zT_Model_nm 21 (by decide) hw rfl rfl rfl (Nat.le_of_ble_eq_true rfl) (zw_up X h g (by rw [zC_Model X g _]; rfl)) hd kk
theorem gf_Model_22  (K : zOk X Γ cc own nL d rt) {idx : Nat} (hw : Cond.fieldLink own idx "PeriodSlotsModel" "place" "I" ∈ zU) (hd : decode cc pc = .ok (.getfield idx, 3)) (kk : zV X Γ Q (pc + 3) lv (.int (h 51 7) :: st) h g) : zV X Γ Q pc lv (zR X 51 :: st) h g :=
  zr_get K (by decide) (zC_Model X g _) rfl zi_Model 22 (by decide) hw rfl hd kk
theorem pf_Model_22  {x : Int32} (K : zOk X Γ cc own nL d rt) {idx : Nat} (hw : Cond.fieldLink own idx "PeriodSlotsModel" "place" "I" ∈ zU) (hd : decode cc pc = .ok (.putfield idx, 3)) (kk : zV X Γ Q (pc + 3) lv st (zup h 51 7 x) g) : zV X Γ Q pc lv (.int x :: zR X 51 :: st) h g :=
  zr_put K (by decide) (zC_Model X g _) rfl zi_Model zY_Model zY_Model_ok zT_Model_nm 22 (by decide) hw rfl rfl rfl (Nat.le_of_ble_eq_true rfl) (zw_up X h g (by rw [zC_Model X g _]; rfl)) hd kk
theorem gf_Model_23  (K : zOk X Γ cc own nL d rt) {idx : Nat} (hw : Cond.fieldLink own idx "PeriodSlotsModel" "readFirst" "I" ∈ zU) (hd : decode cc pc = .ok (.getfield idx, 3)) (kk : zV X Γ Q (pc + 3) lv (.int (h 51 8) :: st) h g) : zV X Γ Q pc lv (zR X 51 :: st) h g :=
  zr_get K (by decide) (zC_Model X g _) rfl zi_Model 23 (by decide) hw rfl hd kk
theorem pf_Model_23  {x : Int32} (K : zOk X Γ cc own nL d rt) {idx : Nat} (hw : Cond.fieldLink own idx "PeriodSlotsModel" "readFirst" "I" ∈ zU) (hd : decode cc pc = .ok (.putfield idx, 3)) (kk : zV X Γ Q (pc + 3) lv st (zup h 51 8 x) g) : zV X Γ Q pc lv (.int x :: zR X 51 :: st) h g :=
  zr_put K (by decide) (zC_Model X g _) rfl zi_Model zY_Model zY_Model_ok zT_Model_nm 23 (by decide) hw rfl rfl rfl (Nat.le_of_ble_eq_true rfl) (zw_up X h g (by rw [zC_Model X g _]; rfl)) hd kk
theorem gf_Model_24  (K : zOk X Γ cc own nL d rt) {idx : Nat} (hw : Cond.fieldLink own idx "PeriodSlotsModel" "on" "I" ∈ zU) (hd : decode cc pc = .ok (.getfield idx, 3)) (kk : zV X Γ Q (pc + 3) lv (.int (h 51 9) :: st) h g) : zV X Γ Q pc lv (zR X 51 :: st) h g :=
  zr_get K (by decide) (zC_Model X g _) rfl zi_Model 24 (by decide) hw rfl hd kk
theorem pf_Model_24  {x : Int32} (K : zOk X Γ cc own nL d rt) {idx : Nat} (hw : Cond.fieldLink own idx "PeriodSlotsModel" "on" "I" ∈ zU) (hd : decode cc pc = .ok (.putfield idx, 3)) (kk : zV X Γ Q (pc + 3) lv st (zup h 51 9 x) g) : zV X Γ Q pc lv (.int x :: zR X 51 :: st) h g :=
  zr_put K (by decide) (zC_Model X g _) rfl zi_Model zY_Model zY_Model_ok zT_Model_nm 24 (by decide) hw rfl rfl rfl (Nat.le_of_ble_eq_true rfl) (zw_up X h g (by rw [zC_Model X g _]; rfl)) hd kk
theorem gf_Model_25  (K : zOk X Γ cc own nL d rt) {idx : Nat} (hw : Cond.fieldLink own idx "PeriodSlotsModel" "near" "[I" ∈ zU) (hd : decode cc pc = .ok (.getfield idx, 3)) (kk : zV X Γ Q (pc + 3) lv (zR X 66 :: st) h g) : zV X Γ Q pc lv (zR X 51 :: st) h g :=
  zr_get K (by decide) (zC_Model X g _) rfl zi_Model 25 (by decide) hw rfl hd kk
theorem gf_Model_26  (K : zOk X Γ cc own nL d rt) {idx : Nat} (hw : Cond.fieldLink own idx "PeriodSlotsModel" "moved" "[I" ∈ zU) (hd : decode cc pc = .ok (.getfield idx, 3)) (kk : zV X Γ Q (pc + 3) lv (zR X 67 :: st) h g) : zV X Γ Q pc lv (zR X 51 :: st) h g :=
  zr_get K (by decide) (zC_Model X g _) rfl zi_Model 26 (by decide) hw rfl hd kk
theorem gf_Model_27  (K : zOk X Γ cc own nL d rt) {idx : Nat} (hw : Cond.fieldLink own idx "PeriodSlotsModel" "movedOld" "[I" ∈ zU) (hd : decode cc pc = .ok (.getfield idx, 3)) (kk : zV X Γ Q (pc + 3) lv (zR X 68 :: st) h g) : zV X Γ Q pc lv (zR X 51 :: st) h g :=
  zr_get K (by decide) (zC_Model X g _) rfl zi_Model 27 (by decide) hw rfl hd kk
theorem gf_Model_28  (K : zOk X Γ cc own nL d rt) {idx : Nat} (hw : Cond.fieldLink own idx "PeriodSlotsModel" "moves" "Z" ∈ zU) (hd : decode cc pc = .ok (.getfield idx, 3)) (kk : zV X Γ Q (pc + 3) lv (.int (h 51 10) :: st) h g) : zV X Γ Q pc lv (zR X 51 :: st) h g :=
  zr_get K (by decide) (zC_Model X g _) rfl zi_Model 28 (by decide) hw rfl hd kk
theorem pf_Model_28  {x : Int32} (K : zOk X Γ cc own nL d rt) (hx : x = 0 ∨ x = 1) {idx : Nat} (hw : Cond.fieldLink own idx "PeriodSlotsModel" "moves" "Z" ∈ zU) (hd : decode cc pc = .ok (.putfield idx, 3)) (kk : zV X Γ Q (pc + 3) lv st (zup h 51 10 x) g) : zV X Γ Q pc lv (.int x :: zR X 51 :: st) h g :=
  zr_put K (by decide) (zC_Model X g _) rfl zi_Model zY_Model zY_Model_ok zT_Model_nm 28 (by decide) hw rfl (by rcases hx with rfl | rfl <;> rfl) (by rcases hx with rfl | rfl <;> rfl) (Nat.le_of_ble_eq_true rfl) (zw_up X h g (by rw [zC_Model X g _]; rfl)) hd kk
theorem gf_Model_29  (K : zOk X Γ cc own nL d rt) {idx : Nat} (hw : Cond.fieldLink own idx "PeriodSlotsModel" "movingRounds" "I" ∈ zU) (hd : decode cc pc = .ok (.getfield idx, 3)) (kk : zV X Γ Q (pc + 3) lv (.int (h 51 11) :: st) h g) : zV X Γ Q pc lv (zR X 51 :: st) h g :=
  zr_get K (by decide) (zC_Model X g _) rfl zi_Model 29 (by decide) hw rfl hd kk
theorem pf_Model_29  {x : Int32} (K : zOk X Γ cc own nL d rt) {idx : Nat} (hw : Cond.fieldLink own idx "PeriodSlotsModel" "movingRounds" "I" ∈ zU) (hd : decode cc pc = .ok (.putfield idx, 3)) (kk : zV X Γ Q (pc + 3) lv st (zup h 51 11 x) g) : zV X Γ Q pc lv (.int x :: zR X 51 :: st) h g :=
  zr_put K (by decide) (zC_Model X g _) rfl zi_Model zY_Model zY_Model_ok zT_Model_nm 29 (by decide) hw rfl rfl rfl (Nat.le_of_ble_eq_true rfl) (zw_up X h g (by rw [zC_Model X g _]; rfl)) hd kk
theorem gf_Model_30  (K : zOk X Γ cc own nL d rt) {idx : Nat} (hw : Cond.fieldLink own idx "PeriodSlotsModel" "planned" "[I" ∈ zU) (hd : decode cc pc = .ok (.getfield idx, 3)) (kk : zV X Γ Q (pc + 3) lv (zR X 69 :: st) h g) : zV X Γ Q pc lv (zR X 51 :: st) h g :=
  zr_get K (by decide) (zC_Model X g _) rfl zi_Model 30 (by decide) hw rfl hd kk
theorem gf_Model_31  (K : zOk X Γ cc own nL d rt) {idx : Nat} (hw : Cond.fieldLink own idx "PeriodSlotsModel" "worth" "[I" ∈ zU) (hd : decode cc pc = .ok (.getfield idx, 3)) (kk : zV X Γ Q (pc + 3) lv (zR X 70 :: st) h g) : zV X Γ Q pc lv (zR X 51 :: st) h g :=
  zr_get K (by decide) (zC_Model X g _) rfl zi_Model 31 (by decide) hw rfl hd kk
end ZG
end
section
/-! Words that the walks use, by their places in the tables: by program. -/
theorem m54 : Cond.initialized "PeriodSlots" ∈ zU := zU_in (i := 54) (by decide +kernel) rfl
theorem m95 : Cond.fieldLink "PeriodSlots$Mesh" 45 "PeriodSlots$Mesh" "count" "I" ∈ zU := zU_in (i := 95) (by decide +kernel) rfl
theorem m56 : Cond.initialized "PeriodSlots$Mesh" ∈ zU := zU_in (i := 56) (by decide +kernel) rfl
theorem m322 : Cond.static ⟨"PeriodSlots", "has", "(II)Z"⟩ ∈ zU := zU_in (i := 322) (by decide +kernel) rfl
theorem m107 : Cond.fieldLink "PeriodSlots$Mesh" 15 "PeriodSlots$Mesh" "links" "[I" ∈ zU := zU_in (i := 107) (by decide +kernel) rfl
theorem m317 : Cond.methodLink "PeriodSlots$Mesh" 86 ⟨"PeriodSlots$Mesh", "neighboursOf", "(I)I"⟩ ∈ zU := zU_in (i := 317) (by decide +kernel) rfl
theorem m319 : Cond.instanceMethod ⟨"PeriodSlots$Mesh", "neighboursOf", "(I)I"⟩ ∈ zU := zU_in (i := 319) (by decide +kernel) rfl
theorem m2 : Cond.selects "PeriodSlots$Mesh" ⟨"PeriodSlots$Mesh", "neighboursOf", "(I)I"⟩ ⟨"PeriodSlots$Mesh", "neighboursOf", "(I)I"⟩ ∈ zU := zU_in (i := 2) (by decide +kernel) rfl
theorem m351 : Cond.constant "java/lang/Integer" 265 (1431655765) ∈ zU := zU_in (i := 351) (by decide +kernel) rfl
theorem m352 : Cond.constant "java/lang/Integer" 266 (858993459) ∈ zU := zU_in (i := 352) (by decide +kernel) rfl
theorem m353 : Cond.constant "java/lang/Integer" 267 (252645135) ∈ zU := zU_in (i := 353) (by decide +kernel) rfl
theorem m64 : Cond.initialized "java/lang/Integer" ∈ zU := zU_in (i := 64) (by decide +kernel) rfl
theorem m348 : Cond.methodLink "PeriodSlots$Mesh" 76 ⟨"java/lang/Integer", "bitCount", "(I)I"⟩ ∈ zU := zU_in (i := 348) (by decide +kernel) rfl
theorem m349 : Cond.static ⟨"java/lang/Integer", "bitCount", "(I)I"⟩ ∈ zU := zU_in (i := 349) (by decide +kernel) rfl
theorem m104 : Cond.fieldLink "PeriodSlots$Mesh" 9 "PeriodSlots$Mesh" "periods" "[I" ∈ zU := zU_in (i := 104) (by decide +kernel) rfl
theorem m117 : Cond.fieldLink "PeriodSlots$Mesh" 24 "PeriodSlots$Mesh" "patterns" "[I" ∈ zU := zU_in (i := 117) (by decide +kernel) rfl
theorem m124 : Cond.fieldLink "PeriodSlots$Mesh" 36 "PeriodSlots$Mesh" "ticks" "[I" ∈ zU := zU_in (i := 124) (by decide +kernel) rfl
theorem m111 : Cond.fieldLink "PeriodSlots$Mesh" 18 "PeriodSlots$Mesh" "offsets" "[I" ∈ zU := zU_in (i := 111) (by decide +kernel) rfl
theorem m309 : Cond.methodLink "PeriodSlots$Mesh" 119 ⟨"PeriodSlots$Mesh", "ticksAt", "(II)I"⟩ ∈ zU := zU_in (i := 309) (by decide +kernel) rfl
theorem m310 : Cond.instanceMethod ⟨"PeriodSlots$Mesh", "ticksAt", "(II)I"⟩ ∈ zU := zU_in (i := 310) (by decide +kernel) rfl
theorem m311 : Cond.selects "PeriodSlots$Mesh" ⟨"PeriodSlots$Mesh", "ticksAt", "(II)I"⟩ ⟨"PeriodSlots$Mesh", "ticksAt", "(II)I"⟩ ∈ zU := zU_in (i := 311) (by decide +kernel) rfl
theorem m126 : Cond.fieldLink "PeriodSlots$Mesh" 39 "PeriodSlots$Mesh" "occupied" "[I" ∈ zU := zU_in (i := 126) (by decide +kernel) rfl
theorem m114 : Cond.fieldLink "PeriodSlots$Mesh" 21 "PeriodSlots$Mesh" "olds" "[I" ∈ zU := zU_in (i := 114) (by decide +kernel) rfl
end
section
/-! Walks of methods, by program (wip/whole/gen). -/
theorem d_X6_has_0 : decode prog_1_method_42_code 0 = .ok (.iload_n 0, 1) := by decide +kernel
theorem d_X6_has_1 : decode prog_1_method_42_code 1 = .ok (.iload_n 1, 1) := by decide +kernel
theorem d_X6_has_2 : decode prog_1_method_42_code 2 = .ok (.ishr, 1) := by decide +kernel
theorem d_X6_has_3 : decode prog_1_method_42_code 3 = .ok (.iconst 1, 1) := by decide +kernel
theorem d_X6_has_4 : decode prog_1_method_42_code 4 = .ok (.iand, 1) := by decide +kernel
theorem d_X6_has_5 : decode prog_1_method_42_code 5 = .ok (.ifCond .eq 7, 3) := by decide +kernel
theorem d_X6_has_8 : decode prog_1_method_42_code 8 = .ok (.iconst 1, 1) := by decide +kernel
theorem d_X6_has_9 : decode prog_1_method_42_code 9 = .ok (.goto 4, 3) := by decide +kernel
theorem d_X6_has_12 : decode prog_1_method_42_code 12 = .ok (.iconst 0, 1) := by decide +kernel
theorem d_X6_has_13 : decode prog_1_method_42_code 13 = .ok (.ireturn, 1) := by decide +kernel
abbrev M_Slots_has : zMT := (⟨"PeriodSlots", "has", "(II)Z"⟩, prog_1_method_42_code, 2, (some .boolean))
theorem k_Slots_has : zcall M_Slots_has 2 := ⟨zU_in (i := 323) (by decide +kernel) rfl, m54, ⟨by decide, by decide, by decide +kernel⟩, by decide⟩
def o_Slots_has (set : Int32) (k : Int32) : Bool :=
  (!(decide (((zsar set k) &&& 1) = 0)))
set_option maxHeartbeats 2000000 in
theorem c_Slots_has (X : zXT) (h : zHp) (g : zLg) (set : Int32) (k : Int32) : zDi X M_Slots_has 0 [.int set, .int k] h g (zI (zb (o_Slots_has set k))) h g := by
  refine zDi_of "PeriodSlots" prog_1_method_42_code 2 (some .boolean) rfl (by decide) [zI set, zI k] rfl (fun _ q => q) (Nat.le_of_ble_eq_true rfl) ?_
  intro Γ Q C hQ
  refine zr_iload_n C d_X6_has_0 rfl ?_
  refine zr_iload_n C d_X6_has_1 rfl ?_
  refine zr_ishr C d_X6_has_2 ?_
  refine zr_iconst C (v := 1) d_X6_has_3 (by decide) ?_
  refine zr_iand C d_X6_has_4 ?_
  suffices hJ5 : ∀ (y1 : Bool), y1 = (!(decide (((zsar set k) &&& 1) = 0))) → zV X Γ Q 13 [none, none] [.int (zb y1)] h g by
    refine zr_if_eq C 12 d_X6_has_5 (by decide) (fun c5 => ?_) (fun c5 => ?_)
    · refine zr_iconst C (v := 0) d_X6_has_12 (by decide) ?_
      refine zr_lv [none, none] (by simp [zle]) ?_
      exact hJ5 false (by simp [c5])
    · refine zr_iconst C (v := 1) d_X6_has_8 (by decide) ?_
      refine zr_goto C 13 d_X6_has_9 (by decide) ?_
      refine zr_lv [none, none] (by simp [zle]) ?_
      exact hJ5 true (by simp [c5])
  intro y1 ey1
  subst ey1
  have eR : o_Slots_has set k = (!(decide (((zsar set k) &&& 1) = 0))) := by unfold o_Slots_has; exact rfl
  subst hQ
  rw [eR]
  exact zr_iretz C (zb_01 _) d_X6_has_13
theorem d_X1_exists_0 : decode prog_3_method_6_code 0 = .ok (.iload_n 1, 1) := by decide +kernel
theorem d_X1_exists_1 : decode prog_3_method_6_code 1 = .ok (.ifCond .lt 15, 3) := by decide +kernel
theorem d_X1_exists_4 : decode prog_3_method_6_code 4 = .ok (.iload_n 1, 1) := by decide +kernel
theorem d_X1_exists_5 : decode prog_3_method_6_code 5 = .ok (.aload_n 0, 1) := by decide +kernel
theorem d_X1_exists_6 : decode prog_3_method_6_code 6 = .ok (.getfield 45, 3) := by decide +kernel
theorem d_X1_exists_9 : decode prog_3_method_6_code 9 = .ok (.if_icmp .ge 7, 3) := by decide +kernel
theorem d_X1_exists_12 : decode prog_3_method_6_code 12 = .ok (.iconst 1, 1) := by decide +kernel
theorem d_X1_exists_13 : decode prog_3_method_6_code 13 = .ok (.goto 4, 3) := by decide +kernel
theorem d_X1_exists_16 : decode prog_3_method_6_code 16 = .ok (.iconst 0, 1) := by decide +kernel
theorem d_X1_exists_17 : decode prog_3_method_6_code 17 = .ok (.ireturn, 1) := by decide +kernel
abbrev M_Mesh_exists : zMT := (⟨"PeriodSlots$Mesh", "exists", "(I)Z"⟩, prog_3_method_6_code, 2, (some .boolean))
theorem k_Mesh_exists : zcall M_Mesh_exists 1 := ⟨zU_in (i := 361) (by decide +kernel) rfl, m56, ⟨by decide, by decide, by decide +kernel⟩, by decide⟩
def o_Mesh_exists (h : zHp) (b : Nat) (v : Int32) : Bool :=
  (!(decide (v < 0)) && (!(decide ((h b 0) ≤ v))))
set_option maxHeartbeats 2000000 in
theorem c_Mesh_exists (X : zXT) (h : zHp) (g : zLg) (b : Nat) (v : Int32) (hb : b = 3 ∨ b = 15 ∨ b = 27) : zDi X M_Mesh_exists 0 [zR X b, .int v] h g (zI (zb (o_Mesh_exists h b v))) h g := by
  refine zDi_of "PeriodSlots$Mesh" prog_3_method_6_code 2 (some .boolean) rfl (by decide) [zO X b, zI v] rfl (fun _ q => q) (Nat.le_of_ble_eq_true rfl) ?_
  intro Γ Q C hQ
  refine zr_iload_n C d_X1_exists_0 rfl ?_
  suffices hJ1 : ∀ (y1 : Bool), y1 = (!(decide (v < 0)) && (!(decide ((h b 0) ≤ v)))) → zV X Γ Q 17 [none, none] [.int (zb y1)] h g by
    refine zr_if_lt C 16 d_X1_exists_1 (by decide) (fun c1 => ?_) (fun c1 => ?_)
    · refine zr_iconst C (v := 0) d_X1_exists_16 (by decide) ?_
      refine zr_lv [none, none] (by simp [zle]) ?_
      exact hJ1 false (by simp [c1])
    · refine zr_iload_n C d_X1_exists_4 rfl ?_
      refine zr_aload_n C d_X1_exists_5 rfl ?_
      refine gf_Mesh_0 C hb m95 d_X1_exists_6 ?_
      refine zr_icmp_ge C 16 d_X1_exists_9 (by decide) (fun c9 => ?_) (fun c9 => ?_)
      · refine zr_iconst C (v := 0) d_X1_exists_16 (by decide) ?_
        refine zr_lv [none, none] (by simp [zle]) ?_
        exact hJ1 false (by simp [c1, c9])
      · refine zr_iconst C (v := 1) d_X1_exists_12 (by decide) ?_
        refine zr_goto C 17 d_X1_exists_13 (by decide) ?_
        refine zr_lv [none, none] (by simp [zle]) ?_
        exact hJ1 true (by simp [c1, c9])
  intro y1 ey1
  subst ey1
  have eR : o_Mesh_exists h b v = (!(decide (v < 0)) && (!(decide ((h b 0) ≤ v)))) := by unfold o_Mesh_exists; exact rfl
  subst hQ
  rw [eR]
  exact zr_iretz C (zb_01 _) d_X1_exists_17
theorem d_X1_neighboursOf_0 : decode prog_3_method_15_code 0 = .ok (.iconst 0, 1) := by decide +kernel
theorem d_X1_neighboursOf_1 : decode prog_3_method_15_code 1 = .ok (.istore_n 2, 1) := by decide +kernel
theorem d_X1_neighboursOf_2 : decode prog_3_method_15_code 2 = .ok (.iconst 0, 1) := by decide +kernel
theorem d_X1_neighboursOf_3 : decode prog_3_method_15_code 3 = .ok (.istore_n 3, 1) := by decide +kernel
theorem d_X1_neighboursOf_4 : decode prog_3_method_15_code 4 = .ok (.iload_n 3, 1) := by decide +kernel
theorem d_X1_neighboursOf_5 : decode prog_3_method_15_code 5 = .ok (.aload_n 0, 1) := by decide +kernel
theorem d_X1_neighboursOf_6 : decode prog_3_method_15_code 6 = .ok (.getfield 45, 3) := by decide +kernel
theorem d_X1_neighboursOf_9 : decode prog_3_method_15_code 9 = .ok (.if_icmp .ge 26, 3) := by decide +kernel
theorem d_X1_neighboursOf_12 : decode prog_3_method_15_code 12 = .ok (.iload_n 1, 1) := by decide +kernel
theorem d_X1_neighboursOf_13 : decode prog_3_method_15_code 13 = .ok (.iload_n 3, 1) := by decide +kernel
theorem d_X1_neighboursOf_14 : decode prog_3_method_15_code 14 = .ok (.invokestatic 89, 3) := by decide +kernel
theorem d_X1_neighboursOf_17 : decode prog_3_method_15_code 17 = .ok (.ifCond .eq 12, 3) := by decide +kernel
theorem d_X1_neighboursOf_20 : decode prog_3_method_15_code 20 = .ok (.iload_n 2, 1) := by decide +kernel
theorem d_X1_neighboursOf_21 : decode prog_3_method_15_code 21 = .ok (.aload_n 0, 1) := by decide +kernel
theorem d_X1_neighboursOf_22 : decode prog_3_method_15_code 22 = .ok (.getfield 15, 3) := by decide +kernel
theorem d_X1_neighboursOf_25 : decode prog_3_method_15_code 25 = .ok (.iload_n 3, 1) := by decide +kernel
theorem d_X1_neighboursOf_26 : decode prog_3_method_15_code 26 = .ok (.iaload, 1) := by decide +kernel
theorem d_X1_neighboursOf_27 : decode prog_3_method_15_code 27 = .ok (.ior, 1) := by decide +kernel
theorem d_X1_neighboursOf_28 : decode prog_3_method_15_code 28 = .ok (.istore_n 2, 1) := by decide +kernel
theorem d_X1_neighboursOf_29 : decode prog_3_method_15_code 29 = .ok (.iinc 3 1, 3) := by decide +kernel
theorem d_X1_neighboursOf_32 : decode prog_3_method_15_code 32 = .ok (.goto (-28), 3) := by decide +kernel
theorem d_X1_neighboursOf_35 : decode prog_3_method_15_code 35 = .ok (.iload_n 2, 1) := by decide +kernel
theorem d_X1_neighboursOf_36 : decode prog_3_method_15_code 36 = .ok (.ireturn, 1) := by decide +kernel
abbrev M_Mesh_neighboursOf : zMT := (⟨"PeriodSlots$Mesh", "neighboursOf", "(I)I"⟩, prog_3_method_15_code, 4, (some .int))
theorem k_Mesh_neighboursOf : zcall M_Mesh_neighboursOf 1 := ⟨zU_in (i := 320) (by decide +kernel) rfl, m56, ⟨by decide, by decide, by decide +kernel⟩, by decide⟩
def o_Mesh_neighboursOf (h : zHp) (b : Nat) (set : Int32) : Int32 :=
  (zrep (fun (i4_1 : Nat) (s4_1 : Int32) => (if (o_Slots_has set (nI i4_1)) = true then (s4_1 ||| (h (b + 2) i4_1)) else s4_1)) 0 (zcn (h b 0)))
set_option maxHeartbeats 2000000 in
theorem c_Mesh_neighboursOf (X : zXT) (h : zHp) (g : zLg) (b : Nat) (set : Int32) (hb : b = 3 ∨ b = 15 ∨ b = 27) (hf0 : zfit h b 0 8) : zDi X M_Mesh_neighboursOf 1 [zR X b, .int set] h g (zI (o_Mesh_neighboursOf h b set)) h g := by
  have hf0_1 := hf0.1
  refine zDi_of "PeriodSlots$Mesh" prog_3_method_15_code 4 (some .int) rfl (by decide) [zO X b, zI set, none, none] rfl (fun _ q => q) (Nat.le_of_ble_eq_true rfl) ?_
  intro Γ Q C hQ
  refine zr_iconst C (v := 0) d_X1_neighboursOf_0 (by decide) ?_
  refine zr_istore_n C [zO X b, zI set, zI 0, none] d_X1_neighboursOf_1 (Nat.le_of_ble_eq_true rfl) rfl rfl ?_
  refine zr_iconst C (v := 0) d_X1_neighboursOf_2 (by decide) ?_
  refine zr_istore_n C [zO X b, zI set, zI 0, zI 0] d_X1_neighboursOf_3 (Nat.le_of_ble_eq_true rfl) rfl rfl ?_
  refine zfor (f := (fun (i4_1 : Nat) (s4_1 : Int32) => (if (o_Slots_has set (nI i4_1)) = true then (s4_1 ||| (h (b + 2) i4_1)) else s4_1))) (a := 0) (fun i4_1 s4_1 => zV X Γ Q 4 [zO X b, zI set, zI s4_1, zI (nI i4_1)] [] h g) (fun _ _ => True) (zcn (h b 0)) trivial (fun i4_1 s4_1 hi4_1 hI4_1 => ⟨trivial, fun hk4_1 => ?_⟩) (fun r4_1 er4_1 hI4_1 => ?_)
  · refine zr_iload_n C d_X1_neighboursOf_4 rfl ?_
    refine zr_aload_n C d_X1_neighboursOf_5 rfl ?_
    refine gf_Mesh_0 C hb m95 d_X1_neighboursOf_6 ?_
    refine zr_icmp_ge C 35 d_X1_neighboursOf_9 (by decide) (fun c => absurd c (zge_no rfl (by omega))) (fun _ => ?_)
    refine zr_iload_n C d_X1_neighboursOf_12 rfl ?_
    refine zr_iload_n C d_X1_neighboursOf_13 rfl ?_
    refine zr_callNi (As := [.int set, .int (nI i4_1)]) (st := []) C (c_Slots_has X h g set (nI i4_1)) k_Slots_has (by simp [zNest]) m322 rfl (by decide) rfl (Nat.le_of_ble_eq_true rfl) d_X1_neighboursOf_14 ?_
    suffices hJ17 : ∀ (y2 : Int32), y2 = (if (o_Slots_has set (nI i4_1)) = true then (s4_1 ||| (h (b + 2) i4_1)) else s4_1) → zV X Γ Q 29 [zO X b, zI set, zI y2, zI (nI i4_1)] [] h g by
      refine zr_ifz_eq C 29 d_X1_neighboursOf_17 (by decide) (fun c17 => ?_) (fun c17 => ?_)
      · exact hJ17 s4_1 (((if_neg (zbf c17)))).symm
      · refine zr_iload_n C d_X1_neighboursOf_20 rfl ?_
        refine zr_aload_n C d_X1_neighboursOf_21 rfl ?_
        refine gf_Mesh_4 C hb m107 d_X1_neighboursOf_22 ?_
        refine zr_iload_n C d_X1_neighboursOf_25 rfl ?_
        refine zr_iald C (za_mesh_2 hb) (i4_1) rfl (by omega) (by decide) d_X1_neighboursOf_26 ?_
        refine zr_ior C d_X1_neighboursOf_27 ?_
        refine zr_istore_n C [zO X b, zI set, zI (s4_1 ||| (h (b + 2) i4_1)), zI (nI i4_1)] d_X1_neighboursOf_28 (Nat.le_of_ble_eq_true rfl) rfl rfl ?_
        exact hJ17 (s4_1 ||| (h (b + 2) i4_1)) (((if_pos c17))).symm
    intro y2 ey2
    refine zr_iinc C [zO X b, zI set, zI y2, zI (nI (i4_1 + 1))] (v := (nI (i4_1 + 1))) d_X1_neighboursOf_29 rfl (zn_add rfl rfl) (Nat.le_of_ble_eq_true rfl) rfl rfl ?_
    refine zr_goto C 4 d_X1_neighboursOf_32 (by decide) ?_
    subst ey2
    exact hk4_1 (if (o_Slots_has set (nI i4_1)) = true then (s4_1 ||| (h (b + 2) i4_1)) else s4_1) rfl.symm
  refine zr_iload_n C d_X1_neighboursOf_4 rfl ?_
  refine zr_aload_n C d_X1_neighboursOf_5 rfl ?_
  refine gf_Mesh_0 C hb m95 d_X1_neighboursOf_6 ?_
  refine zr_icmp_ge C 35 d_X1_neighboursOf_9 (by decide) (fun _ => ?_) (fun c => absurd (zge_yes rfl (by omega) (by have := zcn_small (h b 0); omega)) c)
  refine zr_iload_n C d_X1_neighboursOf_35 rfl ?_
  subst er4_1
  have eR : o_Mesh_neighboursOf h b set = (zrep (fun (i4_1 : Nat) (s4_1 : Int32) => (if (o_Slots_has set (nI i4_1)) = true then (s4_1 ||| (h (b + 2) i4_1)) else s4_1)) 0 (zcn (h b 0))) := by unfold o_Mesh_neighboursOf; exact rfl
  subst hQ
  rw [eR]
  exact zr_ireti C d_X1_neighboursOf_36
theorem d_X1_netOf_0 : decode prog_3_method_14_code 0 = .ok (.iconst 1, 1) := by decide +kernel
theorem d_X1_netOf_1 : decode prog_3_method_14_code 1 = .ok (.iload_n 1, 1) := by decide +kernel
theorem d_X1_netOf_2 : decode prog_3_method_14_code 2 = .ok (.ishl, 1) := by decide +kernel
theorem d_X1_netOf_3 : decode prog_3_method_14_code 3 = .ok (.istore_n 2, 1) := by decide +kernel
theorem d_X1_netOf_4 : decode prog_3_method_14_code 4 = .ok (.iconst 1, 1) := by decide +kernel
theorem d_X1_netOf_5 : decode prog_3_method_14_code 5 = .ok (.istore_n 3, 1) := by decide +kernel
theorem d_X1_netOf_6 : decode prog_3_method_14_code 6 = .ok (.iload_n 3, 1) := by decide +kernel
theorem d_X1_netOf_7 : decode prog_3_method_14_code 7 = .ok (.aload_n 0, 1) := by decide +kernel
theorem d_X1_netOf_8 : decode prog_3_method_14_code 8 = .ok (.getfield 45, 3) := by decide +kernel
theorem d_X1_netOf_11 : decode prog_3_method_14_code 11 = .ok (.if_icmp .ge 17, 3) := by decide +kernel
theorem d_X1_netOf_14 : decode prog_3_method_14_code 14 = .ok (.iload_n 2, 1) := by decide +kernel
theorem d_X1_netOf_15 : decode prog_3_method_14_code 15 = .ok (.aload_n 0, 1) := by decide +kernel
theorem d_X1_netOf_16 : decode prog_3_method_14_code 16 = .ok (.iload_n 2, 1) := by decide +kernel
theorem d_X1_netOf_17 : decode prog_3_method_14_code 17 = .ok (.invokevirtual 86, 3) := by decide +kernel
theorem d_X1_netOf_20 : decode prog_3_method_14_code 20 = .ok (.ior, 1) := by decide +kernel
theorem d_X1_netOf_21 : decode prog_3_method_14_code 21 = .ok (.istore_n 2, 1) := by decide +kernel
theorem d_X1_netOf_22 : decode prog_3_method_14_code 22 = .ok (.iinc 3 1, 3) := by decide +kernel
theorem d_X1_netOf_25 : decode prog_3_method_14_code 25 = .ok (.goto (-19), 3) := by decide +kernel
theorem d_X1_netOf_28 : decode prog_3_method_14_code 28 = .ok (.iload_n 2, 1) := by decide +kernel
theorem d_X1_netOf_29 : decode prog_3_method_14_code 29 = .ok (.ireturn, 1) := by decide +kernel
abbrev M_Mesh_netOf : zMT := (⟨"PeriodSlots$Mesh", "netOf", "(I)I"⟩, prog_3_method_14_code, 4, (some .int))
theorem k_Mesh_netOf : zcall M_Mesh_netOf 1 := ⟨zU_in (i := 438) (by decide +kernel) rfl, m56, ⟨by decide, by decide, by decide +kernel⟩, by decide⟩
def o_Mesh_netOf (h : zHp) (b : Nat) (v : Nat) : Int32 :=
  (zrep (fun (i6_1 : Nat) (s6_1 : Int32) => (s6_1 ||| (o_Mesh_neighboursOf h b s6_1))) (zshl 1 (nI v)) (zcn (h b 0) - 1))
set_option maxHeartbeats 2000000 in
theorem c_Mesh_netOf (X : zXT) (h : zHp) (g : zLg) (b : Nat) (v : Nat) {x_v : Int32} (e_v : x_v = nI v) (hb : b = 3 ∨ b = 15 ∨ b = 27) (hf0 : zfit h b 0 8) : zDi X M_Mesh_netOf 2 [zR X b, .int x_v] h g (zI (o_Mesh_netOf h b v)) h g := by
  subst e_v
  have hf0_1 := hf0.1
  refine zDi_of "PeriodSlots$Mesh" prog_3_method_14_code 4 (some .int) rfl (by decide) [zO X b, zI (nI v), none, none] rfl (fun _ q => q) (Nat.le_of_ble_eq_true rfl) ?_
  intro Γ Q C hQ
  refine zr_iconst C (v := 1) d_X1_netOf_0 (by decide) ?_
  refine zr_iload_n C d_X1_netOf_1 rfl ?_
  refine zr_ishl C d_X1_netOf_2 ?_
  refine zr_istore_n C [zO X b, zI (nI v), zI (zshl 1 (nI v)), none] d_X1_netOf_3 (Nat.le_of_ble_eq_true rfl) rfl rfl ?_
  refine zr_iconst C (v := 1) d_X1_netOf_4 (by decide) ?_
  refine zr_istore_n C [zO X b, zI (nI v), zI (zshl 1 (nI v)), zI 1] d_X1_netOf_5 (Nat.le_of_ble_eq_true rfl) rfl rfl ?_
  refine zr_lv [zO X b, none, zI (zshl 1 (nI v)), zI 1] (by simp [zle]) ?_
  refine zfor (f := (fun (i6_1 : Nat) (s6_1 : Int32) => (s6_1 ||| (o_Mesh_neighboursOf h b s6_1)))) (a := (zshl 1 (nI v))) (fun i6_1 s6_1 => zV X Γ Q 6 [zO X b, none, zI s6_1, zI (nI (1 + i6_1))] [] h g) (fun _ _ => True) (zcn (h b 0) - 1) trivial (fun i6_1 s6_1 hi6_1 hI6_1 => ⟨trivial, fun hk6_1 => ?_⟩) (fun r6_1 er6_1 hI6_1 => ?_)
  · refine zr_iload_n C d_X1_netOf_6 rfl ?_
    refine zr_aload_n C d_X1_netOf_7 rfl ?_
    refine gf_Mesh_0 C hb m95 d_X1_netOf_8 ?_
    refine zr_icmp_ge C 28 d_X1_netOf_11 (by decide) (fun c => absurd c (zge_no rfl (by omega))) (fun _ => ?_)
    refine zr_iload_n C d_X1_netOf_14 rfl ?_
    refine zr_aload_n C d_X1_netOf_15 rfl ?_
    refine zr_iload_n C d_X1_netOf_16 rfl ?_
    refine zr_callVi (As := [.int s6_1]) (st := [.int s6_1]) (c := b) C (c_Mesh_neighboursOf X h g b s6_1 hb hf0) k_Mesh_neighboursOf m317 m319 m2 (by omega) (zC_Mesh hb X _ _) rfl rfl (by decide) rfl (Nat.le_of_ble_eq_true rfl) d_X1_netOf_17 ?_
    refine zr_ior C d_X1_netOf_20 ?_
    refine zr_istore_n C [zO X b, none, zI (s6_1 ||| (o_Mesh_neighboursOf h b s6_1)), zI (nI (1 + i6_1))] d_X1_netOf_21 (Nat.le_of_ble_eq_true rfl) rfl rfl ?_
    refine zr_iinc C [zO X b, none, zI (s6_1 ||| (o_Mesh_neighboursOf h b s6_1)), zI (nI ((1 + i6_1) + 1))] (v := (nI ((1 + i6_1) + 1))) d_X1_netOf_22 rfl (zn_add rfl rfl) (Nat.le_of_ble_eq_true rfl) rfl rfl ?_
    refine zr_goto C 6 d_X1_netOf_25 (by decide) ?_
    exact hk6_1 (s6_1 ||| (o_Mesh_neighboursOf h b s6_1)) rfl.symm
  refine zr_iload_n C d_X1_netOf_6 rfl ?_
  refine zr_aload_n C d_X1_netOf_7 rfl ?_
  refine gf_Mesh_0 C hb m95 d_X1_netOf_8 ?_
  refine zr_icmp_ge C 28 d_X1_netOf_11 (by decide) (fun _ => ?_) (fun c => absurd (zge_yes rfl (by omega) (by have := zcn_small (h b 0); omega)) c)
  refine zr_iload_n C d_X1_netOf_28 rfl ?_
  subst er6_1
  have eR : o_Mesh_netOf h b v = (zrep (fun (i6_1 : Nat) (s6_1 : Int32) => (s6_1 ||| (o_Mesh_neighboursOf h b s6_1))) (zshl 1 (nI v)) (zcn (h b 0) - 1)) := by unfold o_Mesh_netOf; exact rfl
  subst hQ
  rw [eR]
  exact zr_ireti C d_X1_netOf_29
theorem d_J6_bitCount_0f7a4_0 : decode prog_10_method_49_code 0 = .ok (.iload_n 0, 1) := by decide +kernel
theorem d_J6_bitCount_0f7a4_1 : decode prog_10_method_49_code 1 = .ok (.iload_n 0, 1) := by decide +kernel
theorem d_J6_bitCount_0f7a4_2 : decode prog_10_method_49_code 2 = .ok (.iconst 1, 1) := by decide +kernel
theorem d_J6_bitCount_0f7a4_3 : decode prog_10_method_49_code 3 = .ok (.iushr, 1) := by decide +kernel
theorem d_J6_bitCount_0f7a4_4 : decode prog_10_method_49_code 4 = .ok (.ldc_w 265, 3) := by decide +kernel
theorem d_J6_bitCount_0f7a4_7 : decode prog_10_method_49_code 7 = .ok (.iand, 1) := by decide +kernel
theorem d_J6_bitCount_0f7a4_8 : decode prog_10_method_49_code 8 = .ok (.isub, 1) := by decide +kernel
theorem d_J6_bitCount_0f7a4_9 : decode prog_10_method_49_code 9 = .ok (.istore_n 0, 1) := by decide +kernel
theorem d_J6_bitCount_0f7a4_10 : decode prog_10_method_49_code 10 = .ok (.iload_n 0, 1) := by decide +kernel
theorem d_J6_bitCount_0f7a4_11 : decode prog_10_method_49_code 11 = .ok (.ldc_w 266, 3) := by decide +kernel
theorem d_J6_bitCount_0f7a4_14 : decode prog_10_method_49_code 14 = .ok (.iand, 1) := by decide +kernel
theorem d_J6_bitCount_0f7a4_15 : decode prog_10_method_49_code 15 = .ok (.iload_n 0, 1) := by decide +kernel
theorem d_J6_bitCount_0f7a4_16 : decode prog_10_method_49_code 16 = .ok (.iconst 2, 1) := by decide +kernel
theorem d_J6_bitCount_0f7a4_17 : decode prog_10_method_49_code 17 = .ok (.iushr, 1) := by decide +kernel
theorem d_J6_bitCount_0f7a4_18 : decode prog_10_method_49_code 18 = .ok (.ldc_w 266, 3) := by decide +kernel
theorem d_J6_bitCount_0f7a4_21 : decode prog_10_method_49_code 21 = .ok (.iand, 1) := by decide +kernel
theorem d_J6_bitCount_0f7a4_22 : decode prog_10_method_49_code 22 = .ok (.iadd, 1) := by decide +kernel
theorem d_J6_bitCount_0f7a4_23 : decode prog_10_method_49_code 23 = .ok (.istore_n 0, 1) := by decide +kernel
theorem d_J6_bitCount_0f7a4_24 : decode prog_10_method_49_code 24 = .ok (.iload_n 0, 1) := by decide +kernel
theorem d_J6_bitCount_0f7a4_25 : decode prog_10_method_49_code 25 = .ok (.iload_n 0, 1) := by decide +kernel
theorem d_J6_bitCount_0f7a4_26 : decode prog_10_method_49_code 26 = .ok (.iconst 4, 1) := by decide +kernel
theorem d_J6_bitCount_0f7a4_27 : decode prog_10_method_49_code 27 = .ok (.iushr, 1) := by decide +kernel
theorem d_J6_bitCount_0f7a4_28 : decode prog_10_method_49_code 28 = .ok (.iadd, 1) := by decide +kernel
theorem d_J6_bitCount_0f7a4_29 : decode prog_10_method_49_code 29 = .ok (.ldc_w 267, 3) := by decide +kernel
theorem d_J6_bitCount_0f7a4_32 : decode prog_10_method_49_code 32 = .ok (.iand, 1) := by decide +kernel
theorem d_J6_bitCount_0f7a4_33 : decode prog_10_method_49_code 33 = .ok (.istore_n 0, 1) := by decide +kernel
theorem d_J6_bitCount_0f7a4_34 : decode prog_10_method_49_code 34 = .ok (.iload_n 0, 1) := by decide +kernel
theorem d_J6_bitCount_0f7a4_35 : decode prog_10_method_49_code 35 = .ok (.iload_n 0, 1) := by decide +kernel
theorem d_J6_bitCount_0f7a4_36 : decode prog_10_method_49_code 36 = .ok (.bipush 8, 2) := by decide +kernel
theorem d_J6_bitCount_0f7a4_38 : decode prog_10_method_49_code 38 = .ok (.iushr, 1) := by decide +kernel
theorem d_J6_bitCount_0f7a4_39 : decode prog_10_method_49_code 39 = .ok (.iadd, 1) := by decide +kernel
theorem d_J6_bitCount_0f7a4_40 : decode prog_10_method_49_code 40 = .ok (.istore_n 0, 1) := by decide +kernel
theorem d_J6_bitCount_0f7a4_41 : decode prog_10_method_49_code 41 = .ok (.iload_n 0, 1) := by decide +kernel
theorem d_J6_bitCount_0f7a4_42 : decode prog_10_method_49_code 42 = .ok (.iload_n 0, 1) := by decide +kernel
theorem d_J6_bitCount_0f7a4_43 : decode prog_10_method_49_code 43 = .ok (.bipush 16, 2) := by decide +kernel
theorem d_J6_bitCount_0f7a4_45 : decode prog_10_method_49_code 45 = .ok (.iushr, 1) := by decide +kernel
theorem d_J6_bitCount_0f7a4_46 : decode prog_10_method_49_code 46 = .ok (.iadd, 1) := by decide +kernel
theorem d_J6_bitCount_0f7a4_47 : decode prog_10_method_49_code 47 = .ok (.istore_n 0, 1) := by decide +kernel
theorem d_J6_bitCount_0f7a4_48 : decode prog_10_method_49_code 48 = .ok (.iload_n 0, 1) := by decide +kernel
theorem d_J6_bitCount_0f7a4_49 : decode prog_10_method_49_code 49 = .ok (.bipush 63, 2) := by decide +kernel
theorem d_J6_bitCount_0f7a4_51 : decode prog_10_method_49_code 51 = .ok (.iand, 1) := by decide +kernel
theorem d_J6_bitCount_0f7a4_52 : decode prog_10_method_49_code 52 = .ok (.ireturn, 1) := by decide +kernel
abbrev M_Int_bitCount : zMT := (⟨"java/lang/Integer", "bitCount", "(I)I"⟩, prog_10_method_49_code, 1, (some .int))
theorem k_Int_bitCount : zcall M_Int_bitCount 1 := ⟨zU_in (i := 350) (by decide +kernel) rfl, m64, ⟨by decide, by decide, by decide +kernel⟩, by decide⟩
def o_Int_bitCount (x : Int32) : Int32 :=
  ((((((((x - ((zshr x 1) &&& 1431655765)) &&& 858993459) + ((zshr (x - ((zshr x 1) &&& 1431655765)) 2) &&& 858993459)) + (zshr (((x - ((zshr x 1) &&& 1431655765)) &&& 858993459) + ((zshr (x - ((zshr x 1) &&& 1431655765)) 2) &&& 858993459)) 4)) &&& 252645135) + (zshr (((((x - ((zshr x 1) &&& 1431655765)) &&& 858993459) + ((zshr (x - ((zshr x 1) &&& 1431655765)) 2) &&& 858993459)) + (zshr (((x - ((zshr x 1) &&& 1431655765)) &&& 858993459) + ((zshr (x - ((zshr x 1) &&& 1431655765)) 2) &&& 858993459)) 4)) &&& 252645135) 8)) + (zshr ((((((x - ((zshr x 1) &&& 1431655765)) &&& 858993459) + ((zshr (x - ((zshr x 1) &&& 1431655765)) 2) &&& 858993459)) + (zshr (((x - ((zshr x 1) &&& 1431655765)) &&& 858993459) + ((zshr (x - ((zshr x 1) &&& 1431655765)) 2) &&& 858993459)) 4)) &&& 252645135) + (zshr (((((x - ((zshr x 1) &&& 1431655765)) &&& 858993459) + ((zshr (x - ((zshr x 1) &&& 1431655765)) 2) &&& 858993459)) + (zshr (((x - ((zshr x 1) &&& 1431655765)) &&& 858993459) + ((zshr (x - ((zshr x 1) &&& 1431655765)) 2) &&& 858993459)) 4)) &&& 252645135) 8)) 16)) &&& 63)
set_option maxHeartbeats 2000000 in
theorem c_Int_bitCount (X : zXT) (h : zHp) (g : zLg) (x : Int32) : zDi X M_Int_bitCount 0 [.int x] h g (zI (o_Int_bitCount x)) h g := by
  refine zDi_of "java/lang/Integer" prog_10_method_49_code 1 (some .int) rfl (by decide) [zI x] rfl (fun _ q => q) (Nat.le_of_ble_eq_true rfl) ?_
  intro Γ Q C hQ
  refine zr_iload_n C d_J6_bitCount_0f7a4_0 rfl ?_
  refine zr_iload_n C d_J6_bitCount_0f7a4_1 rfl ?_
  refine zr_iconst C (v := 1) d_J6_bitCount_0f7a4_2 (by decide) ?_
  refine zr_iushr C d_J6_bitCount_0f7a4_3 ?_
  refine zr_ldcw C (v := 1431655765) m351 d_J6_bitCount_0f7a4_4 ?_
  refine zr_iand C d_J6_bitCount_0f7a4_7 ?_
  refine zr_isub C d_J6_bitCount_0f7a4_8 ?_
  refine zr_istore_n C [zI (x - ((zshr x 1) &&& 1431655765))] d_J6_bitCount_0f7a4_9 (Nat.le_of_ble_eq_true rfl) rfl rfl ?_
  refine zr_iload_n C d_J6_bitCount_0f7a4_10 rfl ?_
  refine zr_ldcw C (v := 858993459) m352 d_J6_bitCount_0f7a4_11 ?_
  refine zr_iand C d_J6_bitCount_0f7a4_14 ?_
  refine zr_iload_n C d_J6_bitCount_0f7a4_15 rfl ?_
  refine zr_iconst C (v := 2) d_J6_bitCount_0f7a4_16 (by decide) ?_
  refine zr_iushr C d_J6_bitCount_0f7a4_17 ?_
  refine zr_ldcw C (v := 858993459) m352 d_J6_bitCount_0f7a4_18 ?_
  refine zr_iand C d_J6_bitCount_0f7a4_21 ?_
  refine zr_iadd C d_J6_bitCount_0f7a4_22 ?_
  refine zr_istore_n C [zI (((x - ((zshr x 1) &&& 1431655765)) &&& 858993459) + ((zshr (x - ((zshr x 1) &&& 1431655765)) 2) &&& 858993459))] d_J6_bitCount_0f7a4_23 (Nat.le_of_ble_eq_true rfl) rfl rfl ?_
  refine zr_iload_n C d_J6_bitCount_0f7a4_24 rfl ?_
  refine zr_iload_n C d_J6_bitCount_0f7a4_25 rfl ?_
  refine zr_iconst C (v := 4) d_J6_bitCount_0f7a4_26 (by decide) ?_
  refine zr_iushr C d_J6_bitCount_0f7a4_27 ?_
  refine zr_iadd C d_J6_bitCount_0f7a4_28 ?_
  refine zr_ldcw C (v := 252645135) m353 d_J6_bitCount_0f7a4_29 ?_
  refine zr_iand C d_J6_bitCount_0f7a4_32 ?_
  refine zr_istore_n C [zI (((((x - ((zshr x 1) &&& 1431655765)) &&& 858993459) + ((zshr (x - ((zshr x 1) &&& 1431655765)) 2) &&& 858993459)) + (zshr (((x - ((zshr x 1) &&& 1431655765)) &&& 858993459) + ((zshr (x - ((zshr x 1) &&& 1431655765)) 2) &&& 858993459)) 4)) &&& 252645135)] d_J6_bitCount_0f7a4_33 (Nat.le_of_ble_eq_true rfl) rfl rfl ?_
  refine zr_iload_n C d_J6_bitCount_0f7a4_34 rfl ?_
  refine zr_iload_n C d_J6_bitCount_0f7a4_35 rfl ?_
  refine zr_bipush C (v := 8) d_J6_bitCount_0f7a4_36 (by decide) ?_
  refine zr_iushr C d_J6_bitCount_0f7a4_38 ?_
  refine zr_iadd C d_J6_bitCount_0f7a4_39 ?_
  refine zr_istore_n C [zI ((((((x - ((zshr x 1) &&& 1431655765)) &&& 858993459) + ((zshr (x - ((zshr x 1) &&& 1431655765)) 2) &&& 858993459)) + (zshr (((x - ((zshr x 1) &&& 1431655765)) &&& 858993459) + ((zshr (x - ((zshr x 1) &&& 1431655765)) 2) &&& 858993459)) 4)) &&& 252645135) + (zshr (((((x - ((zshr x 1) &&& 1431655765)) &&& 858993459) + ((zshr (x - ((zshr x 1) &&& 1431655765)) 2) &&& 858993459)) + (zshr (((x - ((zshr x 1) &&& 1431655765)) &&& 858993459) + ((zshr (x - ((zshr x 1) &&& 1431655765)) 2) &&& 858993459)) 4)) &&& 252645135) 8))] d_J6_bitCount_0f7a4_40 (Nat.le_of_ble_eq_true rfl) rfl rfl ?_
  refine zr_iload_n C d_J6_bitCount_0f7a4_41 rfl ?_
  refine zr_iload_n C d_J6_bitCount_0f7a4_42 rfl ?_
  refine zr_bipush C (v := 16) d_J6_bitCount_0f7a4_43 (by decide) ?_
  refine zr_iushr C d_J6_bitCount_0f7a4_45 ?_
  refine zr_iadd C d_J6_bitCount_0f7a4_46 ?_
  refine zr_istore_n C [zI (((((((x - ((zshr x 1) &&& 1431655765)) &&& 858993459) + ((zshr (x - ((zshr x 1) &&& 1431655765)) 2) &&& 858993459)) + (zshr (((x - ((zshr x 1) &&& 1431655765)) &&& 858993459) + ((zshr (x - ((zshr x 1) &&& 1431655765)) 2) &&& 858993459)) 4)) &&& 252645135) + (zshr (((((x - ((zshr x 1) &&& 1431655765)) &&& 858993459) + ((zshr (x - ((zshr x 1) &&& 1431655765)) 2) &&& 858993459)) + (zshr (((x - ((zshr x 1) &&& 1431655765)) &&& 858993459) + ((zshr (x - ((zshr x 1) &&& 1431655765)) 2) &&& 858993459)) 4)) &&& 252645135) 8)) + (zshr ((((((x - ((zshr x 1) &&& 1431655765)) &&& 858993459) + ((zshr (x - ((zshr x 1) &&& 1431655765)) 2) &&& 858993459)) + (zshr (((x - ((zshr x 1) &&& 1431655765)) &&& 858993459) + ((zshr (x - ((zshr x 1) &&& 1431655765)) 2) &&& 858993459)) 4)) &&& 252645135) + (zshr (((((x - ((zshr x 1) &&& 1431655765)) &&& 858993459) + ((zshr (x - ((zshr x 1) &&& 1431655765)) 2) &&& 858993459)) + (zshr (((x - ((zshr x 1) &&& 1431655765)) &&& 858993459) + ((zshr (x - ((zshr x 1) &&& 1431655765)) 2) &&& 858993459)) 4)) &&& 252645135) 8)) 16))] d_J6_bitCount_0f7a4_47 (Nat.le_of_ble_eq_true rfl) rfl rfl ?_
  refine zr_iload_n C d_J6_bitCount_0f7a4_48 rfl ?_
  refine zr_bipush C (v := 63) d_J6_bitCount_0f7a4_49 (by decide) ?_
  refine zr_iand C d_J6_bitCount_0f7a4_51 ?_
  have eR : o_Int_bitCount x = ((((((((x - ((zshr x 1) &&& 1431655765)) &&& 858993459) + ((zshr (x - ((zshr x 1) &&& 1431655765)) 2) &&& 858993459)) + (zshr (((x - ((zshr x 1) &&& 1431655765)) &&& 858993459) + ((zshr (x - ((zshr x 1) &&& 1431655765)) 2) &&& 858993459)) 4)) &&& 252645135) + (zshr (((((x - ((zshr x 1) &&& 1431655765)) &&& 858993459) + ((zshr (x - ((zshr x 1) &&& 1431655765)) 2) &&& 858993459)) + (zshr (((x - ((zshr x 1) &&& 1431655765)) &&& 858993459) + ((zshr (x - ((zshr x 1) &&& 1431655765)) 2) &&& 858993459)) 4)) &&& 252645135) 8)) + (zshr ((((((x - ((zshr x 1) &&& 1431655765)) &&& 858993459) + ((zshr (x - ((zshr x 1) &&& 1431655765)) 2) &&& 858993459)) + (zshr (((x - ((zshr x 1) &&& 1431655765)) &&& 858993459) + ((zshr (x - ((zshr x 1) &&& 1431655765)) 2) &&& 858993459)) 4)) &&& 252645135) + (zshr (((((x - ((zshr x 1) &&& 1431655765)) &&& 858993459) + ((zshr (x - ((zshr x 1) &&& 1431655765)) 2) &&& 858993459)) + (zshr (((x - ((zshr x 1) &&& 1431655765)) &&& 858993459) + ((zshr (x - ((zshr x 1) &&& 1431655765)) 2) &&& 858993459)) 4)) &&& 252645135) 8)) 16)) &&& 63) := by unfold o_Int_bitCount; exact rfl
  subst hQ
  rw [eR]
  exact zr_ireti C d_J6_bitCount_0f7a4_52
theorem d_X1_linkCount_0 : decode prog_3_method_11_code 0 = .ok (.iconst 0, 1) := by decide +kernel
theorem d_X1_linkCount_1 : decode prog_3_method_11_code 1 = .ok (.istore_n 1, 1) := by decide +kernel
theorem d_X1_linkCount_2 : decode prog_3_method_11_code 2 = .ok (.iconst 0, 1) := by decide +kernel
theorem d_X1_linkCount_3 : decode prog_3_method_11_code 3 = .ok (.istore_n 2, 1) := by decide +kernel
theorem d_X1_linkCount_4 : decode prog_3_method_11_code 4 = .ok (.iload_n 2, 1) := by decide +kernel
theorem d_X1_linkCount_5 : decode prog_3_method_11_code 5 = .ok (.aload_n 0, 1) := by decide +kernel
theorem d_X1_linkCount_6 : decode prog_3_method_11_code 6 = .ok (.getfield 45, 3) := by decide +kernel
theorem d_X1_linkCount_9 : decode prog_3_method_11_code 9 = .ok (.if_icmp .ge 21, 3) := by decide +kernel
theorem d_X1_linkCount_12 : decode prog_3_method_11_code 12 = .ok (.iload_n 1, 1) := by decide +kernel
theorem d_X1_linkCount_13 : decode prog_3_method_11_code 13 = .ok (.aload_n 0, 1) := by decide +kernel
theorem d_X1_linkCount_14 : decode prog_3_method_11_code 14 = .ok (.getfield 15, 3) := by decide +kernel
theorem d_X1_linkCount_17 : decode prog_3_method_11_code 17 = .ok (.iload_n 2, 1) := by decide +kernel
theorem d_X1_linkCount_18 : decode prog_3_method_11_code 18 = .ok (.iaload, 1) := by decide +kernel
theorem d_X1_linkCount_19 : decode prog_3_method_11_code 19 = .ok (.invokestatic 76, 3) := by decide +kernel
theorem d_X1_linkCount_22 : decode prog_3_method_11_code 22 = .ok (.iadd, 1) := by decide +kernel
theorem d_X1_linkCount_23 : decode prog_3_method_11_code 23 = .ok (.istore_n 1, 1) := by decide +kernel
theorem d_X1_linkCount_24 : decode prog_3_method_11_code 24 = .ok (.iinc 2 1, 3) := by decide +kernel
theorem d_X1_linkCount_27 : decode prog_3_method_11_code 27 = .ok (.goto (-23), 3) := by decide +kernel
theorem d_X1_linkCount_30 : decode prog_3_method_11_code 30 = .ok (.iload_n 1, 1) := by decide +kernel
theorem d_X1_linkCount_31 : decode prog_3_method_11_code 31 = .ok (.iconst 2, 1) := by decide +kernel
theorem d_X1_linkCount_32 : decode prog_3_method_11_code 32 = .ok (.idiv, 1) := by decide +kernel
theorem d_X1_linkCount_33 : decode prog_3_method_11_code 33 = .ok (.ireturn, 1) := by decide +kernel
abbrev M_Mesh_linkCount : zMT := (⟨"PeriodSlots$Mesh", "linkCount", "()I"⟩, prog_3_method_11_code, 3, (some .int))
theorem k_Mesh_linkCount : zcall M_Mesh_linkCount 0 := ⟨zU_in (i := 347) (by decide +kernel) rfl, m56, ⟨by decide, by decide, by decide +kernel⟩, by decide⟩
def o_Mesh_linkCount (h : zHp) (b : Nat) : Int32 :=
  ((zrep (fun (i4_1 : Nat) (s4_1 : Int32) => (s4_1 + (o_Int_bitCount (h (b + 2) i4_1)))) 0 (zcn (h b 0))) / 2)
set_option maxHeartbeats 2000000 in
theorem c_Mesh_linkCount (X : zXT) (h : zHp) (g : zLg) (b : Nat) (hb : b = 3 ∨ b = 15 ∨ b = 27) (hf0 : zfit h b 0 8) : zDi X M_Mesh_linkCount 1 [zR X b] h g (zI (o_Mesh_linkCount h b)) h g := by
  have hf0_1 := hf0.1
  refine zDi_of "PeriodSlots$Mesh" prog_3_method_11_code 3 (some .int) rfl (by decide) [zO X b, none, none] rfl (fun _ q => q) (Nat.le_of_ble_eq_true rfl) ?_
  intro Γ Q C hQ
  refine zr_iconst C (v := 0) d_X1_linkCount_0 (by decide) ?_
  refine zr_istore_n C [zO X b, zI 0, none] d_X1_linkCount_1 (Nat.le_of_ble_eq_true rfl) rfl rfl ?_
  refine zr_iconst C (v := 0) d_X1_linkCount_2 (by decide) ?_
  refine zr_istore_n C [zO X b, zI 0, zI 0] d_X1_linkCount_3 (Nat.le_of_ble_eq_true rfl) rfl rfl ?_
  refine zfor (f := (fun (i4_1 : Nat) (s4_1 : Int32) => (s4_1 + (o_Int_bitCount (h (b + 2) i4_1))))) (a := 0) (fun i4_1 s4_1 => zV X Γ Q 4 [zO X b, zI s4_1, zI (nI i4_1)] [] h g) (fun _ _ => True) (zcn (h b 0)) trivial (fun i4_1 s4_1 hi4_1 hI4_1 => ⟨trivial, fun hk4_1 => ?_⟩) (fun r4_1 er4_1 hI4_1 => ?_)
  · refine zr_iload_n C d_X1_linkCount_4 rfl ?_
    refine zr_aload_n C d_X1_linkCount_5 rfl ?_
    refine gf_Mesh_0 C hb m95 d_X1_linkCount_6 ?_
    refine zr_icmp_ge C 30 d_X1_linkCount_9 (by decide) (fun c => absurd c (zge_no rfl (by omega))) (fun _ => ?_)
    refine zr_iload_n C d_X1_linkCount_12 rfl ?_
    refine zr_aload_n C d_X1_linkCount_13 rfl ?_
    refine gf_Mesh_4 C hb m107 d_X1_linkCount_14 ?_
    refine zr_iload_n C d_X1_linkCount_17 rfl ?_
    refine zr_iald C (za_mesh_2 hb) (i4_1) rfl (by omega) (by decide) d_X1_linkCount_18 ?_
    refine zr_callSi (As := [.int (h (b + 2) i4_1)]) (st := [.int s4_1]) C (c_Int_bitCount X h g (h (b + 2) i4_1)) k_Int_bitCount m348 m349 rfl (by decide) rfl (Nat.le_of_ble_eq_true rfl) d_X1_linkCount_19 ?_
    refine zr_iadd C d_X1_linkCount_22 ?_
    refine zr_istore_n C [zO X b, zI (s4_1 + (o_Int_bitCount (h (b + 2) i4_1))), zI (nI i4_1)] d_X1_linkCount_23 (Nat.le_of_ble_eq_true rfl) rfl rfl ?_
    refine zr_iinc C [zO X b, zI (s4_1 + (o_Int_bitCount (h (b + 2) i4_1))), zI (nI (i4_1 + 1))] (v := (nI (i4_1 + 1))) d_X1_linkCount_24 rfl (zn_add rfl rfl) (Nat.le_of_ble_eq_true rfl) rfl rfl ?_
    refine zr_goto C 4 d_X1_linkCount_27 (by decide) ?_
    exact hk4_1 (s4_1 + (o_Int_bitCount (h (b + 2) i4_1))) rfl.symm
  refine zr_iload_n C d_X1_linkCount_4 rfl ?_
  refine zr_aload_n C d_X1_linkCount_5 rfl ?_
  refine gf_Mesh_0 C hb m95 d_X1_linkCount_6 ?_
  refine zr_icmp_ge C 30 d_X1_linkCount_9 (by decide) (fun _ => ?_) (fun c => absurd (zge_yes rfl (by omega) (by have := zcn_small (h b 0); omega)) c)
  refine zr_iload_n C d_X1_linkCount_30 rfl ?_
  refine zr_iconst C (v := 2) d_X1_linkCount_31 (by decide) ?_
  refine zr_idiv C d_X1_linkCount_32 (by decide) ?_
  subst er4_1
  have eR : o_Mesh_linkCount h b = ((zrep (fun (i4_1 : Nat) (s4_1 : Int32) => (s4_1 + (o_Int_bitCount (h (b + 2) i4_1)))) 0 (zcn (h b 0))) / 2) := by unfold o_Mesh_linkCount; exact rfl
  subst hQ
  rw [eR]
  exact zr_ireti C d_X1_linkCount_33
theorem d_X1_wrapped_0 : decode prog_3_method_22_code 0 = .ok (.iload_n 2, 1) := by decide +kernel
theorem d_X1_wrapped_1 : decode prog_3_method_22_code 1 = .ok (.aload_n 0, 1) := by decide +kernel
theorem d_X1_wrapped_2 : decode prog_3_method_22_code 2 = .ok (.getfield 9, 3) := by decide +kernel
theorem d_X1_wrapped_5 : decode prog_3_method_22_code 5 = .ok (.iload_n 1, 1) := by decide +kernel
theorem d_X1_wrapped_6 : decode prog_3_method_22_code 6 = .ok (.iaload, 1) := by decide +kernel
theorem d_X1_wrapped_7 : decode prog_3_method_22_code 7 = .ok (.iconst 1, 1) := by decide +kernel
theorem d_X1_wrapped_8 : decode prog_3_method_22_code 8 = .ok (.isub, 1) := by decide +kernel
theorem d_X1_wrapped_9 : decode prog_3_method_22_code 9 = .ok (.iand, 1) := by decide +kernel
theorem d_X1_wrapped_10 : decode prog_3_method_22_code 10 = .ok (.ireturn, 1) := by decide +kernel
abbrev M_Mesh_wrapped : zMT := (⟨"PeriodSlots$Mesh", "wrapped", "(II)I"⟩, prog_3_method_22_code, 3, (some .int))
theorem k_Mesh_wrapped : zcall M_Mesh_wrapped 2 := ⟨zU_in (i := 297) (by decide +kernel) rfl, m56, ⟨by decide, by decide, by decide +kernel⟩, by decide⟩
def o_Mesh_wrapped (h : zHp) (b : Nat) (v : Nat) (offset : Int32) : Int32 :=
  (offset &&& ((h (b + 1) v) - 1))
set_option maxHeartbeats 2000000 in
theorem c_Mesh_wrapped (X : zXT) (h : zHp) (g : zLg) (b : Nat) (v : Nat) (offset : Int32) {x_v : Int32} (e_v : x_v = nI v) (hb : b = 3 ∨ b = 15 ∨ b = 27) (hl0 : v < 8) : zDi X M_Mesh_wrapped 0 [zR X b, .int x_v, .int offset] h g (zI (o_Mesh_wrapped h b v offset)) h g := by
  subst e_v
  refine zDi_of "PeriodSlots$Mesh" prog_3_method_22_code 3 (some .int) rfl (by decide) [zO X b, zI (nI v), zI offset] rfl (fun _ q => q) (Nat.le_of_ble_eq_true rfl) ?_
  intro Γ Q C hQ
  refine zr_iload_n C d_X1_wrapped_0 rfl ?_
  refine zr_aload_n C d_X1_wrapped_1 rfl ?_
  refine gf_Mesh_3 C hb m104 d_X1_wrapped_2 ?_
  refine zr_iload_n C d_X1_wrapped_5 rfl ?_
  refine zr_iald C (za_mesh_1 hb) (v) rfl (by omega) (by decide) d_X1_wrapped_6 ?_
  refine zr_iconst C (v := 1) d_X1_wrapped_7 (by decide) ?_
  refine zr_isub C d_X1_wrapped_8 ?_
  refine zr_iand C d_X1_wrapped_9 ?_
  have eR : o_Mesh_wrapped h b v offset = (offset &&& ((h (b + 1) v) - 1)) := by unfold o_Mesh_wrapped; exact rfl
  subst hQ
  rw [eR]
  exact zr_ireti C d_X1_wrapped_10
theorem d_X1_ticksAt_0 : decode prog_3_method_23_code 0 = .ok (.iload_n 2, 1) := by decide +kernel
theorem d_X1_ticksAt_1 : decode prog_3_method_23_code 1 = .ok (.bipush (-9), 2) := by decide +kernel
theorem d_X1_ticksAt_3 : decode prog_3_method_23_code 3 = .ok (.if_icmp .ne 7, 3) := by decide +kernel
theorem d_X1_ticksAt_6 : decode prog_3_method_23_code 6 = .ok (.iconst 0, 1) := by decide +kernel
theorem d_X1_ticksAt_7 : decode prog_3_method_23_code 7 = .ok (.goto 11, 3) := by decide +kernel
theorem d_X1_ticksAt_10 : decode prog_3_method_23_code 10 = .ok (.aload_n 0, 1) := by decide +kernel
theorem d_X1_ticksAt_11 : decode prog_3_method_23_code 11 = .ok (.getfield 24, 3) := by decide +kernel
theorem d_X1_ticksAt_14 : decode prog_3_method_23_code 14 = .ok (.iload_n 1, 1) := by decide +kernel
theorem d_X1_ticksAt_15 : decode prog_3_method_23_code 15 = .ok (.iaload, 1) := by decide +kernel
theorem d_X1_ticksAt_16 : decode prog_3_method_23_code 16 = .ok (.iload_n 2, 1) := by decide +kernel
theorem d_X1_ticksAt_17 : decode prog_3_method_23_code 17 = .ok (.ishl, 1) := by decide +kernel
theorem d_X1_ticksAt_18 : decode prog_3_method_23_code 18 = .ok (.ireturn, 1) := by decide +kernel
abbrev M_Mesh_ticksAt : zMT := (⟨"PeriodSlots$Mesh", "ticksAt", "(II)I"⟩, prog_3_method_23_code, 3, (some .int))
theorem k_Mesh_ticksAt : zcall M_Mesh_ticksAt 2 := ⟨zU_in (i := 312) (by decide +kernel) rfl, m56, ⟨by decide, by decide, by decide +kernel⟩, by decide⟩
def o_Mesh_ticksAt (h : zHp) (b : Nat) (v : Nat) (offset : Int32) : Int32 :=
  (if offset = (-9) then 0 else (zshl (h (b + 5) v) offset))
set_option maxHeartbeats 2000000 in
theorem c_Mesh_ticksAt (X : zXT) (h : zHp) (g : zLg) (b : Nat) (v : Nat) (offset : Int32) {x_v : Int32} (e_v : x_v = nI v) (hb : b = 3 ∨ b = 15 ∨ b = 27) (hl0 : v < 8) : zDi X M_Mesh_ticksAt 0 [zR X b, .int x_v, .int offset] h g (zI (o_Mesh_ticksAt h b v offset)) h g := by
  subst e_v
  refine zDi_of "PeriodSlots$Mesh" prog_3_method_23_code 3 (some .int) rfl (by decide) [zO X b, zI (nI v), zI offset] rfl (fun _ q => q) (Nat.le_of_ble_eq_true rfl) ?_
  intro Γ Q C hQ
  refine zr_iload_n C d_X1_ticksAt_0 rfl ?_
  refine zr_bipush C (v := (-9)) d_X1_ticksAt_1 (by decide) ?_
  suffices hJ3 : ∀ (y1 : Int32), y1 = (if offset = (-9) then 0 else (zshl (h (b + 5) v) offset)) → zV X Γ Q 18 [none, none, none] [.int y1] h g by
    refine zr_icmp_ne C 10 d_X1_ticksAt_3 (by decide) (fun c3 => ?_) (fun c3 => ?_)
    · refine zr_aload_n C d_X1_ticksAt_10 rfl ?_
      refine gf_Mesh_7 C hb m117 d_X1_ticksAt_11 ?_
      refine zr_iload_n C d_X1_ticksAt_14 rfl ?_
      refine zr_iald C (za_mesh_5 hb) (v) rfl (by omega) (by decide) d_X1_ticksAt_15 ?_
      refine zr_iload_n C d_X1_ticksAt_16 rfl ?_
      refine zr_ishl C d_X1_ticksAt_17 ?_
      refine zr_lv [none, none, none] (by simp [zle]) ?_
      exact hJ3 (zshl (h (b + 5) v) offset) (((if_neg c3))).symm
    · refine zr_iconst C (v := 0) d_X1_ticksAt_6 (by decide) ?_
      refine zr_goto C 18 d_X1_ticksAt_7 (by decide) ?_
      refine zr_lv [none, none, none] (by simp [zle]) ?_
      exact hJ3 0 (((if_pos c3))).symm
  intro y1 ey1
  subst ey1
  have eR : o_Mesh_ticksAt h b v offset = (if offset = (-9) then 0 else (zshl (h (b + 5) v) offset)) := by unfold o_Mesh_ticksAt; exact rfl
  subst hQ
  rw [eR]
  exact zr_ireti C d_X1_ticksAt_18
theorem d_X1_markTicks_0 : decode prog_3_method_24_code 0 = .ok (.iconst 0, 1) := by decide +kernel
theorem d_X1_markTicks_1 : decode prog_3_method_24_code 1 = .ok (.istore_n 1, 1) := by decide +kernel
theorem d_X1_markTicks_2 : decode prog_3_method_24_code 2 = .ok (.iload_n 1, 1) := by decide +kernel
theorem d_X1_markTicks_3 : decode prog_3_method_24_code 3 = .ok (.aload_n 0, 1) := by decide +kernel
theorem d_X1_markTicks_4 : decode prog_3_method_24_code 4 = .ok (.getfield 45, 3) := by decide +kernel
theorem d_X1_markTicks_7 : decode prog_3_method_24_code 7 = .ok (.if_icmp .ge 50, 3) := by decide +kernel
theorem d_X1_markTicks_10 : decode prog_3_method_24_code 10 = .ok (.aload_n 0, 1) := by decide +kernel
theorem d_X1_markTicks_11 : decode prog_3_method_24_code 11 = .ok (.getfield 36, 3) := by decide +kernel
theorem d_X1_markTicks_14 : decode prog_3_method_24_code 14 = .ok (.iload_n 1, 1) := by decide +kernel
theorem d_X1_markTicks_15 : decode prog_3_method_24_code 15 = .ok (.aload_n 0, 1) := by decide +kernel
theorem d_X1_markTicks_16 : decode prog_3_method_24_code 16 = .ok (.iload_n 1, 1) := by decide +kernel
theorem d_X1_markTicks_17 : decode prog_3_method_24_code 17 = .ok (.aload_n 0, 1) := by decide +kernel
theorem d_X1_markTicks_18 : decode prog_3_method_24_code 18 = .ok (.getfield 18, 3) := by decide +kernel
theorem d_X1_markTicks_21 : decode prog_3_method_24_code 21 = .ok (.iload_n 1, 1) := by decide +kernel
theorem d_X1_markTicks_22 : decode prog_3_method_24_code 22 = .ok (.iaload, 1) := by decide +kernel
theorem d_X1_markTicks_23 : decode prog_3_method_24_code 23 = .ok (.invokevirtual 119, 3) := by decide +kernel
theorem d_X1_markTicks_26 : decode prog_3_method_24_code 26 = .ok (.iastore, 1) := by decide +kernel
theorem d_X1_markTicks_27 : decode prog_3_method_24_code 27 = .ok (.aload_n 0, 1) := by decide +kernel
theorem d_X1_markTicks_28 : decode prog_3_method_24_code 28 = .ok (.getfield 39, 3) := by decide +kernel
theorem d_X1_markTicks_31 : decode prog_3_method_24_code 31 = .ok (.iload_n 1, 1) := by decide +kernel
theorem d_X1_markTicks_32 : decode prog_3_method_24_code 32 = .ok (.aload_n 0, 1) := by decide +kernel
theorem d_X1_markTicks_33 : decode prog_3_method_24_code 33 = .ok (.getfield 36, 3) := by decide +kernel
theorem d_X1_markTicks_36 : decode prog_3_method_24_code 36 = .ok (.iload_n 1, 1) := by decide +kernel
theorem d_X1_markTicks_37 : decode prog_3_method_24_code 37 = .ok (.iaload, 1) := by decide +kernel
theorem d_X1_markTicks_38 : decode prog_3_method_24_code 38 = .ok (.aload_n 0, 1) := by decide +kernel
theorem d_X1_markTicks_39 : decode prog_3_method_24_code 39 = .ok (.iload_n 1, 1) := by decide +kernel
theorem d_X1_markTicks_40 : decode prog_3_method_24_code 40 = .ok (.aload_n 0, 1) := by decide +kernel
theorem d_X1_markTicks_41 : decode prog_3_method_24_code 41 = .ok (.getfield 21, 3) := by decide +kernel
theorem d_X1_markTicks_44 : decode prog_3_method_24_code 44 = .ok (.iload_n 1, 1) := by decide +kernel
theorem d_X1_markTicks_45 : decode prog_3_method_24_code 45 = .ok (.iaload, 1) := by decide +kernel
theorem d_X1_markTicks_46 : decode prog_3_method_24_code 46 = .ok (.invokevirtual 119, 3) := by decide +kernel
theorem d_X1_markTicks_49 : decode prog_3_method_24_code 49 = .ok (.ior, 1) := by decide +kernel
theorem d_X1_markTicks_50 : decode prog_3_method_24_code 50 = .ok (.iastore, 1) := by decide +kernel
theorem d_X1_markTicks_51 : decode prog_3_method_24_code 51 = .ok (.iinc 1 1, 3) := by decide +kernel
theorem d_X1_markTicks_54 : decode prog_3_method_24_code 54 = .ok (.goto (-52), 3) := by decide +kernel
theorem d_X1_markTicks_57 : decode prog_3_method_24_code 57 = .ok (.return_, 1) := by decide +kernel
abbrev M_Mesh_markTicks : zMT := (⟨"PeriodSlots$Mesh", "markTicks", "()V"⟩, prog_3_method_24_code, 2, none)
theorem k_Mesh_markTicks : zcall M_Mesh_markTicks 0 := ⟨zU_in (i := 308) (by decide +kernel) rfl, m56, ⟨by decide, by decide, by decide +kernel⟩, by decide⟩
def o_Mesh_markTicks (h : zHp) (b : Nat) : zHp :=
  (zrep (fun (i2_1 : Nat) (s2_1 : zHp) => (zup (zup s2_1 (b + 9) i2_1 (o_Mesh_ticksAt s2_1 b i2_1 (s2_1 (b + 3) i2_1))) (b + 10) i2_1 (((zup s2_1 (b + 9) i2_1 (o_Mesh_ticksAt s2_1 b i2_1 (s2_1 (b + 3) i2_1))) (b + 9) i2_1) ||| (o_Mesh_ticksAt (zup s2_1 (b + 9) i2_1 (o_Mesh_ticksAt s2_1 b i2_1 (s2_1 (b + 3) i2_1))) b i2_1 ((zup s2_1 (b + 9) i2_1 (o_Mesh_ticksAt s2_1 b i2_1 (s2_1 (b + 3) i2_1))) (b + 4) i2_1))))) h (zcn (h b 0)))
set_option maxHeartbeats 2000000 in
theorem c_Mesh_markTicks (X : zXT) (h : zHp) (g : zLg) (b : Nat) (hb : b = 3 ∨ b = 15 ∨ b = 27) (hf0 : zfit h b 0 8) : zDi X M_Mesh_markTicks 1 [zR X b] h g none (o_Mesh_markTicks h b) g := by
  have hf0_1 := hf0.1
  refine zDi_of "PeriodSlots$Mesh" prog_3_method_24_code 2 none rfl (by decide) [zO X b, none] rfl (fun _ q => q) (Nat.le_of_ble_eq_true rfl) ?_
  intro Γ Q C hQ
  refine zr_iconst C (v := 0) d_X1_markTicks_0 (by decide) ?_
  refine zr_istore_n C [zO X b, zI 0] d_X1_markTicks_1 (Nat.le_of_ble_eq_true rfl) rfl rfl ?_
  refine zfor (f := (fun (i2_1 : Nat) (s2_1 : zHp) => (zup (zup s2_1 (b + 9) i2_1 (o_Mesh_ticksAt s2_1 b i2_1 (s2_1 (b + 3) i2_1))) (b + 10) i2_1 (((zup s2_1 (b + 9) i2_1 (o_Mesh_ticksAt s2_1 b i2_1 (s2_1 (b + 3) i2_1))) (b + 9) i2_1) ||| (o_Mesh_ticksAt (zup s2_1 (b + 9) i2_1 (o_Mesh_ticksAt s2_1 b i2_1 (s2_1 (b + 3) i2_1))) b i2_1 ((zup s2_1 (b + 9) i2_1 (o_Mesh_ticksAt s2_1 b i2_1 (s2_1 (b + 3) i2_1))) (b + 4) i2_1)))))) (a := h) (fun i2_1 s2_1 => zV X Γ Q 2 [zO X b, zI (nI i2_1)] [] s2_1 g) (fun _ s2_1 => ∀ c k : Nat, c ≠ b + 9 → c ≠ b + 10 → s2_1 c k = h c k) (zcn (h b 0)) (fun _ _ _ _ => rfl) (fun i2_1 s2_1 hi2_1 hI2_1 => ⟨(fun c k q0 q1 => ((zup_fr (by omega)).trans ((zup_fr (by omega)).trans (hI2_1 _ _ (by omega) (by omega))))), fun hk2_1 => ?_⟩) (fun r2_1 er2_1 hI2_1 => ?_)
  · refine zr_iload_n C d_X1_markTicks_2 rfl ?_
    refine zr_aload_n C d_X1_markTicks_3 rfl ?_
    refine gf_Mesh_0 C hb m95 d_X1_markTicks_4 ?_
    refine zr_icmp_ge C 57 d_X1_markTicks_7 (by decide) (fun c => absurd c (zge_no (hI2_1 _ _ (by omega) (by omega)) (by omega))) (fun _ => ?_)
    refine zr_aload_n C d_X1_markTicks_10 rfl ?_
    refine gf_Mesh_11 C hb m124 d_X1_markTicks_11 ?_
    refine zr_iload_n C d_X1_markTicks_14 rfl ?_
    refine zr_aload_n C d_X1_markTicks_15 rfl ?_
    refine zr_iload_n C d_X1_markTicks_16 rfl ?_
    refine zr_aload_n C d_X1_markTicks_17 rfl ?_
    refine gf_Mesh_5 C hb m111 d_X1_markTicks_18 ?_
    refine zr_iload_n C d_X1_markTicks_21 rfl ?_
    refine zr_iald C (za_mesh_3 hb) (i2_1) rfl (by omega) (by decide) d_X1_markTicks_22 ?_
    refine zr_callVi (As := [.int (nI i2_1), .int (s2_1 (b + 3) i2_1)]) (st := [.int (nI i2_1), zR X (b + 9)]) (c := b) C (c_Mesh_ticksAt X s2_1 g b i2_1 (s2_1 (b + 3) i2_1) rfl hb (by omega)) k_Mesh_ticksAt m309 m310 m311 (by omega) (zC_Mesh hb X _ _) rfl rfl (by decide) rfl (Nat.le_of_ble_eq_true rfl) d_X1_markTicks_23 ?_
    refine zr_iast C (za_mesh_9 hb) (i2_1) rfl (by omega) (by decide) d_X1_markTicks_26 ?_
    refine zr_h (fun h2 eh2 => ?_)
    refine zr_aload_n C d_X1_markTicks_27 rfl ?_
    refine gf_Mesh_12 C hb m126 d_X1_markTicks_28 ?_
    refine zr_iload_n C d_X1_markTicks_31 rfl ?_
    refine zr_aload_n C d_X1_markTicks_32 rfl ?_
    refine gf_Mesh_11 C hb m124 d_X1_markTicks_33 ?_
    refine zr_iload_n C d_X1_markTicks_36 rfl ?_
    refine zr_iald C (za_mesh_9 hb) (i2_1) rfl (by omega) (by decide) d_X1_markTicks_37 ?_
    refine zr_aload_n C d_X1_markTicks_38 rfl ?_
    refine zr_iload_n C d_X1_markTicks_39 rfl ?_
    refine zr_aload_n C d_X1_markTicks_40 rfl ?_
    refine gf_Mesh_6 C hb m114 d_X1_markTicks_41 ?_
    refine zr_iload_n C d_X1_markTicks_44 rfl ?_
    refine zr_iald C (za_mesh_4 hb) (i2_1) rfl (by omega) (by decide) d_X1_markTicks_45 ?_
    refine zr_callVi (As := [.int (nI i2_1), .int (h2 (b + 4) i2_1)]) (st := [.int (h2 (b + 9) i2_1), .int (nI i2_1), zR X (b + 10)]) (c := b) C (c_Mesh_ticksAt X h2 g b i2_1 (h2 (b + 4) i2_1) rfl hb (by omega)) k_Mesh_ticksAt m309 m310 m311 (by omega) (zC_Mesh hb X _ _) rfl rfl (by decide) rfl (Nat.le_of_ble_eq_true rfl) d_X1_markTicks_46 ?_
    refine zr_ior C d_X1_markTicks_49 ?_
    refine zr_iast C (za_mesh_10 hb) (i2_1) rfl (by omega) (by decide) d_X1_markTicks_50 ?_
    refine zr_h (fun h3 eh3 => ?_)
    refine zr_iinc C [zO X b, zI (nI (i2_1 + 1))] (v := (nI (i2_1 + 1))) d_X1_markTicks_51 rfl (zn_add rfl rfl) (Nat.le_of_ble_eq_true rfl) rfl rfl ?_
    refine zr_goto C 2 d_X1_markTicks_54 (by decide) ?_
    subst eh3 eh2
    exact hk2_1 (zup (zup s2_1 (b + 9) i2_1 (o_Mesh_ticksAt s2_1 b i2_1 (s2_1 (b + 3) i2_1))) (b + 10) i2_1 (((zup s2_1 (b + 9) i2_1 (o_Mesh_ticksAt s2_1 b i2_1 (s2_1 (b + 3) i2_1))) (b + 9) i2_1) ||| (o_Mesh_ticksAt (zup s2_1 (b + 9) i2_1 (o_Mesh_ticksAt s2_1 b i2_1 (s2_1 (b + 3) i2_1))) b i2_1 ((zup s2_1 (b + 9) i2_1 (o_Mesh_ticksAt s2_1 b i2_1 (s2_1 (b + 3) i2_1))) (b + 4) i2_1)))) rfl.symm
  refine zr_iload_n C d_X1_markTicks_2 rfl ?_
  refine zr_aload_n C d_X1_markTicks_3 rfl ?_
  refine gf_Mesh_0 C hb m95 d_X1_markTicks_4 ?_
  refine zr_icmp_ge C 57 d_X1_markTicks_7 (by decide) (fun _ => ?_) (fun c => absurd (zge_yes (hI2_1 _ _ (by omega) (by omega)) (by omega) (by have := zcn_small (h b 0); omega)) c)
  subst er2_1
  have eR : o_Mesh_markTicks h b = (zrep (fun (i2_1 : Nat) (s2_1 : zHp) => (zup (zup s2_1 (b + 9) i2_1 (o_Mesh_ticksAt s2_1 b i2_1 (s2_1 (b + 3) i2_1))) (b + 10) i2_1 (((zup s2_1 (b + 9) i2_1 (o_Mesh_ticksAt s2_1 b i2_1 (s2_1 (b + 3) i2_1))) (b + 9) i2_1) ||| (o_Mesh_ticksAt (zup s2_1 (b + 9) i2_1 (o_Mesh_ticksAt s2_1 b i2_1 (s2_1 (b + 3) i2_1))) b i2_1 ((zup s2_1 (b + 9) i2_1 (o_Mesh_ticksAt s2_1 b i2_1 (s2_1 (b + 3) i2_1))) (b + 4) i2_1))))) h (zcn (h b 0))) := by unfold o_Mesh_markTicks; exact rfl
  subst hQ
  rw [eR]
  exact zr_vret C d_X1_markTicks_57
end
