/-! Words that the walks use, by their places in the tables: by program. -/
theorem m54 : Cond.initialized "PeriodSlots" ∈ zU := zU_in (i := 54) (by decide +kernel) rfl
theorem m95 : Cond.fieldLink "PeriodSlots$Mesh" 45 "PeriodSlots$Mesh" "count" "I" ∈ zU := zU_in (i := 95) (by decide +kernel) rfl
theorem m56 : Cond.initialized "PeriodSlots$Mesh" ∈ zU := zU_in (i := 56) (by decide +kernel) rfl
theorem m322 : Cond.static ⟨"PeriodSlots", "has", "(II)Z"⟩ ∈ zU := zU_in (i := 322) (by decide +kernel) rfl
theorem m107 : Cond.fieldLink "PeriodSlots$Mesh" 15 "PeriodSlots$Mesh" "links" "[I" ∈ zU := zU_in (i := 107) (by decide +kernel) rfl
theorem m317 : Cond.methodLink "PeriodSlots$Mesh" 86 ⟨"PeriodSlots$Mesh", "neighboursOf", "(I)I"⟩ ∈ zU := zU_in (i := 317) (by decide +kernel) rfl
theorem m319 : Cond.instanceMethod ⟨"PeriodSlots$Mesh", "neighboursOf", "(I)I"⟩ ∈ zU := zU_in (i := 319) (by decide +kernel) rfl
theorem m2 : Cond.selects "PeriodSlots$Mesh" ⟨"PeriodSlots$Mesh", "neighboursOf", "(I)I"⟩ ⟨"PeriodSlots$Mesh", "neighboursOf", "(I)I"⟩ ∈ zU := zU_in (i := 2) (by decide +kernel) rfl
theorem m351 : Cond.constant "java/lang/Integer" 265 (1431655765) ∈ zU := zU_in (i := 351) (by decide +kernel) rfl
theorem m352 : Cond.constant "java/lang/Integer" 266 (858993459) ∈ zU := zU_in (i := 352) (by decide +kernel) rfl
theorem m353 : Cond.constant "java/lang/Integer" 267 (252645135) ∈ zU := zU_in (i := 353) (by decide +kernel) rfl
theorem m64 : Cond.initialized "java/lang/Integer" ∈ zU := zU_in (i := 64) (by decide +kernel) rfl
theorem m348 : Cond.methodLink "PeriodSlots$Mesh" 76 ⟨"java/lang/Integer", "bitCount", "(I)I"⟩ ∈ zU := zU_in (i := 348) (by decide +kernel) rfl
theorem m349 : Cond.static ⟨"java/lang/Integer", "bitCount", "(I)I"⟩ ∈ zU := zU_in (i := 349) (by decide +kernel) rfl
theorem m104 : Cond.fieldLink "PeriodSlots$Mesh" 9 "PeriodSlots$Mesh" "periods" "[I" ∈ zU := zU_in (i := 104) (by decide +kernel) rfl
theorem m117 : Cond.fieldLink "PeriodSlots$Mesh" 24 "PeriodSlots$Mesh" "patterns" "[I" ∈ zU := zU_in (i := 117) (by decide +kernel) rfl
theorem m124 : Cond.fieldLink "PeriodSlots$Mesh" 36 "PeriodSlots$Mesh" "ticks" "[I" ∈ zU := zU_in (i := 124) (by decide +kernel) rfl
theorem m111 : Cond.fieldLink "PeriodSlots$Mesh" 18 "PeriodSlots$Mesh" "offsets" "[I" ∈ zU := zU_in (i := 111) (by decide +kernel) rfl
theorem m309 : Cond.methodLink "PeriodSlots$Mesh" 119 ⟨"PeriodSlots$Mesh", "ticksAt", "(II)I"⟩ ∈ zU := zU_in (i := 309) (by decide +kernel) rfl
theorem m310 : Cond.instanceMethod ⟨"PeriodSlots$Mesh", "ticksAt", "(II)I"⟩ ∈ zU := zU_in (i := 310) (by decide +kernel) rfl
theorem m311 : Cond.selects "PeriodSlots$Mesh" ⟨"PeriodSlots$Mesh", "ticksAt", "(II)I"⟩ ⟨"PeriodSlots$Mesh", "ticksAt", "(II)I"⟩ ∈ zU := zU_in (i := 311) (by decide +kernel) rfl
theorem m126 : Cond.fieldLink "PeriodSlots$Mesh" 39 "PeriodSlots$Mesh" "occupied" "[I" ∈ zU := zU_in (i := 126) (by decide +kernel) rfl
theorem m114 : Cond.fieldLink "PeriodSlots$Mesh" 21 "PeriodSlots$Mesh" "olds" "[I" ∈ zU := zU_in (i := 114) (by decide +kernel) rfl
