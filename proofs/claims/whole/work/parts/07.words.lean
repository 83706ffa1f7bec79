/-! Words that the walks use, by their places in the tables: by program. -/
theorem m351 : Cond.constant "java/lang/Integer" 265 (1431655765) ∈ zU := zU_in (i := 351) (by decide +kernel) rfl
theorem m352 : Cond.constant "java/lang/Integer" 266 (858993459) ∈ zU := zU_in (i := 352) (by decide +kernel) rfl
theorem m353 : Cond.constant "java/lang/Integer" 267 (252645135) ∈ zU := zU_in (i := 353) (by decide +kernel) rfl
theorem m64 : Cond.initialized "java/lang/Integer" ∈ zU := zU_in (i := 64) (by decide +kernel) rfl
theorem m475 : Cond.constant "java/lang/Integer" 264 (65536) ∈ zU := zU_in (i := 475) (by decide +kernel) rfl
theorem m63 : Cond.initialized "java/util/Arrays" ∈ zU := zU_in (i := 63) (by decide +kernel) rfl
theorem m54 : Cond.initialized "PeriodSlots" ∈ zU := zU_in (i := 54) (by decide +kernel) rfl
theorem m472 : Cond.methodLink "PeriodSlots" 295 ⟨"java/lang/Integer", "numberOfTrailingZeros", "(I)I"⟩ ∈ zU := zU_in (i := 472) (by decide +kernel) rfl
theorem m473 : Cond.static ⟨"java/lang/Integer", "numberOfTrailingZeros", "(I)I"⟩ ∈ zU := zU_in (i := 473) (by decide +kernel) rfl
theorem m705 : Cond.methodLink "PeriodSlots" 298 ⟨"java/lang/Math", "abs", "(I)I"⟩ ∈ zU := zU_in (i := 705) (by decide +kernel) rfl
theorem m708 : Cond.methodLink "PeriodSlots" 303 ⟨"PeriodSlots", "commonDivisor", "(II)I"⟩ ∈ zU := zU_in (i := 708) (by decide +kernel) rfl
theorem m709 : Cond.static ⟨"PeriodSlots", "commonDivisor", "(II)I"⟩ ∈ zU := zU_in (i := 709) (by decide +kernel) rfl
theorem m95 : Cond.fieldLink "PeriodSlots$Mesh" 45 "PeriodSlots$Mesh" "count" "I" ∈ zU := zU_in (i := 95) (by decide +kernel) rfl
theorem m99 : Cond.fieldLink "PeriodSlots$Mesh" 49 "PeriodSlots$Mesh" "roundNumber" "I" ∈ zU := zU_in (i := 99) (by decide +kernel) rfl
theorem m56 : Cond.initialized "PeriodSlots$Mesh" ∈ zU := zU_in (i := 56) (by decide +kernel) rfl
theorem m382 : Cond.methodLink "PeriodSlots$Mesh" 56 ⟨"java/lang/System", "arraycopy", "(Ljava/lang/Object;ILjava/lang/Object;II)V"⟩ ∈ zU := zU_in (i := 382) (by decide +kernel) rfl
theorem m104 : Cond.fieldLink "PeriodSlots$Mesh" 9 "PeriodSlots$Mesh" "periods" "[I" ∈ zU := zU_in (i := 104) (by decide +kernel) rfl
theorem m379 : Cond.methodLink "PeriodSlots$Mesh" 52 ⟨"PeriodSlots$Mesh", "copyRow", "([I[I)V"⟩ ∈ zU := zU_in (i := 379) (by decide +kernel) rfl
theorem m380 : Cond.static ⟨"PeriodSlots$Mesh", "copyRow", "([I[I)V"⟩ ∈ zU := zU_in (i := 380) (by decide +kernel) rfl
theorem m107 : Cond.fieldLink "PeriodSlots$Mesh" 15 "PeriodSlots$Mesh" "links" "[I" ∈ zU := zU_in (i := 107) (by decide +kernel) rfl
theorem m111 : Cond.fieldLink "PeriodSlots$Mesh" 18 "PeriodSlots$Mesh" "offsets" "[I" ∈ zU := zU_in (i := 111) (by decide +kernel) rfl
theorem m114 : Cond.fieldLink "PeriodSlots$Mesh" 21 "PeriodSlots$Mesh" "olds" "[I" ∈ zU := zU_in (i := 114) (by decide +kernel) rfl
theorem m117 : Cond.fieldLink "PeriodSlots$Mesh" 24 "PeriodSlots$Mesh" "patterns" "[I" ∈ zU := zU_in (i := 117) (by decide +kernel) rfl
theorem m118 : Cond.fieldLink "PeriodSlots$Mesh" 27 "PeriodSlots$Mesh" "near" "[I" ∈ zU := zU_in (i := 118) (by decide +kernel) rfl
theorem m121 : Cond.fieldLink "PeriodSlots$Mesh" 30 "PeriodSlots$Mesh" "priorities" "[I" ∈ zU := zU_in (i := 121) (by decide +kernel) rfl
theorem m123 : Cond.fieldLink "PeriodSlots$Mesh" 33 "PeriodSlots$Mesh" "nearAbove" "[I" ∈ zU := zU_in (i := 123) (by decide +kernel) rfl
theorem m124 : Cond.fieldLink "PeriodSlots$Mesh" 36 "PeriodSlots$Mesh" "ticks" "[I" ∈ zU := zU_in (i := 124) (by decide +kernel) rfl
theorem m126 : Cond.fieldLink "PeriodSlots$Mesh" 39 "PeriodSlots$Mesh" "occupied" "[I" ∈ zU := zU_in (i := 126) (by decide +kernel) rfl
theorem m309 : Cond.methodLink "PeriodSlots$Mesh" 119 ⟨"PeriodSlots$Mesh", "ticksAt", "(II)I"⟩ ∈ zU := zU_in (i := 309) (by decide +kernel) rfl
theorem m310 : Cond.instanceMethod ⟨"PeriodSlots$Mesh", "ticksAt", "(II)I"⟩ ∈ zU := zU_in (i := 310) (by decide +kernel) rfl
theorem m311 : Cond.selects "PeriodSlots$Mesh" ⟨"PeriodSlots$Mesh", "ticksAt", "(II)I"⟩ ⟨"PeriodSlots$Mesh", "ticksAt", "(II)I"⟩ ∈ zU := zU_in (i := 311) (by decide +kernel) rfl
theorem m302 : Cond.methodLink "PeriodSlots$Mesh" 128 ⟨"java/util/Arrays", "fill", "([II)V"⟩ ∈ zU := zU_in (i := 302) (by decide +kernel) rfl
theorem m303 : Cond.static ⟨"java/util/Arrays", "fill", "([II)V"⟩ ∈ zU := zU_in (i := 303) (by decide +kernel) rfl
theorem m305 : Cond.methodLink "PeriodSlots$Mesh" 134 ⟨"PeriodSlots$Mesh", "markTicks", "()V"⟩ ∈ zU := zU_in (i := 305) (by decide +kernel) rfl
theorem m306 : Cond.instanceMethod ⟨"PeriodSlots$Mesh", "markTicks", "()V"⟩ ∈ zU := zU_in (i := 306) (by decide +kernel) rfl
theorem m307 : Cond.selects "PeriodSlots$Mesh" ⟨"PeriodSlots$Mesh", "markTicks", "()V"⟩ ⟨"PeriodSlots$Mesh", "markTicks", "()V"⟩ ∈ zU := zU_in (i := 307) (by decide +kernel) rfl
theorem m322 : Cond.static ⟨"PeriodSlots", "has", "(II)Z"⟩ ∈ zU := zU_in (i := 322) (by decide +kernel) rfl
theorem m332 : Cond.constantLong "PeriodSlots$Mesh" 111 (7) ∈ zU := zU_in (i := 332) (by decide +kernel) rfl
theorem m333 : Cond.constantLong "PeriodSlots$Mesh" 113 (37) ∈ zU := zU_in (i := 333) (by decide +kernel) rfl
theorem m334 : Cond.constantLong "PeriodSlots$Mesh" 115 (101) ∈ zU := zU_in (i := 334) (by decide +kernel) rfl
theorem m335 : Cond.constantLong "PeriodSlots$Mesh" 117 (1009) ∈ zU := zU_in (i := 335) (by decide +kernel) rfl
theorem m328 : Cond.methodLink "PeriodSlots$Mesh" 105 ⟨"PeriodSlots$Mesh", "priority", "(I)I"⟩ ∈ zU := zU_in (i := 328) (by decide +kernel) rfl
theorem m330 : Cond.instanceMethod ⟨"PeriodSlots$Mesh", "priority", "(I)I"⟩ ∈ zU := zU_in (i := 330) (by decide +kernel) rfl
theorem m4 : Cond.selects "PeriodSlots$Mesh" ⟨"PeriodSlots$Mesh", "priority", "(I)I"⟩ ⟨"PeriodSlots$Mesh", "priority", "(I)I"⟩ ∈ zU := zU_in (i := 4) (by decide +kernel) rfl
theorem m336 : Cond.methodLink "PeriodSlots$Mesh" 108 ⟨"PeriodSlots$Mesh", "stationsAbove", "(I)I"⟩ ∈ zU := zU_in (i := 336) (by decide +kernel) rfl
theorem m338 : Cond.instanceMethod ⟨"PeriodSlots$Mesh", "stationsAbove", "(I)I"⟩ ∈ zU := zU_in (i := 338) (by decide +kernel) rfl
theorem m5 : Cond.selects "PeriodSlots$Mesh" ⟨"PeriodSlots$Mesh", "stationsAbove", "(I)I"⟩ ⟨"PeriodSlots$Mesh", "stationsAbove", "(I)I"⟩ ∈ zU := zU_in (i := 5) (by decide +kernel) rfl
theorem m317 : Cond.methodLink "PeriodSlots$Mesh" 86 ⟨"PeriodSlots$Mesh", "neighboursOf", "(I)I"⟩ ∈ zU := zU_in (i := 317) (by decide +kernel) rfl
theorem m319 : Cond.instanceMethod ⟨"PeriodSlots$Mesh", "neighboursOf", "(I)I"⟩ ∈ zU := zU_in (i := 319) (by decide +kernel) rfl
theorem m2 : Cond.selects "PeriodSlots$Mesh" ⟨"PeriodSlots$Mesh", "neighboursOf", "(I)I"⟩ ⟨"PeriodSlots$Mesh", "neighboursOf", "(I)I"⟩ ∈ zU := zU_in (i := 2) (by decide +kernel) rfl
theorem m324 : Cond.methodLink "PeriodSlots$Mesh" 102 ⟨"PeriodSlots$Mesh", "rank", "()V"⟩ ∈ zU := zU_in (i := 324) (by decide +kernel) rfl
theorem m326 : Cond.instanceMethod ⟨"PeriodSlots$Mesh", "rank", "()V"⟩ ∈ zU := zU_in (i := 326) (by decide +kernel) rfl
theorem m3 : Cond.selects "PeriodSlots$Mesh" ⟨"PeriodSlots$Mesh", "rank", "()V"⟩ ⟨"PeriodSlots$Mesh", "rank", "()V"⟩ ∈ zU := zU_in (i := 3) (by decide +kernel) rfl
theorem m294 : Cond.methodLink "PeriodSlots$Mesh" 62 ⟨"PeriodSlots$Mesh", "wrapped", "(II)I"⟩ ∈ zU := zU_in (i := 294) (by decide +kernel) rfl
theorem m295 : Cond.instanceMethod ⟨"PeriodSlots$Mesh", "wrapped", "(II)I"⟩ ∈ zU := zU_in (i := 295) (by decide +kernel) rfl
theorem m296 : Cond.selects "PeriodSlots$Mesh" ⟨"PeriodSlots$Mesh", "wrapped", "(II)I"⟩ ⟨"PeriodSlots$Mesh", "wrapped", "(II)I"⟩ ∈ zU := zU_in (i := 296) (by decide +kernel) rfl
theorem m298 : Cond.methodLink "PeriodSlots$Mesh" 66 ⟨"PeriodSlots$Mesh", "dropOlds", "()V"⟩ ∈ zU := zU_in (i := 298) (by decide +kernel) rfl
theorem m299 : Cond.instanceMethod ⟨"PeriodSlots$Mesh", "dropOlds", "()V"⟩ ∈ zU := zU_in (i := 299) (by decide +kernel) rfl
theorem m300 : Cond.selects "PeriodSlots$Mesh" ⟨"PeriodSlots$Mesh", "dropOlds", "()V"⟩ ⟨"PeriodSlots$Mesh", "dropOlds", "()V"⟩ ∈ zU := zU_in (i := 300) (by decide +kernel) rfl
theorem m313 : Cond.methodLink "PeriodSlots$Mesh" 69 ⟨"PeriodSlots$Mesh", "relate", "()V"⟩ ∈ zU := zU_in (i := 313) (by decide +kernel) rfl
theorem m314 : Cond.instanceMethod ⟨"PeriodSlots$Mesh", "relate", "()V"⟩ ∈ zU := zU_in (i := 314) (by decide +kernel) rfl
theorem m315 : Cond.selects "PeriodSlots$Mesh" ⟨"PeriodSlots$Mesh", "relate", "()V"⟩ ⟨"PeriodSlots$Mesh", "relate", "()V"⟩ ∈ zU := zU_in (i := 315) (by decide +kernel) rfl
theorem m489 : Cond.methodLink "PeriodSlots$Mesh" 72 ⟨"PeriodSlots$Mesh", "exists", "(I)Z"⟩ ∈ zU := zU_in (i := 489) (by decide +kernel) rfl
theorem m359 : Cond.instanceMethod ⟨"PeriodSlots$Mesh", "exists", "(I)Z"⟩ ∈ zU := zU_in (i := 359) (by decide +kernel) rfl
theorem m360 : Cond.selects "PeriodSlots$Mesh" ⟨"PeriodSlots$Mesh", "exists", "(I)Z"⟩ ⟨"PeriodSlots$Mesh", "exists", "(I)Z"⟩ ∈ zU := zU_in (i := 360) (by decide +kernel) rfl
theorem m348 : Cond.methodLink "PeriodSlots$Mesh" 76 ⟨"java/lang/Integer", "bitCount", "(I)I"⟩ ∈ zU := zU_in (i := 348) (by decide +kernel) rfl
theorem m349 : Cond.static ⟨"java/lang/Integer", "bitCount", "(I)I"⟩ ∈ zU := zU_in (i := 349) (by decide +kernel) rfl
theorem m344 : Cond.methodLink "PeriodSlots$Mesh" 82 ⟨"PeriodSlots$Mesh", "linkCount", "()I"⟩ ∈ zU := zU_in (i := 344) (by decide +kernel) rfl
theorem m345 : Cond.instanceMethod ⟨"PeriodSlots$Mesh", "linkCount", "()I"⟩ ∈ zU := zU_in (i := 345) (by decide +kernel) rfl
theorem m346 : Cond.selects "PeriodSlots$Mesh" ⟨"PeriodSlots$Mesh", "linkCount", "()I"⟩ ⟨"PeriodSlots$Mesh", "linkCount", "()I"⟩ ∈ zU := zU_in (i := 346) (by decide +kernel) rfl
theorem m435 : Cond.methodLink "PeriodSlots$Mesh" 93 ⟨"PeriodSlots$Mesh", "netOf", "(I)I"⟩ ∈ zU := zU_in (i := 435) (by decide +kernel) rfl
theorem m436 : Cond.instanceMethod ⟨"PeriodSlots$Mesh", "netOf", "(I)I"⟩ ∈ zU := zU_in (i := 436) (by decide +kernel) rfl
theorem m437 : Cond.selects "PeriodSlots$Mesh" ⟨"PeriodSlots$Mesh", "netOf", "(I)I"⟩ ⟨"PeriodSlots$Mesh", "netOf", "(I)I"⟩ ∈ zU := zU_in (i := 437) (by decide +kernel) rfl
theorem m439 : Cond.methodLink "PeriodSlots$Mesh" 96 ⟨"java/lang/Integer", "lowestOneBit", "(I)I"⟩ ∈ zU := zU_in (i := 439) (by decide +kernel) rfl
theorem m440 : Cond.static ⟨"java/lang/Integer", "lowestOneBit", "(I)I"⟩ ∈ zU := zU_in (i := 440) (by decide +kernel) rfl
theorem m431 : Cond.methodLink "PeriodSlots$Mesh" 99 ⟨"PeriodSlots$Mesh", "isLowestOfNet", "(I)Z"⟩ ∈ zU := zU_in (i := 431) (by decide +kernel) rfl
theorem m432 : Cond.instanceMethod ⟨"PeriodSlots$Mesh", "isLowestOfNet", "(I)Z"⟩ ∈ zU := zU_in (i := 432) (by decide +kernel) rfl
theorem m433 : Cond.selects "PeriodSlots$Mesh" ⟨"PeriodSlots$Mesh", "isLowestOfNet", "(I)Z"⟩ ⟨"PeriodSlots$Mesh", "isLowestOfNet", "(I)Z"⟩ ∈ zU := zU_in (i := 433) (by decide +kernel) rfl
theorem m406 : Cond.methodLink "PeriodSlots$Mesh" 122 ⟨"PeriodSlots$Mesh", "occupiedByAny", "(I)I"⟩ ∈ zU := zU_in (i := 406) (by decide +kernel) rfl
theorem m408 : Cond.instanceMethod ⟨"PeriodSlots$Mesh", "occupiedByAny", "(I)I"⟩ ∈ zU := zU_in (i := 408) (by decide +kernel) rfl
theorem m7 : Cond.selects "PeriodSlots$Mesh" ⟨"PeriodSlots$Mesh", "occupiedByAny", "(I)I"⟩ ⟨"PeriodSlots$Mesh", "occupiedByAny", "(I)I"⟩ ∈ zU := zU_in (i := 7) (by decide +kernel) rfl
theorem m423 : Cond.methodLink "PeriodSlots$Mesh" 125 ⟨"PeriodSlots$Mesh", "offsetsOutside", "(II)I"⟩ ∈ zU := zU_in (i := 423) (by decide +kernel) rfl
theorem m424 : Cond.instanceMethod ⟨"PeriodSlots$Mesh", "offsetsOutside", "(II)I"⟩ ∈ zU := zU_in (i := 424) (by decide +kernel) rfl
theorem m425 : Cond.selects "PeriodSlots$Mesh" ⟨"PeriodSlots$Mesh", "offsetsOutside", "(II)I"⟩ ⟨"PeriodSlots$Mesh", "offsetsOutside", "(II)I"⟩ ∈ zU := zU_in (i := 425) (by decide +kernel) rfl
theorem m418 : Cond.methodLink "PeriodSlots$Mesh" 137 ⟨"PeriodSlots$Mesh", "unsettledSet", "()I"⟩ ∈ zU := zU_in (i := 418) (by decide +kernel) rfl
theorem m403 : Cond.instanceMethod ⟨"PeriodSlots$Mesh", "unsettledSet", "()I"⟩ ∈ zU := zU_in (i := 403) (by decide +kernel) rfl
theorem m404 : Cond.selects "PeriodSlots$Mesh" ⟨"PeriodSlots$Mesh", "unsettledSet", "()I"⟩ ⟨"PeriodSlots$Mesh", "unsettledSet", "()I"⟩ ∈ zU := zU_in (i := 404) (by decide +kernel) rfl
theorem m419 : Cond.methodLink "PeriodSlots$Mesh" 140 ⟨"PeriodSlots$Mesh", "freeOffsets", "(I)I"⟩ ∈ zU := zU_in (i := 419) (by decide +kernel) rfl
theorem m420 : Cond.instanceMethod ⟨"PeriodSlots$Mesh", "freeOffsets", "(I)I"⟩ ∈ zU := zU_in (i := 420) (by decide +kernel) rfl
theorem m421 : Cond.selects "PeriodSlots$Mesh" ⟨"PeriodSlots$Mesh", "freeOffsets", "(I)I"⟩ ⟨"PeriodSlots$Mesh", "freeOffsets", "(I)I"⟩ ∈ zU := zU_in (i := 421) (by decide +kernel) rfl
theorem m128 : Cond.fieldLink "PeriodSlots$Mesh" 42 "PeriodSlots$Mesh" "next" "[I" ∈ zU := zU_in (i := 128) (by decide +kernel) rfl
theorem m470 : Cond.static ⟨"PeriodSlots", "lowestOrNone", "(I)I"⟩ ∈ zU := zU_in (i := 470) (by decide +kernel) rfl
theorem m476 : Cond.methodLink "PeriodSlots$Mesh" 146 ⟨"PeriodSlots$Mesh", "moveToNext", "(I)I"⟩ ∈ zU := zU_in (i := 476) (by decide +kernel) rfl
theorem m478 : Cond.instanceMethod ⟨"PeriodSlots$Mesh", "moveToNext", "(I)I"⟩ ∈ zU := zU_in (i := 478) (by decide +kernel) rfl
theorem m8 : Cond.selects "PeriodSlots$Mesh" ⟨"PeriodSlots$Mesh", "moveToNext", "(I)I"⟩ ⟨"PeriodSlots$Mesh", "moveToNext", "(I)I"⟩ ∈ zU := zU_in (i := 8) (by decide +kernel) rfl
theorem m103 : Cond.fieldLink "PeriodSlots$Mesh" 149 "PeriodSlots$Mesh" "gainfulRounds" "I" ∈ zU := zU_in (i := 103) (by decide +kernel) rfl
theorem m540 : Cond.methodLink "PeriodSlots$Mesh" 152 ⟨"PeriodSlots$Mesh", "isQuiet", "()Z"⟩ ∈ zU := zU_in (i := 540) (by decide +kernel) rfl
theorem m415 : Cond.instanceMethod ⟨"PeriodSlots$Mesh", "isQuiet", "()Z"⟩ ∈ zU := zU_in (i := 415) (by decide +kernel) rfl
theorem m416 : Cond.selects "PeriodSlots$Mesh" ⟨"PeriodSlots$Mesh", "isQuiet", "()Z"⟩ ⟨"PeriodSlots$Mesh", "isQuiet", "()Z"⟩ ∈ zU := zU_in (i := 416) (by decide +kernel) rfl
theorem m541 : Cond.methodLink "PeriodSlots$Mesh" 156 ⟨"PeriodSlots$Mesh", "advance", "()I"⟩ ∈ zU := zU_in (i := 541) (by decide +kernel) rfl
theorem m466 : Cond.instanceMethod ⟨"PeriodSlots$Mesh", "advance", "()I"⟩ ∈ zU := zU_in (i := 466) (by decide +kernel) rfl
theorem m467 : Cond.selects "PeriodSlots$Mesh" ⟨"PeriodSlots$Mesh", "advance", "()I"⟩ ⟨"PeriodSlots$Mesh", "advance", "()I"⟩ ∈ zU := zU_in (i := 467) (by decide +kernel) rfl
theorem m542 : Cond.methodLink "PeriodSlots$Mesh" 159 ⟨"PeriodSlots$Mesh", "placedSet", "()I"⟩ ∈ zU := zU_in (i := 542) (by decide +kernel) rfl
theorem m411 : Cond.instanceMethod ⟨"PeriodSlots$Mesh", "placedSet", "()I"⟩ ∈ zU := zU_in (i := 411) (by decide +kernel) rfl
theorem m412 : Cond.selects "PeriodSlots$Mesh" ⟨"PeriodSlots$Mesh", "placedSet", "()I"⟩ ⟨"PeriodSlots$Mesh", "placedSet", "()I"⟩ ∈ zU := zU_in (i := 412) (by decide +kernel) rfl
theorem m619 : Cond.methodLink "PeriodSlots$Mesh" 162 ⟨"PeriodSlots$Mesh", "neighboursAt", "(II)I"⟩ ∈ zU := zU_in (i := 619) (by decide +kernel) rfl
theorem m620 : Cond.instanceMethod ⟨"PeriodSlots$Mesh", "neighboursAt", "(II)I"⟩ ∈ zU := zU_in (i := 620) (by decide +kernel) rfl
theorem m621 : Cond.selects "PeriodSlots$Mesh" ⟨"PeriodSlots$Mesh", "neighboursAt", "(II)I"⟩ ⟨"PeriodSlots$Mesh", "neighboursAt", "(II)I"⟩ ∈ zU := zU_in (i := 621) (by decide +kernel) rfl
theorem m615 : Cond.methodLink "PeriodSlots$Mesh" 165 ⟨"PeriodSlots$Mesh", "heardBy", "(II)I"⟩ ∈ zU := zU_in (i := 615) (by decide +kernel) rfl
theorem m617 : Cond.instanceMethod ⟨"PeriodSlots$Mesh", "heardBy", "(II)I"⟩ ∈ zU := zU_in (i := 617) (by decide +kernel) rfl
theorem m11 : Cond.selects "PeriodSlots$Mesh" ⟨"PeriodSlots$Mesh", "heardBy", "(II)I"⟩ ⟨"PeriodSlots$Mesh", "heardBy", "(II)I"⟩ ∈ zU := zU_in (i := 11) (by decide +kernel) rfl
theorem m81 : Cond.fieldLink "PeriodSlots$Text" 15 "PeriodSlots$Text" "length" "I" ∈ zU := zU_in (i := 81) (by decide +kernel) rfl
theorem m80 : Cond.fieldLink "PeriodSlots$Text" 9 "PeriodSlots$Text" "bytes" "[I" ∈ zU := zU_in (i := 80) (by decide +kernel) rfl
theorem m55 : Cond.initialized "PeriodSlots$Text" ∈ zU := zU_in (i := 55) (by decide +kernel) rfl
theorem m282 : Cond.methodLink "PeriodSlots$Text" 24 ⟨"PeriodSlots$Text", "byteAt", "(I)I"⟩ ∈ zU := zU_in (i := 282) (by decide +kernel) rfl
theorem m284 : Cond.instanceMethod ⟨"PeriodSlots$Text", "byteAt", "(I)I"⟩ ∈ zU := zU_in (i := 284) (by decide +kernel) rfl
theorem m0 : Cond.selects "PeriodSlots$Text" ⟨"PeriodSlots$Text", "byteAt", "(I)I"⟩ ⟨"PeriodSlots$Text", "byteAt", "(I)I"⟩ ∈ zU := zU_in (i := 0) (by decide +kernel) rfl
theorem m290 : Cond.methodLink "PeriodSlots$Text" 42 ⟨"PeriodSlots$Mesh", "add", "(II)V"⟩ ∈ zU := zU_in (i := 290) (by decide +kernel) rfl
theorem m291 : Cond.instanceMethod ⟨"PeriodSlots$Mesh", "add", "(II)V"⟩ ∈ zU := zU_in (i := 291) (by decide +kernel) rfl
theorem m292 : Cond.selects "PeriodSlots$Mesh" ⟨"PeriodSlots$Mesh", "add", "(II)V"⟩ ⟨"PeriodSlots$Mesh", "add", "(II)V"⟩ ∈ zU := zU_in (i := 292) (by decide +kernel) rfl
theorem m358 : Cond.methodLink "PeriodSlots$Text" 46 ⟨"PeriodSlots$Mesh", "exists", "(I)Z"⟩ ∈ zU := zU_in (i := 358) (by decide +kernel) rfl
theorem m362 : Cond.methodLink "PeriodSlots$Text" 50 ⟨"PeriodSlots$Mesh", "isLinkedWithAll", "(I)Z"⟩ ∈ zU := zU_in (i := 362) (by decide +kernel) rfl
theorem m363 : Cond.instanceMethod ⟨"PeriodSlots$Mesh", "isLinkedWithAll", "(I)Z"⟩ ∈ zU := zU_in (i := 363) (by decide +kernel) rfl
theorem m364 : Cond.selects "PeriodSlots$Mesh" ⟨"PeriodSlots$Mesh", "isLinkedWithAll", "(I)Z"⟩ ⟨"PeriodSlots$Mesh", "isLinkedWithAll", "(I)Z"⟩ ∈ zU := zU_in (i := 364) (by decide +kernel) rfl
theorem m109 : Cond.fieldLink "PeriodSlots$Text" 53 "PeriodSlots$Mesh" "links" "[I" ∈ zU := zU_in (i := 109) (by decide +kernel) rfl
theorem m367 : Cond.methodLink "PeriodSlots$Text" 60 ⟨"PeriodSlots$Mesh", "flipLink", "(II)V"⟩ ∈ zU := zU_in (i := 367) (by decide +kernel) rfl
theorem m368 : Cond.instanceMethod ⟨"PeriodSlots$Mesh", "flipLink", "(II)V"⟩ ∈ zU := zU_in (i := 368) (by decide +kernel) rfl
theorem m369 : Cond.selects "PeriodSlots$Mesh" ⟨"PeriodSlots$Mesh", "flipLink", "(II)V"⟩ ⟨"PeriodSlots$Mesh", "flipLink", "(II)V"⟩ ∈ zU := zU_in (i := 369) (by decide +kernel) rfl
theorem m278 : Cond.methodLink "PeriodSlots$Text" 19 ⟨"PeriodSlots$Mesh", "clear", "()V"⟩ ∈ zU := zU_in (i := 278) (by decide +kernel) rfl
theorem m279 : Cond.instanceMethod ⟨"PeriodSlots$Mesh", "clear", "()V"⟩ ∈ zU := zU_in (i := 279) (by decide +kernel) rfl
theorem m280 : Cond.selects "PeriodSlots$Mesh" ⟨"PeriodSlots$Mesh", "clear", "()V"⟩ ⟨"PeriodSlots$Mesh", "clear", "()V"⟩ ∈ zU := zU_in (i := 280) (by decide +kernel) rfl
theorem m340 : Cond.methodLink "PeriodSlots$Text" 35 ⟨"PeriodSlots$Mesh", "lacksLink", "()Z"⟩ ∈ zU := zU_in (i := 340) (by decide +kernel) rfl
theorem m341 : Cond.instanceMethod ⟨"PeriodSlots$Mesh", "lacksLink", "()Z"⟩ ∈ zU := zU_in (i := 341) (by decide +kernel) rfl
theorem m342 : Cond.selects "PeriodSlots$Mesh" ⟨"PeriodSlots$Mesh", "lacksLink", "()Z"⟩ ⟨"PeriodSlots$Mesh", "lacksLink", "()Z"⟩ ∈ zU := zU_in (i := 342) (by decide +kernel) rfl
theorem m354 : Cond.methodLink "PeriodSlots$Text" 39 ⟨"PeriodSlots$Text", "readLink", "(ILPeriodSlots$Mesh;)I"⟩ ∈ zU := zU_in (i := 354) (by decide +kernel) rfl
theorem m356 : Cond.instanceMethod ⟨"PeriodSlots$Text", "readLink", "(ILPeriodSlots$Mesh;)I"⟩ ∈ zU := zU_in (i := 356) (by decide +kernel) rfl
theorem m6 : Cond.selects "PeriodSlots$Text" ⟨"PeriodSlots$Text", "readLink", "(ILPeriodSlots$Mesh;)I"⟩ ⟨"PeriodSlots$Text", "readLink", "(ILPeriodSlots$Mesh;)I"⟩ ∈ zU := zU_in (i := 6) (by decide +kernel) rfl
theorem m97 : Cond.fieldLink "PeriodSlots$Text" 28 "PeriodSlots$Mesh" "count" "I" ∈ zU := zU_in (i := 97) (by decide +kernel) rfl
theorem m286 : Cond.methodLink "PeriodSlots$Text" 31 ⟨"PeriodSlots$Text", "readStation", "(ILPeriodSlots$Mesh;)I"⟩ ∈ zU := zU_in (i := 286) (by decide +kernel) rfl
theorem m288 : Cond.instanceMethod ⟨"PeriodSlots$Text", "readStation", "(ILPeriodSlots$Mesh;)I"⟩ ∈ zU := zU_in (i := 288) (by decide +kernel) rfl
theorem m1 : Cond.selects "PeriodSlots$Text" ⟨"PeriodSlots$Text", "readStation", "(ILPeriodSlots$Mesh;)I"⟩ ⟨"PeriodSlots$Text", "readStation", "(ILPeriodSlots$Mesh;)I"⟩ ∈ zU := zU_in (i := 1) (by decide +kernel) rfl
theorem m186 : Cond.fieldLink "PeriodSlots$Shelf" 25 "PeriodSlots$Shelf" "filled" "I" ∈ zU := zU_in (i := 186) (by decide +kernel) rfl
theorem m59 : Cond.initialized "PeriodSlots$Shelf" ∈ zU := zU_in (i := 59) (by decide +kernel) rfl
theorem m184 : Cond.fieldLink "PeriodSlots$Shelf" 15 "PeriodSlots$Shelf" "rows" "I" ∈ zU := zU_in (i := 184) (by decide +kernel) rfl
theorem m108 : Cond.fieldLink "PeriodSlots$Shelf" 32 "PeriodSlots$Mesh" "links" "[I" ∈ zU := zU_in (i := 108) (by decide +kernel) rfl
theorem m185 : Cond.fieldLink "PeriodSlots$Shelf" 21 "PeriodSlots$Shelf" "cells" "[I" ∈ zU := zU_in (i := 185) (by decide +kernel) rfl
theorem m461 : Cond.methodLink "PeriodSlots$Shelf" 37 ⟨"java/lang/System", "arraycopy", "(Ljava/lang/Object;ILjava/lang/Object;II)V"⟩ ∈ zU := zU_in (i := 461) (by decide +kernel) rfl
theorem m112 : Cond.fieldLink "PeriodSlots$Shelf" 43 "PeriodSlots$Mesh" "offsets" "[I" ∈ zU := zU_in (i := 112) (by decide +kernel) rfl
theorem m115 : Cond.fieldLink "PeriodSlots$Shelf" 46 "PeriodSlots$Mesh" "olds" "[I" ∈ zU := zU_in (i := 115) (by decide +kernel) rfl
theorem m100 : Cond.fieldLink "PeriodSlots$Shelf" 49 "PeriodSlots$Mesh" "roundNumber" "I" ∈ zU := zU_in (i := 100) (by decide +kernel) rfl
theorem m556 : Cond.methodLink "PeriodSlots$Shelf" 52 ⟨"PeriodSlots$Shelf", "holds", "(I)Z"⟩ ∈ zU := zU_in (i := 556) (by decide +kernel) rfl
theorem m557 : Cond.instanceMethod ⟨"PeriodSlots$Shelf", "holds", "(I)Z"⟩ ∈ zU := zU_in (i := 557) (by decide +kernel) rfl
theorem m558 : Cond.selects "PeriodSlots$Shelf" ⟨"PeriodSlots$Shelf", "holds", "(I)Z"⟩ ⟨"PeriodSlots$Shelf", "holds", "(I)Z"⟩ ∈ zU := zU_in (i := 558) (by decide +kernel) rfl
theorem m561 : Cond.methodLink "PeriodSlots$Shelf" 56 ⟨"PeriodSlots$Mesh", "relate", "()V"⟩ ∈ zU := zU_in (i := 561) (by decide +kernel) rfl
theorem m562 : Cond.methodLink "PeriodSlots$Shelf" 59 ⟨"PeriodSlots$Mesh", "markTicks", "()V"⟩ ∈ zU := zU_in (i := 562) (by decide +kernel) rfl
theorem m195 : Cond.fieldLink "PeriodSlots$Acts" 20 "PeriodSlots$Acts" "newest" "I" ∈ zU := zU_in (i := 195) (by decide +kernel) rfl
theorem m194 : Cond.fieldLink "PeriodSlots$Acts" 14 "PeriodSlots$Acts" "before" "LPeriodSlots$Shelf;" ∈ zU := zU_in (i := 194) (by decide +kernel) rfl
theorem m457 : Cond.methodLink "PeriodSlots$Acts" 24 ⟨"PeriodSlots$Shelf", "put", "(ILPeriodSlots$Mesh;)V"⟩ ∈ zU := zU_in (i := 457) (by decide +kernel) rfl
theorem m458 : Cond.instanceMethod ⟨"PeriodSlots$Shelf", "put", "(ILPeriodSlots$Mesh;)V"⟩ ∈ zU := zU_in (i := 458) (by decide +kernel) rfl
theorem m459 : Cond.selects "PeriodSlots$Shelf" ⟨"PeriodSlots$Shelf", "put", "(ILPeriodSlots$Mesh;)V"⟩ ⟨"PeriodSlots$Shelf", "put", "(ILPeriodSlots$Mesh;)V"⟩ ∈ zU := zU_in (i := 459) (by decide +kernel) rfl
theorem m196 : Cond.fieldLink "PeriodSlots$Acts" 28 "PeriodSlots$Acts" "size" "I" ∈ zU := zU_in (i := 196) (by decide +kernel) rfl
theorem m462 : Cond.methodLink "PeriodSlots$Acts" 31 ⟨"java/lang/Math", "min", "(II)I"⟩ ∈ zU := zU_in (i := 462) (by decide +kernel) rfl
theorem m58 : Cond.initialized "PeriodSlots$Acts" ∈ zU := zU_in (i := 58) (by decide +kernel) rfl
theorem m552 : Cond.methodLink "PeriodSlots$Acts" 37 ⟨"PeriodSlots$Shelf", "giveBack", "(ILPeriodSlots$Mesh;)V"⟩ ∈ zU := zU_in (i := 552) (by decide +kernel) rfl
theorem m553 : Cond.instanceMethod ⟨"PeriodSlots$Shelf", "giveBack", "(ILPeriodSlots$Mesh;)V"⟩ ∈ zU := zU_in (i := 553) (by decide +kernel) rfl
theorem m554 : Cond.selects "PeriodSlots$Shelf" ⟨"PeriodSlots$Shelf", "giveBack", "(ILPeriodSlots$Mesh;)V"⟩ ⟨"PeriodSlots$Shelf", "giveBack", "(ILPeriodSlots$Mesh;)V"⟩ ∈ zU := zU_in (i := 554) (by decide +kernel) rfl
theorem m563 : Cond.methodLink "PeriodSlots$Acts" 40 ⟨"java/lang/Math", "max", "(II)I"⟩ ∈ zU := zU_in (i := 563) (by decide +kernel) rfl
theorem m216 : Cond.fieldLink "PeriodSlots$Observations" 21 "PeriodSlots$Observations" "size" "I" ∈ zU := zU_in (i := 216) (by decide +kernel) rfl
theorem m213 : Cond.fieldLink "PeriodSlots$Observations" 9 "PeriodSlots$Observations" "stations" "[I" ∈ zU := zU_in (i := 213) (by decide +kernel) rfl
theorem m214 : Cond.fieldLink "PeriodSlots$Observations" 15 "PeriodSlots$Observations" "ticks" "[I" ∈ zU := zU_in (i := 214) (by decide +kernel) rfl
theorem m215 : Cond.fieldLink "PeriodSlots$Observations" 18 "PeriodSlots$Observations" "sights" "[I" ∈ zU := zU_in (i := 215) (by decide +kernel) rfl
theorem m61 : Cond.initialized "PeriodSlots$Observations" ∈ zU := zU_in (i := 61) (by decide +kernel) rfl
theorem m680 : Cond.methodLink "PeriodSlots$Observations" 35 ⟨"PeriodSlots$Mesh", "neighboursAt", "(II)I"⟩ ∈ zU := zU_in (i := 680) (by decide +kernel) rfl
theorem m681 : Cond.methodLink "PeriodSlots$Observations" 39 ⟨"java/lang/Integer", "bitCount", "(I)I"⟩ ∈ zU := zU_in (i := 681) (by decide +kernel) rfl
theorem m682 : Cond.methodLink "PeriodSlots$Observations" 45 ⟨"java/lang/Math", "min", "(II)I"⟩ ∈ zU := zU_in (i := 682) (by decide +kernel) rfl
theorem m676 : Cond.methodLink "PeriodSlots$Observations" 25 ⟨"PeriodSlots$Mesh", "exists", "(I)Z"⟩ ∈ zU := zU_in (i := 676) (by decide +kernel) rfl
theorem m677 : Cond.methodLink "PeriodSlots$Observations" 31 ⟨"PeriodSlots$Observations", "sight", "(LPeriodSlots$Mesh;II)I"⟩ ∈ zU := zU_in (i := 677) (by decide +kernel) rfl
theorem m678 : Cond.static ⟨"PeriodSlots$Observations", "sight", "(LPeriodSlots$Mesh;II)I"⟩ ∈ zU := zU_in (i := 678) (by decide +kernel) rfl
theorem m96 : Cond.fieldLink "PeriodSlots$Planner" 21 "PeriodSlots$Mesh" "count" "I" ∈ zU := zU_in (i := 96) (by decide +kernel) rfl
theorem m119 : Cond.fieldLink "PeriodSlots$Planner" 57 "PeriodSlots$Mesh" "near" "[I" ∈ zU := zU_in (i := 119) (by decide +kernel) rfl
theorem m591 : Cond.methodLink "PeriodSlots$Planner" 60 ⟨"PeriodSlots$Mesh", "ticksAt", "(II)I"⟩ ∈ zU := zU_in (i := 591) (by decide +kernel) rfl
theorem m592 : Cond.methodLink "PeriodSlots$Planner" 64 ⟨"PeriodSlots$Mesh", "offsetsOutside", "(II)I"⟩ ∈ zU := zU_in (i := 592) (by decide +kernel) rfl
theorem m57 : Cond.initialized "PeriodSlots$Planner" ∈ zU := zU_in (i := 57) (by decide +kernel) rfl
theorem m588 : Cond.methodLink "PeriodSlots$Planner" 46 ⟨"PeriodSlots$Planner", "openOffsets", "([ILPeriodSlots$Mesh;I)I"⟩ ∈ zU := zU_in (i := 588) (by decide +kernel) rfl
theorem m589 : Cond.static ⟨"PeriodSlots$Planner", "openOffsets", "([ILPeriodSlots$Mesh;I)I"⟩ ∈ zU := zU_in (i := 589) (by decide +kernel) rfl
