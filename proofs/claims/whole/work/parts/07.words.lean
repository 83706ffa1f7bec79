/-! Words that the walks use, by their places in the tables: by program. -/
theorem m351 : Cond.constant "java/lang/Integer" 265 (1431655765) ∈ zU := zU_in (i := 351) (by decide +kernel) rfl
theorem m352 : Cond.constant "java/lang/Integer" 266 (858993459) ∈ zU := zU_in (i := 352) (by decide +kernel) rfl
theorem m353 : Cond.constant "java/lang/Integer" 267 (252645135) ∈ zU := zU_in (i := 353) (by decide +kernel) rfl
theorem m64 : Cond.initialized "java/lang/Integer" ∈ zU := zU_in (i := 64) (by decide +kernel) rfl
theorem m475 : Cond.constant "java/lang/Integer" 264 (65536) ∈ zU := zU_in (i := 475) (by decide +kernel) rfl
theorem m63 : Cond.initialized "java/util/Arrays" ∈ zU := zU_in (i := 63) (by decide +kernel) rfl
theorem m54 : Cond.initialized "PeriodSlots" ∈ zU := zU_in (i := 54) (by decide +kernel) rfl
theorem m472 : Cond.methodLink "PeriodSlots" 295 ⟨"java/lang/Integer", "numberOfTrailingZeros", "(I)I"⟩ ∈ zU := zU_in (i := 472) (by decide +kernel) rfl
theorem m473 : Cond.static ⟨"java/lang/Integer", "numberOfTrailingZeros", "(I)I"⟩ ∈ zU := zU_in (i := 473) (by decide +kernel) rfl
theorem m705 : Cond.methodLink "PeriodSlots" 298 ⟨"java/lang/Math", "abs", "(I)I"⟩ ∈ zU := zU_in (i := 705) (by decide +kernel) rfl
theorem m708 : Cond.methodLink "PeriodSlots" 303 ⟨"PeriodSlots", "commonDivisor", "(II)I"⟩ ∈ zU := zU_in (i := 708) (by decide +kernel) rfl
theorem m709 : Cond.static ⟨"PeriodSlots", "commonDivisor", "(II)I"⟩ ∈ zU := zU_in (i := 709) (by decide +kernel) rfl
theorem m95 : Cond.fieldLink "PeriodSlots$Mesh" 45 "PeriodSlots$Mesh" "count" "I" ∈ zU := zU_in (i := 95) (by decide +kernel) rfl
theorem m99 : Cond.fieldLink "PeriodSlots$Mesh" 49 "PeriodSlots$Mesh" "roundNumber" "I" ∈ zU := zU_in (i := 99) (by decide +kernel) rfl
theorem m56 : Cond.initialized "PeriodSlots$Mesh" ∈ zU := zU_in (i := 56) (by decide +kernel) rfl
theorem m382 : Cond.methodLink "PeriodSlots$Mesh" 56 ⟨"java/lang/System", "arraycopy", "(Ljava/lang/Object;ILjava/lang/Object;II)V"⟩ ∈ zU := zU_in (i := 382) (by decide +kernel) rfl
theorem m104 : Cond.fieldLink "PeriodSlots$Mesh" 9 "PeriodSlots$Mesh" "periods" "[I" ∈ zU := zU_in (i := 104) (by decide +kernel) rfl
theorem m379 : Cond.methodLink "PeriodSlots$Mesh" 52 ⟨"PeriodSlots$Mesh", "copyRow", "([I[I)V"⟩ ∈ zU := zU_in (i := 379) (by decide +kernel) rfl
theorem m380 : Cond.static ⟨"PeriodSlots$Mesh", "copyRow", "([I[I)V"⟩ ∈ zU := zU_in (i := 380) (by decide +kernel) rfl
theorem m107 : Cond.fieldLink "PeriodSlots$Mesh" 15 "PeriodSlots$Mesh" "links" "[I" ∈ zU := zU_in (i := 107) (by decide +kernel) rfl
theorem m111 : Cond.fieldLink "PeriodSlots$Mesh" 18 "PeriodSlots$Mesh" "offsets" "[I" ∈ zU := zU_in (i := 111) (by decide +kernel) rfl
theorem m114 : Cond.fieldLink "PeriodSlots$Mesh" 21 "PeriodSlots$Mesh" "olds" "[I" ∈ zU := zU_in (i := 114) (by decide +kernel) rfl
theorem m117 : Cond.fieldLink "PeriodSlots$Mesh" 24 "PeriodSlots$Mesh" "patterns" "[I" ∈ zU := zU_in (i := 117) (by decide +kernel) rfl
theorem m118 : Cond.fieldLink "PeriodSlots$Mesh" 27 "PeriodSlots$Mesh" "near" "[I" ∈ zU := zU_in (i := 118) (by decide +kernel) rfl
theorem m121 : Cond.fieldLink "PeriodSlots$Mesh" 30 "PeriodSlots$Mesh" "priorities" "[I" ∈ zU := zU_in (i := 121) (by decide +kernel) rfl
theorem m123 : Cond.fieldLink "PeriodSlots$Mesh" 33 "PeriodSlots$Mesh" "nearAbove" "[I" ∈ zU := zU_in (i := 123) (by decide +kernel) rfl
theorem m124 : Cond.fieldLink "PeriodSlots$Mesh" 36 "PeriodSlots$Mesh" "ticks" "[I" ∈ zU := zU_in (i := 124) (by decide +kernel) rfl
theorem m126 : Cond.fieldLink "PeriodSlots$Mesh" 39 "PeriodSlots$Mesh" "occupied" "[I" ∈ zU := zU_in (i := 126) (by decide +kernel) rfl
theorem m309 : Cond.methodLink "PeriodSlots$Mesh" 119 ⟨"PeriodSlots$Mesh", "ticksAt", "(II)I"⟩ ∈ zU := zU_in (i := 309) (by decide +kernel) rfl
theorem m310 : Cond.instanceMethod ⟨"PeriodSlots$Mesh", "ticksAt", "(II)I"⟩ ∈ zU := zU_in (i := 310) (by decide +kernel) rfl
theorem m311 : Cond.selects "PeriodSlots$Mesh" ⟨"PeriodSlots$Mesh", "ticksAt", "(II)I"⟩ ⟨"PeriodSlots$Mesh", "ticksAt", "(II)I"⟩ ∈ zU := zU_in (i := 311) (by decide +kernel) rfl
theorem m302 : Cond.methodLink "PeriodSlots$Mesh" 128 ⟨"java/util/Arrays", "fill", "([II)V"⟩ ∈ zU := zU_in (i := 302) (by decide +kernel) rfl
theorem m303 : Cond.static ⟨"java/util/Arrays", "fill", "([II)V"⟩ ∈ zU := zU_in (i := 303) (by decide +kernel) rfl
theorem m305 : Cond.methodLink "PeriodSlots$Mesh" 134 ⟨"PeriodSlots$Mesh", "markTicks", "()V"⟩ ∈ zU := zU_in (i := 305) (by decide +kernel) rfl
theorem m306 : Cond.instanceMethod ⟨"PeriodSlots$Mesh", "markTicks", "()V"⟩ ∈ zU := zU_in (i := 306) (by decide +kernel) rfl
theorem m307 : Cond.selects "PeriodSlots$Mesh" ⟨"PeriodSlots$Mesh", "markTicks", "()V"⟩ ⟨"PeriodSlots$Mesh", "markTicks", "()V"⟩ ∈ zU := zU_in (i := 307) (by decide +kernel) rfl
theorem m322 : Cond.static ⟨"PeriodSlots", "has", "(II)Z"⟩ ∈ zU := zU_in (i := 322) (by decide +kernel) rfl
theorem m332 : Cond.constantLong "PeriodSlots$Mesh" 111 (7) ∈ zU := zU_in (i := 332) (by decide +kernel) rfl
theorem m333 : Cond.constantLong "PeriodSlots$Mesh" 113 (37) ∈ zU := zU_in (i := 333) (by decide +kernel) rfl
theorem m334 : Cond.constantLong "PeriodSlots$Mesh" 115 (101) ∈ zU := zU_in (i := 334) (by decide +kernel) rfl
theorem m335 : Cond.constantLong "PeriodSlots$Mesh" 117 (1009) ∈ zU := zU_in (i := 335) (by decide +kernel) rfl
theorem m328 : Cond.methodLink "PeriodSlots$Mesh" 105 ⟨"PeriodSlots$Mesh", "priority", "(I)I"⟩ ∈ zU := zU_in (i := 328) (by decide +kernel) rfl
theorem m330 : Cond.instanceMethod ⟨"PeriodSlots$Mesh", "priority", "(I)I"⟩ ∈ zU := zU_in (i := 330) (by decide +kernel) rfl
theorem m4 : Cond.selects "PeriodSlots$Mesh" ⟨"PeriodSlots$Mesh", "priority", "(I)I"⟩ ⟨"PeriodSlots$Mesh", "priority", "(I)I"⟩ ∈ zU := zU_in (i := 4) (by decide +kernel) rfl
theorem m336 : Cond.methodLink "PeriodSlots$Mesh" 108 ⟨"PeriodSlots$Mesh", "stationsAbove", "(I)I"⟩ ∈ zU := zU_in (i := 336) (by decide +kernel) rfl
theorem m338 : Cond.instanceMethod ⟨"PeriodSlots$Mesh", "stationsAbove", "(I)I"⟩ ∈ zU := zU_in (i := 338) (by decide +kernel) rfl
theorem m5 : Cond.selects "PeriodSlots$Mesh" ⟨"PeriodSlots$Mesh", "stationsAbove", "(I)I"⟩ ⟨"PeriodSlots$Mesh", "stationsAbove", "(I)I"⟩ ∈ zU := zU_in (i := 5) (by decide +kernel) rfl
theorem m317 : Cond.methodLink "PeriodSlots$Mesh" 86 ⟨"PeriodSlots$Mesh", "neighboursOf", "(I)I"⟩ ∈ zU := zU_in (i := 317) (by decide +kernel) rfl
theorem m319 : Cond.instanceMethod ⟨"PeriodSlots$Mesh", "neighboursOf", "(I)I"⟩ ∈ zU := zU_in (i := 319) (by decide +kernel) rfl
theorem m2 : Cond.selects "PeriodSlots$Mesh" ⟨"PeriodSlots$Mesh", "neighboursOf", "(I)I"⟩ ⟨"PeriodSlots$Mesh", "neighboursOf", "(I)I"⟩ ∈ zU := zU_in (i := 2) (by decide +kernel) rfl
theorem m324 : Cond.methodLink "PeriodSlots$Mesh" 102 ⟨"PeriodSlots$Mesh", "rank", "()V"⟩ ∈ zU := zU_in (i := 324) (by decide +kernel) rfl
theorem m326 : Cond.instanceMethod ⟨"PeriodSlots$Mesh", "rank", "()V"⟩ ∈ zU := zU_in (i := 326) (by decide +kernel) rfl
theorem m3 : Cond.selects "PeriodSlots$Mesh" ⟨"PeriodSlots$Mesh", "rank", "()V"⟩ ⟨"PeriodSlots$Mesh", "rank", "()V"⟩ ∈ zU := zU_in (i := 3) (by decide +kernel) rfl
theorem m294 : Cond.methodLink "PeriodSlots$Mesh" 62 ⟨"PeriodSlots$Mesh", "wrapped", "(II)I"⟩ ∈ zU := zU_in (i := 294) (by decide +kernel) rfl
theorem m295 : Cond.instanceMethod ⟨"PeriodSlots$Mesh", "wrapped", "(II)I"⟩ ∈ zU := zU_in (i := 295) (by decide +kernel) rfl
theorem m296 : Cond.selects "PeriodSlots$Mesh" ⟨"PeriodSlots$Mesh", "wrapped", "(II)I"⟩ ⟨"PeriodSlots$Mesh", "wrapped", "(II)I"⟩ ∈ zU := zU_in (i := 296) (by decide +kernel) rfl
theorem m298 : Cond.methodLink "PeriodSlots$Mesh" 66 ⟨"PeriodSlots$Mesh", "dropOlds", "()V"⟩ ∈ zU := zU_in (i := 298) (by decide +kernel) rfl
theorem m299 : Cond.instanceMethod ⟨"PeriodSlots$Mesh", "dropOlds", "()V"⟩ ∈ zU := zU_in (i := 299) (by decide +kernel) rfl
theorem m300 : Cond.selects "PeriodSlots$Mesh" ⟨"PeriodSlots$Mesh", "dropOlds", "()V"⟩ ⟨"PeriodSlots$Mesh", "dropOlds", "()V"⟩ ∈ zU := zU_in (i := 300) (by decide +kernel) rfl
theorem m313 : Cond.methodLink "PeriodSlots$Mesh" 69 ⟨"PeriodSlots$Mesh", "relate", "()V"⟩ ∈ zU := zU_in (i := 313) (by decide +kernel) rfl
theorem m314 : Cond.instanceMethod ⟨"PeriodSlots$Mesh", "relate", "()V"⟩ ∈ zU := zU_in (i := 314) (by decide +kernel) rfl
theorem m315 : Cond.selects "PeriodSlots$Mesh" ⟨"PeriodSlots$Mesh", "relate", "()V"⟩ ⟨"PeriodSlots$Mesh", "relate", "()V"⟩ ∈ zU := zU_in (i := 315) (by decide +kernel) rfl
theorem m489 : Cond.methodLink "PeriodSlots$Mesh" 72 ⟨"PeriodSlots$Mesh", "exists", "(I)Z"⟩ ∈ zU := zU_in (i := 489) (by decide +kernel) rfl
theorem m359 : Cond.instanceMethod ⟨"PeriodSlots$Mesh", "exists", "(I)Z"⟩ ∈ zU := zU_in (i := 359) (by decide +kernel) rfl
theorem m360 : Cond.selects "PeriodSlots$Mesh" ⟨"PeriodSlots$Mesh", "exists", "(I)Z"⟩ ⟨"PeriodSlots$Mesh", "exists", "(I)Z"⟩ ∈ zU := zU_in (i := 360) (by decide +kernel) rfl
theorem m348 : Cond.methodLink "PeriodSlots$Mesh" 76 ⟨"java/lang/Integer", "bitCount", "(I)I"⟩ ∈ zU := zU_in (i := 348) (by decide +kernel) rfl
theorem m349 : Cond.static ⟨"java/lang/Integer", "bitCount", "(I)I"⟩ ∈ zU := zU_in (i := 349) (by decide +kernel) rfl
theorem m344 : Cond.methodLink "PeriodSlots$Mesh" 82 ⟨"PeriodSlots$Mesh", "linkCount", "()I"⟩ ∈ zU := zU_in (i := 344) (by decide +kernel) rfl
theorem m345 : Cond.instanceMethod ⟨"PeriodSlots$Mesh", "linkCount", "()I"⟩ ∈ zU := zU_in (i := 345) (by decide +kernel) rfl
theorem m346 : Cond.selects "PeriodSlots$Mesh" ⟨"PeriodSlots$Mesh", "linkCount", "()I"⟩ ⟨"PeriodSlots$Mesh", "linkCount", "()I"⟩ ∈ zU := zU_in (i := 346) (by decide +kernel) rfl
theorem m435 : Cond.methodLink "PeriodSlots$Mesh" 93 ⟨"PeriodSlots$Mesh", "netOf", "(I)I"⟩ ∈ zU := zU_in (i := 435) (by decide +kernel) rfl
theorem m436 : Cond.instanceMethod ⟨"PeriodSlots$Mesh", "netOf", "(I)I"⟩ ∈ zU := zU_in (i := 436) (by decide +kernel) rfl
theorem m437 : Cond.selects "PeriodSlots$Mesh" ⟨"PeriodSlots$Mesh", "netOf", "(I)I"⟩ ⟨"PeriodSlots$Mesh", "netOf", "(I)I"⟩ ∈ zU := zU_in (i := 437) (by decide +kernel) rfl
theorem m439 : Cond.methodLink "PeriodSlots$Mesh" 96 ⟨"java/lang/Integer", "lowestOneBit", "(I)I"⟩ ∈ zU := zU_in (i := 439) (by decide +kernel) rfl
theorem m440 : Cond.static ⟨"java/lang/Integer", "lowestOneBit", "(I)I"⟩ ∈ zU := zU_in (i := 440) (by decide +kernel) rfl
theorem m431 : Cond.methodLink "PeriodSlots$Mesh" 99 ⟨"PeriodSlots$Mesh", "isLowestOfNet", "(I)Z"⟩ ∈ zU := zU_in (i := 431) (by decide +kernel) rfl
theorem m432 : Cond.instanceMethod ⟨"PeriodSlots$Mesh", "isLowestOfNet", "(I)Z"⟩ ∈ zU := zU_in (i := 432) (by decide +kernel) rfl
theorem m433 : Cond.selects "PeriodSlots$Mesh" ⟨"PeriodSlots$Mesh", "isLowestOfNet", "(I)Z"⟩ ⟨"PeriodSlots$Mesh", "isLowestOfNet", "(I)Z"⟩ ∈ zU := zU_in (i := 433) (by decide +kernel) rfl
theorem m406 : Cond.methodLink "PeriodSlots$Mesh" 122 ⟨"PeriodSlots$Mesh", "occupiedByAny", "(I)I"⟩ ∈ zU := zU_in (i := 406) (by decide +kernel) rfl
theorem m408 : Cond.instanceMethod ⟨"PeriodSlots$Mesh", "occupiedByAny", "(I)I"⟩ ∈ zU := zU_in (i := 408) (by decide +kernel) rfl
theorem m7 : Cond.selects "PeriodSlots$Mesh" ⟨"PeriodSlots$Mesh", "occupiedByAny", "(I)I"⟩ ⟨"PeriodSlots$Mesh", "occupiedByAny", "(I)I"⟩ ∈ zU := zU_in (i := 7) (by decide +kernel) rfl
theorem m423 : Cond.methodLink "PeriodSlots$Mesh" 125 ⟨"PeriodSlots$Mesh", "offsetsOutside", "(II)I"⟩ ∈ zU := zU_in (i := 423) (by decide +kernel) rfl
theorem m424 : Cond.instanceMethod ⟨"PeriodSlots$Mesh", "offsetsOutside", "(II)I"⟩ ∈ zU := zU_in (i := 424) (by decide +kernel) rfl
theorem m425 : Cond.selects "PeriodSlots$Mesh" ⟨"PeriodSlots$Mesh", "offsetsOutside", "(II)I"⟩ ⟨"PeriodSlots$Mesh", "offsetsOutside", "(II)I"⟩ ∈ zU := zU_in (i := 425) (by decide +kernel) rfl
theorem m418 : Cond.methodLink "PeriodSlots$Mesh" 137 ⟨"PeriodSlots$Mesh", "unsettledSet", "()I"⟩ ∈ zU := zU_in (i := 418) (by decide +kernel) rfl
theorem m403 : Cond.instanceMethod ⟨"PeriodSlots$Mesh", "unsettledSet", "()I"⟩ ∈ zU := zU_in (i := 403) (by decide +kernel) rfl
theorem m404 : Cond.selects "PeriodSlots$Mesh" ⟨"PeriodSlots$Mesh", "unsettledSet", "()I"⟩ ⟨"PeriodSlots$Mesh", "unsettledSet", "()I"⟩ ∈ zU := zU_in (i := 404) (by decide +kernel) rfl
theorem m419 : Cond.methodLink "PeriodSlots$Mesh" 140 ⟨"PeriodSlots$Mesh", "freeOffsets", "(I)I"⟩ ∈ zU := zU_in (i := 419) (by decide +kernel) rfl
theorem m420 : Cond.instanceMethod ⟨"PeriodSlots$Mesh", "freeOffsets", "(I)I"⟩ ∈ zU := zU_in (i := 420) (by decide +kernel) rfl
theorem m421 : Cond.selects "PeriodSlots$Mesh" ⟨"PeriodSlots$Mesh", "freeOffsets", "(I)I"⟩ ⟨"PeriodSlots$Mesh", "freeOffsets", "(I)I"⟩ ∈ zU := zU_in (i := 421) (by decide +kernel) rfl
theorem m128 : Cond.fieldLink "PeriodSlots$Mesh" 42 "PeriodSlots$Mesh" "next" "[I" ∈ zU := zU_in (i := 128) (by decide +kernel) rfl
theorem m470 : Cond.static ⟨"PeriodSlots", "lowestOrNone", "(I)I"⟩ ∈ zU := zU_in (i := 470) (by decide +kernel) rfl
theorem m476 : Cond.methodLink "PeriodSlots$Mesh" 146 ⟨"PeriodSlots$Mesh", "moveToNext", "(I)I"⟩ ∈ zU := zU_in (i := 476) (by decide +kernel) rfl
theorem m478 : Cond.instanceMethod ⟨"PeriodSlots$Mesh", "moveToNext", "(I)I"⟩ ∈ zU := zU_in (i := 478) (by decide +kernel) rfl
theorem m8 : Cond.selects "PeriodSlots$Mesh" ⟨"PeriodSlots$Mesh", "moveToNext", "(I)I"⟩ ⟨"PeriodSlots$Mesh", "moveToNext", "(I)I"⟩ ∈ zU := zU_in (i := 8) (by decide +kernel) rfl
theorem m103 : Cond.fieldLink "PeriodSlots$Mesh" 149 "PeriodSlots$Mesh" "gainfulRounds" "I" ∈ zU := zU_in (i := 103) (by decide +kernel) rfl
theorem m540 : Cond.methodLink "PeriodSlots$Mesh" 152 ⟨"PeriodSlots$Mesh", "isQuiet", "()Z"⟩ ∈ zU := zU_in (i := 540) (by decide +kernel) rfl
theorem m415 : Cond.instanceMethod ⟨"PeriodSlots$Mesh", "isQuiet", "()Z"⟩ ∈ zU := zU_in (i := 415) (by decide +kernel) rfl
theorem m416 : Cond.selects "PeriodSlots$Mesh" ⟨"PeriodSlots$Mesh", "isQuiet", "()Z"⟩ ⟨"PeriodSlots$Mesh", "isQuiet", "()Z"⟩ ∈ zU := zU_in (i := 416) (by decide +kernel) rfl
theorem m541 : Cond.methodLink "PeriodSlots$Mesh" 156 ⟨"PeriodSlots$Mesh", "advance", "()I"⟩ ∈ zU := zU_in (i := 541) (by decide +kernel) rfl
theorem m466 : Cond.instanceMethod ⟨"PeriodSlots$Mesh", "advance", "()I"⟩ ∈ zU := zU_in (i := 466) (by decide +kernel) rfl
theorem m467 : Cond.selects "PeriodSlots$Mesh" ⟨"PeriodSlots$Mesh", "advance", "()I"⟩ ⟨"PeriodSlots$Mesh", "advance", "()I"⟩ ∈ zU := zU_in (i := 467) (by decide +kernel) rfl
theorem m542 : Cond.methodLink "PeriodSlots$Mesh" 159 ⟨"PeriodSlots$Mesh", "placedSet", "()I"⟩ ∈ zU := zU_in (i := 542) (by decide +kernel) rfl
theorem m411 : Cond.instanceMethod ⟨"PeriodSlots$Mesh", "placedSet", "()I"⟩ ∈ zU := zU_in (i := 411) (by decide +kernel) rfl
theorem m412 : Cond.selects "PeriodSlots$Mesh" ⟨"PeriodSlots$Mesh", "placedSet", "()I"⟩ ⟨"PeriodSlots$Mesh", "placedSet", "()I"⟩ ∈ zU := zU_in (i := 412) (by decide +kernel) rfl
theorem m619 : Cond.methodLink "PeriodSlots$Mesh" 162 ⟨"PeriodSlots$Mesh", "neighboursAt", "(II)I"⟩ ∈ zU := zU_in (i := 619) (by decide +kernel) rfl
theorem m620 : Cond.instanceMethod ⟨"PeriodSlots$Mesh", "neighboursAt", "(II)I"⟩ ∈ zU := zU_in (i := 620) (by decide +kernel) rfl
theorem m621 : Cond.selects "PeriodSlots$Mesh" ⟨"PeriodSlots$Mesh", "neighboursAt", "(II)I"⟩ ⟨"PeriodSlots$Mesh", "neighboursAt", "(II)I"⟩ ∈ zU := zU_in (i := 621) (by decide +kernel) rfl
theorem m615 : Cond.methodLink "PeriodSlots$Mesh" 165 ⟨"PeriodSlots$Mesh", "heardBy", "(II)I"⟩ ∈ zU := zU_in (i := 615) (by decide +kernel) rfl
theorem m617 : Cond.instanceMethod ⟨"PeriodSlots$Mesh", "heardBy", "(II)I"⟩ ∈ zU := zU_in (i := 617) (by decide +kernel) rfl
theorem m11 : Cond.selects "PeriodSlots$Mesh" ⟨"PeriodSlots$Mesh", "heardBy", "(II)I"⟩ ⟨"PeriodSlots$Mesh", "heardBy", "(II)I"⟩ ∈ zU := zU_in (i := 11) (by decide +kernel) rfl
theorem m81 : Cond.fieldLink "PeriodSlots$Text" 15 "PeriodSlots$Text" "length" "I" ∈ zU := zU_in (i := 81) (by decide +kernel) rfl
theorem m80 : Cond.fieldLink "PeriodSlots$Text" 9 "PeriodSlots$Text" "bytes" "[I" ∈ zU := zU_in (i := 80) (by decide +kernel) rfl
theorem m55 : Cond.initialized "PeriodSlots$Text" ∈ zU := zU_in (i := 55) (by decide +kernel) rfl
theorem m282 : Cond.methodLink "PeriodSlots$Text" 24 ⟨"PeriodSlots$Text", "byteAt", "(I)I"⟩ ∈ zU := zU_in (i := 282) (by decide +kernel) rfl
theorem m284 : Cond.instanceMethod ⟨"PeriodSlots$Text", "byteAt", "(I)I"⟩ ∈ zU := zU_in (i := 284) (by decide +kernel) rfl
theorem m0 : Cond.selects "PeriodSlots$Text" ⟨"PeriodSlots$Text", "byteAt", "(I)I"⟩ ⟨"PeriodSlots$Text", "byteAt", "(I)I"⟩ ∈ zU := zU_in (i := 0) (by decide +kernel) rfl
theorem m290 : Cond.methodLink "PeriodSlots$Text" 42 ⟨"PeriodSlots$Mesh", "add", "(II)V"⟩ ∈ zU := zU_in (i := 290) (by decide +kernel) rfl
theorem m291 : Cond.instanceMethod ⟨"PeriodSlots$Mesh", "add", "(II)V"⟩ ∈ zU := zU_in (i := 291) (by decide +kernel) rfl
theorem m292 : Cond.selects "PeriodSlots$Mesh" ⟨"PeriodSlots$Mesh", "add", "(II)V"⟩ ⟨"PeriodSlots$Mesh", "add", "(II)V"⟩ ∈ zU := zU_in (i := 292) (by decide +kernel) rfl
theorem m358 : Cond.methodLink "PeriodSlots$Text" 46 ⟨"PeriodSlots$Mesh", "exists", "(I)Z"⟩ ∈ zU := zU_in (i := 358) (by decide +kernel) rfl
theorem m362 : Cond.methodLink "PeriodSlots$Text" 50 ⟨"PeriodSlots$Mesh", "isLinkedWithAll", "(I)Z"⟩ ∈ zU := zU_in (i := 362) (by decide +kernel) rfl
theorem m363 : Cond.instanceMethod ⟨"PeriodSlots$Mesh", "isLinkedWithAll", "(I)Z"⟩ ∈ zU := zU_in (i := 363) (by decide +kernel) rfl
theorem m364 : Cond.selects "PeriodSlots$Mesh" ⟨"PeriodSlots$Mesh", "isLinkedWithAll", "(I)Z"⟩ ⟨"PeriodSlots$Mesh", "isLinkedWithAll", "(I)Z"⟩ ∈ zU := zU_in (i := 364) (by decide +kernel) rfl
theorem m109 : Cond.fieldLink "PeriodSlots$Text" 53 "PeriodSlots$Mesh" "links" "[I" ∈ zU := zU_in (i := 109) (by decide +kernel) rfl
theorem m367 : Cond.methodLink "PeriodSlots$Text" 60 ⟨"PeriodSlots$Mesh", "flipLink", "(II)V"⟩ ∈ zU := zU_in (i := 367) (by decide +kernel) rfl
theorem m368 : Cond.instanceMethod ⟨"PeriodSlots$Mesh", "flipLink", "(II)V"⟩ ∈ zU := zU_in (i := 368) (by decide +kernel) rfl
theorem m369 : Cond.selects "PeriodSlots$Mesh" ⟨"PeriodSlots$Mesh", "flipLink", "(II)V"⟩ ⟨"PeriodSlots$Mesh", "flipLink", "(II)V"⟩ ∈ zU := zU_in (i := 369) (by decide +kernel) rfl
theorem m278 : Cond.methodLink "PeriodSlots$Text" 19 ⟨"PeriodSlots$Mesh", "clear", "()V"⟩ ∈ zU := zU_in (i := 278) (by decide +kernel) rfl
theorem m279 : Cond.instanceMethod ⟨"PeriodSlots$Mesh", "clear", "()V"⟩ ∈ zU := zU_in (i := 279) (by decide +kernel) rfl
theorem m280 : Cond.selects "PeriodSlots$Mesh" ⟨"PeriodSlots$Mesh", "clear", "()V"⟩ ⟨"PeriodSlots$Mesh", "clear", "()V"⟩ ∈ zU := zU_in (i := 280) (by decide +kernel) rfl
theorem m340 : Cond.methodLink "PeriodSlots$Text" 35 ⟨"PeriodSlots$Mesh", "lacksLink", "()Z"⟩ ∈ zU := zU_in (i := 340) (by decide +kernel) rfl
theorem m341 : Cond.instanceMethod ⟨"PeriodSlots$Mesh", "lacksLink", "()Z"⟩ ∈ zU := zU_in (i := 341) (by decide +kernel) rfl
theorem m342 : Cond.selects "PeriodSlots$Mesh" ⟨"PeriodSlots$Mesh", "lacksLink", "()Z"⟩ ⟨"PeriodSlots$Mesh", "lacksLink", "()Z"⟩ ∈ zU := zU_in (i := 342) (by decide +kernel) rfl
theorem m354 : Cond.methodLink "PeriodSlots$Text" 39 ⟨"PeriodSlots$Text", "readLink", "(ILPeriodSlots$Mesh;)I"⟩ ∈ zU := zU_in (i := 354) (by decide +kernel) rfl
theorem m356 : Cond.instanceMethod ⟨"PeriodSlots$Text", "readLink", "(ILPeriodSlots$Mesh;)I"⟩ ∈ zU := zU_in (i := 356) (by decide +kernel) rfl
theorem m6 : Cond.selects "PeriodSlots$Text" ⟨"PeriodSlots$Text", "readLink", "(ILPeriodSlots$Mesh;)I"⟩ ⟨"PeriodSlots$Text", "readLink", "(ILPeriodSlots$Mesh;)I"⟩ ∈ zU := zU_in (i := 6) (by decide +kernel) rfl
theorem m97 : Cond.fieldLink "PeriodSlots$Text" 28 "PeriodSlots$Mesh" "count" "I" ∈ zU := zU_in (i := 97) (by decide +kernel) rfl
theorem m286 : Cond.methodLink "PeriodSlots$Text" 31 ⟨"PeriodSlots$Text", "readStation", "(ILPeriodSlots$Mesh;)I"⟩ ∈ zU := zU_in (i := 286) (by decide +kernel) rfl
theorem m288 : Cond.instanceMethod ⟨"PeriodSlots$Text", "readStation", "(ILPeriodSlots$Mesh;)I"⟩ ∈ zU := zU_in (i := 288) (by decide +kernel) rfl
theorem m1 : Cond.selects "PeriodSlots$Text" ⟨"PeriodSlots$Text", "readStation", "(ILPeriodSlots$Mesh;)I"⟩ ⟨"PeriodSlots$Text", "readStation", "(ILPeriodSlots$Mesh;)I"⟩ ∈ zU := zU_in (i := 1) (by decide +kernel) rfl
theorem m186 : Cond.fieldLink "PeriodSlots$Shelf" 25 "PeriodSlots$Shelf" "filled" "I" ∈ zU := zU_in (i := 186) (by decide +kernel) rfl
theorem m59 : Cond.initialized "PeriodSlots$Shelf" ∈ zU := zU_in (i := 59) (by decide +kernel) rfl
theorem m184 : Cond.fieldLink "PeriodSlots$Shelf" 15 "PeriodSlots$Shelf" "rows" "I" ∈ zU := zU_in (i := 184) (by decide +kernel) rfl
theorem m108 : Cond.fieldLink "PeriodSlots$Shelf" 32 "PeriodSlots$Mesh" "links" "[I" ∈ zU := zU_in (i := 108) (by decide +kernel) rfl
theorem m185 : Cond.fieldLink "PeriodSlots$Shelf" 21 "PeriodSlots$Shelf" "cells" "[I" ∈ zU := zU_in (i := 185) (by decide +kernel) rfl
theorem m461 : Cond.methodLink "PeriodSlots$Shelf" 37 ⟨"java/lang/System", "arraycopy", "(Ljava/lang/Object;ILjava/lang/Object;II)V"⟩ ∈ zU := zU_in (i := 461) (by decide +kernel) rfl
theorem m112 : Cond.fieldLink "PeriodSlots$Shelf" 43 "PeriodSlots$Mesh" "offsets" "[I" ∈ zU := zU_in (i := 112) (by decide +kernel) rfl
theorem m115 : Cond.fieldLink "PeriodSlots$Shelf" 46 "PeriodSlots$Mesh" "olds" "[I" ∈ zU := zU_in (i := 115) (by decide +kernel) rfl
theorem m100 : Cond.fieldLink "PeriodSlots$Shelf" 49 "PeriodSlots$Mesh" "roundNumber" "I" ∈ zU := zU_in (i := 100) (by decide +kernel) rfl
theorem m556 : Cond.methodLink "PeriodSlots$Shelf" 52 ⟨"PeriodSlots$Shelf", "holds", "(I)Z"⟩ ∈ zU := zU_in (i := 556) (by decide +kernel) rfl
theorem m557 : Cond.instanceMethod ⟨"PeriodSlots$Shelf", "holds", "(I)Z"⟩ ∈ zU := zU_in (i := 557) (by decide +kernel) rfl
theorem m558 : Cond.selects "PeriodSlots$Shelf" ⟨"PeriodSlots$Shelf", "holds", "(I)Z"⟩ ⟨"PeriodSlots$Shelf", "holds", "(I)Z"⟩ ∈ zU := zU_in (i := 558) (by decide +kernel) rfl
theorem m561 : Cond.methodLink "PeriodSlots$Shelf" 56 ⟨"PeriodSlots$Mesh", "relate", "()V"⟩ ∈ zU := zU_in (i := 561) (by decide +kernel) rfl
theorem m562 : Cond.methodLink "PeriodSlots$Shelf" 59 ⟨"PeriodSlots$Mesh", "markTicks", "()V"⟩ ∈ zU := zU_in (i := 562) (by decide +kernel) rfl
theorem m195 : Cond.fieldLink "PeriodSlots$Acts" 20 "PeriodSlots$Acts" "newest" "I" ∈ zU := zU_in (i := 195) (by decide +kernel) rfl
theorem m194 : Cond.fieldLink "PeriodSlots$Acts" 14 "PeriodSlots$Acts" "before" "LPeriodSlots$Shelf;" ∈ zU := zU_in (i := 194) (by decide +kernel) rfl
theorem m457 : Cond.methodLink "PeriodSlots$Acts" 24 ⟨"PeriodSlots$Shelf", "put", "(ILPeriodSlots$Mesh;)V"⟩ ∈ zU := zU_in (i := 457) (by decide +kernel) rfl
theorem m458 : Cond.instanceMethod ⟨"PeriodSlots$Shelf", "put", "(ILPeriodSlots$Mesh;)V"⟩ ∈ zU := zU_in (i := 458) (by decide +kernel) rfl
theorem m459 : Cond.selects "PeriodSlots$Shelf" ⟨"PeriodSlots$Shelf", "put", "(ILPeriodSlots$Mesh;)V"⟩ ⟨"PeriodSlots$Shelf", "put", "(ILPeriodSlots$Mesh;)V"⟩ ∈ zU := zU_in (i := 459) (by decide +kernel) rfl
theorem m196 : Cond.fieldLink "PeriodSlots$Acts" 28 "PeriodSlots$Acts" "size" "I" ∈ zU := zU_in (i := 196) (by decide +kernel) rfl
theorem m462 : Cond.methodLink "PeriodSlots$Acts" 31 ⟨"java/lang/Math", "min", "(II)I"⟩ ∈ zU := zU_in (i := 462) (by decide +kernel) rfl
theorem m58 : Cond.initialized "PeriodSlots$Acts" ∈ zU := zU_in (i := 58) (by decide +kernel) rfl
theorem m552 : Cond.methodLink "PeriodSlots$Acts" 37 ⟨"PeriodSlots$Shelf", "giveBack", "(ILPeriodSlots$Mesh;)V"⟩ ∈ zU := zU_in (i := 552) (by decide +kernel) rfl
theorem m553 : Cond.instanceMethod ⟨"PeriodSlots$Shelf", "giveBack", "(ILPeriodSlots$Mesh;)V"⟩ ∈ zU := zU_in (i := 553) (by decide +kernel) rfl
theorem m554 : Cond.selects "PeriodSlots$Shelf" ⟨"PeriodSlots$Shelf", "giveBack", "(ILPeriodSlots$Mesh;)V"⟩ ⟨"PeriodSlots$Shelf", "giveBack", "(ILPeriodSlots$Mesh;)V"⟩ ∈ zU := zU_in (i := 554) (by decide +kernel) rfl
theorem m563 : Cond.methodLink "PeriodSlots$Acts" 40 ⟨"java/lang/Math", "max", "(II)I"⟩ ∈ zU := zU_in (i := 563) (by decide +kernel) rfl
theorem m216 : Cond.fieldLink "PeriodSlots$Observations" 21 "PeriodSlots$Observations" "size" "I" ∈ zU := zU_in (i := 216) (by decide +kernel) rfl
theorem m213 : Cond.fieldLink "PeriodSlots$Observations" 9 "PeriodSlots$Observations" "stations" "[I" ∈ zU := zU_in (i := 213) (by decide +kernel) rfl
theorem m214 : Cond.fieldLink "PeriodSlots$Observations" 15 "PeriodSlots$Observations" "ticks" "[I" ∈ zU := zU_in (i := 214) (by decide +kernel) rfl
theorem m215 : Cond.fieldLink "PeriodSlots$Observations" 18 "PeriodSlots$Observations" "sights" "[I" ∈ zU := zU_in (i := 215) (by decide +kernel) rfl
theorem m61 : Cond.initialized "PeriodSlots$Observations" ∈ zU := zU_in (i := 61) (by decide +kernel) rfl
theorem m680 : Cond.methodLink "PeriodSlots$Observations" 35 ⟨"PeriodSlots$Mesh", "neighboursAt", "(II)I"⟩ ∈ zU := zU_in (i := 680) (by decide +kernel) rfl
theorem m681 : Cond.methodLink "PeriodSlots$Observations" 39 ⟨"java/lang/Integer", "bitCount", "(I)I"⟩ ∈ zU := zU_in (i := 681) (by decide +kernel) rfl
theorem m682 : Cond.methodLink "PeriodSlots$Observations" 45 ⟨"java/lang/Math", "min", "(II)I"⟩ ∈ zU := zU_in (i := 682) (by decide +kernel) rfl
theorem m676 : Cond.methodLink "PeriodSlots$Observations" 25 ⟨"PeriodSlots$Mesh", "exists", "(I)Z"⟩ ∈ zU := zU_in (i := 676) (by decide +kernel) rfl
theorem m677 : Cond.methodLink "PeriodSlots$Observations" 31 ⟨"PeriodSlots$Observations", "sight", "(LPeriodSlots$Mesh;II)I"⟩ ∈ zU := zU_in (i := 677) (by decide +kernel) rfl
theorem m678 : Cond.static ⟨"PeriodSlots$Observations", "sight", "(LPeriodSlots$Mesh;II)I"⟩ ∈ zU := zU_in (i := 678) (by decide +kernel) rfl
theorem m96 : Cond.fieldLink "PeriodSlots$Planner" 21 "PeriodSlots$Mesh" "count" "I" ∈ zU := zU_in (i := 96) (by decide +kernel) rfl
theorem m119 : Cond.fieldLink "PeriodSlots$Planner" 57 "PeriodSlots$Mesh" "near" "[I" ∈ zU := zU_in (i := 119) (by decide +kernel) rfl
theorem m591 : Cond.methodLink "PeriodSlots$Planner" 60 ⟨"PeriodSlots$Mesh", "ticksAt", "(II)I"⟩ ∈ zU := zU_in (i := 591) (by decide +kernel) rfl
theorem m592 : Cond.methodLink "PeriodSlots$Planner" 64 ⟨"PeriodSlots$Mesh", "offsetsOutside", "(II)I"⟩ ∈ zU := zU_in (i := 592) (by decide +kernel) rfl
theorem m57 : Cond.initialized "PeriodSlots$Planner" ∈ zU := zU_in (i := 57) (by decide +kernel) rfl
theorem m588 : Cond.methodLink "PeriodSlots$Planner" 46 ⟨"PeriodSlots$Planner", "openOffsets", "([ILPeriodSlots$Mesh;I)I"⟩ ∈ zU := zU_in (i := 588) (by decide +kernel) rfl
theorem m589 : Cond.static ⟨"PeriodSlots$Planner", "openOffsets", "([ILPeriodSlots$Mesh;I)I"⟩ ∈ zU := zU_in (i := 589) (by decide +kernel) rfl
theorem m586 : Cond.methodLink "PeriodSlots$Planner" 39 ⟨"PeriodSlots$Mesh", "exists", "(I)Z"⟩ ∈ zU := zU_in (i := 586) (by decide +kernel) rfl
theorem m105 : Cond.fieldLink "PeriodSlots$Planner" 50 "PeriodSlots$Mesh" "periods" "[I" ∈ zU := zU_in (i := 105) (by decide +kernel) rfl
theorem m593 : Cond.methodLink "PeriodSlots$Planner" 53 ⟨"PeriodSlots$Planner", "leavesRoom", "([ILPeriodSlots$Mesh;I)Z"⟩ ∈ zU := zU_in (i := 593) (by decide +kernel) rfl
theorem m594 : Cond.static ⟨"PeriodSlots$Planner", "leavesRoom", "([ILPeriodSlots$Mesh;I)Z"⟩ ∈ zU := zU_in (i := 594) (by decide +kernel) rfl
theorem m583 : Cond.methodLink "PeriodSlots$Planner" 35 ⟨"PeriodSlots$Planner", "assigns", "([ILPeriodSlots$Mesh;II)Z"⟩ ∈ zU := zU_in (i := 583) (by decide +kernel) rfl
theorem m584 : Cond.static ⟨"PeriodSlots$Planner", "assigns", "([ILPeriodSlots$Mesh;II)Z"⟩ ∈ zU := zU_in (i := 584) (by decide +kernel) rfl
theorem m164 : Cond.fieldLink "PeriodSlots$Planner" 9 "PeriodSlots$Planner" "offsets" "[I" ∈ zU := zU_in (i := 164) (by decide +kernel) rfl
theorem m580 : Cond.methodLink "PeriodSlots$Planner" 15 ⟨"java/util/Arrays", "fill", "([II)V"⟩ ∈ zU := zU_in (i := 580) (by decide +kernel) rfl
theorem m581 : Cond.methodLink "PeriodSlots$Planner" 27 ⟨"PeriodSlots$Mesh", "isLowestOfNet", "(I)Z"⟩ ∈ zU := zU_in (i := 581) (by decide +kernel) rfl
theorem m582 : Cond.methodLink "PeriodSlots$Planner" 31 ⟨"PeriodSlots$Mesh", "netOf", "(I)I"⟩ ∈ zU := zU_in (i := 582) (by decide +kernel) rfl
theorem m227 : Cond.fieldLink "PeriodSlots" 10 "PeriodSlots" "text" "LPeriodSlots$Text;" ∈ zU := zU_in (i := 227) (by decide +kernel) rfl
theorem m82 : Cond.fieldLink "PeriodSlots" 67 "PeriodSlots$Text" "length" "I" ∈ zU := zU_in (i := 82) (by decide +kernel) rfl
theorem m262 : Cond.methodLink "PeriodSlots" 71 ⟨"PeriodSlots$Text", "append", "(I)V"⟩ ∈ zU := zU_in (i := 262) (by decide +kernel) rfl
theorem m263 : Cond.instanceMethod ⟨"PeriodSlots$Text", "append", "(I)V"⟩ ∈ zU := zU_in (i := 263) (by decide +kernel) rfl
theorem m264 : Cond.selects "PeriodSlots$Text" ⟨"PeriodSlots$Text", "append", "(I)V"⟩ ⟨"PeriodSlots$Text", "append", "(I)V"⟩ ∈ zU := zU_in (i := 264) (by decide +kernel) rfl
theorem m229 : Cond.fieldLink "PeriodSlots" 23 "PeriodSlots" "draft" "LPeriodSlots$Mesh;" ∈ zU := zU_in (i := 229) (by decide +kernel) rfl
theorem m274 : Cond.methodLink "PeriodSlots" 74 ⟨"PeriodSlots$Text", "readInto", "(LPeriodSlots$Mesh;)I"⟩ ∈ zU := zU_in (i := 274) (by decide +kernel) rfl
theorem m275 : Cond.instanceMethod ⟨"PeriodSlots$Text", "readInto", "(LPeriodSlots$Mesh;)I"⟩ ∈ zU := zU_in (i := 275) (by decide +kernel) rfl
theorem m276 : Cond.selects "PeriodSlots$Text" ⟨"PeriodSlots$Text", "readInto", "(LPeriodSlots$Mesh;)I"⟩ ⟨"PeriodSlots$Text", "readInto", "(LPeriodSlots$Mesh;)I"⟩ ∈ zU := zU_in (i := 276) (by decide +kernel) rfl
theorem m228 : Cond.fieldLink "PeriodSlots" 19 "PeriodSlots" "mesh" "LPeriodSlots$Mesh;" ∈ zU := zU_in (i := 228) (by decide +kernel) rfl
theorem m375 : Cond.methodLink "PeriodSlots" 78 ⟨"PeriodSlots$Mesh", "copyFrom", "(LPeriodSlots$Mesh;)V"⟩ ∈ zU := zU_in (i := 375) (by decide +kernel) rfl
theorem m376 : Cond.instanceMethod ⟨"PeriodSlots$Mesh", "copyFrom", "(LPeriodSlots$Mesh;)V"⟩ ∈ zU := zU_in (i := 376) (by decide +kernel) rfl
theorem m377 : Cond.selects "PeriodSlots$Mesh" ⟨"PeriodSlots$Mesh", "copyFrom", "(LPeriodSlots$Mesh;)V"⟩ ⟨"PeriodSlots$Mesh", "copyFrom", "(LPeriodSlots$Mesh;)V"⟩ ∈ zU := zU_in (i := 377) (by decide +kernel) rfl
theorem m232 : Cond.fieldLink "PeriodSlots" 39 "PeriodSlots" "acts" "LPeriodSlots$Acts;" ∈ zU := zU_in (i := 232) (by decide +kernel) rfl
theorem m385 : Cond.methodLink "PeriodSlots" 82 ⟨"PeriodSlots$Acts", "forget", "()V"⟩ ∈ zU := zU_in (i := 385) (by decide +kernel) rfl
theorem m386 : Cond.instanceMethod ⟨"PeriodSlots$Acts", "forget", "()V"⟩ ∈ zU := zU_in (i := 386) (by decide +kernel) rfl
theorem m387 : Cond.selects "PeriodSlots$Acts" ⟨"PeriodSlots$Acts", "forget", "()V"⟩ ⟨"PeriodSlots$Acts", "forget", "()V"⟩ ∈ zU := zU_in (i := 387) (by decide +kernel) rfl
theorem m233 : Cond.fieldLink "PeriodSlots" 48 "PeriodSlots" "slots" "LPeriodSlots$Shelf;" ∈ zU := zU_in (i := 233) (by decide +kernel) rfl
theorem m389 : Cond.methodLink "PeriodSlots" 85 ⟨"PeriodSlots$Shelf", "clear", "()V"⟩ ∈ zU := zU_in (i := 389) (by decide +kernel) rfl
theorem m390 : Cond.instanceMethod ⟨"PeriodSlots$Shelf", "clear", "()V"⟩ ∈ zU := zU_in (i := 390) (by decide +kernel) rfl
theorem m391 : Cond.selects "PeriodSlots$Shelf" ⟨"PeriodSlots$Shelf", "clear", "()V"⟩ ⟨"PeriodSlots$Shelf", "clear", "()V"⟩ ∈ zU := zU_in (i := 391) (by decide +kernel) rfl
theorem m98 : Cond.fieldLink "PeriodSlots" 88 "PeriodSlots$Mesh" "count" "I" ∈ zU := zU_in (i := 98) (by decide +kernel) rfl
theorem m397 : Cond.methodLink "PeriodSlots" 91 ⟨"PeriodSlots$Mesh", "linkCount", "()I"⟩ ∈ zU := zU_in (i := 397) (by decide +kernel) rfl
theorem m398 : Cond.methodLink "PeriodSlots" 95 ⟨"PeriodSlots$Mesh", "conflicts", "()I"⟩ ∈ zU := zU_in (i := 398) (by decide +kernel) rfl
theorem m399 : Cond.instanceMethod ⟨"PeriodSlots$Mesh", "conflicts", "()I"⟩ ∈ zU := zU_in (i := 399) (by decide +kernel) rfl
theorem m400 : Cond.selects "PeriodSlots$Mesh" ⟨"PeriodSlots$Mesh", "conflicts", "()I"⟩ ⟨"PeriodSlots$Mesh", "conflicts", "()I"⟩ ∈ zU := zU_in (i := 400) (by decide +kernel) rfl
theorem m101 : Cond.fieldLink "PeriodSlots" 98 "PeriodSlots$Mesh" "roundNumber" "I" ∈ zU := zU_in (i := 101) (by decide +kernel) rfl
theorem m402 : Cond.methodLink "PeriodSlots" 101 ⟨"PeriodSlots$Mesh", "unsettledSet", "()I"⟩ ∈ zU := zU_in (i := 402) (by decide +kernel) rfl
theorem m410 : Cond.methodLink "PeriodSlots" 104 ⟨"PeriodSlots$Mesh", "placedSet", "()I"⟩ ∈ zU := zU_in (i := 410) (by decide +kernel) rfl
theorem m414 : Cond.methodLink "PeriodSlots" 107 ⟨"PeriodSlots$Mesh", "isQuiet", "()Z"⟩ ∈ zU := zU_in (i := 414) (by decide +kernel) rfl
theorem m427 : Cond.methodLink "PeriodSlots" 111 ⟨"PeriodSlots$Mesh", "netCount", "()I"⟩ ∈ zU := zU_in (i := 427) (by decide +kernel) rfl
theorem m428 : Cond.instanceMethod ⟨"PeriodSlots$Mesh", "netCount", "()I"⟩ ∈ zU := zU_in (i := 428) (by decide +kernel) rfl
theorem m429 : Cond.selects "PeriodSlots$Mesh" ⟨"PeriodSlots$Mesh", "netCount", "()I"⟩ ⟨"PeriodSlots$Mesh", "netCount", "()I"⟩ ∈ zU := zU_in (i := 429) (by decide +kernel) rfl
theorem m197 : Cond.fieldLink "PeriodSlots" 114 "PeriodSlots$Acts" "size" "I" ∈ zU := zU_in (i := 197) (by decide +kernel) rfl
theorem m234 : Cond.fieldLink "PeriodSlots" 55 "PeriodSlots" "observations" "LPeriodSlots$Observations;" ∈ zU := zU_in (i := 234) (by decide +kernel) rfl
theorem m217 : Cond.fieldLink "PeriodSlots" 117 "PeriodSlots$Observations" "size" "I" ∈ zU := zU_in (i := 217) (by decide +kernel) rfl
theorem m446 : Cond.methodLink "PeriodSlots" 118 ⟨"PeriodSlots$Mesh", "exists", "(I)Z"⟩ ∈ zU := zU_in (i := 446) (by decide +kernel) rfl
theorem m106 : Cond.fieldLink "PeriodSlots" 122 "PeriodSlots$Mesh" "periods" "[I" ∈ zU := zU_in (i := 106) (by decide +kernel) rfl
theorem m113 : Cond.fieldLink "PeriodSlots" 125 "PeriodSlots$Mesh" "offsets" "[I" ∈ zU := zU_in (i := 113) (by decide +kernel) rfl
theorem m116 : Cond.fieldLink "PeriodSlots" 128 "PeriodSlots$Mesh" "olds" "[I" ∈ zU := zU_in (i := 116) (by decide +kernel) rfl
theorem m125 : Cond.fieldLink "PeriodSlots" 131 "PeriodSlots$Mesh" "ticks" "[I" ∈ zU := zU_in (i := 125) (by decide +kernel) rfl
theorem m127 : Cond.fieldLink "PeriodSlots" 134 "PeriodSlots$Mesh" "occupied" "[I" ∈ zU := zU_in (i := 127) (by decide +kernel) rfl
theorem m110 : Cond.fieldLink "PeriodSlots" 137 "PeriodSlots$Mesh" "links" "[I" ∈ zU := zU_in (i := 110) (by decide +kernel) rfl
theorem m120 : Cond.fieldLink "PeriodSlots" 140 "PeriodSlots$Mesh" "near" "[I" ∈ zU := zU_in (i := 120) (by decide +kernel) rfl
theorem m122 : Cond.fieldLink "PeriodSlots" 143 "PeriodSlots$Mesh" "priorities" "[I" ∈ zU := zU_in (i := 122) (by decide +kernel) rfl
theorem m447 : Cond.methodLink "PeriodSlots" 146 ⟨"PeriodSlots$Mesh", "freeOffsets", "(I)I"⟩ ∈ zU := zU_in (i := 447) (by decide +kernel) rfl
theorem m448 : Cond.methodLink "PeriodSlots" 150 ⟨"PeriodSlots$Mesh", "netOf", "(I)I"⟩ ∈ zU := zU_in (i := 448) (by decide +kernel) rfl
theorem m453 : Cond.methodLink "PeriodSlots" 153 ⟨"PeriodSlots$Acts", "remember", "(LPeriodSlots$Mesh;)V"⟩ ∈ zU := zU_in (i := 453) (by decide +kernel) rfl
theorem m454 : Cond.instanceMethod ⟨"PeriodSlots$Acts", "remember", "(LPeriodSlots$Mesh;)V"⟩ ∈ zU := zU_in (i := 454) (by decide +kernel) rfl
theorem m455 : Cond.selects "PeriodSlots$Acts" ⟨"PeriodSlots$Acts", "remember", "(LPeriodSlots$Mesh;)V"⟩ ⟨"PeriodSlots$Acts", "remember", "(LPeriodSlots$Mesh;)V"⟩ ∈ zU := zU_in (i := 455) (by decide +kernel) rfl
theorem m465 : Cond.methodLink "PeriodSlots" 156 ⟨"PeriodSlots$Mesh", "advance", "()I"⟩ ∈ zU := zU_in (i := 465) (by decide +kernel) rfl
theorem m480 : Cond.methodLink "PeriodSlots" 159 ⟨"java/lang/Integer", "bitCount", "(I)I"⟩ ∈ zU := zU_in (i := 480) (by decide +kernel) rfl
theorem m485 : Cond.methodLink "PeriodSlots" 164 ⟨"PeriodSlots$Mesh", "pairError", "(II)I"⟩ ∈ zU := zU_in (i := 485) (by decide +kernel) rfl
theorem m486 : Cond.instanceMethod ⟨"PeriodSlots$Mesh", "pairError", "(II)I"⟩ ∈ zU := zU_in (i := 486) (by decide +kernel) rfl
theorem m487 : Cond.selects "PeriodSlots$Mesh" ⟨"PeriodSlots$Mesh", "pairError", "(II)I"⟩ ⟨"PeriodSlots$Mesh", "pairError", "(II)I"⟩ ∈ zU := zU_in (i := 487) (by decide +kernel) rfl
theorem m490 : Cond.methodLink "PeriodSlots" 168 ⟨"PeriodSlots$Mesh", "flipLink", "(II)V"⟩ ∈ zU := zU_in (i := 490) (by decide +kernel) rfl
theorem m491 : Cond.methodLink "PeriodSlots" 172 ⟨"PeriodSlots", "has", "(II)Z"⟩ ∈ zU := zU_in (i := 491) (by decide +kernel) rfl
theorem m496 : Cond.methodLink "PeriodSlots" 176 ⟨"PeriodSlots$Mesh", "offsetError", "(II)I"⟩ ∈ zU := zU_in (i := 496) (by decide +kernel) rfl
theorem m497 : Cond.instanceMethod ⟨"PeriodSlots$Mesh", "offsetError", "(II)I"⟩ ∈ zU := zU_in (i := 497) (by decide +kernel) rfl
theorem m498 : Cond.selects "PeriodSlots$Mesh" ⟨"PeriodSlots$Mesh", "offsetError", "(II)I"⟩ ⟨"PeriodSlots$Mesh", "offsetError", "(II)I"⟩ ∈ zU := zU_in (i := 498) (by decide +kernel) rfl
theorem m500 : Cond.methodLink "PeriodSlots" 179 ⟨"PeriodSlots$Mesh", "place", "(II)V"⟩ ∈ zU := zU_in (i := 500) (by decide +kernel) rfl
theorem m501 : Cond.instanceMethod ⟨"PeriodSlots$Mesh", "place", "(II)V"⟩ ∈ zU := zU_in (i := 501) (by decide +kernel) rfl
theorem m502 : Cond.selects "PeriodSlots$Mesh" ⟨"PeriodSlots$Mesh", "place", "(II)V"⟩ ⟨"PeriodSlots$Mesh", "place", "(II)V"⟩ ∈ zU := zU_in (i := 502) (by decide +kernel) rfl
theorem m508 : Cond.methodLink "PeriodSlots" 182 ⟨"PeriodSlots$Mesh", "distanceError", "(II)I"⟩ ∈ zU := zU_in (i := 508) (by decide +kernel) rfl
theorem m509 : Cond.instanceMethod ⟨"PeriodSlots$Mesh", "distanceError", "(II)I"⟩ ∈ zU := zU_in (i := 509) (by decide +kernel) rfl
theorem m510 : Cond.selects "PeriodSlots$Mesh" ⟨"PeriodSlots$Mesh", "distanceError", "(II)I"⟩ ⟨"PeriodSlots$Mesh", "distanceError", "(II)I"⟩ ∈ zU := zU_in (i := 510) (by decide +kernel) rfl
theorem m512 : Cond.methodLink "PeriodSlots" 185 ⟨"PeriodSlots$Mesh", "moveAll", "(II)V"⟩ ∈ zU := zU_in (i := 512) (by decide +kernel) rfl
theorem m513 : Cond.instanceMethod ⟨"PeriodSlots$Mesh", "moveAll", "(II)V"⟩ ∈ zU := zU_in (i := 513) (by decide +kernel) rfl
theorem m514 : Cond.selects "PeriodSlots$Mesh" ⟨"PeriodSlots$Mesh", "moveAll", "(II)V"⟩ ⟨"PeriodSlots$Mesh", "moveAll", "(II)V"⟩ ∈ zU := zU_in (i := 514) (by decide +kernel) rfl
theorem m523 : Cond.methodLink "PeriodSlots" 194 ⟨"java/lang/Integer", "lowestOneBit", "(I)I"⟩ ∈ zU := zU_in (i := 523) (by decide +kernel) rfl
theorem m230 : Cond.fieldLink "PeriodSlots" 26 "PeriodSlots" "trial" "LPeriodSlots$Mesh;" ∈ zU := zU_in (i := 230) (by decide +kernel) rfl
theorem m528 : Cond.methodLink "PeriodSlots" 197 ⟨"PeriodSlots", "conflictsAfter", "(II)I"⟩ ∈ zU := zU_in (i := 528) (by decide +kernel) rfl
theorem m530 : Cond.instanceMethod ⟨"PeriodSlots", "conflictsAfter", "(II)I"⟩ ∈ zU := zU_in (i := 530) (by decide +kernel) rfl
theorem m10 : Cond.selects "PeriodSlots" ⟨"PeriodSlots", "conflictsAfter", "(II)I"⟩ ⟨"PeriodSlots", "conflictsAfter", "(II)I"⟩ ∈ zU := zU_in (i := 10) (by decide +kernel) rfl
theorem m520 : Cond.methodLink "PeriodSlots" 188 ⟨"PeriodSlots", "netToMove", "(II)I"⟩ ∈ zU := zU_in (i := 520) (by decide +kernel) rfl
theorem m521 : Cond.static ⟨"PeriodSlots", "netToMove", "(II)I"⟩ ∈ zU := zU_in (i := 521) (by decide +kernel) rfl
theorem m524 : Cond.methodLink "PeriodSlots" 191 ⟨"PeriodSlots", "bestDistance", "(I)I"⟩ ∈ zU := zU_in (i := 524) (by decide +kernel) rfl
theorem m526 : Cond.instanceMethod ⟨"PeriodSlots", "bestDistance", "(I)I"⟩ ∈ zU := zU_in (i := 526) (by decide +kernel) rfl
theorem m9 : Cond.selects "PeriodSlots" ⟨"PeriodSlots", "bestDistance", "(I)I"⟩ ⟨"PeriodSlots", "bestDistance", "(I)I"⟩ ∈ zU := zU_in (i := 9) (by decide +kernel) rfl
theorem m536 : Cond.methodLink "PeriodSlots" 200 ⟨"PeriodSlots$Mesh", "settle", "()I"⟩ ∈ zU := zU_in (i := 536) (by decide +kernel) rfl
theorem m537 : Cond.instanceMethod ⟨"PeriodSlots$Mesh", "settle", "()I"⟩ ∈ zU := zU_in (i := 537) (by decide +kernel) rfl
theorem m538 : Cond.selects "PeriodSlots$Mesh" ⟨"PeriodSlots$Mesh", "settle", "()I"⟩ ⟨"PeriodSlots$Mesh", "settle", "()I"⟩ ∈ zU := zU_in (i := 538) (by decide +kernel) rfl
theorem m543 : Cond.methodLink "PeriodSlots" 203 ⟨"PeriodSlots$Mesh", "dropOlds", "()V"⟩ ∈ zU := zU_in (i := 543) (by decide +kernel) rfl
theorem m548 : Cond.methodLink "PeriodSlots" 206 ⟨"PeriodSlots$Acts", "takeBack", "(LPeriodSlots$Mesh;)V"⟩ ∈ zU := zU_in (i := 548) (by decide +kernel) rfl
theorem m549 : Cond.instanceMethod ⟨"PeriodSlots$Acts", "takeBack", "(LPeriodSlots$Mesh;)V"⟩ ∈ zU := zU_in (i := 549) (by decide +kernel) rfl
theorem m550 : Cond.selects "PeriodSlots$Acts" ⟨"PeriodSlots$Acts", "takeBack", "(LPeriodSlots$Mesh;)V"⟩ ⟨"PeriodSlots$Acts", "takeBack", "(LPeriodSlots$Mesh;)V"⟩ ∈ zU := zU_in (i := 550) (by decide +kernel) rfl
theorem m568 : Cond.methodLink "PeriodSlots" 209 ⟨"PeriodSlots$Mesh", "differenceTo", "(LPeriodSlots$Mesh;)I"⟩ ∈ zU := zU_in (i := 568) (by decide +kernel) rfl
theorem m569 : Cond.instanceMethod ⟨"PeriodSlots$Mesh", "differenceTo", "(LPeriodSlots$Mesh;)I"⟩ ∈ zU := zU_in (i := 569) (by decide +kernel) rfl
theorem m570 : Cond.selects "PeriodSlots$Mesh" ⟨"PeriodSlots$Mesh", "differenceTo", "(LPeriodSlots$Mesh;)I"⟩ ⟨"PeriodSlots$Mesh", "differenceTo", "(LPeriodSlots$Mesh;)I"⟩ ∈ zU := zU_in (i := 570) (by decide +kernel) rfl
theorem m102 : Cond.fieldLink "PeriodSlots" 212 "PeriodSlots$Mesh" "gainfulRounds" "I" ∈ zU := zU_in (i := 102) (by decide +kernel) rfl
theorem m231 : Cond.fieldLink "PeriodSlots" 32 "PeriodSlots" "planner" "LPeriodSlots$Planner;" ∈ zU := zU_in (i := 231) (by decide +kernel) rfl
theorem m576 : Cond.methodLink "PeriodSlots" 215 ⟨"PeriodSlots$Planner", "succeeds", "(LPeriodSlots$Mesh;)Z"⟩ ∈ zU := zU_in (i := 576) (by decide +kernel) rfl
theorem m577 : Cond.instanceMethod ⟨"PeriodSlots$Planner", "succeeds", "(LPeriodSlots$Mesh;)Z"⟩ ∈ zU := zU_in (i := 577) (by decide +kernel) rfl
theorem m578 : Cond.selects "PeriodSlots$Planner" ⟨"PeriodSlots$Planner", "succeeds", "(LPeriodSlots$Mesh;)Z"⟩ ⟨"PeriodSlots$Planner", "succeeds", "(LPeriodSlots$Mesh;)Z"⟩ ∈ zU := zU_in (i := 578) (by decide +kernel) rfl
theorem m165 : Cond.fieldLink "PeriodSlots" 219 "PeriodSlots$Planner" "offsets" "[I" ∈ zU := zU_in (i := 165) (by decide +kernel) rfl
theorem m604 : Cond.methodLink "PeriodSlots" 220 ⟨"PeriodSlots$Mesh", "awakeTicks", "(I)I"⟩ ∈ zU := zU_in (i := 604) (by decide +kernel) rfl
theorem m605 : Cond.instanceMethod ⟨"PeriodSlots$Mesh", "awakeTicks", "(I)I"⟩ ∈ zU := zU_in (i := 605) (by decide +kernel) rfl
theorem m606 : Cond.selects "PeriodSlots$Mesh" ⟨"PeriodSlots$Mesh", "awakeTicks", "(I)I"⟩ ⟨"PeriodSlots$Mesh", "awakeTicks", "(I)I"⟩ ∈ zU := zU_in (i := 606) (by decide +kernel) rfl
theorem m608 : Cond.methodLink "PeriodSlots" 223 ⟨"PeriodSlots", "oneTickLater", "(I)I"⟩ ∈ zU := zU_in (i := 608) (by decide +kernel) rfl
theorem m609 : Cond.static ⟨"PeriodSlots", "oneTickLater", "(I)I"⟩ ∈ zU := zU_in (i := 609) (by decide +kernel) rfl
theorem m611 : Cond.methodLink "PeriodSlots" 226 ⟨"PeriodSlots$Mesh", "hearingTicks", "(I)I"⟩ ∈ zU := zU_in (i := 611) (by decide +kernel) rfl
theorem m612 : Cond.instanceMethod ⟨"PeriodSlots$Mesh", "hearingTicks", "(I)I"⟩ ∈ zU := zU_in (i := 612) (by decide +kernel) rfl
theorem m613 : Cond.selects "PeriodSlots$Mesh" ⟨"PeriodSlots$Mesh", "hearingTicks", "(I)I"⟩ ⟨"PeriodSlots$Mesh", "hearingTicks", "(I)I"⟩ ∈ zU := zU_in (i := 613) (by decide +kernel) rfl
theorem m627 : Cond.methodLink "PeriodSlots" 229 ⟨"PeriodSlots$Mesh", "hearersOf", "(II)I"⟩ ∈ zU := zU_in (i := 627) (by decide +kernel) rfl
theorem m628 : Cond.instanceMethod ⟨"PeriodSlots$Mesh", "hearersOf", "(II)I"⟩ ∈ zU := zU_in (i := 628) (by decide +kernel) rfl
theorem m629 : Cond.selects "PeriodSlots$Mesh" ⟨"PeriodSlots$Mesh", "hearersOf", "(II)I"⟩ ⟨"PeriodSlots$Mesh", "hearersOf", "(II)I"⟩ ∈ zU := zU_in (i := 629) (by decide +kernel) rfl
theorem m640 : Cond.methodLink "PeriodSlots" 237 ⟨"PeriodSlots", "turnsDraft", "(II)Z"⟩ ∈ zU := zU_in (i := 640) (by decide +kernel) rfl
theorem m642 : Cond.instanceMethod ⟨"PeriodSlots", "turnsDraft", "(II)Z"⟩ ∈ zU := zU_in (i := 642) (by decide +kernel) rfl
theorem m13 : Cond.selects "PeriodSlots" ⟨"PeriodSlots", "turnsDraft", "(II)Z"⟩ ⟨"PeriodSlots", "turnsDraft", "(II)Z"⟩ ∈ zU := zU_in (i := 13) (by decide +kernel) rfl
theorem m644 : Cond.methodLink "PeriodSlots" 240 ⟨"PeriodSlots", "laysDraft", "(II)Z"⟩ ∈ zU := zU_in (i := 644) (by decide +kernel) rfl
theorem m646 : Cond.instanceMethod ⟨"PeriodSlots", "laysDraft", "(II)Z"⟩ ∈ zU := zU_in (i := 646) (by decide +kernel) rfl
theorem m14 : Cond.selects "PeriodSlots" ⟨"PeriodSlots", "laysDraft", "(II)Z"⟩ ⟨"PeriodSlots", "laysDraft", "(II)Z"⟩ ∈ zU := zU_in (i := 14) (by decide +kernel) rfl
theorem m648 : Cond.methodLink "PeriodSlots" 243 ⟨"PeriodSlots", "shiftsDraft", "(II)Z"⟩ ∈ zU := zU_in (i := 648) (by decide +kernel) rfl
theorem m650 : Cond.instanceMethod ⟨"PeriodSlots", "shiftsDraft", "(II)Z"⟩ ∈ zU := zU_in (i := 650) (by decide +kernel) rfl
theorem m15 : Cond.selects "PeriodSlots" ⟨"PeriodSlots", "shiftsDraft", "(II)Z"⟩ ⟨"PeriodSlots", "shiftsDraft", "(II)Z"⟩ ∈ zU := zU_in (i := 15) (by decide +kernel) rfl
theorem m652 : Cond.methodLink "PeriodSlots" 246 ⟨"PeriodSlots", "advancesDraft", "()Z"⟩ ∈ zU := zU_in (i := 652) (by decide +kernel) rfl
theorem m654 : Cond.instanceMethod ⟨"PeriodSlots", "advancesDraft", "()Z"⟩ ∈ zU := zU_in (i := 654) (by decide +kernel) rfl
theorem m16 : Cond.selects "PeriodSlots" ⟨"PeriodSlots", "advancesDraft", "()Z"⟩ ⟨"PeriodSlots", "advancesDraft", "()Z"⟩ ∈ zU := zU_in (i := 16) (by decide +kernel) rfl
theorem m235 : Cond.fieldLink "PeriodSlots" 59 "PeriodSlots" "statements" "[I" ∈ zU := zU_in (i := 235) (by decide +kernel) rfl
theorem m635 : Cond.constantLong "PeriodSlots" 232 (10000) ∈ zU := zU_in (i := 635) (by decide +kernel) rfl
theorem m636 : Cond.methodLink "PeriodSlots" 234 ⟨"PeriodSlots", "isTrue", "(I)Z"⟩ ∈ zU := zU_in (i := 636) (by decide +kernel) rfl
theorem m638 : Cond.instanceMethod ⟨"PeriodSlots", "isTrue", "(I)Z"⟩ ∈ zU := zU_in (i := 638) (by decide +kernel) rfl
theorem m12 : Cond.selects "PeriodSlots" ⟨"PeriodSlots", "isTrue", "(I)Z"⟩ ⟨"PeriodSlots", "isTrue", "(I)Z"⟩ ∈ zU := zU_in (i := 12) (by decide +kernel) rfl
theorem m660 : Cond.methodLink "PeriodSlots" 249 ⟨"PeriodSlots$Observations", "add", "(III)V"⟩ ∈ zU := zU_in (i := 660) (by decide +kernel) rfl
theorem m661 : Cond.instanceMethod ⟨"PeriodSlots$Observations", "add", "(III)V"⟩ ∈ zU := zU_in (i := 661) (by decide +kernel) rfl
theorem m662 : Cond.selects "PeriodSlots$Observations" ⟨"PeriodSlots$Observations", "add", "(III)V"⟩ ⟨"PeriodSlots$Observations", "add", "(III)V"⟩ ∈ zU := zU_in (i := 662) (by decide +kernel) rfl
theorem m672 : Cond.methodLink "PeriodSlots" 253 ⟨"PeriodSlots$Observations", "agreeWith", "(LPeriodSlots$Mesh;)Z"⟩ ∈ zU := zU_in (i := 672) (by decide +kernel) rfl
theorem m673 : Cond.instanceMethod ⟨"PeriodSlots$Observations", "agreeWith", "(LPeriodSlots$Mesh;)Z"⟩ ∈ zU := zU_in (i := 673) (by decide +kernel) rfl
theorem m674 : Cond.selects "PeriodSlots$Observations" ⟨"PeriodSlots$Observations", "agreeWith", "(LPeriodSlots$Mesh;)Z"⟩ ⟨"PeriodSlots$Observations", "agreeWith", "(LPeriodSlots$Mesh;)Z"⟩ ∈ zU := zU_in (i := 674) (by decide +kernel) rfl
theorem m698 : Cond.methodLink "PeriodSlots" 272 ⟨"PeriodSlots$Mesh", "startWithOnly", "(I)V"⟩ ∈ zU := zU_in (i := 698) (by decide +kernel) rfl
theorem m699 : Cond.instanceMethod ⟨"PeriodSlots$Mesh", "startWithOnly", "(I)V"⟩ ∈ zU := zU_in (i := 699) (by decide +kernel) rfl
theorem m700 : Cond.selects "PeriodSlots$Mesh" ⟨"PeriodSlots$Mesh", "startWithOnly", "(I)V"⟩ ⟨"PeriodSlots$Mesh", "startWithOnly", "(I)V"⟩ ∈ zU := zU_in (i := 700) (by decide +kernel) rfl
theorem m691 : Cond.methodLink "PeriodSlots" 262 ⟨"PeriodSlots", "factorial", "(I)I"⟩ ∈ zU := zU_in (i := 691) (by decide +kernel) rfl
theorem m692 : Cond.static ⟨"PeriodSlots", "factorial", "(I)I"⟩ ∈ zU := zU_in (i := 692) (by decide +kernel) rfl
theorem m687 : Cond.methodLink "PeriodSlots" 256 ⟨"PeriodSlots", "ordersCounting", "(II)I"⟩ ∈ zU := zU_in (i := 687) (by decide +kernel) rfl
theorem m689 : Cond.instanceMethod ⟨"PeriodSlots", "ordersCounting", "(II)I"⟩ ∈ zU := zU_in (i := 689) (by decide +kernel) rfl
theorem m17 : Cond.selects "PeriodSlots" ⟨"PeriodSlots", "ordersCounting", "(II)I"⟩ ⟨"PeriodSlots", "ordersCounting", "(II)I"⟩ ∈ zU := zU_in (i := 17) (by decide +kernel) rfl
theorem m694 : Cond.methodLink "PeriodSlots" 259 ⟨"PeriodSlots", "placedIfOnly", "(I)I"⟩ ∈ zU := zU_in (i := 694) (by decide +kernel) rfl
theorem m696 : Cond.instanceMethod ⟨"PeriodSlots", "placedIfOnly", "(I)I"⟩ ∈ zU := zU_in (i := 696) (by decide +kernel) rfl
theorem m18 : Cond.selects "PeriodSlots" ⟨"PeriodSlots", "placedIfOnly", "(I)I"⟩ ⟨"PeriodSlots", "placedIfOnly", "(I)I"⟩ ∈ zU := zU_in (i := 18) (by decide +kernel) rfl
theorem m702 : Cond.methodLink "PeriodSlots" 265 ⟨"PeriodSlots", "partOfFraction", "(IIZ)I"⟩ ∈ zU := zU_in (i := 702) (by decide +kernel) rfl
theorem m703 : Cond.static ⟨"PeriodSlots", "partOfFraction", "(IIZ)I"⟩ ∈ zU := zU_in (i := 703) (by decide +kernel) rfl
theorem m715 : Cond.methodLink "PeriodSlots" 269 ⟨"PeriodSlots", "power", "(II)I"⟩ ∈ zU := zU_in (i := 715) (by decide +kernel) rfl
theorem m716 : Cond.static ⟨"PeriodSlots", "power", "(II)I"⟩ ∈ zU := zU_in (i := 716) (by decide +kernel) rfl
theorem m236 : Cond.fieldLink "PeriodSlots" 63 "PeriodSlots" "chance" "J" ∈ zU := zU_in (i := 236) (by decide +kernel) rfl
theorem m730 : Cond.constantLong "PeriodSlots" 278 (6364136223846793005) ∈ zU := zU_in (i := 730) (by decide +kernel) rfl
theorem m731 : Cond.constantLong "PeriodSlots" 280 (1442695040888963407) ∈ zU := zU_in (i := 731) (by decide +kernel) rfl
theorem m732 : Cond.methodLink "PeriodSlots" 282 ⟨"PeriodSlots$Mesh", "wrapped", "(II)I"⟩ ∈ zU := zU_in (i := 732) (by decide +kernel) rfl
theorem m726 : Cond.methodLink "PeriodSlots" 275 ⟨"PeriodSlots", "drawOffsets", "()V"⟩ ∈ zU := zU_in (i := 726) (by decide +kernel) rfl
theorem m728 : Cond.instanceMethod ⟨"PeriodSlots", "drawOffsets", "()V"⟩ ∈ zU := zU_in (i := 728) (by decide +kernel) rfl
theorem m19 : Cond.selects "PeriodSlots" ⟨"PeriodSlots", "drawOffsets", "()V"⟩ ⟨"PeriodSlots", "drawOffsets", "()V"⟩ ∈ zU := zU_in (i := 19) (by decide +kernel) rfl
theorem m737 : Cond.methodLink "PeriodSlots" 285 ⟨"PeriodSlots$Shelf", "put", "(ILPeriodSlots$Mesh;)V"⟩ ∈ zU := zU_in (i := 737) (by decide +kernel) rfl
theorem m742 : Cond.methodLink "PeriodSlots" 289 ⟨"PeriodSlots$Shelf", "holds", "(I)Z"⟩ ∈ zU := zU_in (i := 742) (by decide +kernel) rfl
theorem m743 : Cond.methodLink "PeriodSlots" 292 ⟨"PeriodSlots$Shelf", "giveBack", "(ILPeriodSlots$Mesh;)V"⟩ ∈ zU := zU_in (i := 743) (by decide +kernel) rfl
theorem m62 : Cond.initialized "PeriodSlotsModel" ∈ zU := zU_in (i := 62) (by decide +kernel) rfl
theorem m755 : Cond.fieldLink "PeriodSlotsModel" 72 "PeriodSlotsModel" "stations" "I" ∈ zU := zU_in (i := 755) (by decide +kernel) rfl
theorem m856 : Cond.methodLink "PeriodSlotsModel" 76 ⟨"PeriodSlotsModel", "in", "(JJJ)Z"⟩ ∈ zU := zU_in (i := 856) (by decide +kernel) rfl
theorem m857 : Cond.static ⟨"PeriodSlotsModel", "in", "(JJJ)Z"⟩ ∈ zU := zU_in (i := 857) (by decide +kernel) rfl
theorem m855 : Cond.constantLong "PeriodSlotsModel" 80 (255) ∈ zU := zU_in (i := 855) (by decide +kernel) rfl
theorem m754 : Cond.fieldLink "PeriodSlotsModel" 82 "PeriodSlotsModel" "length" "I" ∈ zU := zU_in (i := 754) (by decide +kernel) rfl
theorem m753 : Cond.fieldLink "PeriodSlotsModel" 7 "PeriodSlotsModel" "text" "[I" ∈ zU := zU_in (i := 753) (by decide +kernel) rfl
theorem m773 : Cond.fieldLink "PeriodSlotsModel" 50 "PeriodSlotsModel" "readLinks" "[I" ∈ zU := zU_in (i := 773) (by decide +kernel) rfl
theorem m770 : Cond.fieldLink "PeriodSlotsModel" 85 "PeriodSlotsModel" "readStations" "I" ∈ zU := zU_in (i := 770) (by decide +kernel) rfl
theorem m774 : Cond.fieldLink "PeriodSlotsModel" 88 "PeriodSlotsModel" "part" "I" ∈ zU := zU_in (i := 774) (by decide +kernel) rfl
theorem m775 : Cond.fieldLink "PeriodSlotsModel" 91 "PeriodSlotsModel" "place" "I" ∈ zU := zU_in (i := 775) (by decide +kernel) rfl
theorem m875 : Cond.methodLink "PeriodSlotsModel" 94 ⟨"PeriodSlotsModel", "hasRoom", "(I)Z"⟩ ∈ zU := zU_in (i := 875) (by decide +kernel) rfl
theorem m877 : Cond.instanceMethod ⟨"PeriodSlotsModel", "hasRoom", "(I)Z"⟩ ∈ zU := zU_in (i := 877) (by decide +kernel) rfl
theorem m22 : Cond.selects "PeriodSlotsModel" ⟨"PeriodSlotsModel", "hasRoom", "(I)Z"⟩ ⟨"PeriodSlotsModel", "hasRoom", "(I)Z"⟩ ∈ zU := zU_in (i := 22) (by decide +kernel) rfl
theorem m885 : Cond.constantLong "PeriodSlotsModel" 102 (97) ∈ zU := zU_in (i := 885) (by decide +kernel) rfl
theorem m771 : Cond.fieldLink "PeriodSlotsModel" 44 "PeriodSlotsModel" "readPeriod" "[I" ∈ zU := zU_in (i := 771) (by decide +kernel) rfl
theorem m772 : Cond.fieldLink "PeriodSlotsModel" 47 "PeriodSlotsModel" "readOffset" "[I" ∈ zU := zU_in (i := 772) (by decide +kernel) rfl
theorem m883 : Cond.constantLong "PeriodSlotsModel" 98 (49) ∈ zU := zU_in (i := 883) (by decide +kernel) rfl
theorem m884 : Cond.constantLong "PeriodSlotsModel" 100 (51) ∈ zU := zU_in (i := 884) (by decide +kernel) rfl
theorem m776 : Cond.fieldLink "PeriodSlotsModel" 104 "PeriodSlotsModel" "readFirst" "I" ∈ zU := zU_in (i := 776) (by decide +kernel) rfl
theorem m756 : Cond.fieldLink "PeriodSlotsModel" 13 "PeriodSlotsModel" "period" "[I" ∈ zU := zU_in (i := 756) (by decide +kernel) rfl
theorem m928 : Cond.methodLink "PeriodSlotsModel" 127 ⟨"PeriodSlotsModel", "ticksOf", "(II)I"⟩ ∈ zU := zU_in (i := 928) (by decide +kernel) rfl
theorem m929 : Cond.static ⟨"PeriodSlotsModel", "ticksOf", "(II)I"⟩ ∈ zU := zU_in (i := 929) (by decide +kernel) rfl
theorem m924 : Cond.methodLink "PeriodSlotsModel" 131 ⟨"PeriodSlotsModel", "ticks", "([II)I"⟩ ∈ zU := zU_in (i := 924) (by decide +kernel) rfl
theorem m926 : Cond.instanceMethod ⟨"PeriodSlotsModel", "ticks", "([II)I"⟩ ∈ zU := zU_in (i := 926) (by decide +kernel) rfl
theorem m30 : Cond.selects "PeriodSlotsModel" ⟨"PeriodSlotsModel", "ticks", "([II)I"⟩ ⟨"PeriodSlotsModel", "ticks", "([II)I"⟩ ∈ zU := zU_in (i := 30) (by decide +kernel) rfl
theorem m777 : Cond.fieldLink "PeriodSlotsModel" 135 "PeriodSlotsModel" "on" "I" ∈ zU := zU_in (i := 777) (by decide +kernel) rfl
theorem m890 : Cond.methodLink "PeriodSlotsModel" 107 ⟨"PeriodSlotsModel", "has", "(II)Z"⟩ ∈ zU := zU_in (i := 890) (by decide +kernel) rfl
theorem m891 : Cond.static ⟨"PeriodSlotsModel", "has", "(II)Z"⟩ ∈ zU := zU_in (i := 891) (by decide +kernel) rfl
theorem m909 : Cond.methodLink "PeriodSlotsModel" 138 ⟨"PeriodSlotsModel", "neighbours", "([II)I"⟩ ∈ zU := zU_in (i := 909) (by decide +kernel) rfl
theorem m911 : Cond.instanceMethod ⟨"PeriodSlotsModel", "neighbours", "([II)I"⟩ ∈ zU := zU_in (i := 911) (by decide +kernel) rfl
theorem m27 : Cond.selects "PeriodSlotsModel" ⟨"PeriodSlotsModel", "neighbours", "([II)I"⟩ ⟨"PeriodSlotsModel", "neighbours", "([II)I"⟩ ∈ zU := zU_in (i := 27) (by decide +kernel) rfl
theorem m778 : Cond.fieldLink "PeriodSlotsModel" 53 "PeriodSlotsModel" "near" "[I" ∈ zU := zU_in (i := 778) (by decide +kernel) rfl
theorem m946 : Cond.methodLink "PeriodSlotsModel" 141 ⟨"PeriodSlotsModel", "drawOf", "(II)I"⟩ ∈ zU := zU_in (i := 946) (by decide +kernel) rfl
theorem m947 : Cond.static ⟨"PeriodSlotsModel", "drawOf", "(II)I"⟩ ∈ zU := zU_in (i := 947) (by decide +kernel) rfl
theorem m949 : Cond.methodLink "PeriodSlotsModel" 148 ⟨"PeriodSlotsModel", "held", "([II)I"⟩ ∈ zU := zU_in (i := 949) (by decide +kernel) rfl
theorem m951 : Cond.instanceMethod ⟨"PeriodSlotsModel", "held", "([II)I"⟩ ∈ zU := zU_in (i := 951) (by decide +kernel) rfl
theorem m34 : Cond.selects "PeriodSlotsModel" ⟨"PeriodSlotsModel", "held", "([II)I"⟩ ⟨"PeriodSlotsModel", "held", "([II)I"⟩ ∈ zU := zU_in (i := 34) (by decide +kernel) rfl
theorem m943 : Cond.methodLink "PeriodSlotsModel" 144 ⟨"PeriodSlotsModel", "isAbove", "(III)Z"⟩ ∈ zU := zU_in (i := 943) (by decide +kernel) rfl
theorem m944 : Cond.static ⟨"PeriodSlotsModel", "isAbove", "(III)Z"⟩ ∈ zU := zU_in (i := 944) (by decide +kernel) rfl
theorem m939 : Cond.methodLink "PeriodSlotsModel" 151 ⟨"PeriodSlotsModel", "heldNear", "([IIZ)I"⟩ ∈ zU := zU_in (i := 939) (by decide +kernel) rfl
theorem m941 : Cond.instanceMethod ⟨"PeriodSlotsModel", "heldNear", "([IIZ)I"⟩ ∈ zU := zU_in (i := 941) (by decide +kernel) rfl
theorem m33 : Cond.selects "PeriodSlotsModel" ⟨"PeriodSlotsModel", "heldNear", "([IIZ)I"⟩ ⟨"PeriodSlotsModel", "heldNear", "([IIZ)I"⟩ ∈ zU := zU_in (i := 33) (by decide +kernel) rfl
theorem m935 : Cond.methodLink "PeriodSlotsModel" 155 ⟨"PeriodSlotsModel", "isUnsettled", "([II)Z"⟩ ∈ zU := zU_in (i := 935) (by decide +kernel) rfl
theorem m937 : Cond.instanceMethod ⟨"PeriodSlotsModel", "isUnsettled", "([II)Z"⟩ ∈ zU := zU_in (i := 937) (by decide +kernel) rfl
theorem m32 : Cond.selects "PeriodSlotsModel" ⟨"PeriodSlotsModel", "isUnsettled", "([II)Z"⟩ ⟨"PeriodSlotsModel", "isUnsettled", "([II)Z"⟩ ∈ zU := zU_in (i := 32) (by decide +kernel) rfl
theorem m901 : Cond.methodLink "PeriodSlotsModel" 159 ⟨"PeriodSlotsModel", "all", "()I"⟩ ∈ zU := zU_in (i := 901) (by decide +kernel) rfl
theorem m903 : Cond.instanceMethod ⟨"PeriodSlotsModel", "all", "()I"⟩ ∈ zU := zU_in (i := 903) (by decide +kernel) rfl
theorem m25 : Cond.selects "PeriodSlotsModel" ⟨"PeriodSlotsModel", "all", "()I"⟩ ⟨"PeriodSlotsModel", "all", "()I"⟩ ∈ zU := zU_in (i := 25) (by decide +kernel) rfl
theorem m905 : Cond.methodLink "PeriodSlotsModel" 162 ⟨"PeriodSlotsModel", "layNear", "([II)V"⟩ ∈ zU := zU_in (i := 905) (by decide +kernel) rfl
theorem m907 : Cond.instanceMethod ⟨"PeriodSlotsModel", "layNear", "([II)V"⟩ ∈ zU := zU_in (i := 907) (by decide +kernel) rfl
theorem m26 : Cond.selects "PeriodSlotsModel" ⟨"PeriodSlotsModel", "layNear", "([II)V"⟩ ⟨"PeriodSlotsModel", "layNear", "([II)V"⟩ ∈ zU := zU_in (i := 26) (by decide +kernel) rfl
theorem m931 : Cond.methodLink "PeriodSlotsModel" 166 ⟨"PeriodSlotsModel", "unsettled", "([I)I"⟩ ∈ zU := zU_in (i := 931) (by decide +kernel) rfl
theorem m933 : Cond.instanceMethod ⟨"PeriodSlotsModel", "unsettled", "([I)I"⟩ ∈ zU := zU_in (i := 933) (by decide +kernel) rfl
theorem m31 : Cond.selects "PeriodSlotsModel" ⟨"PeriodSlotsModel", "unsettled", "([I)I"⟩ ⟨"PeriodSlotsModel", "unsettled", "([I)I"⟩ ∈ zU := zU_in (i := 31) (by decide +kernel) rfl
theorem m961 : Cond.methodLink "PeriodSlotsModel" 170 ⟨"PeriodSlotsModel", "free", "([II)I"⟩ ∈ zU := zU_in (i := 961) (by decide +kernel) rfl
theorem m963 : Cond.instanceMethod ⟨"PeriodSlotsModel", "free", "([II)I"⟩ ∈ zU := zU_in (i := 963) (by decide +kernel) rfl
theorem m37 : Cond.selects "PeriodSlotsModel" ⟨"PeriodSlotsModel", "free", "([II)I"⟩ ⟨"PeriodSlotsModel", "free", "([II)I"⟩ ∈ zU := zU_in (i := 37) (by decide +kernel) rfl
theorem m781 : Cond.fieldLink "PeriodSlotsModel" 173 "PeriodSlotsModel" "moves" "Z" ∈ zU := zU_in (i := 781) (by decide +kernel) rfl
theorem m779 : Cond.fieldLink "PeriodSlotsModel" 56 "PeriodSlotsModel" "moved" "[I" ∈ zU := zU_in (i := 779) (by decide +kernel) rfl
theorem m780 : Cond.fieldLink "PeriodSlotsModel" 59 "PeriodSlotsModel" "movedOld" "[I" ∈ zU := zU_in (i := 780) (by decide +kernel) rfl
theorem m973 : Cond.methodLink "PeriodSlotsModel" 177 ⟨"PeriodSlotsModel", "leastOf", "(I)I"⟩ ∈ zU := zU_in (i := 973) (by decide +kernel) rfl
theorem m974 : Cond.static ⟨"PeriodSlotsModel", "leastOf", "(I)I"⟩ ∈ zU := zU_in (i := 974) (by decide +kernel) rfl
theorem m782 : Cond.fieldLink "PeriodSlotsModel" 181 "PeriodSlotsModel" "movingRounds" "I" ∈ zU := zU_in (i := 782) (by decide +kernel) rfl
theorem m957 : Cond.methodLink "PeriodSlotsModel" 184 ⟨"PeriodSlotsModel", "isQuiet", "([I)Z"⟩ ∈ zU := zU_in (i := 957) (by decide +kernel) rfl
theorem m959 : Cond.instanceMethod ⟨"PeriodSlotsModel", "isQuiet", "([I)Z"⟩ ∈ zU := zU_in (i := 959) (by decide +kernel) rfl
theorem m36 : Cond.selects "PeriodSlotsModel" ⟨"PeriodSlotsModel", "isQuiet", "([I)Z"⟩ ⟨"PeriodSlotsModel", "isQuiet", "([I)Z"⟩ ∈ zU := zU_in (i := 36) (by decide +kernel) rfl
theorem m992 : Cond.methodLink "PeriodSlotsModel" 188 ⟨"PeriodSlotsModel", "roundOf", "([I)I"⟩ ∈ zU := zU_in (i := 992) (by decide +kernel) rfl
theorem m994 : Cond.instanceMethod ⟨"PeriodSlotsModel", "roundOf", "([I)I"⟩ ∈ zU := zU_in (i := 994) (by decide +kernel) rfl
theorem m42 : Cond.selects "PeriodSlotsModel" ⟨"PeriodSlotsModel", "roundOf", "([I)I"⟩ ⟨"PeriodSlotsModel", "roundOf", "([I)I"⟩ ∈ zU := zU_in (i := 42) (by decide +kernel) rfl
theorem m757 : Cond.fieldLink "PeriodSlotsModel" 16 "PeriodSlotsModel" "now" "[I" ∈ zU := zU_in (i := 757) (by decide +kernel) rfl
theorem m917 : Cond.methodLink "PeriodSlotsModel" 191 ⟨"PeriodSlotsModel", "ones", "(I)I"⟩ ∈ zU := zU_in (i := 917) (by decide +kernel) rfl
theorem m918 : Cond.static ⟨"PeriodSlotsModel", "ones", "(I)I"⟩ ∈ zU := zU_in (i := 918) (by decide +kernel) rfl
theorem m969 : Cond.methodLink "PeriodSlotsModel" 194 ⟨"PeriodSlotsModel", "netOf", "([II)I"⟩ ∈ zU := zU_in (i := 969) (by decide +kernel) rfl
theorem m971 : Cond.instanceMethod ⟨"PeriodSlotsModel", "netOf", "([II)I"⟩ ∈ zU := zU_in (i := 971) (by decide +kernel) rfl
theorem m39 : Cond.selects "PeriodSlotsModel" ⟨"PeriodSlotsModel", "netOf", "([II)I"⟩ ⟨"PeriodSlotsModel", "netOf", "([II)I"⟩ ∈ zU := zU_in (i := 39) (by decide +kernel) rfl
