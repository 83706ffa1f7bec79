/-! More words, by their places in the tables: by program. -/
theorem m913 : Cond.methodLink "PeriodSlotsModel" 197 ⟨"PeriodSlotsModel", "links", "()I"⟩ ∈ zU := zU_in (i := 913) (by decide +kernel) rfl
theorem m915 : Cond.instanceMethod ⟨"PeriodSlotsModel", "links", "()I"⟩ ∈ zU := zU_in (i := 915) (by decide +kernel) rfl
theorem m28 : Cond.selects "PeriodSlotsModel" ⟨"PeriodSlotsModel", "links", "()I"⟩ ⟨"PeriodSlotsModel", "links", "()I"⟩ ∈ zU := zU_in (i := 28) (by decide +kernel) rfl
theorem m920 : Cond.methodLink "PeriodSlotsModel" 200 ⟨"PeriodSlotsModel", "clashes", "([I)I"⟩ ∈ zU := zU_in (i := 920) (by decide +kernel) rfl
theorem m922 : Cond.instanceMethod ⟨"PeriodSlotsModel", "clashes", "([I)I"⟩ ∈ zU := zU_in (i := 922) (by decide +kernel) rfl
theorem m29 : Cond.selects "PeriodSlotsModel" ⟨"PeriodSlotsModel", "clashes", "([I)I"⟩ ⟨"PeriodSlotsModel", "clashes", "([I)I"⟩ ∈ zU := zU_in (i := 29) (by decide +kernel) rfl
theorem m953 : Cond.methodLink "PeriodSlotsModel" 203 ⟨"PeriodSlotsModel", "withOffset", "([I)I"⟩ ∈ zU := zU_in (i := 953) (by decide +kernel) rfl
theorem m955 : Cond.instanceMethod ⟨"PeriodSlotsModel", "withOffset", "([I)I"⟩ ∈ zU := zU_in (i := 955) (by decide +kernel) rfl
theorem m35 : Cond.selects "PeriodSlotsModel" ⟨"PeriodSlotsModel", "withOffset", "([I)I"⟩ ⟨"PeriodSlotsModel", "withOffset", "([I)I"⟩ ∈ zU := zU_in (i := 35) (by decide +kernel) rfl
theorem m965 : Cond.methodLink "PeriodSlotsModel" 206 ⟨"PeriodSlotsModel", "nets", "()I"⟩ ∈ zU := zU_in (i := 965) (by decide +kernel) rfl
theorem m967 : Cond.instanceMethod ⟨"PeriodSlotsModel", "nets", "()I"⟩ ∈ zU := zU_in (i := 967) (by decide +kernel) rfl
theorem m38 : Cond.selects "PeriodSlotsModel" ⟨"PeriodSlotsModel", "nets", "()I"⟩ ⟨"PeriodSlotsModel", "nets", "()I"⟩ ∈ zU := zU_in (i := 38) (by decide +kernel) rfl
theorem m761 : Cond.fieldLink "PeriodSlotsModel" 124 "PeriodSlotsModel" "doings" "I" ∈ zU := zU_in (i := 761) (by decide +kernel) rfl
theorem m768 : Cond.fieldLink "PeriodSlotsModel" 209 "PeriodSlotsModel" "seen" "I" ∈ zU := zU_in (i := 768) (by decide +kernel) rfl
theorem m980 : Cond.methodLink "PeriodSlotsModel" 212 ⟨"PeriodSlotsModel", "isStation", "(I)Z"⟩ ∈ zU := zU_in (i := 980) (by decide +kernel) rfl
theorem m982 : Cond.instanceMethod ⟨"PeriodSlotsModel", "isStation", "(I)Z"⟩ ∈ zU := zU_in (i := 982) (by decide +kernel) rfl
theorem m40 : Cond.selects "PeriodSlotsModel" ⟨"PeriodSlotsModel", "isStation", "(I)Z"⟩ ⟨"PeriodSlotsModel", "isStation", "(I)Z"⟩ ∈ zU := zU_in (i := 40) (by decide +kernel) rfl
theorem m760 : Cond.fieldLink "PeriodSlotsModel" 25 "PeriodSlotsModel" "diary" "[I" ∈ zU := zU_in (i := 760) (by decide +kernel) rfl
theorem m762 : Cond.fieldLink "PeriodSlotsModel" 215 "PeriodSlotsModel" "next" "I" ∈ zU := zU_in (i := 762) (by decide +kernel) rfl
theorem m988 : Cond.methodLink "PeriodSlotsModel" 218 ⟨"PeriodSlotsModel", "note", "()V"⟩ ∈ zU := zU_in (i := 988) (by decide +kernel) rfl
theorem m990 : Cond.instanceMethod ⟨"PeriodSlotsModel", "note", "()V"⟩ ∈ zU := zU_in (i := 990) (by decide +kernel) rfl
theorem m41 : Cond.selects "PeriodSlotsModel" ⟨"PeriodSlotsModel", "note", "()V"⟩ ⟨"PeriodSlotsModel", "note", "()V"⟩ ∈ zU := zU_in (i := 41) (by decide +kernel) rfl
theorem m1000 : Cond.methodLink "PeriodSlotsModel" 221 ⟨"PeriodSlotsModel", "dropOld", "([I)V"⟩ ∈ zU := zU_in (i := 1000) (by decide +kernel) rfl
theorem m1001 : Cond.static ⟨"PeriodSlotsModel", "dropOld", "([I)V"⟩ ∈ zU := zU_in (i := 1001) (by decide +kernel) rfl
theorem m1003 : Cond.methodLink "PeriodSlotsModel" 224 ⟨"PeriodSlotsModel", "turnOf", "([III)V"⟩ ∈ zU := zU_in (i := 1003) (by decide +kernel) rfl
theorem m1004 : Cond.static ⟨"PeriodSlotsModel", "turnOf", "([III)V"⟩ ∈ zU := zU_in (i := 1004) (by decide +kernel) rfl
theorem m1010 : Cond.methodLink "PeriodSlotsModel" 228 ⟨"PeriodSlotsModel", "isOffset", "(II)Z"⟩ ∈ zU := zU_in (i := 1010) (by decide +kernel) rfl
theorem m1012 : Cond.instanceMethod ⟨"PeriodSlotsModel", "isOffset", "(II)Z"⟩ ∈ zU := zU_in (i := 1012) (by decide +kernel) rfl
theorem m43 : Cond.selects "PeriodSlotsModel" ⟨"PeriodSlotsModel", "isOffset", "(II)Z"⟩ ⟨"PeriodSlotsModel", "isOffset", "(II)Z"⟩ ∈ zU := zU_in (i := 43) (by decide +kernel) rfl
theorem m1018 : Cond.constantLong "PeriodSlotsModel" 231 (7) ∈ zU := zU_in (i := 1018) (by decide +kernel) rfl
theorem m1019 : Cond.methodLink "PeriodSlotsModel" 233 ⟨"PeriodSlotsModel", "shiftOf", "([III)V"⟩ ∈ zU := zU_in (i := 1019) (by decide +kernel) rfl
theorem m1021 : Cond.instanceMethod ⟨"PeriodSlotsModel", "shiftOf", "([III)V"⟩ ∈ zU := zU_in (i := 1021) (by decide +kernel) rfl
theorem m44 : Cond.selects "PeriodSlotsModel" ⟨"PeriodSlotsModel", "shiftOf", "([III)V"⟩ ⟨"PeriodSlotsModel", "shiftOf", "([III)V"⟩ ∈ zU := zU_in (i := 44) (by decide +kernel) rfl
theorem m759 : Cond.fieldLink "PeriodSlotsModel" 22 "PeriodSlotsModel" "spare" "[I" ∈ zU := zU_in (i := 759) (by decide +kernel) rfl
theorem m1027 : Cond.methodLink "PeriodSlotsModel" 236 ⟨"PeriodSlotsModel", "copy", "([I[I)V"⟩ ∈ zU := zU_in (i := 1027) (by decide +kernel) rfl
theorem m1028 : Cond.static ⟨"PeriodSlotsModel", "copy", "([I[I)V"⟩ ∈ zU := zU_in (i := 1028) (by decide +kernel) rfl
theorem m1034 : Cond.methodLink "PeriodSlotsModel" 240 ⟨"PeriodSlotsModel", "runOf", "([I)I"⟩ ∈ zU := zU_in (i := 1034) (by decide +kernel) rfl
theorem m1036 : Cond.instanceMethod ⟨"PeriodSlotsModel", "runOf", "([I)I"⟩ ∈ zU := zU_in (i := 1036) (by decide +kernel) rfl
theorem m45 : Cond.selects "PeriodSlotsModel" ⟨"PeriodSlotsModel", "runOf", "([I)I"⟩ ⟨"PeriodSlotsModel", "runOf", "([I)I"⟩ ∈ zU := zU_in (i := 45) (by decide +kernel) rfl
theorem m1046 : Cond.constantLong "PeriodSlotsModel" 243 (3) ∈ zU := zU_in (i := 1046) (by decide +kernel) rfl
theorem m783 : Cond.fieldLink "PeriodSlotsModel" 62 "PeriodSlotsModel" "planned" "[I" ∈ zU := zU_in (i := 783) (by decide +kernel) rfl
theorem m1075 : Cond.methodLink "PeriodSlotsModel" 252 ⟨"PeriodSlotsModel", "senders", "([III)I"⟩ ∈ zU := zU_in (i := 1075) (by decide +kernel) rfl
theorem m1077 : Cond.instanceMethod ⟨"PeriodSlotsModel", "senders", "([III)I"⟩ ∈ zU := zU_in (i := 1077) (by decide +kernel) rfl
theorem m50 : Cond.selects "PeriodSlotsModel" ⟨"PeriodSlotsModel", "senders", "([III)I"⟩ ⟨"PeriodSlotsModel", "senders", "([III)I"⟩ ∈ zU := zU_in (i := 50) (by decide +kernel) rfl
theorem m1067 : Cond.methodLink "PeriodSlotsModel" 256 ⟨"PeriodSlotsModel", "awakeTicks", "(I)I"⟩ ∈ zU := zU_in (i := 1067) (by decide +kernel) rfl
theorem m1069 : Cond.instanceMethod ⟨"PeriodSlotsModel", "awakeTicks", "(I)I"⟩ ∈ zU := zU_in (i := 1069) (by decide +kernel) rfl
theorem m48 : Cond.selects "PeriodSlotsModel" ⟨"PeriodSlotsModel", "awakeTicks", "(I)I"⟩ ⟨"PeriodSlotsModel", "awakeTicks", "(I)I"⟩ ∈ zU := zU_in (i := 48) (by decide +kernel) rfl
theorem m1071 : Cond.methodLink "PeriodSlotsModel" 259 ⟨"PeriodSlotsModel", "heardAt", "(II)I"⟩ ∈ zU := zU_in (i := 1071) (by decide +kernel) rfl
theorem m1073 : Cond.instanceMethod ⟨"PeriodSlotsModel", "heardAt", "(II)I"⟩ ∈ zU := zU_in (i := 1073) (by decide +kernel) rfl
theorem m49 : Cond.selects "PeriodSlotsModel" ⟨"PeriodSlotsModel", "heardAt", "(II)I"⟩ ⟨"PeriodSlotsModel", "heardAt", "(II)I"⟩ ∈ zU := zU_in (i := 49) (by decide +kernel) rfl
theorem m758 : Cond.fieldLink "PeriodSlotsModel" 19 "PeriodSlotsModel" "trial" "[I" ∈ zU := zU_in (i := 758) (by decide +kernel) rfl
theorem m1091 : Cond.constantLong "PeriodSlotsModel" 262 (10000) ∈ zU := zU_in (i := 1091) (by decide +kernel) rfl
theorem m1087 : Cond.constantLong "PeriodSlotsModel" 264 (4) ∈ zU := zU_in (i := 1087) (by decide +kernel) rfl
theorem m1088 : Cond.methodLink "PeriodSlotsModel" 266 ⟨"PeriodSlotsModel", "tenThousands", "(I)J"⟩ ∈ zU := zU_in (i := 1088) (by decide +kernel) rfl
theorem m1089 : Cond.static ⟨"PeriodSlotsModel", "tenThousands", "(I)J"⟩ ∈ zU := zU_in (i := 1089) (by decide +kernel) rfl
theorem m1092 : Cond.methodLink "PeriodSlotsModel" 270 ⟨"PeriodSlotsModel", "judged", "(IIII)Z"⟩ ∈ zU := zU_in (i := 1092) (by decide +kernel) rfl
theorem m1094 : Cond.instanceMethod ⟨"PeriodSlotsModel", "judged", "(IIII)Z"⟩ ∈ zU := zU_in (i := 1094) (by decide +kernel) rfl
theorem m51 : Cond.selects "PeriodSlotsModel" ⟨"PeriodSlotsModel", "judged", "(IIII)Z"⟩ ⟨"PeriodSlotsModel", "judged", "(IIII)Z"⟩ ∈ zU := zU_in (i := 51) (by decide +kernel) rfl
theorem m1100 : Cond.constantLong "PeriodSlotsModel" 274 (2) ∈ zU := zU_in (i := 1100) (by decide +kernel) rfl
theorem m765 : Cond.fieldLink "PeriodSlotsModel" 35 "PeriodSlotsModel" "seenBy" "[I" ∈ zU := zU_in (i := 765) (by decide +kernel) rfl
theorem m766 : Cond.fieldLink "PeriodSlotsModel" 38 "PeriodSlotsModel" "seenTick" "[I" ∈ zU := zU_in (i := 766) (by decide +kernel) rfl
theorem m767 : Cond.fieldLink "PeriodSlotsModel" 41 "PeriodSlotsModel" "seenWas" "[I" ∈ zU := zU_in (i := 767) (by decide +kernel) rfl
theorem m769 : Cond.fieldLink "PeriodSlotsModel" 291 "PeriodSlotsModel" "seed" "J" ∈ zU := zU_in (i := 769) (by decide +kernel) rfl
theorem m1127 : Cond.constantLong "PeriodSlotsModel" 286 (10) ∈ zU := zU_in (i := 1127) (by decide +kernel) rfl
theorem m1139 : Cond.constantLong "PeriodSlotsModel" 295 (6364136223846793005) ∈ zU := zU_in (i := 1139) (by decide +kernel) rfl
theorem m1140 : Cond.constantLong "PeriodSlotsModel" 297 (1442695040888963407) ∈ zU := zU_in (i := 1140) (by decide +kernel) rfl
theorem m764 : Cond.fieldLink "PeriodSlotsModel" 31 "PeriodSlotsModel" "isKept" "[Z" ∈ zU := zU_in (i := 764) (by decide +kernel) rfl
theorem m763 : Cond.fieldLink "PeriodSlotsModel" 28 "PeriodSlotsModel" "kept" "[I" ∈ zU := zU_in (i := 763) (by decide +kernel) rfl
theorem m784 : Cond.fieldLink "PeriodSlotsModel" 65 "PeriodSlotsModel" "worth" "[I" ∈ zU := zU_in (i := 784) (by decide +kernel) rfl
theorem m1113 : Cond.methodLink "PeriodSlotsModel" 276 ⟨"PeriodSlotsModel", "runWith", "(I)I"⟩ ∈ zU := zU_in (i := 1113) (by decide +kernel) rfl
theorem m1115 : Cond.instanceMethod ⟨"PeriodSlotsModel", "runWith", "(I)I"⟩ ∈ zU := zU_in (i := 1115) (by decide +kernel) rfl
theorem m52 : Cond.selects "PeriodSlotsModel" ⟨"PeriodSlotsModel", "runWith", "(I)I"⟩ ⟨"PeriodSlotsModel", "runWith", "(I)I"⟩ ∈ zU := zU_in (i := 52) (by decide +kernel) rfl
theorem m1117 : Cond.methodLink "PeriodSlotsModel" 279 ⟨"PeriodSlotsModel", "factorial", "(I)I"⟩ ∈ zU := zU_in (i := 1117) (by decide +kernel) rfl
theorem m1118 : Cond.static ⟨"PeriodSlotsModel", "factorial", "(I)I"⟩ ∈ zU := zU_in (i := 1118) (by decide +kernel) rfl
theorem m1120 : Cond.methodLink "PeriodSlotsModel" 282 ⟨"PeriodSlotsModel", "fraction", "(IIZ)I"⟩ ∈ zU := zU_in (i := 1120) (by decide +kernel) rfl
theorem m1121 : Cond.static ⟨"PeriodSlotsModel", "fraction", "(IIZ)I"⟩ ∈ zU := zU_in (i := 1121) (by decide +kernel) rfl
theorem m1128 : Cond.methodLink "PeriodSlotsModel" 288 ⟨"PeriodSlotsModel", "power", "(II)I"⟩ ∈ zU := zU_in (i := 1128) (by decide +kernel) rfl
theorem m1129 : Cond.static ⟨"PeriodSlotsModel", "power", "(II)I"⟩ ∈ zU := zU_in (i := 1129) (by decide +kernel) rfl
theorem m886 : Cond.methodLink "PeriodSlotsModel" 117 ⟨"PeriodSlotsModel", "takeOfLink", "(I)Z"⟩ ∈ zU := zU_in (i := 886) (by decide +kernel) rfl
theorem m888 : Cond.instanceMethod ⟨"PeriodSlotsModel", "takeOfLink", "(I)Z"⟩ ∈ zU := zU_in (i := 888) (by decide +kernel) rfl
theorem m24 : Cond.selects "PeriodSlotsModel" ⟨"PeriodSlotsModel", "takeOfLink", "(I)Z"⟩ ⟨"PeriodSlotsModel", "takeOfLink", "(I)Z"⟩ ∈ zU := zU_in (i := 24) (by decide +kernel) rfl
theorem m879 : Cond.methodLink "PeriodSlotsModel" 114 ⟨"PeriodSlotsModel", "takeOfStation", "(I)Z"⟩ ∈ zU := zU_in (i := 879) (by decide +kernel) rfl
theorem m881 : Cond.instanceMethod ⟨"PeriodSlotsModel", "takeOfStation", "(I)Z"⟩ ∈ zU := zU_in (i := 881) (by decide +kernel) rfl
theorem m23 : Cond.selects "PeriodSlotsModel" ⟨"PeriodSlotsModel", "takeOfStation", "(I)Z"⟩ ⟨"PeriodSlotsModel", "takeOfStation", "(I)Z"⟩ ∈ zU := zU_in (i := 23) (by decide +kernel) rfl
theorem m871 : Cond.methodLink "PeriodSlotsModel" 111 ⟨"PeriodSlotsModel", "takeSign", "(I)Z"⟩ ∈ zU := zU_in (i := 871) (by decide +kernel) rfl
theorem m873 : Cond.instanceMethod ⟨"PeriodSlotsModel", "takeSign", "(I)Z"⟩ ∈ zU := zU_in (i := 873) (by decide +kernel) rfl
theorem m21 : Cond.selects "PeriodSlotsModel" ⟨"PeriodSlotsModel", "takeSign", "(I)Z"⟩ ⟨"PeriodSlotsModel", "takeSign", "(I)Z"⟩ ∈ zU := zU_in (i := 21) (by decide +kernel) rfl
theorem m867 : Cond.methodLink "PeriodSlotsModel" 120 ⟨"PeriodSlotsModel", "readText", "()I"⟩ ∈ zU := zU_in (i := 867) (by decide +kernel) rfl
theorem m869 : Cond.instanceMethod ⟨"PeriodSlotsModel", "readText", "()I"⟩ ∈ zU := zU_in (i := 869) (by decide +kernel) rfl
theorem m20 : Cond.selects "PeriodSlotsModel" ⟨"PeriodSlotsModel", "readText", "()I"⟩ ⟨"PeriodSlotsModel", "readText", "()I"⟩ ∈ zU := zU_in (i := 20) (by decide +kernel) rfl
theorem m750 : Cond.methodLink "PeriodSlotsModel" 68 ⟨"PeriodSlotsModel", "clear", "([I)V"⟩ ∈ zU := zU_in (i := 750) (by decide +kernel) rfl
theorem m751 : Cond.static ⟨"PeriodSlotsModel", "clear", "([I)V"⟩ ∈ zU := zU_in (i := 751) (by decide +kernel) rfl
theorem m1055 : Cond.methodLink "PeriodSlotsModel" 245 ⟨"PeriodSlotsModel", "fits", "(I)Z"⟩ ∈ zU := zU_in (i := 1055) (by decide +kernel) rfl
theorem m1057 : Cond.instanceMethod ⟨"PeriodSlotsModel", "fits", "(I)Z"⟩ ∈ zU := zU_in (i := 1057) (by decide +kernel) rfl
theorem m47 : Cond.selects "PeriodSlotsModel" ⟨"PeriodSlotsModel", "fits", "(I)Z"⟩ ⟨"PeriodSlotsModel", "fits", "(I)Z"⟩ ∈ zU := zU_in (i := 47) (by decide +kernel) rfl
theorem m1051 : Cond.methodLink "PeriodSlotsModel" 248 ⟨"PeriodSlotsModel", "layPlan", "()Z"⟩ ∈ zU := zU_in (i := 1051) (by decide +kernel) rfl
theorem m1053 : Cond.instanceMethod ⟨"PeriodSlotsModel", "layPlan", "()Z"⟩ ∈ zU := zU_in (i := 1053) (by decide +kernel) rfl
theorem m46 : Cond.selects "PeriodSlotsModel" ⟨"PeriodSlotsModel", "layPlan", "()Z"⟩ ⟨"PeriodSlotsModel", "layPlan", "()Z"⟩ ∈ zU := zU_in (i := 46) (by decide +kernel) rfl
