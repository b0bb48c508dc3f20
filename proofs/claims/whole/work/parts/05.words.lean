/-! words by their places; callees -/
theorem jw_0 : Cond.classLink "StackRunLaw" 7 "StackRun" ∈ jm_gw := jw1 (i := 12) rfl rfl
theorem jw_1 : Cond.instantiable "StackRun" 3 ∈ jm_gw := jw1 (i := 13) rfl rfl
theorem jw_2 : Cond.initialized "StackRun" ∈ jm_gw := jw1 (i := 1) rfl rfl
theorem jw_3 : Cond.methodLink "StackRunLaw" 9 ⟨"StackRun", "<init>", "()V"⟩ ∈ jm_gw := jw1 (i := 14) rfl rfl
theorem jw_4 : Cond.instanceMethod ⟨"StackRun", "<init>", "()V"⟩ ∈ jm_gw := jw1 (i := 15) rfl rfl
theorem jw_5 : Cond.classLink "StackRunLaw" 10 "StackRunModel" ∈ jm_gw := jw3 (i := 110) rfl rfl
theorem jw_6 : Cond.instantiable "StackRunModel" 36 ∈ jm_gw := jw3 (i := 111) rfl rfl
theorem jw_7 : Cond.initialized "StackRunModel" ∈ jm_gw := jw1 (i := 11) rfl rfl
theorem jw_8 : Cond.methodLink "StackRunLaw" 12 ⟨"StackRunModel", "<init>", "()V"⟩ ∈ jm_gw := jw3 (i := 112) rfl rfl
theorem jw_9 : Cond.instanceMethod ⟨"StackRunModel", "<init>", "()V"⟩ ∈ jm_gw := jw3 (i := 113) rfl rfl
theorem jw_10 : Cond.methodLink "StackRunLaw" 13 ⟨"StackRun", "function", "(III)I"⟩ ∈ jm_gw := jw2 (i := 7) rfl rfl
theorem jw_11 : Cond.instanceMethod ⟨"StackRun", "function", "(III)I"⟩ ∈ jm_gw := jw2 (i := 8) rfl rfl
theorem jw_12 : Cond.selects "StackRun" ⟨"StackRun", "function", "(III)I"⟩ ⟨"StackRun", "function", "(III)I"⟩ ∈ jm_gw := jw2 (i := 9) rfl rfl
theorem jw_13 : Cond.methodLink "StackRunLaw" 17 ⟨"StackRunModel", "function", "(III)I"⟩ ∈ jm_gw := jw3 (i := 225) rfl rfl
theorem jw_14 : Cond.instanceMethod ⟨"StackRunModel", "function", "(III)I"⟩ ∈ jm_gw := jw3 (i := 226) rfl rfl
theorem jw_15 : Cond.selects "StackRunModel" ⟨"StackRunModel", "function", "(III)I"⟩ ⟨"StackRunModel", "function", "(III)I"⟩ ∈ jm_gw := jw3 (i := 227) rfl rfl
theorem jw_16 : Cond.methodLink "StackRunLaw" 18 ⟨"StackRun", "add", "(III)I"⟩ ∈ jm_gw := jw2 (i := 34) rfl rfl
theorem jw_17 : Cond.instanceMethod ⟨"StackRun", "add", "(III)I"⟩ ∈ jm_gw := jw2 (i := 35) rfl rfl
theorem jw_18 : Cond.selects "StackRun" ⟨"StackRun", "add", "(III)I"⟩ ⟨"StackRun", "add", "(III)I"⟩ ∈ jm_gw := jw2 (i := 36) rfl rfl
theorem jw_19 : Cond.methodLink "StackRunLaw" 21 ⟨"StackRunModel", "add", "(III)I"⟩ ∈ jm_gw := jw3 (i := 233) rfl rfl
theorem jw_20 : Cond.instanceMethod ⟨"StackRunModel", "add", "(III)I"⟩ ∈ jm_gw := jw3 (i := 234) rfl rfl
theorem jw_21 : Cond.selects "StackRunModel" ⟨"StackRunModel", "add", "(III)I"⟩ ⟨"StackRunModel", "add", "(III)I"⟩ ∈ jm_gw := jw3 (i := 235) rfl rfl
theorem jw_22 : Cond.methodLink "StackRunLaw" 22 ⟨"StackRun", "change", "(IIII)Z"⟩ ∈ jm_gw := jw2 (i := 49) rfl rfl
theorem jw_23 : Cond.instanceMethod ⟨"StackRun", "change", "(IIII)Z"⟩ ∈ jm_gw := jw2 (i := 50) rfl rfl
theorem jw_24 : Cond.selects "StackRun" ⟨"StackRun", "change", "(IIII)Z"⟩ ⟨"StackRun", "change", "(IIII)Z"⟩ ∈ jm_gw := jw2 (i := 51) rfl rfl
theorem jw_25 : Cond.methodLink "StackRunLaw" 26 ⟨"StackRunModel", "change", "(IIII)Z"⟩ ∈ jm_gw := jw4 (i := 1) rfl rfl
theorem jw_26 : Cond.instanceMethod ⟨"StackRunModel", "change", "(IIII)Z"⟩ ∈ jm_gw := jw4 (i := 2) rfl rfl
theorem jw_27 : Cond.selects "StackRunModel" ⟨"StackRunModel", "change", "(IIII)Z"⟩ ⟨"StackRunModel", "change", "(IIII)Z"⟩ ∈ jm_gw := jw4 (i := 3) rfl rfl
theorem jw_28 : Cond.methodLink "StackRunLaw" 27 ⟨"StackRun", "handler", "(IIII)Z"⟩ ∈ jm_gw := jw2 (i := 65) rfl rfl
theorem jw_29 : Cond.instanceMethod ⟨"StackRun", "handler", "(IIII)Z"⟩ ∈ jm_gw := jw2 (i := 66) rfl rfl
theorem jw_30 : Cond.selects "StackRun" ⟨"StackRun", "handler", "(IIII)Z"⟩ ⟨"StackRun", "handler", "(IIII)Z"⟩ ∈ jm_gw := jw2 (i := 67) rfl rfl
theorem jw_31 : Cond.methodLink "StackRunLaw" 30 ⟨"StackRunModel", "handler", "(IIII)Z"⟩ ∈ jm_gw := jw4 (i := 5) rfl rfl
theorem jw_32 : Cond.instanceMethod ⟨"StackRunModel", "handler", "(IIII)Z"⟩ ∈ jm_gw := jw4 (i := 6) rfl rfl
theorem jw_33 : Cond.selects "StackRunModel" ⟨"StackRunModel", "handler", "(IIII)Z"⟩ ⟨"StackRunModel", "handler", "(IIII)Z"⟩ ∈ jm_gw := jw4 (i := 7) rfl rfl
theorem jw_34 : Cond.methodLink "StackRunLaw" 31 ⟨"StackRun", "only", "(II)Z"⟩ ∈ jm_gw := jw2 (i := 76) rfl rfl
theorem jw_35 : Cond.instanceMethod ⟨"StackRun", "only", "(II)Z"⟩ ∈ jm_gw := jw2 (i := 77) rfl rfl
theorem jw_36 : Cond.selects "StackRun" ⟨"StackRun", "only", "(II)Z"⟩ ⟨"StackRun", "only", "(II)Z"⟩ ∈ jm_gw := jw2 (i := 78) rfl rfl
theorem jw_37 : Cond.methodLink "StackRunLaw" 35 ⟨"StackRunModel", "only", "(II)Z"⟩ ∈ jm_gw := jw4 (i := 12) rfl rfl
theorem jw_38 : Cond.instanceMethod ⟨"StackRunModel", "only", "(II)Z"⟩ ∈ jm_gw := jw4 (i := 13) rfl rfl
theorem jw_39 : Cond.selects "StackRunModel" ⟨"StackRunModel", "only", "(II)Z"⟩ ⟨"StackRunModel", "only", "(II)Z"⟩ ∈ jm_gw := jw4 (i := 14) rfl rfl
theorem jw_40 : Cond.methodLink "StackRunLaw" 36 ⟨"StackRun", "clear", "()V"⟩ ∈ jm_gw := jw2 (i := 84) rfl rfl
theorem jw_41 : Cond.instanceMethod ⟨"StackRun", "clear", "()V"⟩ ∈ jm_gw := jw2 (i := 85) rfl rfl
theorem jw_42 : Cond.selects "StackRun" ⟨"StackRun", "clear", "()V"⟩ ⟨"StackRun", "clear", "()V"⟩ ∈ jm_gw := jw2 (i := 86) rfl rfl
theorem jw_43 : Cond.methodLink "StackRunLaw" 39 ⟨"StackRunModel", "clear", "()V"⟩ ∈ jm_gw := jw4 (i := 16) rfl rfl
theorem jw_44 : Cond.instanceMethod ⟨"StackRunModel", "clear", "()V"⟩ ∈ jm_gw := jw4 (i := 17) rfl rfl
theorem jw_45 : Cond.selects "StackRunModel" ⟨"StackRunModel", "clear", "()V"⟩ ⟨"StackRunModel", "clear", "()V"⟩ ∈ jm_gw := jw4 (i := 18) rfl rfl
theorem jw_46 : Cond.methodLink "StackRunLaw" 40 ⟨"StackRun", "answer", "(I)I"⟩ ∈ jm_gw := jw2 (i := 92) rfl rfl
theorem jw_47 : Cond.instanceMethod ⟨"StackRun", "answer", "(I)I"⟩ ∈ jm_gw := jw2 (i := 93) rfl rfl
theorem jw_48 : Cond.selects "StackRun" ⟨"StackRun", "answer", "(I)I"⟩ ⟨"StackRun", "answer", "(I)I"⟩ ∈ jm_gw := jw2 (i := 94) rfl rfl
theorem jw_49 : Cond.methodLink "StackRunLaw" 44 ⟨"StackRunModel", "answer", "(I)I"⟩ ∈ jm_gw := jw4 (i := 20) rfl rfl
theorem jw_50 : Cond.instanceMethod ⟨"StackRunModel", "answer", "(I)I"⟩ ∈ jm_gw := jw4 (i := 21) rfl rfl
theorem jw_51 : Cond.selects "StackRunModel" ⟨"StackRunModel", "answer", "(I)I"⟩ ⟨"StackRunModel", "answer", "(I)I"⟩ ∈ jm_gw := jw4 (i := 22) rfl rfl
theorem jw_52 : Cond.methodLink "StackRunLaw" 45 ⟨"StackRun", "forget", "()V"⟩ ∈ jm_gw := jw2 (i := 100) rfl rfl
theorem jw_53 : Cond.instanceMethod ⟨"StackRun", "forget", "()V"⟩ ∈ jm_gw := jw2 (i := 101) rfl rfl
theorem jw_54 : Cond.selects "StackRun" ⟨"StackRun", "forget", "()V"⟩ ⟨"StackRun", "forget", "()V"⟩ ∈ jm_gw := jw2 (i := 102) rfl rfl
theorem jw_55 : Cond.methodLink "StackRunLaw" 48 ⟨"StackRunModel", "forget", "()V"⟩ ∈ jm_gw := jw4 (i := 24) rfl rfl
theorem jw_56 : Cond.instanceMethod ⟨"StackRunModel", "forget", "()V"⟩ ∈ jm_gw := jw4 (i := 25) rfl rfl
theorem jw_57 : Cond.selects "StackRunModel" ⟨"StackRunModel", "forget", "()V"⟩ ⟨"StackRunModel", "forget", "()V"⟩ ∈ jm_gw := jw4 (i := 26) rfl rfl
theorem jw_58 : Cond.methodLink "StackRunLaw" 49 ⟨"StackRun", "begin", "()V"⟩ ∈ jm_gw := jw2 (i := 108) rfl rfl
theorem jw_59 : Cond.instanceMethod ⟨"StackRun", "begin", "()V"⟩ ∈ jm_gw := jw2 (i := 109) rfl rfl
theorem jw_60 : Cond.selects "StackRun" ⟨"StackRun", "begin", "()V"⟩ ⟨"StackRun", "begin", "()V"⟩ ∈ jm_gw := jw2 (i := 110) rfl rfl
theorem jw_61 : Cond.methodLink "StackRunLaw" 52 ⟨"StackRunModel", "begin", "()V"⟩ ∈ jm_gw := jw4 (i := 28) rfl rfl
theorem jw_62 : Cond.instanceMethod ⟨"StackRunModel", "begin", "()V"⟩ ∈ jm_gw := jw4 (i := 29) rfl rfl
theorem jw_63 : Cond.selects "StackRunModel" ⟨"StackRunModel", "begin", "()V"⟩ ⟨"StackRunModel", "begin", "()V"⟩ ∈ jm_gw := jw4 (i := 30) rfl rfl
theorem jw_64 : Cond.methodLink "StackRunLaw" 53 ⟨"StackRun", "go", "(I)I"⟩ ∈ jm_gw := jw2 (i := 134) rfl rfl
theorem jw_65 : Cond.instanceMethod ⟨"StackRun", "go", "(I)I"⟩ ∈ jm_gw := jw2 (i := 135) rfl rfl
theorem jw_66 : Cond.selects "StackRun" ⟨"StackRun", "go", "(I)I"⟩ ⟨"StackRun", "go", "(I)I"⟩ ∈ jm_gw := jw2 (i := 136) rfl rfl
theorem jw_67 : Cond.methodLink "StackRunLaw" 56 ⟨"StackRunModel", "go", "(I)I"⟩ ∈ jm_gw := jw4 (i := 36) rfl rfl
theorem jw_68 : Cond.instanceMethod ⟨"StackRunModel", "go", "(I)I"⟩ ∈ jm_gw := jw4 (i := 37) rfl rfl
theorem jw_69 : Cond.selects "StackRunModel" ⟨"StackRunModel", "go", "(I)I"⟩ ⟨"StackRunModel", "go", "(I)I"⟩ ∈ jm_gw := jw4 (i := 38) rfl rfl
theorem jw_70 : Cond.methodLink "StackRunLaw" 57 ⟨"StackRun", "frame", "(II)I"⟩ ∈ jm_gw := jw3 (i := 74) rfl rfl
theorem jw_71 : Cond.instanceMethod ⟨"StackRun", "frame", "(II)I"⟩ ∈ jm_gw := jw3 (i := 75) rfl rfl
theorem jw_72 : Cond.selects "StackRun" ⟨"StackRun", "frame", "(II)I"⟩ ⟨"StackRun", "frame", "(II)I"⟩ ∈ jm_gw := jw3 (i := 76) rfl rfl
theorem jw_73 : Cond.methodLink "StackRunLaw" 61 ⟨"StackRunModel", "frame", "(II)I"⟩ ∈ jm_gw := jw4 (i := 127) rfl rfl
theorem jw_74 : Cond.instanceMethod ⟨"StackRunModel", "frame", "(II)I"⟩ ∈ jm_gw := jw4 (i := 128) rfl rfl
theorem jw_75 : Cond.selects "StackRunModel" ⟨"StackRunModel", "frame", "(II)I"⟩ ⟨"StackRunModel", "frame", "(II)I"⟩ ∈ jm_gw := jw4 (i := 129) rfl rfl
theorem jw_76 : Cond.methodLink "StackRunLaw" 62 ⟨"StackRun", "value", "(IZI)I"⟩ ∈ jm_gw := jw3 (i := 79) rfl rfl
theorem jw_77 : Cond.instanceMethod ⟨"StackRun", "value", "(IZI)I"⟩ ∈ jm_gw := jw3 (i := 80) rfl rfl
theorem jw_78 : Cond.selects "StackRun" ⟨"StackRun", "value", "(IZI)I"⟩ ⟨"StackRun", "value", "(IZI)I"⟩ ∈ jm_gw := jw3 (i := 81) rfl rfl
theorem jw_79 : Cond.methodLink "StackRunLaw" 66 ⟨"StackRunModel", "value", "(IZI)I"⟩ ∈ jm_gw := jw4 (i := 147) rfl rfl
theorem jw_80 : Cond.instanceMethod ⟨"StackRunModel", "value", "(IZI)I"⟩ ∈ jm_gw := jw4 (i := 148) rfl rfl
theorem jw_81 : Cond.selects "StackRunModel" ⟨"StackRunModel", "value", "(IZI)I"⟩ ⟨"StackRunModel", "value", "(IZI)I"⟩ ∈ jm_gw := jw4 (i := 149) rfl rfl
theorem jw_82 : Cond.methodLink "StackRunLaw" 67 ⟨"StackRun", "kind", "(IZI)I"⟩ ∈ jm_gw := jw3 (i := 88) rfl rfl
theorem jw_83 : Cond.instanceMethod ⟨"StackRun", "kind", "(IZI)I"⟩ ∈ jm_gw := jw3 (i := 89) rfl rfl
theorem jw_84 : Cond.selects "StackRun" ⟨"StackRun", "kind", "(IZI)I"⟩ ⟨"StackRun", "kind", "(IZI)I"⟩ ∈ jm_gw := jw3 (i := 90) rfl rfl
theorem jw_85 : Cond.methodLink "StackRunLaw" 70 ⟨"StackRunModel", "kind", "(IZI)I"⟩ ∈ jm_gw := jw4 (i := 135) rfl rfl
theorem jw_86 : Cond.instanceMethod ⟨"StackRunModel", "kind", "(IZI)I"⟩ ∈ jm_gw := jw4 (i := 136) rfl rfl
theorem jw_87 : Cond.selects "StackRunModel" ⟨"StackRunModel", "kind", "(IZI)I"⟩ ⟨"StackRunModel", "kind", "(IZI)I"⟩ ∈ jm_gw := jw4 (i := 137) rfl rfl
theorem jw_88 : Cond.methodLink "StackRunLaw" 71 ⟨"StackRun", "row", "(II)I"⟩ ∈ jm_gw := jw3 (i := 93) rfl rfl
theorem jw_89 : Cond.instanceMethod ⟨"StackRun", "row", "(II)I"⟩ ∈ jm_gw := jw3 (i := 94) rfl rfl
theorem jw_90 : Cond.selects "StackRun" ⟨"StackRun", "row", "(II)I"⟩ ⟨"StackRun", "row", "(II)I"⟩ ∈ jm_gw := jw3 (i := 95) rfl rfl
theorem jw_91 : Cond.methodLink "StackRunLaw" 74 ⟨"StackRunModel", "row", "(II)I"⟩ ∈ jm_gw := jw4 (i := 151) rfl rfl
theorem jw_92 : Cond.instanceMethod ⟨"StackRunModel", "row", "(II)I"⟩ ∈ jm_gw := jw4 (i := 152) rfl rfl
theorem jw_93 : Cond.selects "StackRunModel" ⟨"StackRunModel", "row", "(II)I"⟩ ⟨"StackRunModel", "row", "(II)I"⟩ ∈ jm_gw := jw4 (i := 153) rfl rfl
theorem jw_94 : Cond.methodLink "StackRunLaw" 75 ⟨"StackRun", "trace", "(II)I"⟩ ∈ jm_gw := jw3 (i := 98) rfl rfl
theorem jw_95 : Cond.instanceMethod ⟨"StackRun", "trace", "(II)I"⟩ ∈ jm_gw := jw3 (i := 99) rfl rfl
theorem jw_96 : Cond.selects "StackRun" ⟨"StackRun", "trace", "(II)I"⟩ ⟨"StackRun", "trace", "(II)I"⟩ ∈ jm_gw := jw3 (i := 100) rfl rfl
theorem jw_97 : Cond.methodLink "StackRunLaw" 78 ⟨"StackRunModel", "trace", "(II)I"⟩ ∈ jm_gw := jw4 (i := 155) rfl rfl
theorem jw_98 : Cond.instanceMethod ⟨"StackRunModel", "trace", "(II)I"⟩ ∈ jm_gw := jw4 (i := 156) rfl rfl
theorem jw_99 : Cond.selects "StackRunModel" ⟨"StackRunModel", "trace", "(II)I"⟩ ⟨"StackRunModel", "trace", "(II)I"⟩ ∈ jm_gw := jw4 (i := 157) rfl rfl
theorem jw_100 : Cond.methodLink "StackRunLaw" 79 ⟨"StackRun", "look", "(I)I"⟩ ∈ jm_gw := jw3 (i := 106) rfl rfl
theorem jw_101 : Cond.instanceMethod ⟨"StackRun", "look", "(I)I"⟩ ∈ jm_gw := jw3 (i := 107) rfl rfl
theorem jw_102 : Cond.selects "StackRun" ⟨"StackRun", "look", "(I)I"⟩ ⟨"StackRun", "look", "(I)I"⟩ ∈ jm_gw := jw3 (i := 108) rfl rfl
theorem jw_103 : Cond.methodLink "StackRunLaw" 82 ⟨"StackRunModel", "look", "(I)I"⟩ ∈ jm_gw := jw4 (i := 159) rfl rfl
theorem jw_104 : Cond.instanceMethod ⟨"StackRunModel", "look", "(I)I"⟩ ∈ jm_gw := jw4 (i := 160) rfl rfl
theorem jw_105 : Cond.selects "StackRunModel" ⟨"StackRunModel", "look", "(I)I"⟩ ⟨"StackRunModel", "look", "(I)I"⟩ ∈ jm_gw := jw4 (i := 161) rfl rfl
theorem jw_106 : Cond.methodLink "StackRun" 1 ⟨"java/lang/Object", "<init>", "()V"⟩ ∈ jm_gw := jw1 (i := 17) rfl rfl
theorem jw_107 : Cond.instanceMethod ⟨"java/lang/Object", "<init>", "()V"⟩ ∈ jm_gw := jw1 (i := 18) rfl rfl
theorem jw_108 : Cond.classLink "StackRun" 7 "StackRun$Program" ∈ jm_gw := jw1 (i := 20) rfl rfl
theorem jw_109 : Cond.instantiable "StackRun$Program" 2 ∈ jm_gw := jw1 (i := 21) rfl rfl
theorem jw_110 : Cond.initialized "StackRun$Program" ∈ jm_gw := jw1 (i := 2) rfl rfl
theorem jw_111 : Cond.methodLink "StackRun" 9 ⟨"StackRun$Program", "<init>", "()V"⟩ ∈ jm_gw := jw1 (i := 22) rfl rfl
theorem jw_112 : Cond.instanceMethod ⟨"StackRun$Program", "<init>", "()V"⟩ ∈ jm_gw := jw1 (i := 23) rfl rfl
theorem jw_113 : Cond.fieldLink "StackRun" 10 "StackRun" "program" "LStackRun$Program;" ∈ jm_gw := jw1 (i := 237) rfl rfl
theorem jw_114 : Cond.classLink "StackRun" 16 "StackRun$Answers" ∈ jm_gw := jw1 (i := 85) rfl rfl
theorem jw_115 : Cond.instantiable "StackRun$Answers" 2 ∈ jm_gw := jw1 (i := 86) rfl rfl
theorem jw_116 : Cond.initialized "StackRun$Answers" ∈ jm_gw := jw1 (i := 4) rfl rfl
theorem jw_117 : Cond.methodLink "StackRun" 18 ⟨"StackRun$Answers", "<init>", "()V"⟩ ∈ jm_gw := jw1 (i := 87) rfl rfl
theorem jw_118 : Cond.instanceMethod ⟨"StackRun$Answers", "<init>", "()V"⟩ ∈ jm_gw := jw1 (i := 88) rfl rfl
theorem jw_119 : Cond.fieldLink "StackRun" 19 "StackRun" "answers" "LStackRun$Answers;" ∈ jm_gw := jw1 (i := 238) rfl rfl
theorem jw_120 : Cond.classLink "StackRun" 23 "StackRun$Run" ∈ jm_gw := jw1 (i := 99) rfl rfl
theorem jw_121 : Cond.instantiable "StackRun$Run" 12 ∈ jm_gw := jw1 (i := 100) rfl rfl
theorem jw_122 : Cond.initialized "StackRun$Run" ∈ jm_gw := jw1 (i := 5) rfl rfl
theorem jw_123 : Cond.methodLink "StackRun" 25 ⟨"StackRun$Run", "<init>", "(LStackRun$Program;LStackRun$Answers;)V"⟩ ∈ jm_gw := jw1 (i := 101) rfl rfl
theorem jw_124 : Cond.instanceMethod ⟨"StackRun$Run", "<init>", "(LStackRun$Program;LStackRun$Answers;)V"⟩ ∈ jm_gw := jw1 (i := 102) rfl rfl
theorem jw_125 : Cond.fieldLink "StackRun" 28 "StackRun" "run" "LStackRun$Run;" ∈ jm_gw := jw1 (i := 239) rfl rfl
theorem jw_126 : Cond.methodLink "StackRun" 32 ⟨"StackRun$Program", "open", "(III)I"⟩ ∈ jm_gw := jw2 (i := 11) rfl rfl
theorem jw_127 : Cond.instanceMethod ⟨"StackRun$Program", "open", "(III)I"⟩ ∈ jm_gw := jw2 (i := 12) rfl rfl
theorem jw_128 : Cond.selects "StackRun$Program" ⟨"StackRun$Program", "open", "(III)I"⟩ ⟨"StackRun$Program", "open", "(III)I"⟩ ∈ jm_gw := jw2 (i := 13) rfl rfl
theorem jw_129 : Cond.methodLink "StackRun" 36 ⟨"StackRun$Run", "drop", "()V"⟩ ∈ jm_gw := jw2 (i := 22) rfl rfl
theorem jw_130 : Cond.instanceMethod ⟨"StackRun$Run", "drop", "()V"⟩ ∈ jm_gw := jw2 (i := 23) rfl rfl
theorem jw_131 : Cond.selects "StackRun$Run" ⟨"StackRun$Run", "drop", "()V"⟩ ⟨"StackRun$Run", "drop", "()V"⟩ ∈ jm_gw := jw2 (i := 24) rfl rfl
theorem jw_132 : Cond.methodLink "StackRun" 39 ⟨"StackRun$Program", "find", "(I)LStackRun$Function;"⟩ ∈ jm_gw := jw2 (i := 38) rfl rfl
theorem jw_133 : Cond.instanceMethod ⟨"StackRun$Program", "find", "(I)LStackRun$Function;"⟩ ∈ jm_gw := jw2 (i := 39) rfl rfl
theorem jw_134 : Cond.selects "StackRun$Program" ⟨"StackRun$Program", "find", "(I)LStackRun$Function;"⟩ ⟨"StackRun$Program", "find", "(I)LStackRun$Function;"⟩ ∈ jm_gw := jw2 (i := 40) rfl rfl
theorem jw_135 : Cond.methodLink "StackRun" 43 ⟨"StackRun$Function", "append", "(II)I"⟩ ∈ jm_gw := jw2 (i := 42) rfl rfl
theorem jw_136 : Cond.initialized "StackRun$Function" ∈ jm_gw := jw1 (i := 3) rfl rfl
theorem jw_137 : Cond.instanceMethod ⟨"StackRun$Function", "append", "(II)I"⟩ ∈ jm_gw := jw2 (i := 43) rfl rfl
theorem jw_138 : Cond.selects "StackRun$Function" ⟨"StackRun$Function", "append", "(II)I"⟩ ⟨"StackRun$Function", "append", "(II)I"⟩ ∈ jm_gw := jw2 (i := 44) rfl rfl
theorem jw_139 : Cond.methodLink "StackRun" 49 ⟨"StackRun$Function", "replace", "(III)Z"⟩ ∈ jm_gw := jw2 (i := 53) rfl rfl
theorem jw_140 : Cond.instanceMethod ⟨"StackRun$Function", "replace", "(III)Z"⟩ ∈ jm_gw := jw2 (i := 54) rfl rfl
theorem jw_141 : Cond.selects "StackRun$Function" ⟨"StackRun$Function", "replace", "(III)Z"⟩ ⟨"StackRun$Function", "replace", "(III)Z"⟩ ∈ jm_gw := jw2 (i := 55) rfl rfl
theorem jw_142 : Cond.methodLink "StackRun" 53 ⟨"StackRun", "dropRunIf", "(Z)Z"⟩ ∈ jm_gw := jw2 (i := 61) rfl rfl
theorem jw_143 : Cond.instanceMethod ⟨"StackRun", "dropRunIf", "(Z)Z"⟩ ∈ jm_gw := jw2 (i := 63) rfl rfl
theorem jw_144 : Cond.selects "StackRun" ⟨"StackRun", "dropRunIf", "(Z)Z"⟩ ⟨"StackRun", "dropRunIf", "(Z)Z"⟩ ∈ jm_gw := jwS (i := 0) rfl rfl
theorem jw_145 : Cond.methodLink "StackRun" 57 ⟨"StackRun$Function", "guard", "(III)Z"⟩ ∈ jm_gw := jw2 (i := 69) rfl rfl
theorem jw_146 : Cond.instanceMethod ⟨"StackRun$Function", "guard", "(III)Z"⟩ ∈ jm_gw := jw2 (i := 70) rfl rfl
theorem jw_147 : Cond.selects "StackRun$Function" ⟨"StackRun$Function", "guard", "(III)Z"⟩ ⟨"StackRun$Function", "guard", "(III)Z"⟩ ∈ jm_gw := jw2 (i := 71) rfl rfl
theorem jw_148 : Cond.methodLink "StackRun" 60 ⟨"StackRun$Function", "narrow", "(I)Z"⟩ ∈ jm_gw := jw2 (i := 80) rfl rfl
theorem jw_149 : Cond.instanceMethod ⟨"StackRun$Function", "narrow", "(I)Z"⟩ ∈ jm_gw := jw2 (i := 81) rfl rfl
theorem jw_150 : Cond.selects "StackRun$Function" ⟨"StackRun$Function", "narrow", "(I)Z"⟩ ⟨"StackRun$Function", "narrow", "(I)Z"⟩ ∈ jm_gw := jw2 (i := 82) rfl rfl
theorem jw_151 : Cond.methodLink "StackRun" 64 ⟨"StackRun$Program", "empty", "()V"⟩ ∈ jm_gw := jw2 (i := 88) rfl rfl
theorem jw_152 : Cond.instanceMethod ⟨"StackRun$Program", "empty", "()V"⟩ ∈ jm_gw := jw2 (i := 89) rfl rfl
theorem jw_153 : Cond.selects "StackRun$Program" ⟨"StackRun$Program", "empty", "()V"⟩ ⟨"StackRun$Program", "empty", "()V"⟩ ∈ jm_gw := jw2 (i := 90) rfl rfl
theorem jw_154 : Cond.methodLink "StackRun" 67 ⟨"StackRun$Answers", "give", "(I)I"⟩ ∈ jm_gw := jw2 (i := 96) rfl rfl
theorem jw_155 : Cond.instanceMethod ⟨"StackRun$Answers", "give", "(I)I"⟩ ∈ jm_gw := jw2 (i := 97) rfl rfl
theorem jw_156 : Cond.selects "StackRun$Answers" ⟨"StackRun$Answers", "give", "(I)I"⟩ ⟨"StackRun$Answers", "give", "(I)I"⟩ ∈ jm_gw := jw2 (i := 98) rfl rfl
theorem jw_157 : Cond.methodLink "StackRun" 71 ⟨"StackRun$Answers", "empty", "()V"⟩ ∈ jm_gw := jw2 (i := 104) rfl rfl
theorem jw_158 : Cond.instanceMethod ⟨"StackRun$Answers", "empty", "()V"⟩ ∈ jm_gw := jw2 (i := 105) rfl rfl
theorem jw_159 : Cond.selects "StackRun$Answers" ⟨"StackRun$Answers", "empty", "()V"⟩ ⟨"StackRun$Answers", "empty", "()V"⟩ ∈ jm_gw := jw2 (i := 106) rfl rfl
theorem jw_160 : Cond.methodLink "StackRun" 72 ⟨"StackRun$Run", "start", "()V"⟩ ∈ jm_gw := jw2 (i := 112) rfl rfl
theorem jw_161 : Cond.instanceMethod ⟨"StackRun$Run", "start", "()V"⟩ ∈ jm_gw := jw2 (i := 113) rfl rfl
theorem jw_162 : Cond.selects "StackRun$Run" ⟨"StackRun$Run", "start", "()V"⟩ ⟨"StackRun$Run", "start", "()V"⟩ ∈ jm_gw := jw2 (i := 114) rfl rfl
theorem jw_163 : Cond.fieldLinkNest "StackRun" 75 "StackRun$Run" "exists" "Z" "StackRun" ∈ jm_nw := jn1 (i := 200) rfl rfl
theorem jw_164 : Cond.fieldLinkNest "StackRun" 79 "StackRun$Run" "depth" "I" "StackRun" ∈ jm_nw := jn1 (i := 202) rfl rfl
theorem jw_165 : Cond.methodLink "StackRun" 83 ⟨"StackRun$Run", "step", "()V"⟩ ∈ jm_gw := jw2 (i := 138) rfl rfl
theorem jw_166 : Cond.instanceMethod ⟨"StackRun$Run", "step", "()V"⟩ ∈ jm_gw := jw2 (i := 139) rfl rfl
theorem jw_167 : Cond.selects "StackRun$Run" ⟨"StackRun$Run", "step", "()V"⟩ ⟨"StackRun$Run", "step", "()V"⟩ ∈ jm_gw := jw2 (i := 140) rfl rfl
theorem jw_168 : Cond.methodLink "StackRun" 86 ⟨"StackRun$Run", "frameBelow", "(I)LStackRun$Frame;"⟩ ∈ jm_gw := jw3 (i := 78) rfl rfl
theorem jw_169 : Cond.instanceMethod ⟨"StackRun$Run", "frameBelow", "(I)LStackRun$Frame;"⟩ ∈ jm_gw := jw2 (i := 143) rfl rfl
theorem jw_170 : Cond.selects "StackRun$Run" ⟨"StackRun$Run", "frameBelow", "(I)LStackRun$Frame;"⟩ ⟨"StackRun$Run", "frameBelow", "(I)LStackRun$Frame;"⟩ ∈ jm_gw := jw2 (i := 144) rfl rfl
theorem jw_171 : Cond.fieldLinkNest "StackRun" 90 "StackRun$Frame" "function" "I" "StackRun" ∈ jm_nw := jn1 (i := 140) rfl rfl
theorem jw_172 : Cond.fieldLinkNest "StackRun" 95 "StackRun$Frame" "next" "I" "StackRun" ∈ jm_nw := jn1 (i := 143) rfl rfl
theorem jw_173 : Cond.fieldLinkNest "StackRun" 98 "StackRun$Frame" "stack" "LStackRun$Cells;" "StackRun" ∈ jm_nw := jn1 (i := 135) rfl rfl
theorem jw_174 : Cond.fieldLinkNest "StackRun" 102 "StackRun$Cells" "size" "I" "StackRun" ∈ jm_nw := jn1 (i := 125) rfl rfl
theorem jw_175 : Cond.methodLink "StackRun" 107 ⟨"StackRun$Frame", "cells", "(Z)LStackRun$Cells;"⟩ ∈ jm_gw := jw3 (i := 83) rfl rfl
theorem jw_176 : Cond.initialized "StackRun$Frame" ∈ jm_gw := jw1 (i := 6) rfl rfl
theorem jw_177 : Cond.instanceMethod ⟨"StackRun$Frame", "cells", "(Z)LStackRun$Cells;"⟩ ∈ jm_gw := jw3 (i := 84) rfl rfl
theorem jw_178 : Cond.selects "StackRun$Frame" ⟨"StackRun$Frame", "cells", "(Z)LStackRun$Cells;"⟩ ⟨"StackRun$Frame", "cells", "(Z)LStackRun$Cells;"⟩ ∈ jm_gw := jw3 (i := 85) rfl rfl
theorem jw_179 : Cond.methodLink "StackRun" 111 ⟨"StackRun$Cells", "valueAt", "(I)I"⟩ ∈ jm_gw := jw3 (i := 87) rfl rfl
theorem jw_180 : Cond.initialized "StackRun$Cells" ∈ jm_gw := jw1 (i := 7) rfl rfl
theorem jw_181 : Cond.instanceMethod ⟨"StackRun$Cells", "valueAt", "(I)I"⟩ ∈ jm_gw := jw2 (i := 177) rfl rfl
theorem jw_182 : Cond.selects "StackRun$Cells" ⟨"StackRun$Cells", "valueAt", "(I)I"⟩ ⟨"StackRun$Cells", "valueAt", "(I)I"⟩ ∈ jm_gw := jw2 (i := 178) rfl rfl
theorem jw_183 : Cond.methodLink "StackRun" 114 ⟨"StackRun$Cells", "kindAt", "(I)I"⟩ ∈ jm_gw := jw3 (i := 92) rfl rfl
theorem jw_184 : Cond.instanceMethod ⟨"StackRun$Cells", "kindAt", "(I)I"⟩ ∈ jm_gw := jw2 (i := 173) rfl rfl
theorem jw_185 : Cond.selects "StackRun$Cells" ⟨"StackRun$Cells", "kindAt", "(I)I"⟩ ⟨"StackRun$Cells", "kindAt", "(I)I"⟩ ∈ jm_gw := jw2 (i := 174) rfl rfl
theorem jw_186 : Cond.fieldLinkNest "StackRun" 117 "StackRun$Run" "rows" "LStackRun$Rows;" "StackRun" ∈ jm_nw := jn1 (i := 196) rfl rfl
theorem jw_187 : Cond.methodLink "StackRun" 121 ⟨"StackRun$Rows", "at", "(II)I"⟩ ∈ jm_gw := jw3 (i := 97) rfl rfl
theorem jw_188 : Cond.initialized "StackRun$Rows" ∈ jm_gw := jw1 (i := 9) rfl rfl
theorem jw_189 : Cond.instanceMethod ⟨"StackRun$Rows", "at", "(II)I"⟩ ∈ jm_gw := jw2 (i := 239) rfl rfl
theorem jw_190 : Cond.selects "StackRun$Rows" ⟨"StackRun$Rows", "at", "(II)I"⟩ ⟨"StackRun$Rows", "at", "(II)I"⟩ ∈ jm_gw := jw3 (i := 0) rfl rfl
theorem jw_191 : Cond.fieldLinkNest "StackRun" 126 "StackRun$Run" "outside" "LStackRun$Outside;" "StackRun" ∈ jm_nw := jn1 (i := 198) rfl rfl
theorem jw_192 : Cond.methodLink "StackRun" 130 ⟨"StackRun$Outside", "at", "(II)I"⟩ ∈ jm_gw := jw3 (i := 102) rfl rfl
theorem jw_193 : Cond.initialized "StackRun$Outside" ∈ jm_gw := jw1 (i := 10) rfl rfl
theorem jw_194 : Cond.instanceMethod ⟨"StackRun$Outside", "at", "(II)I"⟩ ∈ jm_gw := jw3 (i := 103) rfl rfl
theorem jw_195 : Cond.selects "StackRun$Outside" ⟨"StackRun$Outside", "at", "(II)I"⟩ ⟨"StackRun$Outside", "at", "(II)I"⟩ ∈ jm_gw := jw3 (i := 104) rfl rfl
theorem jw_196 : Cond.fieldLinkNest "StackRun" 133 "StackRun$Run" "ended" "I" "StackRun" ∈ jm_nw := jn1 (i := 208) rfl rfl
theorem jw_197 : Cond.fieldLinkNest "StackRun" 136 "StackRun$Run" "result" "I" "StackRun" ∈ jm_nw := jn1 (i := 210) rfl rfl
theorem jw_198 : Cond.fieldLinkNest "StackRun" 139 "StackRun$Run" "steps" "I" "StackRun" ∈ jm_nw := jn1 (i := 206) rfl rfl
theorem jw_199 : Cond.fieldLinkNest "StackRun" 142 "StackRun$Outside" "count" "I" "StackRun" ∈ jm_nw := jn1 (i := 185) rfl rfl
theorem jw_200 : Cond.fieldLinkNest "StackRun" 145 "StackRun$Run" "most" "I" "StackRun" ∈ jm_nw := jn1 (i := 204) rfl rfl
theorem jw_201 : Cond.fieldLinkNest "StackRun" 148 "StackRun$Rows" "count" "I" "StackRun" ∈ jm_nw := jn1 (i := 163) rfl rfl
theorem jw_202 : Cond.fieldLinkNest "StackRun" 149 "StackRun$Rows" "used" "I" "StackRun" ∈ jm_nw := jn1 (i := 165) rfl rfl
theorem jw_203 : Cond.fieldLinkNest "StackRun" 152 "StackRun$Program" "count" "I" "StackRun" ∈ jm_nw := jn1 (i := 79) rfl rfl
theorem jw_204 : Cond.fieldLinkNest "StackRun" 153 "StackRun$Answers" "count" "I" "StackRun" ∈ jm_nw := jn1 (i := 93) rfl rfl
theorem jw_205 : Cond.methodLink "StackRunModel" 1 ⟨"java/lang/Object", "<init>", "()V"⟩ ∈ jm_gw := jw3 (i := 115) rfl rfl
theorem jw_206 : Cond.arrayClass .int ∈ jm_gw := jw1 (i := 75) rfl rfl
theorem jw_207 : Cond.fieldLink "StackRunModel" 7 "StackRunModel" "params" "[I" ∈ jm_gw := jw3 (i := 118) rfl rfl
theorem jw_208 : Cond.fieldLink "StackRunModel" 13 "StackRunModel" "localMany" "[I" ∈ jm_gw := jw3 (i := 119) rfl rfl
theorem jw_209 : Cond.fieldLink "StackRunModel" 16 "StackRunModel" "results" "[I" ∈ jm_gw := jw3 (i := 120) rfl rfl
theorem jw_210 : Cond.fieldLink "StackRunModel" 19 "StackRunModel" "sizes" "[I" ∈ jm_gw := jw3 (i := 121) rfl rfl
theorem jw_211 : Cond.fieldLink "StackRunModel" 22 "StackRunModel" "ops" "[I" ∈ jm_gw := jw3 (i := 122) rfl rfl
theorem jw_212 : Cond.fieldLink "StackRunModel" 25 "StackRunModel" "numbers" "[I" ∈ jm_gw := jw3 (i := 123) rfl rfl
theorem jw_213 : Cond.fieldLink "StackRunModel" 28 "StackRunModel" "handlers" "[I" ∈ jm_gw := jw3 (i := 124) rfl rfl
theorem jw_214 : Cond.fieldLink "StackRunModel" 31 "StackRunModel" "froms" "[I" ∈ jm_gw := jw3 (i := 125) rfl rfl
theorem jw_215 : Cond.fieldLink "StackRunModel" 34 "StackRunModel" "tos" "[I" ∈ jm_gw := jw3 (i := 126) rfl rfl
theorem jw_216 : Cond.fieldLink "StackRunModel" 37 "StackRunModel" "targets" "[I" ∈ jm_gw := jw3 (i := 127) rfl rfl
theorem jw_217 : Cond.arrayClass .boolean ∈ jm_gw := jw1 (i := 76) rfl rfl
theorem jw_218 : Cond.fieldLink "StackRunModel" 40 "StackRunModel" "anyCode" "[Z" ∈ jm_gw := jw3 (i := 128) rfl rfl
theorem jw_219 : Cond.fieldLink "StackRunModel" 44 "StackRunModel" "codes" "[I" ∈ jm_gw := jw3 (i := 129) rfl rfl
theorem jw_220 : Cond.fieldLink "StackRunModel" 47 "StackRunModel" "answers" "[I" ∈ jm_gw := jw3 (i := 130) rfl rfl
theorem jw_221 : Cond.fieldLink "StackRunModel" 50 "StackRunModel" "ended" "I" ∈ jm_gw := jw3 (i := 133) rfl rfl
theorem jw_222 : Cond.fieldLink "StackRunModel" 54 "StackRunModel" "who" "[I" ∈ jm_gw := jw3 (i := 139) rfl rfl
theorem jw_223 : Cond.fieldLink "StackRunModel" 57 "StackRunModel" "place" "[I" ∈ jm_gw := jw3 (i := 140) rfl rfl
theorem jw_224 : Cond.fieldLink "StackRunModel" 60 "StackRunModel" "height" "[I" ∈ jm_gw := jw3 (i := 141) rfl rfl
theorem jw_225 : Cond.fieldLink "StackRunModel" 63 "StackRunModel" "stack" "[I" ∈ jm_gw := jw3 (i := 142) rfl rfl
theorem jw_226 : Cond.fieldLink "StackRunModel" 66 "StackRunModel" "stackRows" "[I" ∈ jm_gw := jw3 (i := 143) rfl rfl
theorem jw_227 : Cond.fieldLink "StackRunModel" 69 "StackRunModel" "locals" "[I" ∈ jm_gw := jw3 (i := 144) rfl rfl
theorem jw_228 : Cond.fieldLink "StackRunModel" 72 "StackRunModel" "localRows" "[I" ∈ jm_gw := jw3 (i := 145) rfl rfl
theorem jw_229 : Cond.fieldLink "StackRunModel" 75 "StackRunModel" "starts" "[I" ∈ jm_gw := jw3 (i := 148) rfl rfl
theorem jw_230 : Cond.fieldLink "StackRunModel" 78 "StackRunModel" "lengths" "[I" ∈ jm_gw := jw3 (i := 149) rfl rfl
theorem jw_231 : Cond.fieldLink "StackRunModel" 81 "StackRunModel" "cells" "[I" ∈ jm_gw := jw3 (i := 150) rfl rfl
theorem jw_232 : Cond.fieldLink "StackRunModel" 84 "StackRunModel" "calls" "[I" ∈ jm_gw := jw3 (i := 151) rfl rfl
theorem jw_233 : Cond.fieldLink "StackRunModel" 90 "StackRunModel" "functions" "I" ∈ jm_gw := jw3 (i := 117) rfl rfl
theorem jw_234 : Cond.fieldLink "StackRunModel" 93 "StackRunModel" "isRun" "Z" ∈ jm_gw := jw3 (i := 132) rfl rfl
theorem jw_235 : Cond.fieldLink "StackRunModel" 97 "StackRunModel" "deep" "I" ∈ jm_gw := jw3 (i := 138) rfl rfl
theorem jw_236 : Cond.fieldLink "StackRunModel" 87 "StackRunModel" "thrown" "I" ∈ jm_gw := jw3 (i := 116) rfl rfl
theorem jw_237 : Cond.methodLink "StackRunModel" 100 ⟨"StackRunModel", "stop", "()V"⟩ ∈ jm_gw := jw3 (i := 229) rfl rfl
theorem jw_238 : Cond.instanceMethod ⟨"StackRunModel", "stop", "()V"⟩ ∈ jm_gw := jw3 (i := 231) rfl rfl
theorem jw_239 : Cond.selects "StackRunModel" ⟨"StackRunModel", "stop", "()V"⟩ ⟨"StackRunModel", "stop", "()V"⟩ ∈ jm_gw := jwS (i := 14) rfl rfl
theorem jw_240 : Cond.methodLink "StackRunModel" 103 ⟨"StackRunModel", "isFunction", "(I)Z"⟩ ∈ jm_gw := jw3 (i := 237) rfl rfl
theorem jw_241 : Cond.instanceMethod ⟨"StackRunModel", "isFunction", "(I)Z"⟩ ∈ jm_gw := jw3 (i := 239) rfl rfl
theorem jw_242 : Cond.selects "StackRunModel" ⟨"StackRunModel", "isFunction", "(I)Z"⟩ ⟨"StackRunModel", "isFunction", "(I)Z"⟩ ∈ jm_gw := jwS (i := 15) rfl rfl
theorem jw_243 : Cond.methodLink "StackRunModel" 107 ⟨"StackRunModel", "isMark", "(I)Z"⟩ ∈ jm_gw := jw4 (i := 9) rfl rfl
theorem jw_244 : Cond.static ⟨"StackRunModel", "isMark", "(I)Z"⟩ ∈ jm_gw := jw4 (i := 10) rfl rfl
theorem jw_245 : Cond.fieldLink "StackRunModel" 110 "StackRunModel" "answerMany" "I" ∈ jm_gw := jw3 (i := 131) rfl rfl
theorem jw_246 : Cond.fieldLink "StackRunModel" 113 "StackRunModel" "value" "I" ∈ jm_gw := jw3 (i := 134) rfl rfl
theorem jw_247 : Cond.fieldLink "StackRunModel" 116 "StackRunModel" "steps" "I" ∈ jm_gw := jw3 (i := 135) rfl rfl
theorem jw_248 : Cond.fieldLink "StackRunModel" 119 "StackRunModel" "outside" "I" ∈ jm_gw := jw3 (i := 136) rfl rfl
theorem jw_249 : Cond.fieldLink "StackRunModel" 122 "StackRunModel" "rows" "I" ∈ jm_gw := jw3 (i := 146) rfl rfl
theorem jw_250 : Cond.fieldLink "StackRunModel" 125 "StackRunModel" "used" "I" ∈ jm_gw := jw3 (i := 147) rfl rfl
theorem jw_251 : Cond.methodLink "StackRunModel" 128 ⟨"StackRunModel", "open", "(I)V"⟩ ∈ jm_gw := jw4 (i := 32) rfl rfl
theorem jw_252 : Cond.instanceMethod ⟨"StackRunModel", "open", "(I)V"⟩ ∈ jm_gw := jw4 (i := 34) rfl rfl
theorem jw_253 : Cond.selects "StackRunModel" ⟨"StackRunModel", "open", "(I)V"⟩ ⟨"StackRunModel", "open", "(I)V"⟩ ∈ jm_gw := jwS (i := 16) rfl rfl
theorem jw_254 : Cond.fieldLink "StackRunModel" 132 "StackRunModel" "most" "I" ∈ jm_gw := jw3 (i := 137) rfl rfl
theorem jw_255 : Cond.methodLink "StackRunModel" 135 ⟨"StackRunModel", "under", "(I)I"⟩ ∈ jm_gw := jw4 (i := 60) rfl rfl
theorem jw_256 : Cond.instanceMethod ⟨"StackRunModel", "under", "(I)I"⟩ ∈ jm_gw := jw4 (i := 62) rfl rfl
theorem jw_257 : Cond.selects "StackRunModel" ⟨"StackRunModel", "under", "(I)I"⟩ ⟨"StackRunModel", "under", "(I)I"⟩ ∈ jm_gw := jwS (i := 22) rfl rfl
theorem jw_258 : Cond.methodLink "StackRunModel" 139 ⟨"StackRunModel", "hasRoom", "()Z"⟩ ∈ jm_gw := jw4 (i := 48) rfl rfl
theorem jw_259 : Cond.instanceMethod ⟨"StackRunModel", "hasRoom", "()Z"⟩ ∈ jm_gw := jw4 (i := 50) rfl rfl
theorem jw_260 : Cond.selects "StackRunModel" ⟨"StackRunModel", "hasRoom", "()Z"⟩ ⟨"StackRunModel", "hasRoom", "()Z"⟩ ∈ jm_gw := jwS (i := 19) rfl rfl
theorem jw_261 : Cond.methodLink "StackRunModel" 143 ⟨"StackRunModel", "isLocal", "(I)Z"⟩ ∈ jm_gw := jw4 (i := 52) rfl rfl
theorem jw_262 : Cond.instanceMethod ⟨"StackRunModel", "isLocal", "(I)Z"⟩ ∈ jm_gw := jw4 (i := 54) rfl rfl
theorem jw_263 : Cond.selects "StackRunModel" ⟨"StackRunModel", "isLocal", "(I)Z"⟩ ⟨"StackRunModel", "isLocal", "(I)Z"⟩ ∈ jm_gw := jwS (i := 20) rfl rfl
theorem jw_264 : Cond.methodLink "StackRunModel" 146 ⟨"StackRunModel", "isThere", "(IZ)Z"⟩ ∈ jm_gw := jw4 (i := 56) rfl rfl
theorem jw_265 : Cond.instanceMethod ⟨"StackRunModel", "isThere", "(IZ)Z"⟩ ∈ jm_gw := jw4 (i := 58) rfl rfl
theorem jw_266 : Cond.selects "StackRunModel" ⟨"StackRunModel", "isThere", "(IZ)Z"⟩ ⟨"StackRunModel", "isThere", "(IZ)Z"⟩ ∈ jm_gw := jwS (i := 21) rfl rfl
theorem jw_267 : Cond.methodLink "StackRunModel" 150 ⟨"StackRunModel", "push", "(II)V"⟩ ∈ jm_gw := jw4 (i := 72) rfl rfl
theorem jw_268 : Cond.instanceMethod ⟨"StackRunModel", "push", "(II)V"⟩ ∈ jm_gw := jw4 (i := 74) rfl rfl
theorem jw_269 : Cond.selects "StackRunModel" ⟨"StackRunModel", "push", "(II)V"⟩ ⟨"StackRunModel", "push", "(II)V"⟩ ∈ jm_gw := jwS (i := 25) rfl rfl
theorem jw_270 : Cond.methodLink "StackRunModel" 154 ⟨"StackRunModel", "finish", "(II)V"⟩ ∈ jm_gw := jw4 (i := 64) rfl rfl
theorem jw_271 : Cond.instanceMethod ⟨"StackRunModel", "finish", "(II)V"⟩ ∈ jm_gw := jw4 (i := 66) rfl rfl
theorem jw_272 : Cond.selects "StackRunModel" ⟨"StackRunModel", "finish", "(II)V"⟩ ⟨"StackRunModel", "finish", "(II)V"⟩ ∈ jm_gw := jwS (i := 23) rfl rfl
theorem jw_273 : Cond.methodLink "StackRunModel" 157 ⟨"StackRunModel", "raise", "(I)V"⟩ ∈ jm_gw := jw4 (i := 96) rfl rfl
theorem jw_274 : Cond.instanceMethod ⟨"StackRunModel", "raise", "(I)V"⟩ ∈ jm_gw := jw4 (i := 98) rfl rfl
theorem jw_275 : Cond.selects "StackRunModel" ⟨"StackRunModel", "raise", "(I)V"⟩ ⟨"StackRunModel", "raise", "(I)V"⟩ ∈ jm_gw := jwS (i := 31) rfl rfl
theorem jw_276 : Cond.methodLink "StackRunModel" 160 ⟨"StackRunModel", "drop", "(I)V"⟩ ∈ jm_gw := jw4 (i := 76) rfl rfl
theorem jw_277 : Cond.instanceMethod ⟨"StackRunModel", "drop", "(I)V"⟩ ∈ jm_gw := jw4 (i := 78) rfl rfl
theorem jw_278 : Cond.selects "StackRunModel" ⟨"StackRunModel", "drop", "(I)V"⟩ ⟨"StackRunModel", "drop", "(I)V"⟩ ∈ jm_gw := jwS (i := 26) rfl rfl
theorem jw_279 : Cond.methodLink "StackRunModel" 163 ⟨"StackRunModel", "worked", "(III)I"⟩ ∈ jm_gw := jw4 (i := 100) rfl rfl
theorem jw_280 : Cond.static ⟨"StackRunModel", "worked", "(III)I"⟩ ∈ jm_gw := jw4 (i := 101) rfl rfl
theorem jw_281 : Cond.methodLink "StackRunModel" 167 ⟨"StackRunModel", "next", "()V"⟩ ∈ jm_gw := jw4 (i := 88) rfl rfl
theorem jw_282 : Cond.instanceMethod ⟨"StackRunModel", "next", "()V"⟩ ∈ jm_gw := jw4 (i := 90) rfl rfl
theorem jw_283 : Cond.selects "StackRunModel" ⟨"StackRunModel", "next", "()V"⟩ ⟨"StackRunModel", "next", "()V"⟩ ∈ jm_gw := jwS (i := 29) rfl rfl
theorem jw_284 : Cond.methodLink "StackRunModel" 170 ⟨"StackRunModel", "swap", "()V"⟩ ∈ jm_gw := jw4 (i := 80) rfl rfl
theorem jw_285 : Cond.instanceMethod ⟨"StackRunModel", "swap", "()V"⟩ ∈ jm_gw := jw4 (i := 82) rfl rfl
theorem jw_286 : Cond.selects "StackRunModel" ⟨"StackRunModel", "swap", "()V"⟩ ⟨"StackRunModel", "swap", "()V"⟩ ∈ jm_gw := jwS (i := 27) rfl rfl
theorem jw_287 : Cond.methodLink "StackRunModel" 173 ⟨"StackRunModel", "keep", "(I)V"⟩ ∈ jm_gw := jw4 (i := 84) rfl rfl
theorem jw_288 : Cond.instanceMethod ⟨"StackRunModel", "keep", "(I)V"⟩ ∈ jm_gw := jw4 (i := 86) rfl rfl
theorem jw_289 : Cond.selects "StackRunModel" ⟨"StackRunModel", "keep", "(I)V"⟩ ⟨"StackRunModel", "keep", "(I)V"⟩ ∈ jm_gw := jwS (i := 28) rfl rfl
theorem jw_290 : Cond.methodLink "StackRunModel" 176 ⟨"StackRunModel", "canBe", "(II)Z"⟩ ∈ jm_gw := jw4 (i := 44) rfl rfl
theorem jw_291 : Cond.instanceMethod ⟨"StackRunModel", "canBe", "(II)Z"⟩ ∈ jm_gw := jw4 (i := 46) rfl rfl
theorem jw_292 : Cond.selects "StackRunModel" ⟨"StackRunModel", "canBe", "(II)Z"⟩ ⟨"StackRunModel", "canBe", "(II)Z"⟩ ∈ jm_gw := jwS (i := 18) rfl rfl
theorem jw_293 : Cond.methodLink "StackRunModel" 180 ⟨"StackRunModel", "move", "(II)V"⟩ ∈ jm_gw := jw4 (i := 68) rfl rfl
theorem jw_294 : Cond.instanceMethod ⟨"StackRunModel", "move", "(II)V"⟩ ∈ jm_gw := jw4 (i := 70) rfl rfl
theorem jw_295 : Cond.selects "StackRunModel" ⟨"StackRunModel", "move", "(II)V"⟩ ⟨"StackRunModel", "move", "(II)V"⟩ ∈ jm_gw := jwS (i := 24) rfl rfl
theorem jw_296 : Cond.methodLink "StackRunModel" 183 ⟨"StackRunModel", "sum", "(I)V"⟩ ∈ jm_gw := jw4 (i := 92) rfl rfl
theorem jw_297 : Cond.instanceMethod ⟨"StackRunModel", "sum", "(I)V"⟩ ∈ jm_gw := jw4 (i := 94) rfl rfl
theorem jw_298 : Cond.selects "StackRunModel" ⟨"StackRunModel", "sum", "(I)V"⟩ ⟨"StackRunModel", "sum", "(I)V"⟩ ∈ jm_gw := jwS (i := 30) rfl rfl
theorem jw_299 : Cond.methodLink "StackRunModel" 186 ⟨"StackRunModel", "jump", "(II)V"⟩ ∈ jm_gw := jw4 (i := 103) rfl rfl
theorem jw_300 : Cond.instanceMethod ⟨"StackRunModel", "jump", "(II)V"⟩ ∈ jm_gw := jw4 (i := 105) rfl rfl
theorem jw_301 : Cond.selects "StackRunModel" ⟨"StackRunModel", "jump", "(II)V"⟩ ⟨"StackRunModel", "jump", "(II)V"⟩ ∈ jm_gw := jwS (i := 32) rfl rfl
theorem jw_302 : Cond.methodLink "StackRunModel" 189 ⟨"StackRunModel", "create", "()V"⟩ ∈ jm_gw := jw4 (i := 107) rfl rfl
theorem jw_303 : Cond.instanceMethod ⟨"StackRunModel", "create", "()V"⟩ ∈ jm_gw := jw4 (i := 109) rfl rfl
theorem jw_304 : Cond.selects "StackRunModel" ⟨"StackRunModel", "create", "()V"⟩ ⟨"StackRunModel", "create", "()V"⟩ ∈ jm_gw := jwS (i := 33) rfl rfl
theorem jw_305 : Cond.methodLink "StackRunModel" 192 ⟨"StackRunModel", "reach", "(Z)V"⟩ ∈ jm_gw := jw4 (i := 111) rfl rfl
theorem jw_306 : Cond.instanceMethod ⟨"StackRunModel", "reach", "(Z)V"⟩ ∈ jm_gw := jw4 (i := 113) rfl rfl
theorem jw_307 : Cond.selects "StackRunModel" ⟨"StackRunModel", "reach", "(Z)V"⟩ ⟨"StackRunModel", "reach", "(Z)V"⟩ ∈ jm_gw := jwS (i := 34) rfl rfl
theorem jw_308 : Cond.methodLink "StackRunModel" 196 ⟨"StackRunModel", "callIn", "(I)V"⟩ ∈ jm_gw := jw4 (i := 115) rfl rfl
theorem jw_309 : Cond.instanceMethod ⟨"StackRunModel", "callIn", "(I)V"⟩ ∈ jm_gw := jw4 (i := 117) rfl rfl
theorem jw_310 : Cond.selects "StackRunModel" ⟨"StackRunModel", "callIn", "(I)V"⟩ ⟨"StackRunModel", "callIn", "(I)V"⟩ ∈ jm_gw := jwS (i := 35) rfl rfl
theorem jw_311 : Cond.methodLink "StackRunModel" 199 ⟨"StackRunModel", "callOut", "(I)V"⟩ ∈ jm_gw := jw4 (i := 119) rfl rfl
theorem jw_312 : Cond.instanceMethod ⟨"StackRunModel", "callOut", "(I)V"⟩ ∈ jm_gw := jw4 (i := 121) rfl rfl
theorem jw_313 : Cond.selects "StackRunModel" ⟨"StackRunModel", "callOut", "(I)V"⟩ ⟨"StackRunModel", "callOut", "(I)V"⟩ ∈ jm_gw := jwS (i := 36) rfl rfl
theorem jw_314 : Cond.methodLink "StackRunModel" 202 ⟨"StackRunModel", "comeBack", "()V"⟩ ∈ jm_gw := jw4 (i := 123) rfl rfl
theorem jw_315 : Cond.instanceMethod ⟨"StackRunModel", "comeBack", "()V"⟩ ∈ jm_gw := jw4 (i := 125) rfl rfl
theorem jw_316 : Cond.selects "StackRunModel" ⟨"StackRunModel", "comeBack", "()V"⟩ ⟨"StackRunModel", "comeBack", "()V"⟩ ∈ jm_gw := jwS (i := 37) rfl rfl
theorem jw_317 : Cond.methodLink "StackRunModel" 205 ⟨"StackRunModel", "step", "()V"⟩ ∈ jm_gw := jw4 (i := 40) rfl rfl
theorem jw_318 : Cond.instanceMethod ⟨"StackRunModel", "step", "()V"⟩ ∈ jm_gw := jw4 (i := 42) rfl rfl
theorem jw_319 : Cond.selects "StackRunModel" ⟨"StackRunModel", "step", "()V"⟩ ⟨"StackRunModel", "step", "()V"⟩ ∈ jm_gw := jwS (i := 17) rfl rfl
theorem jw_320 : Cond.methodLink "StackRunModel" 208 ⟨"StackRunModel", "isDone", "(I)Z"⟩ ∈ jm_gw := jw4 (i := 131) rfl rfl
theorem jw_321 : Cond.instanceMethod ⟨"StackRunModel", "isDone", "(I)Z"⟩ ∈ jm_gw := jw4 (i := 133) rfl rfl
theorem jw_322 : Cond.selects "StackRunModel" ⟨"StackRunModel", "isDone", "(I)Z"⟩ ⟨"StackRunModel", "isDone", "(I)Z"⟩ ∈ jm_gw := jwS (i := 38) rfl rfl
theorem jw_323 : Cond.methodLink "StackRunModel" 211 ⟨"StackRunModel", "many", "(IZ)I"⟩ ∈ jm_gw := jw4 (i := 143) rfl rfl
theorem jw_324 : Cond.instanceMethod ⟨"StackRunModel", "many", "(IZ)I"⟩ ∈ jm_gw := jw4 (i := 145) rfl rfl
theorem jw_325 : Cond.selects "StackRunModel" ⟨"StackRunModel", "many", "(IZ)I"⟩ ⟨"StackRunModel", "many", "(IZ)I"⟩ ∈ jm_gw := jwS (i := 40) rfl rfl
theorem jw_326 : Cond.methodLink "StackRunModel" 215 ⟨"StackRunModel", "isValue", "(IZI)Z"⟩ ∈ jm_gw := jw4 (i := 139) rfl rfl
theorem jw_327 : Cond.instanceMethod ⟨"StackRunModel", "isValue", "(IZI)Z"⟩ ∈ jm_gw := jw4 (i := 141) rfl rfl
theorem jw_328 : Cond.selects "StackRunModel" ⟨"StackRunModel", "isValue", "(IZI)Z"⟩ ⟨"StackRunModel", "isValue", "(IZI)Z"⟩ ∈ jm_gw := jwS (i := 39) rfl rfl
theorem jw_329 : Cond.methodLink "StackRun$Answers" 3 ⟨"java/lang/Object", "<init>", "()V"⟩ ∈ jm_gw := jw1 (i := 90) rfl rfl
theorem jw_330 : Cond.fieldLink "StackRun$Answers" 11 "StackRun$Answers" "given" "[I" ∈ jm_gw := jw1 (i := 91) rfl rfl
theorem jw_331 : Cond.fieldLink "StackRun$Answers" 15 "StackRun$Answers" "count" "I" ∈ jm_gw := jw1 (i := 92) rfl rfl
theorem jw_332 : Cond.methodLink "StackRun$Cells" 3 ⟨"java/lang/Object", "<init>", "()V"⟩ ∈ jm_gw := jw1 (i := 117) rfl rfl
theorem jw_333 : Cond.methodLink "StackRun$Cells" 9 ⟨"java/lang/Math", "max", "(II)I"⟩ ∈ jm_gw := jw1 (i := 118) rfl rfl
theorem jw_334 : Cond.static ⟨"java/lang/Math", "max", "(II)I"⟩ ∈ jm_gw := jw1 (i := 119) rfl rfl
theorem jw_335 : Cond.initialized "java/lang/Math" ∈ jm_gw := jw1 (i := 8) rfl rfl
theorem jw_336 : Cond.fieldLink "StackRun$Cells" 15 "StackRun$Cells" "values" "[I" ∈ jm_gw := jw1 (i := 121) rfl rfl
theorem jw_337 : Cond.fieldLink "StackRun$Cells" 21 "StackRun$Cells" "kinds" "[I" ∈ jm_gw := jw1 (i := 122) rfl rfl
theorem jw_338 : Cond.fieldLink "StackRun$Cells" 24 "StackRun$Cells" "size" "I" ∈ jm_gw := jw1 (i := 123) rfl rfl
theorem jw_339 : Cond.methodLink "StackRun$Cells" 28 ⟨"java/lang/Math", "min", "(II)I"⟩ ∈ jm_gw := jw2 (i := 130) rfl rfl
theorem jw_340 : Cond.static ⟨"java/lang/Math", "min", "(II)I"⟩ ∈ jm_gw := jw2 (i := 131) rfl rfl
theorem jw_341 : Cond.methodLink "StackRun$Cells" 31 ⟨"StackRun$Cells", "valueAt", "(I)I"⟩ ∈ jm_gw := jw2 (i := 194) rfl rfl
theorem jw_342 : Cond.methodLink "StackRun$Cells" 35 ⟨"StackRun$Cells", "kindAt", "(I)I"⟩ ∈ jm_gw := jw2 (i := 205) rfl rfl
theorem jw_343 : Cond.methodLink "StackRun$Cells" 38 ⟨"StackRun$Cells", "isInt", "(I)Z"⟩ ∈ jm_gw := jw3 (i := 17) rfl rfl
theorem jw_344 : Cond.instanceMethod ⟨"StackRun$Cells", "isInt", "(I)Z"⟩ ∈ jm_gw := jw2 (i := 202) rfl rfl
theorem jw_345 : Cond.selects "StackRun$Cells" ⟨"StackRun$Cells", "isInt", "(I)Z"⟩ ⟨"StackRun$Cells", "isInt", "(I)Z"⟩ ∈ jm_gw := jw2 (i := 203) rfl rfl
theorem jw_346 : Cond.methodLink "StackRun$Cells" 42 ⟨"StackRun$Cells", "take", "(I)V"⟩ ∈ jm_gw := jw3 (i := 7) rfl rfl
theorem jw_347 : Cond.instanceMethod ⟨"StackRun$Cells", "take", "(I)V"⟩ ∈ jm_gw := jw2 (i := 166) rfl rfl
theorem jw_348 : Cond.selects "StackRun$Cells" ⟨"StackRun$Cells", "take", "(I)V"⟩ ⟨"StackRun$Cells", "take", "(I)V"⟩ ∈ jm_gw := jw2 (i := 167) rfl rfl
theorem jw_349 : Cond.methodLink "StackRun$Cells" 46 ⟨"StackRun$Cells", "put", "(II)V"⟩ ∈ jm_gw := jw3 (i := 8) rfl rfl
theorem jw_350 : Cond.instanceMethod ⟨"StackRun$Cells", "put", "(II)V"⟩ ∈ jm_gw := jw2 (i := 159) rfl rfl
theorem jw_351 : Cond.selects "StackRun$Cells" ⟨"StackRun$Cells", "put", "(II)V"⟩ ⟨"StackRun$Cells", "put", "(II)V"⟩ ∈ jm_gw := jw2 (i := 160) rfl rfl
theorem jw_352 : Cond.methodLink "StackRun$Frame" 1 ⟨"java/lang/Object", "<init>", "()V"⟩ ∈ jm_gw := jw1 (i := 111) rfl rfl
theorem jw_353 : Cond.classLink "StackRun$Frame" 7 "StackRun$Cells" ∈ jm_gw := jw1 (i := 112) rfl rfl
theorem jw_354 : Cond.instantiable "StackRun$Cells" 3 ∈ jm_gw := jw1 (i := 113) rfl rfl
theorem jw_355 : Cond.methodLink "StackRun$Frame" 11 ⟨"StackRun$Cells", "<init>", "(I)V"⟩ ∈ jm_gw := jw1 (i := 114) rfl rfl
theorem jw_356 : Cond.instanceMethod ⟨"StackRun$Cells", "<init>", "(I)V"⟩ ∈ jm_gw := jw1 (i := 115) rfl rfl
theorem jw_357 : Cond.fieldLink "StackRun$Frame" 14 "StackRun$Frame" "stack" "LStackRun$Cells;" ∈ jm_gw := jw1 (i := 133) rfl rfl
theorem jw_358 : Cond.fieldLink "StackRun$Frame" 20 "StackRun$Frame" "ownLocals" "LStackRun$Cells;" ∈ jm_gw := jw1 (i := 136) rfl rfl
theorem jw_359 : Cond.fieldLink "StackRun$Frame" 23 "StackRun$Frame" "function" "I" ∈ jm_gw := jw1 (i := 138) rfl rfl
theorem jw_360 : Cond.fieldLink "StackRun$Frame" 27 "StackRun$Frame" "next" "I" ∈ jm_gw := jw1 (i := 141) rfl rfl
theorem jw_361 : Cond.methodLink "StackRun$Frame" 30 ⟨"StackRun$Cells", "resetTo", "(I)V"⟩ ∈ jm_gw := jw2 (i := 126) rfl rfl
theorem jw_362 : Cond.instanceMethod ⟨"StackRun$Cells", "resetTo", "(I)V"⟩ ∈ jm_gw := jw2 (i := 127) rfl rfl
theorem jw_363 : Cond.selects "StackRun$Cells" ⟨"StackRun$Cells", "resetTo", "(I)V"⟩ ⟨"StackRun$Cells", "resetTo", "(I)V"⟩ ∈ jm_gw := jw2 (i := 128) rfl rfl
theorem jw_364 : Cond.methodLink "StackRun$Frame" 33 ⟨"StackRun$Cells", "put", "(II)V"⟩ ∈ jm_gw := jw3 (i := 73) rfl rfl
theorem jw_365 : Cond.methodLink "StackRun$Function" 3 ⟨"java/lang/Object", "<init>", "()V"⟩ ∈ jm_gw := jw1 (i := 32) rfl rfl
theorem jw_366 : Cond.fieldLink "StackRun$Function" 11 "StackRun$Function" "operations" "[I" ∈ jm_gw := jw1 (i := 33) rfl rfl
theorem jw_367 : Cond.fieldLink "StackRun$Function" 15 "StackRun$Function" "numbers" "[I" ∈ jm_gw := jw1 (i := 35) rfl rfl
theorem jw_368 : Cond.fieldLink "StackRun$Function" 18 "StackRun$Function" "froms" "[I" ∈ jm_gw := jw1 (i := 37) rfl rfl
theorem jw_369 : Cond.fieldLink "StackRun$Function" 21 "StackRun$Function" "tos" "[I" ∈ jm_gw := jw1 (i := 38) rfl rfl
theorem jw_370 : Cond.fieldLink "StackRun$Function" 24 "StackRun$Function" "targets" "[I" ∈ jm_gw := jw1 (i := 39) rfl rfl
theorem jw_371 : Cond.fieldLink "StackRun$Function" 27 "StackRun$Function" "codes" "[I" ∈ jm_gw := jw1 (i := 40) rfl rfl
theorem jw_372 : Cond.fieldLink "StackRun$Function" 30 "StackRun$Function" "narrowed" "[Z" ∈ jm_gw := jw1 (i := 41) rfl rfl
theorem jw_373 : Cond.fieldLink "StackRun$Function" 34 "StackRun$Function" "params" "I" ∈ jm_gw := jw1 (i := 42) rfl rfl
theorem jw_374 : Cond.fieldLink "StackRun$Function" 38 "StackRun$Function" "locals" "I" ∈ jm_gw := jw1 (i := 44) rfl rfl
theorem jw_375 : Cond.fieldLink "StackRun$Function" 41 "StackRun$Function" "givesValue" "Z" ∈ jm_gw := jw1 (i := 46) rfl rfl
theorem jw_376 : Cond.fieldLink "StackRun$Function" 45 "StackRun$Function" "size" "I" ∈ jm_gw := jw1 (i := 48) rfl rfl
theorem jw_377 : Cond.fieldLink "StackRun$Function" 48 "StackRun$Function" "handlers" "I" ∈ jm_gw := jw1 (i := 49) rfl rfl
theorem jw_378 : Cond.methodLink "StackRun$Function" 51 ⟨"StackRun$Function", "isOperation", "(I)Z"⟩ ∈ jm_gw := jw2 (i := 46) rfl rfl
theorem jw_379 : Cond.static ⟨"StackRun$Function", "isOperation", "(I)Z"⟩ ∈ jm_gw := jw2 (i := 47) rfl rfl
theorem jw_380 : Cond.methodLink "StackRun$Function" 55 ⟨"StackRun$Function", "has", "(I)Z"⟩ ∈ jm_gw := jw2 (i := 57) rfl rfl
theorem jw_381 : Cond.instanceMethod ⟨"StackRun$Function", "has", "(I)Z"⟩ ∈ jm_gw := jw2 (i := 58) rfl rfl
theorem jw_382 : Cond.selects "StackRun$Function" ⟨"StackRun$Function", "has", "(I)Z"⟩ ⟨"StackRun$Function", "has", "(I)Z"⟩ ∈ jm_gw := jw2 (i := 59) rfl rfl
theorem jw_383 : Cond.methodLink "StackRun$Function" 58 ⟨"StackRun$Function", "isPlace", "(I)Z"⟩ ∈ jm_gw := jw2 (i := 73) rfl rfl
theorem jw_384 : Cond.static ⟨"StackRun$Function", "isPlace", "(I)Z"⟩ ∈ jm_gw := jw2 (i := 74) rfl rfl
theorem jw_385 : Cond.methodLink "StackRun$Outside" 1 ⟨"java/lang/Object", "<init>", "()V"⟩ ∈ jm_gw := jw1 (i := 182) rfl rfl
theorem jw_386 : Cond.fieldLink "StackRun$Outside" 9 "StackRun$Outside" "kept" "[I" ∈ jm_gw := jw1 (i := 183) rfl rfl
theorem jw_387 : Cond.fieldLink "StackRun$Outside" 13 "StackRun$Outside" "count" "I" ∈ jm_gw := jw1 (i := 184) rfl rfl
theorem jw_388 : Cond.methodLink "StackRun$Outside" 17 ⟨"StackRun$Cells", "top", "(I)I"⟩ ∈ jm_gw := jw3 (i := 41) rfl rfl
theorem jw_389 : Cond.instanceMethod ⟨"StackRun$Cells", "top", "(I)I"⟩ ∈ jm_gw := jw2 (i := 191) rfl rfl
theorem jw_390 : Cond.selects "StackRun$Cells" ⟨"StackRun$Cells", "top", "(I)I"⟩ ⟨"StackRun$Cells", "top", "(I)I"⟩ ∈ jm_gw := jw2 (i := 192) rfl rfl
theorem jw_391 : Cond.methodLink "StackRun$Program" 3 ⟨"java/lang/Object", "<init>", "()V"⟩ ∈ jm_gw := jw1 (i := 25) rfl rfl
theorem jw_392 : Cond.classLink "StackRun$Program" 11 "StackRun$Function" ∈ jm_gw := jw1 (i := 26) rfl rfl
theorem jw_393 : Cond.fieldLink "StackRun$Program" 13 "StackRun$Program" "functions" "[LStackRun$Function;" ∈ jm_gw := jw1 (i := 77) rfl rfl
theorem jw_394 : Cond.instantiable "StackRun$Function" 12 ∈ jm_gw := jw1 (i := 28) rfl rfl
theorem jw_395 : Cond.methodLink "StackRun$Program" 17 ⟨"StackRun$Function", "<init>", "()V"⟩ ∈ jm_gw := jw1 (i := 29) rfl rfl
theorem jw_396 : Cond.instanceMethod ⟨"StackRun$Function", "<init>", "()V"⟩ ∈ jm_gw := jw1 (i := 30) rfl rfl
theorem jw_397 : Cond.fieldLink "StackRun$Program" 18 "StackRun$Program" "count" "I" ∈ jm_gw := jw1 (i := 78) rfl rfl
theorem jw_398 : Cond.methodLink "StackRun$Program" 22 ⟨"StackRun$Function", "mayHave", "(III)Z"⟩ ∈ jm_gw := jw2 (i := 15) rfl rfl
theorem jw_399 : Cond.static ⟨"StackRun$Function", "mayHave", "(III)Z"⟩ ∈ jm_gw := jw2 (i := 16) rfl rfl
theorem jw_400 : Cond.methodLink "StackRun$Program" 26 ⟨"StackRun$Function", "reset", "(III)V"⟩ ∈ jm_gw := jw2 (i := 18) rfl rfl
theorem jw_401 : Cond.instanceMethod ⟨"StackRun$Function", "reset", "(III)V"⟩ ∈ jm_gw := jw2 (i := 19) rfl rfl
theorem jw_402 : Cond.selects "StackRun$Function" ⟨"StackRun$Function", "reset", "(III)V"⟩ ⟨"StackRun$Function", "reset", "(III)V"⟩ ∈ jm_gw := jw2 (i := 20) rfl rfl
theorem jw_403 : Cond.methodLink "StackRun$Rows" 3 ⟨"java/lang/Object", "<init>", "()V"⟩ ∈ jm_gw := jw1 (i := 158) rfl rfl
theorem jw_404 : Cond.fieldLink "StackRun$Rows" 11 "StackRun$Rows" "store" "[I" ∈ jm_gw := jw1 (i := 159) rfl rfl
theorem jw_405 : Cond.fieldLink "StackRun$Rows" 15 "StackRun$Rows" "starts" "[I" ∈ jm_gw := jw1 (i := 160) rfl rfl
theorem jw_406 : Cond.fieldLink "StackRun$Rows" 18 "StackRun$Rows" "sizes" "[I" ∈ jm_gw := jw1 (i := 161) rfl rfl
theorem jw_407 : Cond.fieldLink "StackRun$Rows" 21 "StackRun$Rows" "count" "I" ∈ jm_gw := jw1 (i := 162) rfl rfl
theorem jw_408 : Cond.fieldLink "StackRun$Rows" 25 "StackRun$Rows" "used" "I" ∈ jm_gw := jw1 (i := 164) rfl rfl
theorem jw_409 : Cond.methodLink "StackRun$Rows" 28 ⟨"StackRun$Rows", "mayMake", "(I)Z"⟩ ∈ jm_gw := jw2 (i := 214) rfl rfl
theorem jw_410 : Cond.instanceMethod ⟨"StackRun$Rows", "mayMake", "(I)Z"⟩ ∈ jm_gw := jw2 (i := 215) rfl rfl
theorem jw_411 : Cond.selects "StackRun$Rows" ⟨"StackRun$Rows", "mayMake", "(I)Z"⟩ ⟨"StackRun$Rows", "mayMake", "(I)Z"⟩ ∈ jm_gw := jw2 (i := 216) rfl rfl
theorem jw_412 : Cond.methodLink "StackRun$Rows" 32 ⟨"StackRun$Rows", "has", "(II)Z"⟩ ∈ jm_gw := jw3 (i := 2) rfl rfl
theorem jw_413 : Cond.instanceMethod ⟨"StackRun$Rows", "has", "(II)Z"⟩ ∈ jm_gw := jw2 (i := 235) rfl rfl
theorem jw_414 : Cond.selects "StackRun$Rows" ⟨"StackRun$Rows", "has", "(II)Z"⟩ ⟨"StackRun$Rows", "has", "(II)Z"⟩ ∈ jm_gw := jw2 (i := 236) rfl rfl
theorem jw_415 : Cond.methodLink "StackRun$Run" 3 ⟨"java/lang/Object", "<init>", "()V"⟩ ∈ jm_gw := jw1 (i := 104) rfl rfl
theorem jw_416 : Cond.fieldLink "StackRun$Run" 9 "StackRun$Run" "program" "LStackRun$Program;" ∈ jm_gw := jw1 (i := 192) rfl rfl
theorem jw_417 : Cond.fieldLink "StackRun$Run" 15 "StackRun$Run" "answers" "LStackRun$Answers;" ∈ jm_gw := jw1 (i := 193) rfl rfl
theorem jw_418 : Cond.classLink "StackRun$Run" 19 "StackRun$Frame" ∈ jm_gw := jw1 (i := 105) rfl rfl
theorem jw_419 : Cond.fieldLink "StackRun$Run" 21 "StackRun$Run" "frames" "[LStackRun$Frame;" ∈ jm_gw := jw1 (i := 194) rfl rfl
theorem jw_420 : Cond.instantiable "StackRun$Frame" 4 ∈ jm_gw := jw1 (i := 107) rfl rfl
theorem jw_421 : Cond.methodLink "StackRun$Run" 25 ⟨"StackRun$Frame", "<init>", "()V"⟩ ∈ jm_gw := jw1 (i := 108) rfl rfl
theorem jw_422 : Cond.instanceMethod ⟨"StackRun$Frame", "<init>", "()V"⟩ ∈ jm_gw := jw1 (i := 109) rfl rfl
theorem jw_423 : Cond.classLink "StackRun$Run" 26 "StackRun$Rows" ∈ jm_gw := jw1 (i := 153) rfl rfl
theorem jw_424 : Cond.instantiable "StackRun$Rows" 5 ∈ jm_gw := jw1 (i := 154) rfl rfl
theorem jw_425 : Cond.methodLink "StackRun$Run" 28 ⟨"StackRun$Rows", "<init>", "()V"⟩ ∈ jm_gw := jw1 (i := 155) rfl rfl
theorem jw_426 : Cond.instanceMethod ⟨"StackRun$Rows", "<init>", "()V"⟩ ∈ jm_gw := jw1 (i := 156) rfl rfl
theorem jw_427 : Cond.fieldLink "StackRun$Run" 29 "StackRun$Run" "rows" "LStackRun$Rows;" ∈ jm_gw := jw1 (i := 195) rfl rfl
theorem jw_428 : Cond.classLink "StackRun$Run" 33 "StackRun$Outside" ∈ jm_gw := jw1 (i := 177) rfl rfl
theorem jw_429 : Cond.instantiable "StackRun$Outside" 2 ∈ jm_gw := jw1 (i := 178) rfl rfl
theorem jw_430 : Cond.methodLink "StackRun$Run" 35 ⟨"StackRun$Outside", "<init>", "()V"⟩ ∈ jm_gw := jw1 (i := 179) rfl rfl
theorem jw_431 : Cond.instanceMethod ⟨"StackRun$Outside", "<init>", "()V"⟩ ∈ jm_gw := jw1 (i := 180) rfl rfl
theorem jw_432 : Cond.fieldLink "StackRun$Run" 36 "StackRun$Run" "outside" "LStackRun$Outside;" ∈ jm_gw := jw1 (i := 197) rfl rfl
theorem jw_433 : Cond.fieldLink "StackRun$Run" 40 "StackRun$Run" "ended" "I" ∈ jm_gw := jw1 (i := 207) rfl rfl
theorem jw_434 : Cond.fieldLink "StackRun$Run" 44 "StackRun$Run" "exists" "Z" ∈ jm_gw := jw1 (i := 199) rfl rfl
theorem jw_435 : Cond.fieldLink "StackRun$Run" 48 "StackRun$Run" "depth" "I" ∈ jm_gw := jw1 (i := 201) rfl rfl
theorem jw_436 : Cond.fieldLink "StackRun$Run" 51 "StackRun$Run" "most" "I" ∈ jm_gw := jw1 (i := 203) rfl rfl
theorem jw_437 : Cond.fieldLink "StackRun$Run" 54 "StackRun$Run" "steps" "I" ∈ jm_gw := jw1 (i := 205) rfl rfl
theorem jw_438 : Cond.fieldLink "StackRun$Run" 57 "StackRun$Run" "result" "I" ∈ jm_gw := jw1 (i := 209) rfl rfl
theorem jw_439 : Cond.fieldLink "StackRun$Run" 60 "StackRun$Run" "thrown" "I" ∈ jm_gw := jw1 (i := 211) rfl rfl
theorem jw_440 : Cond.methodLink "StackRun$Run" 63 ⟨"StackRun$Rows", "empty", "()V"⟩ ∈ jm_gw := jw2 (i := 26) rfl rfl
theorem jw_441 : Cond.instanceMethod ⟨"StackRun$Rows", "empty", "()V"⟩ ∈ jm_gw := jw2 (i := 27) rfl rfl
theorem jw_442 : Cond.selects "StackRun$Rows" ⟨"StackRun$Rows", "empty", "()V"⟩ ⟨"StackRun$Rows", "empty", "()V"⟩ ∈ jm_gw := jw2 (i := 28) rfl rfl
theorem jw_443 : Cond.methodLink "StackRun$Run" 66 ⟨"StackRun$Outside", "empty", "()V"⟩ ∈ jm_gw := jw2 (i := 30) rfl rfl
theorem jw_444 : Cond.instanceMethod ⟨"StackRun$Outside", "empty", "()V"⟩ ∈ jm_gw := jw2 (i := 31) rfl rfl
theorem jw_445 : Cond.selects "StackRun$Outside" ⟨"StackRun$Outside", "empty", "()V"⟩ ⟨"StackRun$Outside", "empty", "()V"⟩ ∈ jm_gw := jw2 (i := 32) rfl rfl
theorem jw_446 : Cond.methodLink "StackRun$Run" 67 ⟨"StackRun$Run", "drop", "()V"⟩ ∈ jm_gw := jw2 (i := 116) rfl rfl
theorem jw_447 : Cond.methodLink "StackRun$Run" 70 ⟨"StackRun$Run", "enter", "(I)V"⟩ ∈ jm_gw := jw2 (i := 117) rfl rfl
theorem jw_448 : Cond.instanceMethod ⟨"StackRun$Run", "enter", "(I)V"⟩ ∈ jm_gw := jw2 (i := 119) rfl rfl
theorem jw_449 : Cond.selects "StackRun$Run" ⟨"StackRun$Run", "enter", "(I)V"⟩ ⟨"StackRun$Run", "enter", "(I)V"⟩ ∈ jm_gw := jwS (i := 1) rfl rfl
theorem jw_450 : Cond.methodLink "StackRun$Run" 74 ⟨"StackRun$Program", "find", "(I)LStackRun$Function;"⟩ ∈ jm_gw := jw2 (i := 121) rfl rfl
theorem jw_451 : Cond.fieldLinkNest "StackRun$Run" 80 "StackRun$Function" "locals" "I" "StackRun" ∈ jm_nw := jn1 (i := 45) rfl rfl
theorem jw_452 : Cond.methodLink "StackRun$Run" 85 ⟨"StackRun$Frame", "reset", "(II)V"⟩ ∈ jm_gw := jw2 (i := 122) rfl rfl
theorem jw_453 : Cond.instanceMethod ⟨"StackRun$Frame", "reset", "(II)V"⟩ ∈ jm_gw := jw2 (i := 123) rfl rfl
theorem jw_454 : Cond.selects "StackRun$Frame" ⟨"StackRun$Frame", "reset", "(II)V"⟩ ⟨"StackRun$Frame", "reset", "(II)V"⟩ ∈ jm_gw := jw2 (i := 124) rfl rfl
theorem jw_455 : Cond.methodLink "StackRun$Run" 89 ⟨"java/lang/Math", "max", "(II)I"⟩ ∈ jm_gw := jw2 (i := 133) rfl rfl
theorem jw_456 : Cond.methodLink "StackRun$Run" 95 ⟨"StackRun$Run", "frameBelow", "(I)LStackRun$Frame;"⟩ ∈ jm_gw := jw2 (i := 142) rfl rfl
theorem jw_457 : Cond.methodLink "StackRun$Run" 99 ⟨"StackRun$Run", "perform", "(LStackRun$Frame;)I"⟩ ∈ jm_gw := jw2 (i := 146) rfl rfl
theorem jw_458 : Cond.instanceMethod ⟨"StackRun$Run", "perform", "(LStackRun$Frame;)I"⟩ ∈ jm_gw := jw2 (i := 148) rfl rfl
theorem jw_459 : Cond.selects "StackRun$Run" ⟨"StackRun$Run", "perform", "(LStackRun$Frame;)I"⟩ ⟨"StackRun$Run", "perform", "(LStackRun$Frame;)I"⟩ ∈ jm_gw := jwS (i := 2) rfl rfl
theorem jw_460 : Cond.fieldLinkNest "StackRun$Run" 103 "StackRun$Frame" "next" "I" "StackRun" ∈ jm_nw := jn1 (i := 142) rfl rfl
theorem jw_461 : Cond.methodLink "StackRun$Run" 106 ⟨"StackRun$Run", "end", "(II)V"⟩ ∈ jm_gw := jw3 (i := 46) rfl rfl
theorem jw_462 : Cond.instanceMethod ⟨"StackRun$Run", "end", "(II)V"⟩ ∈ jm_gw := jw3 (i := 48) rfl rfl
theorem jw_463 : Cond.selects "StackRun$Run" ⟨"StackRun$Run", "end", "(II)V"⟩ ⟨"StackRun$Run", "end", "(II)V"⟩ ∈ jm_gw := jwS (i := 10) rfl rfl
theorem jw_464 : Cond.methodLink "StackRun$Run" 109 ⟨"StackRun$Run", "unwind", "()V"⟩ ∈ jm_gw := jw3 (i := 61) rfl rfl
theorem jw_465 : Cond.instanceMethod ⟨"StackRun$Run", "unwind", "()V"⟩ ∈ jm_gw := jw3 (i := 63) rfl rfl
theorem jw_466 : Cond.selects "StackRun$Run" ⟨"StackRun$Run", "unwind", "()V"⟩ ⟨"StackRun$Run", "unwind", "()V"⟩ ∈ jm_gw := jwS (i := 13) rfl rfl
theorem jw_467 : Cond.fieldLinkNest "StackRun$Run" 112 "StackRun$Frame" "function" "I" "StackRun" ∈ jm_nw := jn1 (i := 139) rfl rfl
theorem jw_468 : Cond.methodLink "StackRun$Run" 115 ⟨"StackRun$Function", "has", "(I)Z"⟩ ∈ jm_gw := jw2 (i := 150) rfl rfl
theorem jw_469 : Cond.fieldLinkNest "StackRun$Run" 119 "StackRun$Frame" "stack" "LStackRun$Cells;" "StackRun" ∈ jm_nw := jn1 (i := 134) rfl rfl
theorem jw_470 : Cond.fieldLinkNest "StackRun$Run" 123 "StackRun$Function" "numbers" "[I" "StackRun" ∈ jm_nw := jn1 (i := 36) rfl rfl
theorem jw_471 : Cond.fieldLinkNest "StackRun$Run" 127 "StackRun$Function" "operations" "[I" "StackRun" ∈ jm_nw := jn1 (i := 34) rfl rfl
theorem jw_472 : Cond.methodLink "StackRun$Run" 130 ⟨"StackRun$Run", "pushInt", "(LStackRun$Cells;I)I"⟩ ∈ jm_gw := jw2 (i := 151) rfl rfl
theorem jw_473 : Cond.static ⟨"StackRun$Run", "pushInt", "(LStackRun$Cells;I)I"⟩ ∈ jm_gw := jw2 (i := 152) rfl rfl
theorem jw_474 : Cond.methodLink "StackRun$Run" 134 ⟨"StackRun$Run", "pop", "(LStackRun$Cells;)I"⟩ ∈ jm_gw := jw2 (i := 162) rfl rfl
theorem jw_475 : Cond.static ⟨"StackRun$Run", "pop", "(LStackRun$Cells;)I"⟩ ∈ jm_gw := jw2 (i := 163) rfl rfl
theorem jw_476 : Cond.fieldLinkNest "StackRun$Run" 138 "StackRun$Cells" "size" "I" "StackRun" ∈ jm_nw := jn1 (i := 124) rfl rfl
theorem jw_477 : Cond.methodLink "StackRun$Run" 143 ⟨"StackRun$Run", "copy", "(LStackRun$Cells;ILStackRun$Cells;)I"⟩ ∈ jm_gw := jw2 (i := 169) rfl rfl
theorem jw_478 : Cond.static ⟨"StackRun$Run", "copy", "(LStackRun$Cells;ILStackRun$Cells;)I"⟩ ∈ jm_gw := jw2 (i := 170) rfl rfl
theorem jw_479 : Cond.methodLink "StackRun$Run" 147 ⟨"StackRun$Run", "swap", "(LStackRun$Cells;)I"⟩ ∈ jm_gw := jw2 (i := 180) rfl rfl
theorem jw_480 : Cond.static ⟨"StackRun$Run", "swap", "(LStackRun$Cells;)I"⟩ ∈ jm_gw := jw2 (i := 181) rfl rfl
theorem jw_481 : Cond.fieldLinkNest "StackRun$Run" 150 "StackRun$Frame" "ownLocals" "LStackRun$Cells;" "StackRun" ∈ jm_nw := jn1 (i := 137) rfl rfl
theorem jw_482 : Cond.methodLink "StackRun$Run" 153 ⟨"StackRun$Run", "store", "(LStackRun$Cells;LStackRun$Cells;I)I"⟩ ∈ jm_gw := jw2 (i := 187) rfl rfl
theorem jw_483 : Cond.static ⟨"StackRun$Run", "store", "(LStackRun$Cells;LStackRun$Cells;I)I"⟩ ∈ jm_gw := jw2 (i := 188) rfl rfl
theorem jw_484 : Cond.methodLink "StackRun$Run" 157 ⟨"StackRun$Run", "jump", "(LStackRun$Frame;I)I"⟩ ∈ jm_gw := jw2 (i := 195) rfl rfl
theorem jw_485 : Cond.static ⟨"StackRun$Run", "jump", "(LStackRun$Frame;I)I"⟩ ∈ jm_gw := jw2 (i := 196) rfl rfl
theorem jw_486 : Cond.methodLink "StackRun$Run" 161 ⟨"StackRun$Run", "jumpIf", "(LStackRun$Frame;IZ)I"⟩ ∈ jm_gw := jw2 (i := 198) rfl rfl
theorem jw_487 : Cond.static ⟨"StackRun$Run", "jumpIf", "(LStackRun$Frame;IZ)I"⟩ ∈ jm_gw := jw2 (i := 199) rfl rfl
theorem jw_488 : Cond.methodLink "StackRun$Run" 165 ⟨"StackRun$Run", "makeRow", "(LStackRun$Cells;)I"⟩ ∈ jm_gw := jw2 (i := 206) rfl rfl
theorem jw_489 : Cond.instanceMethod ⟨"StackRun$Run", "makeRow", "(LStackRun$Cells;)I"⟩ ∈ jm_gw := jw2 (i := 208) rfl rfl
theorem jw_490 : Cond.selects "StackRun$Run" ⟨"StackRun$Run", "makeRow", "(LStackRun$Cells;)I"⟩ ⟨"StackRun$Run", "makeRow", "(LStackRun$Cells;)I"⟩ ∈ jm_gw := jwS (i := 3) rfl rfl
theorem jw_491 : Cond.methodLink "StackRun$Run" 168 ⟨"StackRun$Run", "getFromRow", "(LStackRun$Cells;)I"⟩ ∈ jm_gw := jw2 (i := 222) rfl rfl
theorem jw_492 : Cond.instanceMethod ⟨"StackRun$Run", "getFromRow", "(LStackRun$Cells;)I"⟩ ∈ jm_gw := jw2 (i := 224) rfl rfl
theorem jw_493 : Cond.selects "StackRun$Run" ⟨"StackRun$Run", "getFromRow", "(LStackRun$Cells;)I"⟩ ⟨"StackRun$Run", "getFromRow", "(LStackRun$Cells;)I"⟩ ∈ jm_gw := jwS (i := 5) rfl rfl
theorem jw_494 : Cond.methodLink "StackRun$Run" 171 ⟨"StackRun$Run", "putIntoRow", "(LStackRun$Cells;)I"⟩ ∈ jm_gw := jw3 (i := 9) rfl rfl
theorem jw_495 : Cond.instanceMethod ⟨"StackRun$Run", "putIntoRow", "(LStackRun$Cells;)I"⟩ ∈ jm_gw := jw3 (i := 11) rfl rfl
theorem jw_496 : Cond.selects "StackRun$Run" ⟨"StackRun$Run", "putIntoRow", "(LStackRun$Cells;)I"⟩ ⟨"StackRun$Run", "putIntoRow", "(LStackRun$Cells;)I"⟩ ∈ jm_gw := jwS (i := 6) rfl rfl
theorem jw_497 : Cond.methodLink "StackRun$Run" 174 ⟨"StackRun$Run", "sizeOfRow", "(LStackRun$Cells;)I"⟩ ∈ jm_gw := jw3 (i := 22) rfl rfl
theorem jw_498 : Cond.static ⟨"StackRun$Run", "sizeOfRow", "(LStackRun$Cells;)I"⟩ ∈ jm_gw := jw3 (i := 23) rfl rfl
theorem jw_499 : Cond.methodLink "StackRun$Run" 177 ⟨"StackRun$Run", "callFunction", "(LStackRun$Cells;I)I"⟩ ∈ jm_gw := jw3 (i := 25) rfl rfl
theorem jw_500 : Cond.instanceMethod ⟨"StackRun$Run", "callFunction", "(LStackRun$Cells;I)I"⟩ ∈ jm_gw := jw3 (i := 27) rfl rfl
theorem jw_501 : Cond.selects "StackRun$Run" ⟨"StackRun$Run", "callFunction", "(LStackRun$Cells;I)I"⟩ ⟨"StackRun$Run", "callFunction", "(LStackRun$Cells;I)I"⟩ ∈ jm_gw := jwS (i := 7) rfl rfl
theorem jw_502 : Cond.methodLink "StackRun$Run" 180 ⟨"StackRun$Run", "callOutside", "(LStackRun$Cells;I)I"⟩ ∈ jm_gw := jw3 (i := 29) rfl rfl
theorem jw_503 : Cond.instanceMethod ⟨"StackRun$Run", "callOutside", "(LStackRun$Cells;I)I"⟩ ∈ jm_gw := jw3 (i := 31) rfl rfl
theorem jw_504 : Cond.selects "StackRun$Run" ⟨"StackRun$Run", "callOutside", "(LStackRun$Cells;I)I"⟩ ⟨"StackRun$Run", "callOutside", "(LStackRun$Cells;I)I"⟩ ∈ jm_gw := jwS (i := 8) rfl rfl
theorem jw_505 : Cond.fieldLinkNest "StackRun$Run" 183 "StackRun$Function" "givesValue" "Z" "StackRun" ∈ jm_nw := jn1 (i := 47) rfl rfl
theorem jw_506 : Cond.methodLink "StackRun$Run" 186 ⟨"StackRun$Run", "giveBack", "(LStackRun$Cells;Z)I"⟩ ∈ jm_gw := jw3 (i := 42) rfl rfl
theorem jw_507 : Cond.instanceMethod ⟨"StackRun$Run", "giveBack", "(LStackRun$Cells;Z)I"⟩ ∈ jm_gw := jw3 (i := 44) rfl rfl
theorem jw_508 : Cond.selects "StackRun$Run" ⟨"StackRun$Run", "giveBack", "(LStackRun$Cells;Z)I"⟩ ⟨"StackRun$Run", "giveBack", "(LStackRun$Cells;Z)I"⟩ ∈ jm_gw := jwS (i := 9) rfl rfl
theorem jw_509 : Cond.methodLink "StackRun$Run" 190 ⟨"StackRun$Run", "throwTop", "(LStackRun$Cells;)I"⟩ ∈ jm_gw := jw3 (i := 50) rfl rfl
theorem jw_510 : Cond.instanceMethod ⟨"StackRun$Run", "throwTop", "(LStackRun$Cells;)I"⟩ ∈ jm_gw := jw3 (i := 52) rfl rfl
theorem jw_511 : Cond.selects "StackRun$Run" ⟨"StackRun$Run", "throwTop", "(LStackRun$Cells;)I"⟩ ⟨"StackRun$Run", "throwTop", "(LStackRun$Cells;)I"⟩ ∈ jm_gw := jwS (i := 11) rfl rfl
theorem jw_512 : Cond.methodLink "StackRun$Run" 193 ⟨"StackRun$Run", "calculate", "(LStackRun$Cells;I)I"⟩ ∈ jm_gw := jw3 (i := 54) rfl rfl
theorem jw_513 : Cond.instanceMethod ⟨"StackRun$Run", "calculate", "(LStackRun$Cells;I)I"⟩ ∈ jm_gw := jw3 (i := 56) rfl rfl
theorem jw_514 : Cond.selects "StackRun$Run" ⟨"StackRun$Run", "calculate", "(LStackRun$Cells;I)I"⟩ ⟨"StackRun$Run", "calculate", "(LStackRun$Cells;I)I"⟩ ∈ jm_gw := jwS (i := 12) rfl rfl
theorem jw_515 : Cond.methodLink "StackRun$Run" 196 ⟨"StackRun$Cells", "isFull", "()Z"⟩ ∈ jm_gw := jw2 (i := 154) rfl rfl
theorem jw_516 : Cond.instanceMethod ⟨"StackRun$Cells", "isFull", "()Z"⟩ ∈ jm_gw := jw2 (i := 155) rfl rfl
theorem jw_517 : Cond.selects "StackRun$Cells" ⟨"StackRun$Cells", "isFull", "()Z"⟩ ⟨"StackRun$Cells", "isFull", "()Z"⟩ ∈ jm_gw := jw2 (i := 156) rfl rfl
theorem jw_518 : Cond.methodLink "StackRun$Run" 200 ⟨"StackRun$Cells", "put", "(II)V"⟩ ∈ jm_gw := jw2 (i := 158) rfl rfl
theorem jw_519 : Cond.methodLink "StackRun$Run" 203 ⟨"StackRun$Cells", "take", "(I)V"⟩ ∈ jm_gw := jw2 (i := 165) rfl rfl
theorem jw_520 : Cond.methodLink "StackRun$Run" 206 ⟨"StackRun$Cells", "kindAt", "(I)I"⟩ ∈ jm_gw := jw2 (i := 172) rfl rfl
theorem jw_521 : Cond.methodLink "StackRun$Run" 210 ⟨"StackRun$Cells", "valueAt", "(I)I"⟩ ∈ jm_gw := jw2 (i := 176) rfl rfl
theorem jw_522 : Cond.methodLink "StackRun$Run" 213 ⟨"StackRun$Cells", "set", "(III)V"⟩ ∈ jm_gw := jw2 (i := 183) rfl rfl
theorem jw_523 : Cond.instanceMethod ⟨"StackRun$Cells", "set", "(III)V"⟩ ∈ jm_gw := jw2 (i := 184) rfl rfl
theorem jw_524 : Cond.selects "StackRun$Cells" ⟨"StackRun$Cells", "set", "(III)V"⟩ ⟨"StackRun$Cells", "set", "(III)V"⟩ ∈ jm_gw := jw2 (i := 185) rfl rfl
theorem jw_525 : Cond.methodLink "StackRun$Run" 217 ⟨"StackRun$Cells", "top", "(I)I"⟩ ∈ jm_gw := jw2 (i := 190) rfl rfl
theorem jw_526 : Cond.methodLink "StackRun$Run" 220 ⟨"StackRun$Cells", "isInt", "(I)Z"⟩ ∈ jm_gw := jw2 (i := 201) rfl rfl
theorem jw_527 : Cond.methodLink "StackRun$Run" 223 ⟨"StackRun$Cells", "areInts", "(I)Z"⟩ ∈ jm_gw := jw3 (i := 13) rfl rfl
theorem jw_528 : Cond.instanceMethod ⟨"StackRun$Cells", "areInts", "(I)Z"⟩ ∈ jm_gw := jw3 (i := 14) rfl rfl
theorem jw_529 : Cond.selects "StackRun$Cells" ⟨"StackRun$Cells", "areInts", "(I)Z"⟩ ⟨"StackRun$Cells", "areInts", "(I)Z"⟩ ∈ jm_gw := jw3 (i := 15) rfl rfl
theorem jw_530 : Cond.methodLink "StackRun$Run" 226 ⟨"StackRun$Run", "raise", "(I)I"⟩ ∈ jm_gw := jw2 (i := 218) rfl rfl
theorem jw_531 : Cond.instanceMethod ⟨"StackRun$Run", "raise", "(I)I"⟩ ∈ jm_gw := jw2 (i := 220) rfl rfl
theorem jw_532 : Cond.selects "StackRun$Run" ⟨"StackRun$Run", "raise", "(I)I"⟩ ⟨"StackRun$Run", "raise", "(I)I"⟩ ∈ jm_gw := jwS (i := 4) rfl rfl
theorem jw_533 : Cond.methodLink "StackRun$Run" 229 ⟨"StackRun$Run", "combine", "(III)I"⟩ ∈ jm_gw := jw3 (i := 58) rfl rfl
theorem jw_534 : Cond.static ⟨"StackRun$Run", "combine", "(III)I"⟩ ∈ jm_gw := jw3 (i := 59) rfl rfl
theorem jw_535 : Cond.methodLink "StackRun$Run" 233 ⟨"StackRun$Cells", "replaceInts", "(II)V"⟩ ∈ jm_gw := jw3 (i := 3) rfl rfl
theorem jw_536 : Cond.instanceMethod ⟨"StackRun$Cells", "replaceInts", "(II)V"⟩ ∈ jm_gw := jw3 (i := 4) rfl rfl
theorem jw_537 : Cond.selects "StackRun$Cells" ⟨"StackRun$Cells", "replaceInts", "(II)V"⟩ ⟨"StackRun$Cells", "replaceInts", "(II)V"⟩ ∈ jm_gw := jw3 (i := 5) rfl rfl
theorem jw_538 : Cond.methodLink "StackRun$Run" 236 ⟨"StackRun$Rows", "make", "(I)I"⟩ ∈ jm_gw := jw2 (i := 210) rfl rfl
theorem jw_539 : Cond.instanceMethod ⟨"StackRun$Rows", "make", "(I)I"⟩ ∈ jm_gw := jw2 (i := 211) rfl rfl
theorem jw_540 : Cond.selects "StackRun$Rows" ⟨"StackRun$Rows", "make", "(I)I"⟩ ⟨"StackRun$Rows", "make", "(I)I"⟩ ∈ jm_gw := jw2 (i := 212) rfl rfl
theorem jw_541 : Cond.methodLink "StackRun$Run" 239 ⟨"StackRun$Cells", "isRow", "(I)Z"⟩ ∈ jm_gw := jw2 (i := 226) rfl rfl
theorem jw_542 : Cond.instanceMethod ⟨"StackRun$Cells", "isRow", "(I)Z"⟩ ∈ jm_gw := jw2 (i := 227) rfl rfl
theorem jw_543 : Cond.selects "StackRun$Cells" ⟨"StackRun$Cells", "isRow", "(I)Z"⟩ ⟨"StackRun$Cells", "isRow", "(I)Z"⟩ ∈ jm_gw := jw2 (i := 228) rfl rfl
theorem jw_544 : Cond.methodLink "StackRun$Run" 242 ⟨"StackRun$Cells", "rowNumber", "(I)I"⟩ ∈ jm_gw := jw2 (i := 230) rfl rfl
theorem jw_545 : Cond.instanceMethod ⟨"StackRun$Cells", "rowNumber", "(I)I"⟩ ∈ jm_gw := jw2 (i := 231) rfl rfl
theorem jw_546 : Cond.selects "StackRun$Cells" ⟨"StackRun$Cells", "rowNumber", "(I)I"⟩ ⟨"StackRun$Cells", "rowNumber", "(I)I"⟩ ∈ jm_gw := jw2 (i := 232) rfl rfl
theorem jw_547 : Cond.methodLink "StackRun$Run" 245 ⟨"StackRun$Rows", "has", "(II)Z"⟩ ∈ jm_gw := jw2 (i := 234) rfl rfl
theorem jw_548 : Cond.methodLink "StackRun$Run" 248 ⟨"StackRun$Rows", "at", "(II)I"⟩ ∈ jm_gw := jw2 (i := 238) rfl rfl
theorem jw_549 : Cond.methodLink "StackRun$Run" 251 ⟨"StackRun$Rows", "set", "(III)V"⟩ ∈ jm_gw := jw3 (i := 18) rfl rfl
theorem jw_550 : Cond.instanceMethod ⟨"StackRun$Rows", "set", "(III)V"⟩ ∈ jm_gw := jw3 (i := 19) rfl rfl
theorem jw_551 : Cond.selects "StackRun$Rows" ⟨"StackRun$Rows", "set", "(III)V"⟩ ⟨"StackRun$Rows", "set", "(III)V"⟩ ∈ jm_gw := jw3 (i := 20) rfl rfl
theorem jw_552 : Cond.fieldLinkNest "StackRun$Run" 252 "StackRun$Function" "params" "I" "StackRun" ∈ jm_nw := jn1 (i := 43) rfl rfl
theorem jw_553 : Cond.fieldLinkNest "StackRun$Run" 255 "StackRun$Outside" "count" "I" "StackRun" ∈ jm_nw := jn1 (i := 186) rfl rfl
theorem jw_554 : Cond.methodLink "StackRun$Run" 258 ⟨"StackRun$Answers", "at", "(I)I"⟩ ∈ jm_gw := jw3 (i := 33) rfl rfl
theorem jw_555 : Cond.instanceMethod ⟨"StackRun$Answers", "at", "(I)I"⟩ ∈ jm_gw := jw3 (i := 34) rfl rfl
theorem jw_556 : Cond.selects "StackRun$Answers" ⟨"StackRun$Answers", "at", "(I)I"⟩ ⟨"StackRun$Answers", "at", "(I)I"⟩ ∈ jm_gw := jw3 (i := 35) rfl rfl
theorem jw_557 : Cond.methodLink "StackRun$Run" 262 ⟨"StackRun$Outside", "note", "(ILStackRun$Cells;II)V"⟩ ∈ jm_gw := jw3 (i := 37) rfl rfl
theorem jw_558 : Cond.instanceMethod ⟨"StackRun$Outside", "note", "(ILStackRun$Cells;II)V"⟩ ∈ jm_gw := jw3 (i := 38) rfl rfl
theorem jw_559 : Cond.selects "StackRun$Outside" ⟨"StackRun$Outside", "note", "(ILStackRun$Cells;II)V"⟩ ⟨"StackRun$Outside", "note", "(ILStackRun$Cells;II)V"⟩ ∈ jm_gw := jw3 (i := 39) rfl rfl
theorem jw_560 : Cond.methodLink "StackRun$Run" 266 ⟨"StackRun$Function", "targetFor", "(II)I"⟩ ∈ jm_gw := jw3 (i := 65) rfl rfl
theorem jw_561 : Cond.instanceMethod ⟨"StackRun$Function", "targetFor", "(II)I"⟩ ∈ jm_gw := jw3 (i := 66) rfl rfl
theorem jw_562 : Cond.selects "StackRun$Function" ⟨"StackRun$Function", "targetFor", "(II)I"⟩ ⟨"StackRun$Function", "targetFor", "(II)I"⟩ ∈ jm_gw := jw3 (i := 67) rfl rfl
theorem jw_563 : Cond.methodLink "StackRun$Run" 269 ⟨"StackRun$Frame", "goOnWithCode", "(II)V"⟩ ∈ jm_gw := jw3 (i := 69) rfl rfl
theorem jw_564 : Cond.instanceMethod ⟨"StackRun$Frame", "goOnWithCode", "(II)V"⟩ ∈ jm_gw := jw3 (i := 70) rfl rfl
theorem jw_565 : Cond.selects "StackRun$Frame" ⟨"StackRun$Frame", "goOnWithCode", "(II)V"⟩ ⟨"StackRun$Frame", "goOnWithCode", "(II)V"⟩ ∈ jm_gw := jw3 (i := 71) rfl rfl
theorem jw_566 : Cond.laysFinal "StackRun" "StackRun" "program" "LStackRun$Program;" ∈ jm_gw := jw2 (i := 0) rfl rfl
theorem jw_567 : Cond.laysFinal "StackRun" "StackRun" "answers" "LStackRun$Answers;" ∈ jm_gw := jw2 (i := 2) rfl rfl
theorem jw_568 : Cond.laysFinal "StackRun" "StackRun" "run" "LStackRun$Run;" ∈ jm_gw := jw2 (i := 4) rfl rfl
theorem jw_569 : Cond.laysFinal "StackRun$Program" "StackRun$Program" "functions" "[LStackRun$Function;" ∈ jm_gw := jw1 (i := 80) rfl rfl
theorem jw_570 : Cond.lays "StackRun$Program" "StackRun$Program" "count" "I" ∈ jm_gw := jw1 (i := 82) rfl rfl
theorem jw_571 : Cond.laysFinal "StackRun$Function" "StackRun$Function" "operations" "[I" ∈ jm_gw := jw1 (i := 50) rfl rfl
theorem jw_572 : Cond.laysFinal "StackRun$Function" "StackRun$Function" "numbers" "[I" ∈ jm_gw := jw1 (i := 52) rfl rfl
theorem jw_573 : Cond.laysFinal "StackRun$Function" "StackRun$Function" "froms" "[I" ∈ jm_gw := jw1 (i := 54) rfl rfl
theorem jw_574 : Cond.laysFinal "StackRun$Function" "StackRun$Function" "tos" "[I" ∈ jm_gw := jw1 (i := 56) rfl rfl
theorem jw_575 : Cond.laysFinal "StackRun$Function" "StackRun$Function" "targets" "[I" ∈ jm_gw := jw1 (i := 58) rfl rfl
theorem jw_576 : Cond.laysFinal "StackRun$Function" "StackRun$Function" "codes" "[I" ∈ jm_gw := jw1 (i := 60) rfl rfl
theorem jw_577 : Cond.laysFinal "StackRun$Function" "StackRun$Function" "narrowed" "[Z" ∈ jm_gw := jw1 (i := 62) rfl rfl
theorem jw_578 : Cond.lays "StackRun$Function" "StackRun$Function" "params" "I" ∈ jm_gw := jw1 (i := 64) rfl rfl
theorem jw_579 : Cond.lays "StackRun$Function" "StackRun$Function" "locals" "I" ∈ jm_gw := jw1 (i := 66) rfl rfl
theorem jw_580 : Cond.lays "StackRun$Function" "StackRun$Function" "givesValue" "Z" ∈ jm_gw := jw1 (i := 68) rfl rfl
theorem jw_581 : Cond.lays "StackRun$Function" "StackRun$Function" "size" "I" ∈ jm_gw := jw1 (i := 70) rfl rfl
theorem jw_582 : Cond.lays "StackRun$Function" "StackRun$Function" "handlers" "I" ∈ jm_gw := jw1 (i := 72) rfl rfl
theorem jw_583 : Cond.laysFinal "StackRun$Answers" "StackRun$Answers" "given" "[I" ∈ jm_gw := jw1 (i := 94) rfl rfl
theorem jw_584 : Cond.lays "StackRun$Answers" "StackRun$Answers" "count" "I" ∈ jm_gw := jw1 (i := 96) rfl rfl
theorem jw_585 : Cond.laysFinal "StackRun$Run" "StackRun$Run" "program" "LStackRun$Program;" ∈ jm_gw := jw1 (i := 212) rfl rfl
theorem jw_586 : Cond.laysFinal "StackRun$Run" "StackRun$Run" "answers" "LStackRun$Answers;" ∈ jm_gw := jw1 (i := 214) rfl rfl
theorem jw_587 : Cond.laysFinal "StackRun$Run" "StackRun$Run" "frames" "[LStackRun$Frame;" ∈ jm_gw := jw1 (i := 216) rfl rfl
theorem jw_588 : Cond.laysFinal "StackRun$Run" "StackRun$Run" "rows" "LStackRun$Rows;" ∈ jm_gw := jw1 (i := 218) rfl rfl
theorem jw_589 : Cond.laysFinal "StackRun$Run" "StackRun$Run" "outside" "LStackRun$Outside;" ∈ jm_gw := jw1 (i := 220) rfl rfl
theorem jw_590 : Cond.lays "StackRun$Run" "StackRun$Run" "exists" "Z" ∈ jm_gw := jw1 (i := 222) rfl rfl
theorem jw_591 : Cond.lays "StackRun$Run" "StackRun$Run" "depth" "I" ∈ jm_gw := jw1 (i := 224) rfl rfl
theorem jw_592 : Cond.lays "StackRun$Run" "StackRun$Run" "most" "I" ∈ jm_gw := jw1 (i := 226) rfl rfl
theorem jw_593 : Cond.lays "StackRun$Run" "StackRun$Run" "steps" "I" ∈ jm_gw := jw1 (i := 228) rfl rfl
theorem jw_594 : Cond.lays "StackRun$Run" "StackRun$Run" "ended" "I" ∈ jm_gw := jw1 (i := 230) rfl rfl
theorem jw_595 : Cond.lays "StackRun$Run" "StackRun$Run" "result" "I" ∈ jm_gw := jw1 (i := 232) rfl rfl
theorem jw_596 : Cond.lays "StackRun$Run" "StackRun$Run" "thrown" "I" ∈ jm_gw := jw1 (i := 234) rfl rfl
theorem jw_597 : Cond.laysFinal "StackRun$Frame" "StackRun$Frame" "stack" "LStackRun$Cells;" ∈ jm_gw := jw1 (i := 144) rfl rfl
theorem jw_598 : Cond.laysFinal "StackRun$Frame" "StackRun$Frame" "ownLocals" "LStackRun$Cells;" ∈ jm_gw := jw1 (i := 146) rfl rfl
theorem jw_599 : Cond.lays "StackRun$Frame" "StackRun$Frame" "function" "I" ∈ jm_gw := jw1 (i := 148) rfl rfl
theorem jw_600 : Cond.lays "StackRun$Frame" "StackRun$Frame" "next" "I" ∈ jm_gw := jw1 (i := 150) rfl rfl
theorem jw_601 : Cond.laysFinal "StackRun$Cells" "StackRun$Cells" "values" "[I" ∈ jm_gw := jw1 (i := 126) rfl rfl
theorem jw_602 : Cond.laysFinal "StackRun$Cells" "StackRun$Cells" "kinds" "[I" ∈ jm_gw := jw1 (i := 128) rfl rfl
theorem jw_603 : Cond.lays "StackRun$Cells" "StackRun$Cells" "size" "I" ∈ jm_gw := jw1 (i := 130) rfl rfl
theorem jw_604 : Cond.laysFinal "StackRun$Rows" "StackRun$Rows" "store" "[I" ∈ jm_gw := jw1 (i := 166) rfl rfl
theorem jw_605 : Cond.laysFinal "StackRun$Rows" "StackRun$Rows" "starts" "[I" ∈ jm_gw := jw1 (i := 168) rfl rfl
theorem jw_606 : Cond.laysFinal "StackRun$Rows" "StackRun$Rows" "sizes" "[I" ∈ jm_gw := jw1 (i := 170) rfl rfl
theorem jw_607 : Cond.lays "StackRun$Rows" "StackRun$Rows" "count" "I" ∈ jm_gw := jw1 (i := 172) rfl rfl
theorem jw_608 : Cond.lays "StackRun$Rows" "StackRun$Rows" "used" "I" ∈ jm_gw := jw1 (i := 174) rfl rfl
theorem jw_609 : Cond.laysFinal "StackRun$Outside" "StackRun$Outside" "kept" "[I" ∈ jm_gw := jw1 (i := 187) rfl rfl
theorem jw_610 : Cond.lays "StackRun$Outside" "StackRun$Outside" "count" "I" ∈ jm_gw := jw1 (i := 189) rfl rfl
theorem jw_611 : Cond.lays "StackRunModel" "StackRunModel" "thrown" "I" ∈ jm_gw := jw3 (i := 152) rfl rfl
theorem jw_612 : Cond.lays "StackRunModel" "StackRunModel" "functions" "I" ∈ jm_gw := jw3 (i := 154) rfl rfl
theorem jw_613 : Cond.laysFinal "StackRunModel" "StackRunModel" "params" "[I" ∈ jm_gw := jw3 (i := 156) rfl rfl
theorem jw_614 : Cond.laysFinal "StackRunModel" "StackRunModel" "localMany" "[I" ∈ jm_gw := jw3 (i := 158) rfl rfl
theorem jw_615 : Cond.laysFinal "StackRunModel" "StackRunModel" "results" "[I" ∈ jm_gw := jw3 (i := 160) rfl rfl
theorem jw_616 : Cond.laysFinal "StackRunModel" "StackRunModel" "sizes" "[I" ∈ jm_gw := jw3 (i := 162) rfl rfl
theorem jw_617 : Cond.laysFinal "StackRunModel" "StackRunModel" "ops" "[I" ∈ jm_gw := jw3 (i := 164) rfl rfl
theorem jw_618 : Cond.laysFinal "StackRunModel" "StackRunModel" "numbers" "[I" ∈ jm_gw := jw3 (i := 166) rfl rfl
theorem jw_619 : Cond.laysFinal "StackRunModel" "StackRunModel" "handlers" "[I" ∈ jm_gw := jw3 (i := 168) rfl rfl
theorem jw_620 : Cond.laysFinal "StackRunModel" "StackRunModel" "froms" "[I" ∈ jm_gw := jw3 (i := 170) rfl rfl
theorem jw_621 : Cond.laysFinal "StackRunModel" "StackRunModel" "tos" "[I" ∈ jm_gw := jw3 (i := 172) rfl rfl
theorem jw_622 : Cond.laysFinal "StackRunModel" "StackRunModel" "targets" "[I" ∈ jm_gw := jw3 (i := 174) rfl rfl
theorem jw_623 : Cond.laysFinal "StackRunModel" "StackRunModel" "anyCode" "[Z" ∈ jm_gw := jw3 (i := 176) rfl rfl
theorem jw_624 : Cond.laysFinal "StackRunModel" "StackRunModel" "codes" "[I" ∈ jm_gw := jw3 (i := 178) rfl rfl
theorem jw_625 : Cond.laysFinal "StackRunModel" "StackRunModel" "answers" "[I" ∈ jm_gw := jw3 (i := 180) rfl rfl
theorem jw_626 : Cond.lays "StackRunModel" "StackRunModel" "answerMany" "I" ∈ jm_gw := jw3 (i := 182) rfl rfl
theorem jw_627 : Cond.lays "StackRunModel" "StackRunModel" "isRun" "Z" ∈ jm_gw := jw3 (i := 184) rfl rfl
theorem jw_628 : Cond.lays "StackRunModel" "StackRunModel" "ended" "I" ∈ jm_gw := jw3 (i := 186) rfl rfl
theorem jw_629 : Cond.lays "StackRunModel" "StackRunModel" "value" "I" ∈ jm_gw := jw3 (i := 188) rfl rfl
theorem jw_630 : Cond.lays "StackRunModel" "StackRunModel" "steps" "I" ∈ jm_gw := jw3 (i := 190) rfl rfl
theorem jw_631 : Cond.lays "StackRunModel" "StackRunModel" "outside" "I" ∈ jm_gw := jw3 (i := 192) rfl rfl
theorem jw_632 : Cond.lays "StackRunModel" "StackRunModel" "most" "I" ∈ jm_gw := jw3 (i := 194) rfl rfl
theorem jw_633 : Cond.lays "StackRunModel" "StackRunModel" "deep" "I" ∈ jm_gw := jw3 (i := 196) rfl rfl
theorem jw_634 : Cond.laysFinal "StackRunModel" "StackRunModel" "who" "[I" ∈ jm_gw := jw3 (i := 198) rfl rfl
theorem jw_635 : Cond.laysFinal "StackRunModel" "StackRunModel" "place" "[I" ∈ jm_gw := jw3 (i := 200) rfl rfl
theorem jw_636 : Cond.laysFinal "StackRunModel" "StackRunModel" "height" "[I" ∈ jm_gw := jw3 (i := 202) rfl rfl
theorem jw_637 : Cond.laysFinal "StackRunModel" "StackRunModel" "stack" "[I" ∈ jm_gw := jw3 (i := 204) rfl rfl
theorem jw_638 : Cond.laysFinal "StackRunModel" "StackRunModel" "stackRows" "[I" ∈ jm_gw := jw3 (i := 206) rfl rfl
theorem jw_639 : Cond.laysFinal "StackRunModel" "StackRunModel" "locals" "[I" ∈ jm_gw := jw3 (i := 208) rfl rfl
theorem jw_640 : Cond.laysFinal "StackRunModel" "StackRunModel" "localRows" "[I" ∈ jm_gw := jw3 (i := 210) rfl rfl
theorem jw_641 : Cond.lays "StackRunModel" "StackRunModel" "rows" "I" ∈ jm_gw := jw3 (i := 212) rfl rfl
theorem jw_642 : Cond.lays "StackRunModel" "StackRunModel" "used" "I" ∈ jm_gw := jw3 (i := 214) rfl rfl
theorem jw_643 : Cond.laysFinal "StackRunModel" "StackRunModel" "starts" "[I" ∈ jm_gw := jw3 (i := 216) rfl rfl
theorem jw_644 : Cond.laysFinal "StackRunModel" "StackRunModel" "lengths" "[I" ∈ jm_gw := jw3 (i := 218) rfl rfl
theorem jw_645 : Cond.laysFinal "StackRunModel" "StackRunModel" "cells" "[I" ∈ jm_gw := jw3 (i := 220) rfl rfl
theorem jw_646 : Cond.laysFinal "StackRunModel" "StackRunModel" "calls" "[I" ∈ jm_gw := jw3 (i := 222) rfl rfl
theorem jw_oi : Cond.code objectInit ⟨#[0xb1]⟩ 1 none ∈ jm_gw := jw1 (i := 19) rfl rfl
theorem jw_max : Cond.code Lib.Math.max.name Lib.Math.max.code 2 (some .int) ∈ jm_gw := jw1 (i := 120) rfl rfl
theorem jw_min : Cond.code Lib.Math.min.name Lib.Math.min.code 2 (some .int) ∈ jm_gw := jw2 (i := 132) rfl rfl
theorem jc_at0 : vwCl[0]? = some ("StackRun", jc_T0, 3) := rfl
theorem jc_in0 : ∀ w ∈ u_ws "StackRun" jc_T0 3, w ∈ jm_gw := List.forall_mem_cons.mpr ⟨jw_566, List.forall_mem_cons.mpr ⟨jw_567, List.forall_mem_cons.mpr ⟨jw_568, fun _ h => absurd h List.not_mem_nil⟩⟩⟩
def jc_new0 : List jm_V := [.inr (.inl none), .inr (.inl none), .inr (.inl none)]
theorem jc_df0 : ∀ (s0 b j : Nat), j < 3 → defaultValue (jc_ty0 j) = vp_V (jc_new0.map (jm_cv s0 b)) j := fun s0 b j hj => by
  rcases (show j = 0 ∨ j = 1 ∨ j = 2 by omega) with rfl | rfl | rfl <;> rfl
theorem jc_at1 : vwCl[1]? = some ("StackRun$Program", jc_T1, 2) := rfl
theorem jc_in1 : ∀ w ∈ u_ws "StackRun$Program" jc_T1 2, w ∈ jm_gw := List.forall_mem_cons.mpr ⟨jw_569, List.forall_mem_cons.mpr ⟨jw_570, fun _ h => absurd h List.not_mem_nil⟩⟩
def jc_new1 : List jm_V := [.inr (.inl none), .inl 0]
theorem jc_df1 : ∀ (s0 b j : Nat), j < 2 → defaultValue (jc_ty1 j) = vp_V (jc_new1.map (jm_cv s0 b)) j := fun s0 b j hj => by
  rcases (show j = 0 ∨ j = 1 by omega) with rfl | rfl <;> rfl
theorem jc_at2 : vwCl[2]? = some ("StackRun$Function", jc_T2, 12) := rfl
theorem jc_in2 : ∀ w ∈ u_ws "StackRun$Function" jc_T2 12, w ∈ jm_gw := List.forall_mem_cons.mpr ⟨jw_571, List.forall_mem_cons.mpr ⟨jw_572, List.forall_mem_cons.mpr ⟨jw_573, List.forall_mem_cons.mpr ⟨jw_574, List.forall_mem_cons.mpr ⟨jw_575, List.forall_mem_cons.mpr ⟨jw_576, List.forall_mem_cons.mpr ⟨jw_577, List.forall_mem_cons.mpr ⟨jw_578, List.forall_mem_cons.mpr ⟨jw_579, List.forall_mem_cons.mpr ⟨jw_580, List.forall_mem_cons.mpr ⟨jw_581, List.forall_mem_cons.mpr ⟨jw_582, fun _ h => absurd h List.not_mem_nil⟩⟩⟩⟩⟩⟩⟩⟩⟩⟩⟩⟩
def jc_new2 : List jm_V := [.inr (.inl none), .inr (.inl none), .inr (.inl none), .inr (.inl none), .inr (.inl none), .inr (.inl none), .inr (.inl none), .inl 0, .inl 0, .inl 0, .inl 0, .inl 0]
theorem jc_df2 : ∀ (s0 b j : Nat), j < 12 → defaultValue (jc_ty2 j) = vp_V (jc_new2.map (jm_cv s0 b)) j := fun s0 b j hj => by
  rcases (show j = 0 ∨ j = 1 ∨ j = 2 ∨ j = 3 ∨ j = 4 ∨ j = 5 ∨ j = 6 ∨ j = 7 ∨ j = 8 ∨ j = 9 ∨ j = 10 ∨ j = 11 by omega) with rfl | rfl | rfl | rfl | rfl | rfl | rfl | rfl | rfl | rfl | rfl | rfl <;> rfl
theorem jc_at3 : vwCl[3]? = some ("StackRun$Answers", jc_T3, 2) := rfl
theorem jc_in3 : ∀ w ∈ u_ws "StackRun$Answers" jc_T3 2, w ∈ jm_gw := List.forall_mem_cons.mpr ⟨jw_583, List.forall_mem_cons.mpr ⟨jw_584, fun _ h => absurd h List.not_mem_nil⟩⟩
def jc_new3 : List jm_V := [.inr (.inl none), .inl 0]
theorem jc_df3 : ∀ (s0 b j : Nat), j < 2 → defaultValue (jc_ty3 j) = vp_V (jc_new3.map (jm_cv s0 b)) j := fun s0 b j hj => by
  rcases (show j = 0 ∨ j = 1 by omega) with rfl | rfl <;> rfl
theorem jc_at4 : vwCl[4]? = some ("StackRun$Run", jc_T4, 12) := rfl
theorem jc_in4 : ∀ w ∈ u_ws "StackRun$Run" jc_T4 12, w ∈ jm_gw := List.forall_mem_cons.mpr ⟨jw_585, List.forall_mem_cons.mpr ⟨jw_586, List.forall_mem_cons.mpr ⟨jw_587, List.forall_mem_cons.mpr ⟨jw_588, List.forall_mem_cons.mpr ⟨jw_589, List.forall_mem_cons.mpr ⟨jw_590, List.forall_mem_cons.mpr ⟨jw_591, List.forall_mem_cons.mpr ⟨jw_592, List.forall_mem_cons.mpr ⟨jw_593, List.forall_mem_cons.mpr ⟨jw_594, List.forall_mem_cons.mpr ⟨jw_595, List.forall_mem_cons.mpr ⟨jw_596, fun _ h => absurd h List.not_mem_nil⟩⟩⟩⟩⟩⟩⟩⟩⟩⟩⟩⟩
def jc_new4 : List jm_V := [.inr (.inl none), .inr (.inl none), .inr (.inl none), .inr (.inl none), .inr (.inl none), .inl 0, .inl 0, .inl 0, .inl 0, .inl 0, .inl 0, .inl 0]
theorem jc_df4 : ∀ (s0 b j : Nat), j < 12 → defaultValue (jc_ty4 j) = vp_V (jc_new4.map (jm_cv s0 b)) j := fun s0 b j hj => by
  rcases (show j = 0 ∨ j = 1 ∨ j = 2 ∨ j = 3 ∨ j = 4 ∨ j = 5 ∨ j = 6 ∨ j = 7 ∨ j = 8 ∨ j = 9 ∨ j = 10 ∨ j = 11 by omega) with rfl | rfl | rfl | rfl | rfl | rfl | rfl | rfl | rfl | rfl | rfl | rfl <;> rfl
theorem jc_at5 : vwCl[5]? = some ("StackRun$Frame", jc_T5, 4) := rfl
theorem jc_in5 : ∀ w ∈ u_ws "StackRun$Frame" jc_T5 4, w ∈ jm_gw := List.forall_mem_cons.mpr ⟨jw_597, List.forall_mem_cons.mpr ⟨jw_598, List.forall_mem_cons.mpr ⟨jw_599, List.forall_mem_cons.mpr ⟨jw_600, fun _ h => absurd h List.not_mem_nil⟩⟩⟩⟩
def jc_new5 : List jm_V := [.inr (.inl none), .inr (.inl none), .inl 0, .inl 0]
theorem jc_df5 : ∀ (s0 b j : Nat), j < 4 → defaultValue (jc_ty5 j) = vp_V (jc_new5.map (jm_cv s0 b)) j := fun s0 b j hj => by
  rcases (show j = 0 ∨ j = 1 ∨ j = 2 ∨ j = 3 by omega) with rfl | rfl | rfl | rfl <;> rfl
theorem jc_at6 : vwCl[6]? = some ("StackRun$Cells", jc_T6, 3) := rfl
theorem jc_in6 : ∀ w ∈ u_ws "StackRun$Cells" jc_T6 3, w ∈ jm_gw := List.forall_mem_cons.mpr ⟨jw_601, List.forall_mem_cons.mpr ⟨jw_602, List.forall_mem_cons.mpr ⟨jw_603, fun _ h => absurd h List.not_mem_nil⟩⟩⟩
def jc_new6 : List jm_V := [.inr (.inl none), .inr (.inl none), .inl 0]
theorem jc_df6 : ∀ (s0 b j : Nat), j < 3 → defaultValue (jc_ty6 j) = vp_V (jc_new6.map (jm_cv s0 b)) j := fun s0 b j hj => by
  rcases (show j = 0 ∨ j = 1 ∨ j = 2 by omega) with rfl | rfl | rfl <;> rfl
theorem jc_at7 : vwCl[7]? = some ("StackRun$Rows", jc_T7, 5) := rfl
theorem jc_in7 : ∀ w ∈ u_ws "StackRun$Rows" jc_T7 5, w ∈ jm_gw := List.forall_mem_cons.mpr ⟨jw_604, List.forall_mem_cons.mpr ⟨jw_605, List.forall_mem_cons.mpr ⟨jw_606, List.forall_mem_cons.mpr ⟨jw_607, List.forall_mem_cons.mpr ⟨jw_608, fun _ h => absurd h List.not_mem_nil⟩⟩⟩⟩⟩
def jc_new7 : List jm_V := [.inr (.inl none), .inr (.inl none), .inr (.inl none), .inl 0, .inl 0]
theorem jc_df7 : ∀ (s0 b j : Nat), j < 5 → defaultValue (jc_ty7 j) = vp_V (jc_new7.map (jm_cv s0 b)) j := fun s0 b j hj => by
  rcases (show j = 0 ∨ j = 1 ∨ j = 2 ∨ j = 3 ∨ j = 4 by omega) with rfl | rfl | rfl | rfl | rfl <;> rfl
theorem jc_at8 : vwCl[8]? = some ("StackRun$Outside", jc_T8, 2) := rfl
theorem jc_in8 : ∀ w ∈ u_ws "StackRun$Outside" jc_T8 2, w ∈ jm_gw := List.forall_mem_cons.mpr ⟨jw_609, List.forall_mem_cons.mpr ⟨jw_610, fun _ h => absurd h List.not_mem_nil⟩⟩
def jc_new8 : List jm_V := [.inr (.inl none), .inl 0]
theorem jc_df8 : ∀ (s0 b j : Nat), j < 2 → defaultValue (jc_ty8 j) = vp_V (jc_new8.map (jm_cv s0 b)) j := fun s0 b j hj => by
  rcases (show j = 0 ∨ j = 1 by omega) with rfl | rfl <;> rfl
theorem jc_at9 : vwCl[9]? = some ("StackRunModel", jc_T9, 36) := rfl
theorem jc_in9 : ∀ w ∈ u_ws "StackRunModel" jc_T9 36, w ∈ jm_gw := List.forall_mem_cons.mpr ⟨jw_611, List.forall_mem_cons.mpr ⟨jw_612, List.forall_mem_cons.mpr ⟨jw_613, List.forall_mem_cons.mpr ⟨jw_614, List.forall_mem_cons.mpr ⟨jw_615, List.forall_mem_cons.mpr ⟨jw_616, List.forall_mem_cons.mpr ⟨jw_617, List.forall_mem_cons.mpr ⟨jw_618, List.forall_mem_cons.mpr ⟨jw_619, List.forall_mem_cons.mpr ⟨jw_620, List.forall_mem_cons.mpr ⟨jw_621, List.forall_mem_cons.mpr ⟨jw_622, List.forall_mem_cons.mpr ⟨jw_623, List.forall_mem_cons.mpr ⟨jw_624, List.forall_mem_cons.mpr ⟨jw_625, List.forall_mem_cons.mpr ⟨jw_626, List.forall_mem_cons.mpr ⟨jw_627, List.forall_mem_cons.mpr ⟨jw_628, List.forall_mem_cons.mpr ⟨jw_629, List.forall_mem_cons.mpr ⟨jw_630, List.forall_mem_cons.mpr ⟨jw_631, List.forall_mem_cons.mpr ⟨jw_632, List.forall_mem_cons.mpr ⟨jw_633, List.forall_mem_cons.mpr ⟨jw_634, List.forall_mem_cons.mpr ⟨jw_635, List.forall_mem_cons.mpr ⟨jw_636, List.forall_mem_cons.mpr ⟨jw_637, List.forall_mem_cons.mpr ⟨jw_638, List.forall_mem_cons.mpr ⟨jw_639, List.forall_mem_cons.mpr ⟨jw_640, List.forall_mem_cons.mpr ⟨jw_641, List.forall_mem_cons.mpr ⟨jw_642, List.forall_mem_cons.mpr ⟨jw_643, List.forall_mem_cons.mpr ⟨jw_644, List.forall_mem_cons.mpr ⟨jw_645, List.forall_mem_cons.mpr ⟨jw_646, fun _ h => absurd h List.not_mem_nil⟩⟩⟩⟩⟩⟩⟩⟩⟩⟩⟩⟩⟩⟩⟩⟩⟩⟩⟩⟩⟩⟩⟩⟩⟩⟩⟩⟩⟩⟩⟩⟩⟩⟩⟩⟩
def jc_new9 : List jm_V := [.inl 0, .inl 0, .inr (.inl none), .inr (.inl none), .inr (.inl none), .inr (.inl none), .inr (.inl none), .inr (.inl none), .inr (.inl none), .inr (.inl none), .inr (.inl none), .inr (.inl none), .inr (.inl none), .inr (.inl none), .inr (.inl none), .inl 0, .inl 0, .inl 0, .inl 0, .inl 0, .inl 0, .inl 0, .inl 0, .inr (.inl none), .inr (.inl none), .inr (.inl none), .inr (.inl none), .inr (.inl none), .inr (.inl none), .inr (.inl none), .inl 0, .inl 0, .inr (.inl none), .inr (.inl none), .inr (.inl none), .inr (.inl none)]
theorem jc_df9 : ∀ (s0 b j : Nat), j < 36 → defaultValue (jc_ty9 j) = vp_V (jc_new9.map (jm_cv s0 b)) j := fun s0 b j hj => by
  rcases (show j = 0 ∨ j = 1 ∨ j = 2 ∨ j = 3 ∨ j = 4 ∨ j = 5 ∨ j = 6 ∨ j = 7 ∨ j = 8 ∨ j = 9 ∨ j = 10 ∨ j = 11 ∨ j = 12 ∨ j = 13 ∨ j = 14 ∨ j = 15 ∨ j = 16 ∨ j = 17 ∨ j = 18 ∨ j = 19 ∨ j = 20 ∨ j = 21 ∨ j = 22 ∨ j = 23 ∨ j = 24 ∨ j = 25 ∨ j = 26 ∨ j = 27 ∨ j = 28 ∨ j = 29 ∨ j = 30 ∨ j = 31 ∨ j = 32 ∨ j = 33 ∨ j = 34 ∨ j = 35 by omega) with rfl | rfl | rfl | rfl | rfl | rfl | rfl | rfl | rfl | rfl | rfl | rfl | rfl | rfl | rfl | rfl | rfl | rfl | rfl | rfl | rfl | rfl | rfl | rfl | rfl | rfl | rfl | rfl | rfl | rfl | rfl | rfl | rfl | rfl | rfl | rfl <;> rfl
theorem jce_1 : jm_callee 1 0 := ⟨jw_2, jw1 (i := 16) rfl rfl, by decide +kernel, by decide +kernel, by decide +kernel⟩
theorem jce_2 : jm_callee 2 3 := ⟨jw_2, jw2 (i := 10) rfl rfl, by decide +kernel, by decide +kernel, by decide +kernel⟩
theorem jce_3 : jm_callee 3 3 := ⟨jw_2, jw2 (i := 37) rfl rfl, by decide +kernel, by decide +kernel, by decide +kernel⟩
theorem jce_4 : jm_callee 4 4 := ⟨jw_2, jw2 (i := 52) rfl rfl, by decide +kernel, by decide +kernel, by decide +kernel⟩
theorem jce_5 : jm_callee 5 4 := ⟨jw_2, jw2 (i := 68) rfl rfl, by decide +kernel, by decide +kernel, by decide +kernel⟩
theorem jce_6 : jm_callee 6 2 := ⟨jw_2, jw2 (i := 79) rfl rfl, by decide +kernel, by decide +kernel, by decide +kernel⟩
theorem jce_7 : jm_callee 7 0 := ⟨jw_2, jw2 (i := 87) rfl rfl, by decide +kernel, by decide +kernel, by decide +kernel⟩
theorem jce_8 : jm_callee 8 1 := ⟨jw_2, jw2 (i := 95) rfl rfl, by decide +kernel, by decide +kernel, by decide +kernel⟩
theorem jce_9 : jm_callee 9 0 := ⟨jw_2, jw2 (i := 103) rfl rfl, by decide +kernel, by decide +kernel, by decide +kernel⟩
theorem jce_10 : jm_callee 10 0 := ⟨jw_2, jw2 (i := 111) rfl rfl, by decide +kernel, by decide +kernel, by decide +kernel⟩
theorem jce_11 : jm_callee 11 1 := ⟨jw_2, jw2 (i := 137) rfl rfl, by decide +kernel, by decide +kernel, by decide +kernel⟩
theorem jce_12 : jm_callee 12 2 := ⟨jw_2, jw3 (i := 77) rfl rfl, by decide +kernel, by decide +kernel, by decide +kernel⟩
theorem jce_13 : jm_callee 13 3 := ⟨jw_2, jw3 (i := 82) rfl rfl, by decide +kernel, by decide +kernel, by decide +kernel⟩
theorem jce_14 : jm_callee 14 3 := ⟨jw_2, jw3 (i := 91) rfl rfl, by decide +kernel, by decide +kernel, by decide +kernel⟩
theorem jce_15 : jm_callee 15 2 := ⟨jw_2, jw3 (i := 96) rfl rfl, by decide +kernel, by decide +kernel, by decide +kernel⟩
theorem jce_16 : jm_callee 16 2 := ⟨jw_2, jw3 (i := 101) rfl rfl, by decide +kernel, by decide +kernel, by decide +kernel⟩
theorem jce_17 : jm_callee 17 1 := ⟨jw_2, jw3 (i := 109) rfl rfl, by decide +kernel, by decide +kernel, by decide +kernel⟩
theorem jce_18 : jm_callee 18 1 := ⟨jw_2, jw2 (i := 64) rfl rfl, by decide +kernel, by decide +kernel, by decide +kernel⟩
theorem jce_19 : jm_callee 19 0 := ⟨jw_7, jw3 (i := 114) rfl rfl, by decide +kernel, by decide +kernel, by decide +kernel⟩
theorem jce_20 : jm_callee 20 1 := ⟨jw_7, jw4 (i := 0) rfl rfl, by decide +kernel, by decide +kernel, by decide +kernel⟩
theorem jce_21 : jm_callee 21 0 := ⟨jw_7, jw3 (i := 232) rfl rfl, by decide +kernel, by decide +kernel, by decide +kernel⟩
theorem jce_22 : jm_callee 22 3 := ⟨jw_7, jw3 (i := 228) rfl rfl, by decide +kernel, by decide +kernel, by decide +kernel⟩
theorem jce_23 : jm_callee 23 3 := ⟨jw_7, jw3 (i := 236) rfl rfl, by decide +kernel, by decide +kernel, by decide +kernel⟩
theorem jce_24 : jm_callee 24 4 := ⟨jw_7, jw4 (i := 4) rfl rfl, by decide +kernel, by decide +kernel, by decide +kernel⟩
theorem jce_25 : jm_callee 25 1 := ⟨jw_7, jw4 (i := 11) rfl rfl, by decide +kernel, by decide +kernel, by decide +kernel⟩
theorem jce_26 : jm_callee 26 4 := ⟨jw_7, jw4 (i := 8) rfl rfl, by decide +kernel, by decide +kernel, by decide +kernel⟩
theorem jce_27 : jm_callee 27 2 := ⟨jw_7, jw4 (i := 15) rfl rfl, by decide +kernel, by decide +kernel, by decide +kernel⟩
theorem jce_28 : jm_callee 28 0 := ⟨jw_7, jw4 (i := 19) rfl rfl, by decide +kernel, by decide +kernel, by decide +kernel⟩
theorem jce_29 : jm_callee 29 1 := ⟨jw_7, jw4 (i := 23) rfl rfl, by decide +kernel, by decide +kernel, by decide +kernel⟩
theorem jce_30 : jm_callee 30 0 := ⟨jw_7, jw4 (i := 27) rfl rfl, by decide +kernel, by decide +kernel, by decide +kernel⟩
theorem jce_31 : jm_callee 31 0 := ⟨jw_7, jw4 (i := 31) rfl rfl, by decide +kernel, by decide +kernel, by decide +kernel⟩
theorem jce_32 : jm_callee 32 1 := ⟨jw_7, jw4 (i := 35) rfl rfl, by decide +kernel, by decide +kernel, by decide +kernel⟩
theorem jce_33 : jm_callee 33 2 := ⟨jw_7, jw4 (i := 67) rfl rfl, by decide +kernel, by decide +kernel, by decide +kernel⟩
theorem jce_34 : jm_callee 34 2 := ⟨jw_7, jw4 (i := 75) rfl rfl, by decide +kernel, by decide +kernel, by decide +kernel⟩
theorem jce_35 : jm_callee 35 1 := ⟨jw_7, jw4 (i := 63) rfl rfl, by decide +kernel, by decide +kernel, by decide +kernel⟩
theorem jce_36 : jm_callee 36 1 := ⟨jw_7, jw4 (i := 79) rfl rfl, by decide +kernel, by decide +kernel, by decide +kernel⟩
theorem jce_37 : jm_callee 37 0 := ⟨jw_7, jw4 (i := 91) rfl rfl, by decide +kernel, by decide +kernel, by decide +kernel⟩
theorem jce_38 : jm_callee 38 2 := ⟨jw_7, jw4 (i := 59) rfl rfl, by decide +kernel, by decide +kernel, by decide +kernel⟩
theorem jce_39 : jm_callee 39 0 := ⟨jw_7, jw4 (i := 51) rfl rfl, by decide +kernel, by decide +kernel, by decide +kernel⟩
theorem jce_40 : jm_callee 40 1 := ⟨jw_7, jw4 (i := 55) rfl rfl, by decide +kernel, by decide +kernel, by decide +kernel⟩
theorem jce_41 : jm_callee 41 2 := ⟨jw_7, jw4 (i := 47) rfl rfl, by decide +kernel, by decide +kernel, by decide +kernel⟩
theorem jce_42 : jm_callee 42 1 := ⟨jw_7, jw4 (i := 99) rfl rfl, by decide +kernel, by decide +kernel, by decide +kernel⟩
theorem jce_43 : jm_callee 43 1 := ⟨jw_7, jw4 (i := 95) rfl rfl, by decide +kernel, by decide +kernel, by decide +kernel⟩
theorem jce_44 : jm_callee 44 0 := ⟨jw_7, jw4 (i := 110) rfl rfl, by decide +kernel, by decide +kernel, by decide +kernel⟩
theorem jce_45 : jm_callee 45 1 := ⟨jw_7, jw4 (i := 114) rfl rfl, by decide +kernel, by decide +kernel, by decide +kernel⟩
theorem jce_46 : jm_callee 46 1 := ⟨jw_7, jw4 (i := 118) rfl rfl, by decide +kernel, by decide +kernel, by decide +kernel⟩
theorem jce_47 : jm_callee 47 1 := ⟨jw_7, jw4 (i := 122) rfl rfl, by decide +kernel, by decide +kernel, by decide +kernel⟩
theorem jce_48 : jm_callee 48 0 := ⟨jw_7, jw4 (i := 126) rfl rfl, by decide +kernel, by decide +kernel, by decide +kernel⟩
theorem jce_49 : jm_callee 49 0 := ⟨jw_7, jw4 (i := 83) rfl rfl, by decide +kernel, by decide +kernel, by decide +kernel⟩
theorem jce_50 : jm_callee 50 1 := ⟨jw_7, jw4 (i := 87) rfl rfl, by decide +kernel, by decide +kernel, by decide +kernel⟩
theorem jce_51 : jm_callee 51 2 := ⟨jw_7, jw4 (i := 71) rfl rfl, by decide +kernel, by decide +kernel, by decide +kernel⟩
theorem jce_52 : jm_callee 52 2 := ⟨jw_7, jw4 (i := 106) rfl rfl, by decide +kernel, by decide +kernel, by decide +kernel⟩
theorem jce_53 : jm_callee 53 0 := ⟨jw_7, jw4 (i := 43) rfl rfl, by decide +kernel, by decide +kernel, by decide +kernel⟩
theorem jce_54 : jm_callee 54 1 := ⟨jw_7, jw4 (i := 39) rfl rfl, by decide +kernel, by decide +kernel, by decide +kernel⟩
theorem jce_55 : jm_callee 55 1 := ⟨jw_7, jw4 (i := 134) rfl rfl, by decide +kernel, by decide +kernel, by decide +kernel⟩
theorem jce_56 : jm_callee 56 2 := ⟨jw_7, jw4 (i := 130) rfl rfl, by decide +kernel, by decide +kernel, by decide +kernel⟩
theorem jce_57 : jm_callee 57 2 := ⟨jw_7, jw4 (i := 146) rfl rfl, by decide +kernel, by decide +kernel, by decide +kernel⟩
theorem jce_58 : jm_callee 58 3 := ⟨jw_7, jw4 (i := 142) rfl rfl, by decide +kernel, by decide +kernel, by decide +kernel⟩
theorem jce_59 : jm_callee 59 3 := ⟨jw_7, jw4 (i := 138) rfl rfl, by decide +kernel, by decide +kernel, by decide +kernel⟩
theorem jce_60 : jm_callee 60 3 := ⟨jw_7, jw4 (i := 150) rfl rfl, by decide +kernel, by decide +kernel, by decide +kernel⟩
theorem jce_61 : jm_callee 61 2 := ⟨jw_7, jw4 (i := 154) rfl rfl, by decide +kernel, by decide +kernel, by decide +kernel⟩
theorem jce_62 : jm_callee 62 2 := ⟨jw_7, jw4 (i := 158) rfl rfl, by decide +kernel, by decide +kernel, by decide +kernel⟩
theorem jce_63 : jm_callee 63 1 := ⟨jw_7, jw4 (i := 162) rfl rfl, by decide +kernel, by decide +kernel, by decide +kernel⟩
theorem jce_64 : jm_callee 64 0 := ⟨jw_116, jw1 (i := 89) rfl rfl, by decide +kernel, by decide +kernel, by decide +kernel⟩
theorem jce_65 : jm_callee 65 0 := ⟨jw_116, jw2 (i := 107) rfl rfl, by decide +kernel, by decide +kernel, by decide +kernel⟩
theorem jce_66 : jm_callee 66 1 := ⟨jw_116, jw2 (i := 99) rfl rfl, by decide +kernel, by decide +kernel, by decide +kernel⟩
theorem jce_67 : jm_callee 67 1 := ⟨jw_116, jw3 (i := 36) rfl rfl, by decide +kernel, by decide +kernel, by decide +kernel⟩
theorem jce_68 : jm_callee 68 1 := ⟨jw_180, jw1 (i := 116) rfl rfl, by decide +kernel, by decide +kernel, by decide +kernel⟩
theorem jce_69 : jm_callee 69 1 := ⟨jw_180, jw2 (i := 129) rfl rfl, by decide +kernel, by decide +kernel, by decide +kernel⟩
theorem jce_70 : jm_callee 70 0 := ⟨jw_180, jw2 (i := 157) rfl rfl, by decide +kernel, by decide +kernel, by decide +kernel⟩
theorem jce_71 : jm_callee 71 1 := ⟨jw_180, jw2 (i := 179) rfl rfl, by decide +kernel, by decide +kernel, by decide +kernel⟩
theorem jce_72 : jm_callee 72 1 := ⟨jw_180, jw2 (i := 175) rfl rfl, by decide +kernel, by decide +kernel, by decide +kernel⟩
theorem jce_73 : jm_callee 73 1 := ⟨jw_180, jw2 (i := 193) rfl rfl, by decide +kernel, by decide +kernel, by decide +kernel⟩
theorem jce_74 : jm_callee 74 1 := ⟨jw_180, jw2 (i := 204) rfl rfl, by decide +kernel, by decide +kernel, by decide +kernel⟩
theorem jce_75 : jm_callee 75 1 := ⟨jw_180, jw2 (i := 229) rfl rfl, by decide +kernel, by decide +kernel, by decide +kernel⟩
theorem jce_76 : jm_callee 76 1 := ⟨jw_180, jw3 (i := 16) rfl rfl, by decide +kernel, by decide +kernel, by decide +kernel⟩
theorem jce_77 : jm_callee 77 1 := ⟨jw_180, jw2 (i := 233) rfl rfl, by decide +kernel, by decide +kernel, by decide +kernel⟩
theorem jce_78 : jm_callee 78 2 := ⟨jw_180, jw2 (i := 161) rfl rfl, by decide +kernel, by decide +kernel, by decide +kernel⟩
theorem jce_79 : jm_callee 79 3 := ⟨jw_180, jw2 (i := 186) rfl rfl, by decide +kernel, by decide +kernel, by decide +kernel⟩
theorem jce_80 : jm_callee 80 1 := ⟨jw_180, jw2 (i := 168) rfl rfl, by decide +kernel, by decide +kernel, by decide +kernel⟩
theorem jce_81 : jm_callee 81 2 := ⟨jw_180, jw3 (i := 6) rfl rfl, by decide +kernel, by decide +kernel, by decide +kernel⟩
theorem jce_82 : jm_callee 82 0 := ⟨jw_176, jw1 (i := 110) rfl rfl, by decide +kernel, by decide +kernel, by decide +kernel⟩
theorem jce_83 : jm_callee 83 2 := ⟨jw_176, jw2 (i := 125) rfl rfl, by decide +kernel, by decide +kernel, by decide +kernel⟩
theorem jce_84 : jm_callee 84 1 := ⟨jw_176, jw3 (i := 86) rfl rfl, by decide +kernel, by decide +kernel, by decide +kernel⟩
theorem jce_85 : jm_callee 85 2 := ⟨jw_176, jw3 (i := 72) rfl rfl, by decide +kernel, by decide +kernel, by decide +kernel⟩
theorem jce_86 : jm_callee 86 0 := ⟨jw_136, jw1 (i := 31) rfl rfl, by decide +kernel, by decide +kernel, by decide +kernel⟩
theorem jce_87 : jm_callee 87 3 := ⟨jw_136, jw2 (i := 17) rfl rfl, by decide +kernel, by decide +kernel, by decide +kernel⟩
theorem jce_88 : jm_callee 88 3 := ⟨jw_136, jw2 (i := 21) rfl rfl, by decide +kernel, by decide +kernel, by decide +kernel⟩
theorem jce_89 : jm_callee 89 1 := ⟨jw_136, jw2 (i := 60) rfl rfl, by decide +kernel, by decide +kernel, by decide +kernel⟩
theorem jce_90 : jm_callee 90 2 := ⟨jw_136, jw2 (i := 45) rfl rfl, by decide +kernel, by decide +kernel, by decide +kernel⟩
theorem jce_91 : jm_callee 91 3 := ⟨jw_136, jw2 (i := 56) rfl rfl, by decide +kernel, by decide +kernel, by decide +kernel⟩
theorem jce_92 : jm_callee 92 3 := ⟨jw_136, jw2 (i := 72) rfl rfl, by decide +kernel, by decide +kernel, by decide +kernel⟩
theorem jce_93 : jm_callee 93 1 := ⟨jw_136, jw2 (i := 83) rfl rfl, by decide +kernel, by decide +kernel, by decide +kernel⟩
theorem jce_94 : jm_callee 94 2 := ⟨jw_136, jw3 (i := 68) rfl rfl, by decide +kernel, by decide +kernel, by decide +kernel⟩
theorem jce_95 : jm_callee 95 1 := ⟨jw_136, jw2 (i := 48) rfl rfl, by decide +kernel, by decide +kernel, by decide +kernel⟩
theorem jce_96 : jm_callee 96 1 := ⟨jw_136, jw2 (i := 75) rfl rfl, by decide +kernel, by decide +kernel, by decide +kernel⟩
theorem jce_97 : jm_callee 97 0 := ⟨jw_193, jw1 (i := 181) rfl rfl, by decide +kernel, by decide +kernel, by decide +kernel⟩
theorem jce_98 : jm_callee 98 0 := ⟨jw_193, jw2 (i := 33) rfl rfl, by decide +kernel, by decide +kernel, by decide +kernel⟩
theorem jce_99 : jm_callee 99 4 := ⟨jw_193, jw3 (i := 40) rfl rfl, by decide +kernel, by decide +kernel, by decide +kernel⟩
theorem jce_100 : jm_callee 100 2 := ⟨jw_193, jw3 (i := 105) rfl rfl, by decide +kernel, by decide +kernel, by decide +kernel⟩
theorem jce_101 : jm_callee 101 0 := ⟨jw_110, jw1 (i := 24) rfl rfl, by decide +kernel, by decide +kernel, by decide +kernel⟩
theorem jce_102 : jm_callee 102 0 := ⟨jw_110, jw2 (i := 91) rfl rfl, by decide +kernel, by decide +kernel, by decide +kernel⟩
theorem jce_103 : jm_callee 103 3 := ⟨jw_110, jw2 (i := 14) rfl rfl, by decide +kernel, by decide +kernel, by decide +kernel⟩
theorem jce_104 : jm_callee 104 1 := ⟨jw_110, jw2 (i := 41) rfl rfl, by decide +kernel, by decide +kernel, by decide +kernel⟩
theorem jce_105 : jm_callee 105 0 := ⟨jw_188, jw1 (i := 157) rfl rfl, by decide +kernel, by decide +kernel, by decide +kernel⟩
theorem jce_106 : jm_callee 106 0 := ⟨jw_188, jw2 (i := 29) rfl rfl, by decide +kernel, by decide +kernel, by decide +kernel⟩
theorem jce_107 : jm_callee 107 1 := ⟨jw_188, jw2 (i := 217) rfl rfl, by decide +kernel, by decide +kernel, by decide +kernel⟩
theorem jce_108 : jm_callee 108 1 := ⟨jw_188, jw2 (i := 213) rfl rfl, by decide +kernel, by decide +kernel, by decide +kernel⟩
theorem jce_109 : jm_callee 109 2 := ⟨jw_188, jw2 (i := 237) rfl rfl, by decide +kernel, by decide +kernel, by decide +kernel⟩
theorem jce_110 : jm_callee 110 2 := ⟨jw_188, jw3 (i := 1) rfl rfl, by decide +kernel, by decide +kernel, by decide +kernel⟩
theorem jce_111 : jm_callee 111 3 := ⟨jw_188, jw3 (i := 21) rfl rfl, by decide +kernel, by decide +kernel, by decide +kernel⟩
theorem jce_112 : jm_callee 112 2 := ⟨jw_122, jw1 (i := 103) rfl rfl, by decide +kernel, by decide +kernel, by decide +kernel⟩
theorem jce_113 : jm_callee 113 0 := ⟨jw_122, jw2 (i := 25) rfl rfl, by decide +kernel, by decide +kernel, by decide +kernel⟩
theorem jce_114 : jm_callee 114 0 := ⟨jw_122, jw2 (i := 115) rfl rfl, by decide +kernel, by decide +kernel, by decide +kernel⟩
theorem jce_115 : jm_callee 115 1 := ⟨jw_122, jw2 (i := 145) rfl rfl, by decide +kernel, by decide +kernel, by decide +kernel⟩
theorem jce_116 : jm_callee 116 1 := ⟨jw_122, jw2 (i := 120) rfl rfl, by decide +kernel, by decide +kernel, by decide +kernel⟩
theorem jce_117 : jm_callee 117 2 := ⟨jw_122, jw3 (i := 49) rfl rfl, by decide +kernel, by decide +kernel, by decide +kernel⟩
theorem jce_118 : jm_callee 118 0 := ⟨jw_122, jw2 (i := 141) rfl rfl, by decide +kernel, by decide +kernel, by decide +kernel⟩
theorem jce_119 : jm_callee 119 1 := ⟨jw_122, jw2 (i := 149) rfl rfl, by decide +kernel, by decide +kernel, by decide +kernel⟩
theorem jce_120 : jm_callee 120 2 := ⟨jw_122, jw2 (i := 153) rfl rfl, by decide +kernel, by decide +kernel, by decide +kernel⟩
theorem jce_121 : jm_callee 121 1 := ⟨jw_122, jw2 (i := 164) rfl rfl, by decide +kernel, by decide +kernel, by decide +kernel⟩
theorem jce_122 : jm_callee 122 3 := ⟨jw_122, jw2 (i := 171) rfl rfl, by decide +kernel, by decide +kernel, by decide +kernel⟩
theorem jce_123 : jm_callee 123 1 := ⟨jw_122, jw2 (i := 182) rfl rfl, by decide +kernel, by decide +kernel, by decide +kernel⟩
theorem jce_124 : jm_callee 124 3 := ⟨jw_122, jw2 (i := 189) rfl rfl, by decide +kernel, by decide +kernel, by decide +kernel⟩
theorem jce_125 : jm_callee 125 2 := ⟨jw_122, jw2 (i := 197) rfl rfl, by decide +kernel, by decide +kernel, by decide +kernel⟩
theorem jce_126 : jm_callee 126 3 := ⟨jw_122, jw2 (i := 200) rfl rfl, by decide +kernel, by decide +kernel, by decide +kernel⟩
theorem jce_127 : jm_callee 127 2 := ⟨jw_122, jw3 (i := 57) rfl rfl, by decide +kernel, by decide +kernel, by decide +kernel⟩
theorem jce_128 : jm_callee 128 3 := ⟨jw_122, jw3 (i := 60) rfl rfl, by decide +kernel, by decide +kernel, by decide +kernel⟩
theorem jce_129 : jm_callee 129 1 := ⟨jw_122, jw2 (i := 209) rfl rfl, by decide +kernel, by decide +kernel, by decide +kernel⟩
theorem jce_130 : jm_callee 130 1 := ⟨jw_122, jw2 (i := 225) rfl rfl, by decide +kernel, by decide +kernel, by decide +kernel⟩
theorem jce_131 : jm_callee 131 1 := ⟨jw_122, jw3 (i := 12) rfl rfl, by decide +kernel, by decide +kernel, by decide +kernel⟩
theorem jce_132 : jm_callee 132 1 := ⟨jw_122, jw3 (i := 24) rfl rfl, by decide +kernel, by decide +kernel, by decide +kernel⟩
theorem jce_133 : jm_callee 133 2 := ⟨jw_122, jw3 (i := 28) rfl rfl, by decide +kernel, by decide +kernel, by decide +kernel⟩
theorem jce_134 : jm_callee 134 2 := ⟨jw_122, jw3 (i := 32) rfl rfl, by decide +kernel, by decide +kernel, by decide +kernel⟩
theorem jce_135 : jm_callee 135 2 := ⟨jw_122, jw3 (i := 45) rfl rfl, by decide +kernel, by decide +kernel, by decide +kernel⟩
theorem jce_136 : jm_callee 136 1 := ⟨jw_122, jw3 (i := 53) rfl rfl, by decide +kernel, by decide +kernel, by decide +kernel⟩
theorem jce_137 : jm_callee 137 1 := ⟨jw_122, jw2 (i := 221) rfl rfl, by decide +kernel, by decide +kernel, by decide +kernel⟩
theorem jce_138 : jm_callee 138 0 := ⟨jw_122, jw3 (i := 64) rfl rfl, by decide +kernel, by decide +kernel, by decide +kernel⟩
