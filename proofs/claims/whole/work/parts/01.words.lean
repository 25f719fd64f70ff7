theorem k_0 : (.initialized "RuleKeeperLaw" : Cond) ∈ gw := List.mem_filter.mpr ⟨List.mem_append_right _ (List.mem_of_getElem? (i := 0) (by decide +kernel)), rfl⟩
theorem k_1 : (.initialized "RuleKeeper" : Cond) ∈ gw := List.mem_filter.mpr ⟨List.mem_append_right _ (List.mem_of_getElem? (i := 1) (by decide +kernel)), rfl⟩
theorem k_2 : (.initialized "RuleKeeper$Solver" : Cond) ∈ gw := List.mem_filter.mpr ⟨List.mem_append_right _ (List.mem_of_getElem? (i := 2) (by decide +kernel)), rfl⟩
theorem k_3 : (.initialized "RuleKeeper$Triples" : Cond) ∈ gw := List.mem_filter.mpr ⟨List.mem_append_right _ (List.mem_of_getElem? (i := 3) (by decide +kernel)), rfl⟩
theorem k_4 : (.initialized "RuleKeeper$Marks" : Cond) ∈ gw := List.mem_filter.mpr ⟨List.mem_append_right _ (List.mem_of_getElem? (i := 4) (by decide +kernel)), rfl⟩
theorem k_5 : (.initialized "RuleKeeper$Column" : Cond) ∈ gw := List.mem_filter.mpr ⟨List.mem_append_right _ (List.mem_of_getElem? (i := 5) (by decide +kernel)), rfl⟩
theorem k_6 : (.initialized "RuleKeeper$Pattern" : Cond) ∈ gw := List.mem_filter.mpr ⟨List.mem_append_right _ (List.mem_of_getElem? (i := 6) (by decide +kernel)), rfl⟩
theorem k_7 : (.initialized "RuleKeeper$Rule" : Cond) ∈ gw := List.mem_filter.mpr ⟨List.mem_append_right _ (List.mem_of_getElem? (i := 7) (by decide +kernel)), rfl⟩
theorem k_8 : (.initialized "RuleKeeperModel" : Cond) ∈ gw := List.mem_filter.mpr ⟨List.mem_append_right _ (List.mem_of_getElem? (i := 8) (by decide +kernel)), rfl⟩
theorem k_9 : (.initialized "java/lang/Math" : Cond) ∈ gw := List.mem_filter.mpr ⟨List.mem_append_right _ (List.mem_of_getElem? (i := 9) (by decide +kernel)), rfl⟩
theorem k_10 : (.classLink "RuleKeeperLaw" 7 "RuleKeeper" : Cond) ∈ gw := List.mem_filter.mpr ⟨List.mem_append_right _ (List.mem_of_getElem? (i := 10) (by decide +kernel)), rfl⟩
theorem k_11 : (.instantiable "RuleKeeper" 7 : Cond) ∈ gw := List.mem_filter.mpr ⟨List.mem_append_right _ (List.mem_of_getElem? (i := 11) (by decide +kernel)), rfl⟩
theorem k_12 : (.methodLink "RuleKeeperLaw" 9 y_Kp_init : Cond) ∈ gw := List.mem_filter.mpr ⟨List.mem_append_right _ (List.mem_of_getElem? (i := 12) (by decide +kernel)), rfl⟩
theorem k_13 : (.instanceMethod y_Kp_init : Cond) ∈ gw := List.mem_filter.mpr ⟨List.mem_append_right _ (List.mem_of_getElem? (i := 13) (by decide +kernel)), rfl⟩
theorem k_14 : (.code y_Kp_init b_Kp_init 4 none : Cond) ∈ gw := List.mem_filter.mpr ⟨List.mem_append_right _ (List.mem_of_getElem? (i := 14) (by decide +kernel)), rfl⟩
theorem k_15 : (.methodLink "RuleKeeper" 3 ⟨"java/lang/Object", "<init>", "()V"⟩ : Cond) ∈ gw := List.mem_filter.mpr ⟨List.mem_append_right _ (List.mem_of_getElem? (i := 15) (by decide +kernel)), rfl⟩
theorem k_16 : (.instanceMethod ⟨"java/lang/Object", "<init>", "()V"⟩ : Cond) ∈ gw := List.mem_filter.mpr ⟨List.mem_append_right _ (List.mem_of_getElem? (i := 16) (by decide +kernel)), rfl⟩
theorem k_17 : (.code objectInit ⟨#[0xb1]⟩ 1 none : Cond) ∈ gw := List.mem_filter.mpr ⟨List.mem_append_right _ (List.mem_of_getElem? (i := 17) (by decide +kernel)), rfl⟩
theorem k_18 : (.classLink "RuleKeeper" 9 "RuleKeeper$Solver" : Cond) ∈ gw := List.mem_filter.mpr ⟨List.mem_append_right _ (List.mem_of_getElem? (i := 18) (by decide +kernel)), rfl⟩
theorem k_19 : (.instantiable "RuleKeeper$Solver" 4 : Cond) ∈ gw := List.mem_filter.mpr ⟨List.mem_append_right _ (List.mem_of_getElem? (i := 19) (by decide +kernel)), rfl⟩
theorem k_20 : (.methodLink "RuleKeeper" 11 y_Sv_init : Cond) ∈ gw := List.mem_filter.mpr ⟨List.mem_append_right _ (List.mem_of_getElem? (i := 20) (by decide +kernel)), rfl⟩
theorem k_21 : (.instanceMethod y_Sv_init : Cond) ∈ gw := List.mem_filter.mpr ⟨List.mem_append_right _ (List.mem_of_getElem? (i := 21) (by decide +kernel)), rfl⟩
theorem k_22 : (.code y_Sv_init b_Sv_init 2 none : Cond) ∈ gw := List.mem_filter.mpr ⟨List.mem_append_right _ (List.mem_of_getElem? (i := 22) (by decide +kernel)), rfl⟩
theorem k_23 : (.methodLink "RuleKeeper$Solver" 3 ⟨"java/lang/Object", "<init>", "()V"⟩ : Cond) ∈ gw := List.mem_filter.mpr ⟨List.mem_append_right _ (List.mem_of_getElem? (i := 23) (by decide +kernel)), rfl⟩
theorem k_24 : (.classLink "RuleKeeper$Solver" 9 "RuleKeeper$Triples" : Cond) ∈ gw := List.mem_filter.mpr ⟨List.mem_append_right _ (List.mem_of_getElem? (i := 24) (by decide +kernel)), rfl⟩
theorem k_25 : (.instantiable "RuleKeeper$Triples" 3 : Cond) ∈ gw := List.mem_filter.mpr ⟨List.mem_append_right _ (List.mem_of_getElem? (i := 25) (by decide +kernel)), rfl⟩
theorem k_26 : (.methodLink "RuleKeeper$Solver" 11 y_Tr_init : Cond) ∈ gw := List.mem_filter.mpr ⟨List.mem_append_right _ (List.mem_of_getElem? (i := 26) (by decide +kernel)), rfl⟩
theorem k_27 : (.instanceMethod y_Tr_init : Cond) ∈ gw := List.mem_filter.mpr ⟨List.mem_append_right _ (List.mem_of_getElem? (i := 27) (by decide +kernel)), rfl⟩
theorem k_28 : (.code y_Tr_init b_Tr_init 1 none : Cond) ∈ gw := List.mem_filter.mpr ⟨List.mem_append_right _ (List.mem_of_getElem? (i := 28) (by decide +kernel)), rfl⟩
theorem k_29 : (.methodLink "RuleKeeper$Triples" 3 ⟨"java/lang/Object", "<init>", "()V"⟩ : Cond) ∈ gw := List.mem_filter.mpr ⟨List.mem_append_right _ (List.mem_of_getElem? (i := 29) (by decide +kernel)), rfl⟩
theorem k_30 : (.classLink "RuleKeeper$Triples" 15 "RuleKeeper$Marks" : Cond) ∈ gw := List.mem_filter.mpr ⟨List.mem_append_right _ (List.mem_of_getElem? (i := 30) (by decide +kernel)), rfl⟩
theorem k_31 : (.instantiable "RuleKeeper$Marks" 1 : Cond) ∈ gw := List.mem_filter.mpr ⟨List.mem_append_right _ (List.mem_of_getElem? (i := 31) (by decide +kernel)), rfl⟩
theorem k_32 : (.methodLink "RuleKeeper$Triples" 17 y_Mk_init : Cond) ∈ gw := List.mem_filter.mpr ⟨List.mem_append_right _ (List.mem_of_getElem? (i := 32) (by decide +kernel)), rfl⟩
theorem k_33 : (.instanceMethod y_Mk_init : Cond) ∈ gw := List.mem_filter.mpr ⟨List.mem_append_right _ (List.mem_of_getElem? (i := 33) (by decide +kernel)), rfl⟩
theorem k_34 : (.code y_Mk_init b_Mk_init 1 none : Cond) ∈ gw := List.mem_filter.mpr ⟨List.mem_append_right _ (List.mem_of_getElem? (i := 34) (by decide +kernel)), rfl⟩
theorem k_35 : (.methodLink "RuleKeeper$Marks" 3 ⟨"java/lang/Object", "<init>", "()V"⟩ : Cond) ∈ gw := List.mem_filter.mpr ⟨List.mem_append_right _ (List.mem_of_getElem? (i := 35) (by decide +kernel)), rfl⟩
theorem k_36 : (.fieldLink "RuleKeeper$Marks" 9 "RuleKeeper$Marks" "words" "[I" : Cond) ∈ gw := List.mem_filter.mpr ⟨List.mem_append_right _ (List.mem_of_getElem? (i := 36) (by decide +kernel)), rfl⟩
theorem k_37 : (.laysFinal "RuleKeeper$Marks" "RuleKeeper$Marks" "words" "[I" : Cond) ∈ gw := List.mem_filter.mpr ⟨List.mem_append_right _ (List.mem_of_getElem? (i := 37) (by decide +kernel)), rfl⟩
theorem k_40 : (.arrayClass .int : Cond) ∈ gw := List.mem_filter.mpr ⟨List.mem_append_right _ (List.mem_of_getElem? (i := 40) (by decide +kernel)), rfl⟩
theorem k_41 : (.fieldLink "RuleKeeper$Triples" 9 "RuleKeeper$Triples" "codes" "[I" : Cond) ∈ gw := List.mem_filter.mpr ⟨List.mem_append_right _ (List.mem_of_getElem? (i := 41) (by decide +kernel)), rfl⟩
theorem k_42 : (.fieldLink "RuleKeeper$Solver" 39 "RuleKeeper$Triples" "codes" "[I" : Cond) ∈ gw := List.mem_filter.mpr ⟨List.mem_append_right _ (List.mem_of_getElem? (i := 42) (by decide +kernel)), rfl⟩
theorem k_43 : (.fieldLink "RuleKeeper$Column" 54 "RuleKeeper$Triples" "codes" "[I" : Cond) ∈ gw := List.mem_filter.mpr ⟨List.mem_append_right _ (List.mem_of_getElem? (i := 43) (by decide +kernel)), rfl⟩
theorem k_44 : (.fieldLink "RuleKeeper" 106 "RuleKeeper$Triples" "codes" "[I" : Cond) ∈ gw := List.mem_filter.mpr ⟨List.mem_append_right _ (List.mem_of_getElem? (i := 44) (by decide +kernel)), rfl⟩
theorem k_45 : (.fieldLink "RuleKeeper$Triples" 18 "RuleKeeper$Triples" "present" "LRuleKeeper$Marks;" : Cond) ∈ gw := List.mem_filter.mpr ⟨List.mem_append_right _ (List.mem_of_getElem? (i := 45) (by decide +kernel)), rfl⟩
theorem k_46 : (.fieldLink "RuleKeeper$Triples" 22 "RuleKeeper$Triples" "count" "I" : Cond) ∈ gw := List.mem_filter.mpr ⟨List.mem_append_right _ (List.mem_of_getElem? (i := 46) (by decide +kernel)), rfl⟩
theorem k_47 : (.fieldLink "RuleKeeper$Column" 51 "RuleKeeper$Triples" "count" "I" : Cond) ∈ gw := List.mem_filter.mpr ⟨List.mem_append_right _ (List.mem_of_getElem? (i := 47) (by decide +kernel)), rfl⟩
theorem k_48 : (.fieldLink "RuleKeeper$Solver" 74 "RuleKeeper$Triples" "count" "I" : Cond) ∈ gw := List.mem_filter.mpr ⟨List.mem_append_right _ (List.mem_of_getElem? (i := 48) (by decide +kernel)), rfl⟩
theorem k_49 : (.fieldLink "RuleKeeper" 88 "RuleKeeper$Triples" "count" "I" : Cond) ∈ gw := List.mem_filter.mpr ⟨List.mem_append_right _ (List.mem_of_getElem? (i := 49) (by decide +kernel)), rfl⟩
theorem k_50 : (.laysFinal "RuleKeeper$Triples" "RuleKeeper$Triples" "codes" "[I" : Cond) ∈ gw := List.mem_filter.mpr ⟨List.mem_append_right _ (List.mem_of_getElem? (i := 50) (by decide +kernel)), rfl⟩
theorem k_52 : (.laysFinal "RuleKeeper$Triples" "RuleKeeper$Triples" "present" "LRuleKeeper$Marks;" : Cond) ∈ gw := List.mem_filter.mpr ⟨List.mem_append_right _ (List.mem_of_getElem? (i := 52) (by decide +kernel)), rfl⟩
theorem k_54 : (.lays "RuleKeeper$Triples" "RuleKeeper$Triples" "count" "I" : Cond) ∈ gw := List.mem_filter.mpr ⟨List.mem_append_right _ (List.mem_of_getElem? (i := 54) (by decide +kernel)), rfl⟩
theorem k_57 : (.classLink "RuleKeeper$Solver" 22 "RuleKeeper$Column" : Cond) ∈ gw := List.mem_filter.mpr ⟨List.mem_append_right _ (List.mem_of_getElem? (i := 57) (by decide +kernel)), rfl⟩
theorem k_59 : (.instantiable "RuleKeeper$Column" 6 : Cond) ∈ gw := List.mem_filter.mpr ⟨List.mem_append_right _ (List.mem_of_getElem? (i := 59) (by decide +kernel)), rfl⟩
theorem k_60 : (.methodLink "RuleKeeper$Solver" 32 y_Co_init : Cond) ∈ gw := List.mem_filter.mpr ⟨List.mem_append_right _ (List.mem_of_getElem? (i := 60) (by decide +kernel)), rfl⟩
theorem k_61 : (.instanceMethod y_Co_init : Cond) ∈ gw := List.mem_filter.mpr ⟨List.mem_append_right _ (List.mem_of_getElem? (i := 61) (by decide +kernel)), rfl⟩
theorem k_62 : (.code y_Co_init b_Co_init 1 none : Cond) ∈ gw := List.mem_filter.mpr ⟨List.mem_append_right _ (List.mem_of_getElem? (i := 62) (by decide +kernel)), rfl⟩
theorem k_63 : (.methodLink "RuleKeeper$Column" 3 ⟨"java/lang/Object", "<init>", "()V"⟩ : Cond) ∈ gw := List.mem_filter.mpr ⟨List.mem_append_right _ (List.mem_of_getElem? (i := 63) (by decide +kernel)), rfl⟩
theorem k_64 : (.classLink "RuleKeeper$Column" 21 "RuleKeeper$Pattern" : Cond) ∈ gw := List.mem_filter.mpr ⟨List.mem_append_right _ (List.mem_of_getElem? (i := 64) (by decide +kernel)), rfl⟩
theorem k_65 : (.instantiable "RuleKeeper$Pattern" 8 : Cond) ∈ gw := List.mem_filter.mpr ⟨List.mem_append_right _ (List.mem_of_getElem? (i := 65) (by decide +kernel)), rfl⟩
theorem k_66 : (.methodLink "RuleKeeper$Column" 23 y_Pt_init : Cond) ∈ gw := List.mem_filter.mpr ⟨List.mem_append_right _ (List.mem_of_getElem? (i := 66) (by decide +kernel)), rfl⟩
theorem k_67 : (.instanceMethod y_Pt_init : Cond) ∈ gw := List.mem_filter.mpr ⟨List.mem_append_right _ (List.mem_of_getElem? (i := 67) (by decide +kernel)), rfl⟩
theorem k_68 : (.code y_Pt_init b_Pt_init 9 none : Cond) ∈ gw := List.mem_filter.mpr ⟨List.mem_append_right _ (List.mem_of_getElem? (i := 68) (by decide +kernel)), rfl⟩
theorem k_69 : (.methodLink "RuleKeeper$Pattern" 3 ⟨"java/lang/Object", "<init>", "()V"⟩ : Cond) ∈ gw := List.mem_filter.mpr ⟨List.mem_append_right _ (List.mem_of_getElem? (i := 69) (by decide +kernel)), rfl⟩
theorem k_72 : (.fieldLink "RuleKeeper$Pattern" 9 "RuleKeeper$Pattern" "bits" "[I" : Cond) ∈ gw := List.mem_filter.mpr ⟨List.mem_append_right _ (List.mem_of_getElem? (i := 72) (by decide +kernel)), rfl⟩
theorem k_73 : (.fieldLink "RuleKeeper$Pattern" 15 "RuleKeeper$Pattern" "slots" "[I" : Cond) ∈ gw := List.mem_filter.mpr ⟨List.mem_append_right _ (List.mem_of_getElem? (i := 73) (by decide +kernel)), rfl⟩
theorem k_74 : (.fieldLink "RuleKeeper$Rule" 21 "RuleKeeper$Pattern" "variables" "I" : Cond) ∈ gw := List.mem_filter.mpr ⟨List.mem_append_right _ (List.mem_of_getElem? (i := 74) (by decide +kernel)), rfl⟩
theorem k_75 : (.fieldLink "RuleKeeper$Pattern" 21 "RuleKeeper$Pattern" "variables" "I" : Cond) ∈ gw := List.mem_filter.mpr ⟨List.mem_append_right _ (List.mem_of_getElem? (i := 75) (by decide +kernel)), rfl⟩
theorem k_76 : (.fieldLink "RuleKeeper$Solver" 71 "RuleKeeper$Pattern" "variables" "I" : Cond) ∈ gw := List.mem_filter.mpr ⟨List.mem_append_right _ (List.mem_of_getElem? (i := 76) (by decide +kernel)), rfl⟩
theorem k_77 : (.fieldLink "RuleKeeper" 119 "RuleKeeper$Pattern" "variables" "I" : Cond) ∈ gw := List.mem_filter.mpr ⟨List.mem_append_right _ (List.mem_of_getElem? (i := 77) (by decide +kernel)), rfl⟩
theorem k_78 : (.fieldLink "RuleKeeper$Pattern" 25 "RuleKeeper$Pattern" "numberMask" "I" : Cond) ∈ gw := List.mem_filter.mpr ⟨List.mem_append_right _ (List.mem_of_getElem? (i := 78) (by decide +kernel)), rfl⟩
theorem k_79 : (.fieldLink "RuleKeeper$Column" 37 "RuleKeeper$Pattern" "numberMask" "I" : Cond) ∈ gw := List.mem_filter.mpr ⟨List.mem_append_right _ (List.mem_of_getElem? (i := 79) (by decide +kernel)), rfl⟩
theorem k_80 : (.fieldLink "RuleKeeper$Solver" 81 "RuleKeeper$Pattern" "numberMask" "I" : Cond) ∈ gw := List.mem_filter.mpr ⟨List.mem_append_right _ (List.mem_of_getElem? (i := 80) (by decide +kernel)), rfl⟩
theorem k_81 : (.fieldLink "RuleKeeper$Pattern" 28 "RuleKeeper$Pattern" "numberCode" "I" : Cond) ∈ gw := List.mem_filter.mpr ⟨List.mem_append_right _ (List.mem_of_getElem? (i := 81) (by decide +kernel)), rfl⟩
theorem k_82 : (.fieldLink "RuleKeeper$Column" 44 "RuleKeeper$Pattern" "numberCode" "I" : Cond) ∈ gw := List.mem_filter.mpr ⟨List.mem_append_right _ (List.mem_of_getElem? (i := 82) (by decide +kernel)), rfl⟩
theorem k_83 : (.fieldLink "RuleKeeper$Solver" 88 "RuleKeeper$Pattern" "numberCode" "I" : Cond) ∈ gw := List.mem_filter.mpr ⟨List.mem_append_right _ (List.mem_of_getElem? (i := 83) (by decide +kernel)), rfl⟩
theorem k_84 : (.fieldLink "RuleKeeper$Pattern" 31 "RuleKeeper$Pattern" "sameAB" "Z" : Cond) ∈ gw := List.mem_filter.mpr ⟨List.mem_append_right _ (List.mem_of_getElem? (i := 84) (by decide +kernel)), rfl⟩
theorem k_85 : (.fieldLink "RuleKeeper$Pattern" 35 "RuleKeeper$Pattern" "sameAC" "Z" : Cond) ∈ gw := List.mem_filter.mpr ⟨List.mem_append_right _ (List.mem_of_getElem? (i := 85) (by decide +kernel)), rfl⟩
theorem k_86 : (.fieldLink "RuleKeeper$Pattern" 38 "RuleKeeper$Pattern" "sameBC" "Z" : Cond) ∈ gw := List.mem_filter.mpr ⟨List.mem_append_right _ (List.mem_of_getElem? (i := 86) (by decide +kernel)), rfl⟩
theorem k_87 : (.laysFinal "RuleKeeper$Pattern" "RuleKeeper$Pattern" "bits" "[I" : Cond) ∈ gw := List.mem_filter.mpr ⟨List.mem_append_right _ (List.mem_of_getElem? (i := 87) (by decide +kernel)), rfl⟩
theorem k_89 : (.laysFinal "RuleKeeper$Pattern" "RuleKeeper$Pattern" "slots" "[I" : Cond) ∈ gw := List.mem_filter.mpr ⟨List.mem_append_right _ (List.mem_of_getElem? (i := 89) (by decide +kernel)), rfl⟩
theorem k_91 : (.laysFinal "RuleKeeper$Pattern" "RuleKeeper$Pattern" "variables" "I" : Cond) ∈ gw := List.mem_filter.mpr ⟨List.mem_append_right _ (List.mem_of_getElem? (i := 91) (by decide +kernel)), rfl⟩
theorem k_93 : (.laysFinal "RuleKeeper$Pattern" "RuleKeeper$Pattern" "numberMask" "I" : Cond) ∈ gw := List.mem_filter.mpr ⟨List.mem_append_right _ (List.mem_of_getElem? (i := 93) (by decide +kernel)), rfl⟩
theorem k_95 : (.laysFinal "RuleKeeper$Pattern" "RuleKeeper$Pattern" "numberCode" "I" : Cond) ∈ gw := List.mem_filter.mpr ⟨List.mem_append_right _ (List.mem_of_getElem? (i := 95) (by decide +kernel)), rfl⟩
theorem k_97 : (.laysFinal "RuleKeeper$Pattern" "RuleKeeper$Pattern" "sameAB" "Z" : Cond) ∈ gw := List.mem_filter.mpr ⟨List.mem_append_right _ (List.mem_of_getElem? (i := 97) (by decide +kernel)), rfl⟩
theorem k_99 : (.laysFinal "RuleKeeper$Pattern" "RuleKeeper$Pattern" "sameAC" "Z" : Cond) ∈ gw := List.mem_filter.mpr ⟨List.mem_append_right _ (List.mem_of_getElem? (i := 99) (by decide +kernel)), rfl⟩
theorem k_101 : (.laysFinal "RuleKeeper$Pattern" "RuleKeeper$Pattern" "sameBC" "Z" : Cond) ∈ gw := List.mem_filter.mpr ⟨List.mem_append_right _ (List.mem_of_getElem? (i := 101) (by decide +kernel)), rfl⟩
theorem k_104 : (.fieldLink "RuleKeeper$Column" 9 "RuleKeeper$Column" "parts" "[I" : Cond) ∈ gw := List.mem_filter.mpr ⟨List.mem_append_right _ (List.mem_of_getElem? (i := 104) (by decide +kernel)), rfl⟩
theorem k_105 : (.fieldLink "RuleKeeper$Solver" 115 "RuleKeeper$Column" "parts" "[I" : Cond) ∈ gw := List.mem_filter.mpr ⟨List.mem_append_right _ (List.mem_of_getElem? (i := 105) (by decide +kernel)), rfl⟩
theorem k_106 : (.fieldLink "RuleKeeper$Column" 15 "RuleKeeper$Column" "times" "[I" : Cond) ∈ gw := List.mem_filter.mpr ⟨List.mem_append_right _ (List.mem_of_getElem? (i := 106) (by decide +kernel)), rfl⟩
theorem k_107 : (.fieldLink "RuleKeeper$Solver" 118 "RuleKeeper$Column" "times" "[I" : Cond) ∈ gw := List.mem_filter.mpr ⟨List.mem_append_right _ (List.mem_of_getElem? (i := 107) (by decide +kernel)), rfl⟩
theorem k_108 : (.fieldLink "RuleKeeper$Column" 18 "RuleKeeper$Column" "places" "[I" : Cond) ∈ gw := List.mem_filter.mpr ⟨List.mem_append_right _ (List.mem_of_getElem? (i := 108) (by decide +kernel)), rfl⟩
theorem k_109 : (.fieldLink "RuleKeeper$Column" 26 "RuleKeeper$Column" "source" "LRuleKeeper$Pattern;" : Cond) ∈ gw := List.mem_filter.mpr ⟨List.mem_append_right _ (List.mem_of_getElem? (i := 109) (by decide +kernel)), rfl⟩
theorem k_110 : (.fieldLink "RuleKeeper$Solver" 98 "RuleKeeper$Column" "source" "LRuleKeeper$Pattern;" : Cond) ∈ gw := List.mem_filter.mpr ⟨List.mem_append_right _ (List.mem_of_getElem? (i := 110) (by decide +kernel)), rfl⟩
theorem k_111 : (.fieldLink "RuleKeeper$Column" 30 "RuleKeeper$Column" "kept" "I" : Cond) ∈ gw := List.mem_filter.mpr ⟨List.mem_append_right _ (List.mem_of_getElem? (i := 111) (by decide +kernel)), rfl⟩
theorem k_112 : (.fieldLink "RuleKeeper$Solver" 101 "RuleKeeper$Column" "kept" "I" : Cond) ∈ gw := List.mem_filter.mpr ⟨List.mem_append_right _ (List.mem_of_getElem? (i := 112) (by decide +kernel)), rfl⟩
theorem k_113 : (.fieldLink "RuleKeeper$Column" 34 "RuleKeeper$Column" "count" "I" : Cond) ∈ gw := List.mem_filter.mpr ⟨List.mem_append_right _ (List.mem_of_getElem? (i := 113) (by decide +kernel)), rfl⟩
theorem k_114 : (.fieldLink "RuleKeeper$Solver" 108 "RuleKeeper$Column" "count" "I" : Cond) ∈ gw := List.mem_filter.mpr ⟨List.mem_append_right _ (List.mem_of_getElem? (i := 114) (by decide +kernel)), rfl⟩
theorem k_115 : (.laysFinal "RuleKeeper$Column" "RuleKeeper$Column" "parts" "[I" : Cond) ∈ gw := List.mem_filter.mpr ⟨List.mem_append_right _ (List.mem_of_getElem? (i := 115) (by decide +kernel)), rfl⟩
theorem k_117 : (.laysFinal "RuleKeeper$Column" "RuleKeeper$Column" "times" "[I" : Cond) ∈ gw := List.mem_filter.mpr ⟨List.mem_append_right _ (List.mem_of_getElem? (i := 117) (by decide +kernel)), rfl⟩
theorem k_119 : (.laysFinal "RuleKeeper$Column" "RuleKeeper$Column" "places" "[I" : Cond) ∈ gw := List.mem_filter.mpr ⟨List.mem_append_right _ (List.mem_of_getElem? (i := 119) (by decide +kernel)), rfl⟩
theorem k_121 : (.lays "RuleKeeper$Column" "RuleKeeper$Column" "source" "LRuleKeeper$Pattern;" : Cond) ∈ gw := List.mem_filter.mpr ⟨List.mem_append_right _ (List.mem_of_getElem? (i := 121) (by decide +kernel)), rfl⟩
theorem k_123 : (.lays "RuleKeeper$Column" "RuleKeeper$Column" "kept" "I" : Cond) ∈ gw := List.mem_filter.mpr ⟨List.mem_append_right _ (List.mem_of_getElem? (i := 123) (by decide +kernel)), rfl⟩
theorem k_125 : (.lays "RuleKeeper$Column" "RuleKeeper$Column" "count" "I" : Cond) ∈ gw := List.mem_filter.mpr ⟨List.mem_append_right _ (List.mem_of_getElem? (i := 125) (by decide +kernel)), rfl⟩
theorem k_128 : (.fieldLink "RuleKeeper$Solver" 12 "RuleKeeper$Solver" "held" "LRuleKeeper$Triples;" : Cond) ∈ gw := List.mem_filter.mpr ⟨List.mem_append_right _ (List.mem_of_getElem? (i := 128) (by decide +kernel)), rfl⟩
theorem k_129 : (.fieldLink "RuleKeeper" 16 "RuleKeeper$Solver" "held" "LRuleKeeper$Triples;" : Cond) ∈ gw := List.mem_filter.mpr ⟨List.mem_append_right _ (List.mem_of_getElem? (i := 129) (by decide +kernel)), rfl⟩
theorem k_130 : (.fieldLink "RuleKeeper$Solver" 18 "RuleKeeper$Solver" "values" "[I" : Cond) ∈ gw := List.mem_filter.mpr ⟨List.mem_append_right _ (List.mem_of_getElem? (i := 130) (by decide +kernel)), rfl⟩
theorem k_131 : (.fieldLink "RuleKeeper$Solver" 24 "RuleKeeper$Solver" "columns" "[LRuleKeeper$Column;" : Cond) ∈ gw := List.mem_filter.mpr ⟨List.mem_append_right _ (List.mem_of_getElem? (i := 131) (by decide +kernel)), rfl⟩
theorem k_132 : (.fieldLink "RuleKeeper$Solver" 28 "RuleKeeper$Solver" "columnCount" "I" : Cond) ∈ gw := List.mem_filter.mpr ⟨List.mem_append_right _ (List.mem_of_getElem? (i := 132) (by decide +kernel)), rfl⟩
theorem k_133 : (.laysFinal "RuleKeeper$Solver" "RuleKeeper$Solver" "held" "LRuleKeeper$Triples;" : Cond) ∈ gw := List.mem_filter.mpr ⟨List.mem_append_right _ (List.mem_of_getElem? (i := 133) (by decide +kernel)), rfl⟩
theorem k_135 : (.laysFinal "RuleKeeper$Solver" "RuleKeeper$Solver" "values" "[I" : Cond) ∈ gw := List.mem_filter.mpr ⟨List.mem_append_right _ (List.mem_of_getElem? (i := 135) (by decide +kernel)), rfl⟩
theorem k_137 : (.laysFinal "RuleKeeper$Solver" "RuleKeeper$Solver" "columns" "[LRuleKeeper$Column;" : Cond) ∈ gw := List.mem_filter.mpr ⟨List.mem_append_right _ (List.mem_of_getElem? (i := 137) (by decide +kernel)), rfl⟩
theorem k_139 : (.lays "RuleKeeper$Solver" "RuleKeeper$Solver" "columnCount" "I" : Cond) ∈ gw := List.mem_filter.mpr ⟨List.mem_append_right _ (List.mem_of_getElem? (i := 139) (by decide +kernel)), rfl⟩
theorem k_142 : (.classLink "RuleKeeper" 21 "RuleKeeper$Marks" : Cond) ∈ gw := List.mem_filter.mpr ⟨List.mem_append_right _ (List.mem_of_getElem? (i := 142) (by decide +kernel)), rfl⟩
theorem k_143 : (.methodLink "RuleKeeper" 23 y_Mk_init : Cond) ∈ gw := List.mem_filter.mpr ⟨List.mem_append_right _ (List.mem_of_getElem? (i := 143) (by decide +kernel)), rfl⟩
theorem k_144 : (.classLink "RuleKeeper" 28 "RuleKeeper$Pattern" : Cond) ∈ gw := List.mem_filter.mpr ⟨List.mem_append_right _ (List.mem_of_getElem? (i := 144) (by decide +kernel)), rfl⟩
theorem k_146 : (.classLink "RuleKeeper" 34 "RuleKeeper$Rule" : Cond) ∈ gw := List.mem_filter.mpr ⟨List.mem_append_right _ (List.mem_of_getElem? (i := 146) (by decide +kernel)), rfl⟩
theorem k_148 : (.methodLink "RuleKeeper" 47 y_Pt_init : Cond) ∈ gw := List.mem_filter.mpr ⟨List.mem_append_right _ (List.mem_of_getElem? (i := 148) (by decide +kernel)), rfl⟩
theorem k_149 : (.instantiable "RuleKeeper$Rule" 3 : Cond) ∈ gw := List.mem_filter.mpr ⟨List.mem_append_right _ (List.mem_of_getElem? (i := 149) (by decide +kernel)), rfl⟩
theorem k_150 : (.methodLink "RuleKeeper" 50 y_Ru_init : Cond) ∈ gw := List.mem_filter.mpr ⟨List.mem_append_right _ (List.mem_of_getElem? (i := 150) (by decide +kernel)), rfl⟩
theorem k_151 : (.instanceMethod y_Ru_init : Cond) ∈ gw := List.mem_filter.mpr ⟨List.mem_append_right _ (List.mem_of_getElem? (i := 151) (by decide +kernel)), rfl⟩
theorem k_152 : (.code y_Ru_init b_Ru_init 6 none : Cond) ∈ gw := List.mem_filter.mpr ⟨List.mem_append_right _ (List.mem_of_getElem? (i := 152) (by decide +kernel)), rfl⟩
theorem k_153 : (.methodLink "RuleKeeper$Rule" 1 ⟨"java/lang/Object", "<init>", "()V"⟩ : Cond) ∈ gw := List.mem_filter.mpr ⟨List.mem_append_right _ (List.mem_of_getElem? (i := 153) (by decide +kernel)), rfl⟩
theorem k_154 : (.fieldLink "RuleKeeper$Rule" 7 "RuleKeeper$Rule" "body" "[LRuleKeeper$Pattern;" : Cond) ∈ gw := List.mem_filter.mpr ⟨List.mem_append_right _ (List.mem_of_getElem? (i := 154) (by decide +kernel)), rfl⟩
theorem k_155 : (.fieldLink "RuleKeeper$Solver" 33 "RuleKeeper$Rule" "body" "[LRuleKeeper$Pattern;" : Cond) ∈ gw := List.mem_filter.mpr ⟨List.mem_append_right _ (List.mem_of_getElem? (i := 155) (by decide +kernel)), rfl⟩
theorem k_156 : (.fieldLink "RuleKeeper" 135 "RuleKeeper$Rule" "body" "[LRuleKeeper$Pattern;" : Cond) ∈ gw := List.mem_filter.mpr ⟨List.mem_append_right _ (List.mem_of_getElem? (i := 156) (by decide +kernel)), rfl⟩
theorem k_157 : (.fieldLink "RuleKeeper$Rule" 13 "RuleKeeper$Rule" "head" "LRuleKeeper$Pattern;" : Cond) ∈ gw := List.mem_filter.mpr ⟨List.mem_append_right _ (List.mem_of_getElem? (i := 157) (by decide +kernel)), rfl⟩
theorem k_158 : (.fieldLink "RuleKeeper$Solver" 67 "RuleKeeper$Rule" "head" "LRuleKeeper$Pattern;" : Cond) ∈ gw := List.mem_filter.mpr ⟨List.mem_append_right _ (List.mem_of_getElem? (i := 158) (by decide +kernel)), rfl⟩
theorem k_159 : (.fieldLink "RuleKeeper$Rule" 17 "RuleKeeper$Rule" "shared" "[I" : Cond) ∈ gw := List.mem_filter.mpr ⟨List.mem_append_right _ (List.mem_of_getElem? (i := 159) (by decide +kernel)), rfl⟩
theorem k_160 : (.fieldLink "RuleKeeper$Solver" 48 "RuleKeeper$Rule" "shared" "[I" : Cond) ∈ gw := List.mem_filter.mpr ⟨List.mem_append_right _ (List.mem_of_getElem? (i := 160) (by decide +kernel)), rfl⟩
theorem k_161 : (.laysFinal "RuleKeeper$Rule" "RuleKeeper$Rule" "body" "[LRuleKeeper$Pattern;" : Cond) ∈ gw := List.mem_filter.mpr ⟨List.mem_append_right _ (List.mem_of_getElem? (i := 161) (by decide +kernel)), rfl⟩
theorem k_163 : (.laysFinal "RuleKeeper$Rule" "RuleKeeper$Rule" "head" "LRuleKeeper$Pattern;" : Cond) ∈ gw := List.mem_filter.mpr ⟨List.mem_append_right _ (List.mem_of_getElem? (i := 163) (by decide +kernel)), rfl⟩
theorem k_165 : (.laysFinal "RuleKeeper$Rule" "RuleKeeper$Rule" "shared" "[I" : Cond) ∈ gw := List.mem_filter.mpr ⟨List.mem_append_right _ (List.mem_of_getElem? (i := 165) (by decide +kernel)), rfl⟩
theorem k_168 : (.fieldLink "RuleKeeper" 12 "RuleKeeper" "solver" "LRuleKeeper$Solver;" : Cond) ∈ gw := List.mem_filter.mpr ⟨List.mem_append_right _ (List.mem_of_getElem? (i := 168) (by decide +kernel)), rfl⟩
theorem k_169 : (.fieldLink "RuleKeeper" 20 "RuleKeeper" "held" "LRuleKeeper$Triples;" : Cond) ∈ gw := List.mem_filter.mpr ⟨List.mem_append_right _ (List.mem_of_getElem? (i := 169) (by decide +kernel)), rfl⟩
theorem k_170 : (.fieldLink "RuleKeeper" 24 "RuleKeeper" "said" "LRuleKeeper$Marks;" : Cond) ∈ gw := List.mem_filter.mpr ⟨List.mem_append_right _ (List.mem_of_getElem? (i := 170) (by decide +kernel)), rfl⟩
theorem k_171 : (.fieldLink "RuleKeeper" 36 "RuleKeeper" "made" "[LRuleKeeper$Rule;" : Cond) ∈ gw := List.mem_filter.mpr ⟨List.mem_append_right _ (List.mem_of_getElem? (i := 171) (by decide +kernel)), rfl⟩
theorem k_172 : (.fieldLink "RuleKeeper" 30 "RuleKeeper" "draft" "[LRuleKeeper$Pattern;" : Cond) ∈ gw := List.mem_filter.mpr ⟨List.mem_append_right _ (List.mem_of_getElem? (i := 172) (by decide +kernel)), rfl⟩
theorem k_173 : (.fieldLink "RuleKeeper" 40 "RuleKeeper" "madeCount" "I" : Cond) ∈ gw := List.mem_filter.mpr ⟨List.mem_append_right _ (List.mem_of_getElem? (i := 173) (by decide +kernel)), rfl⟩
theorem k_174 : (.fieldLink "RuleKeeper" 44 "RuleKeeper" "draftCount" "I" : Cond) ∈ gw := List.mem_filter.mpr ⟨List.mem_append_right _ (List.mem_of_getElem? (i := 174) (by decide +kernel)), rfl⟩
theorem k_175 : (.laysFinal "RuleKeeper" "RuleKeeper" "solver" "LRuleKeeper$Solver;" : Cond) ∈ gw := List.mem_filter.mpr ⟨List.mem_append_right _ (List.mem_of_getElem? (i := 175) (by decide +kernel)), rfl⟩
theorem k_177 : (.laysFinal "RuleKeeper" "RuleKeeper" "held" "LRuleKeeper$Triples;" : Cond) ∈ gw := List.mem_filter.mpr ⟨List.mem_append_right _ (List.mem_of_getElem? (i := 177) (by decide +kernel)), rfl⟩
theorem k_179 : (.laysFinal "RuleKeeper" "RuleKeeper" "said" "LRuleKeeper$Marks;" : Cond) ∈ gw := List.mem_filter.mpr ⟨List.mem_append_right _ (List.mem_of_getElem? (i := 179) (by decide +kernel)), rfl⟩
theorem k_181 : (.laysFinal "RuleKeeper" "RuleKeeper" "made" "[LRuleKeeper$Rule;" : Cond) ∈ gw := List.mem_filter.mpr ⟨List.mem_append_right _ (List.mem_of_getElem? (i := 181) (by decide +kernel)), rfl⟩
theorem k_183 : (.laysFinal "RuleKeeper" "RuleKeeper" "draft" "[LRuleKeeper$Pattern;" : Cond) ∈ gw := List.mem_filter.mpr ⟨List.mem_append_right _ (List.mem_of_getElem? (i := 183) (by decide +kernel)), rfl⟩
theorem k_185 : (.lays "RuleKeeper" "RuleKeeper" "madeCount" "I" : Cond) ∈ gw := List.mem_filter.mpr ⟨List.mem_append_right _ (List.mem_of_getElem? (i := 185) (by decide +kernel)), rfl⟩
theorem k_187 : (.lays "RuleKeeper" "RuleKeeper" "draftCount" "I" : Cond) ∈ gw := List.mem_filter.mpr ⟨List.mem_append_right _ (List.mem_of_getElem? (i := 187) (by decide +kernel)), rfl⟩
theorem k_190 : (.methodLink "RuleKeeperLaw" 13 y_Kp_say : Cond) ∈ gw := List.mem_filter.mpr ⟨List.mem_append_right _ (List.mem_of_getElem? (i := 190) (by decide +kernel)), rfl⟩
theorem k_191 : (.instanceMethod y_Kp_say : Cond) ∈ gw := List.mem_filter.mpr ⟨List.mem_append_right _ (List.mem_of_getElem? (i := 191) (by decide +kernel)), rfl⟩
theorem k_192 : (.selects "RuleKeeper" y_Kp_say y_Kp_say : Cond) ∈ gw := List.mem_filter.mpr ⟨List.mem_append_right _ (List.mem_of_getElem? (i := 192) (by decide +kernel)), rfl⟩
theorem k_193 : (.code y_Kp_say b_Kp_say 5 (some .int) : Cond) ∈ gw := List.mem_filter.mpr ⟨List.mem_append_right _ (List.mem_of_getElem? (i := 193) (by decide +kernel)), rfl⟩
theorem k_194 : (.methodLink "RuleKeeper" 53 y_Kp_isTriple : Cond) ∈ gw := List.mem_filter.mpr ⟨List.mem_append_right _ (List.mem_of_getElem? (i := 194) (by decide +kernel)), rfl⟩
theorem k_195 : (.static y_Kp_isTriple : Cond) ∈ gw := List.mem_filter.mpr ⟨List.mem_append_right _ (List.mem_of_getElem? (i := 195) (by decide +kernel)), rfl⟩
theorem k_196 : (.code y_Kp_isTriple b_Kp_isTriple 3 (some .boolean) : Cond) ∈ gw := List.mem_filter.mpr ⟨List.mem_append_right _ (List.mem_of_getElem? (i := 196) (by decide +kernel)), rfl⟩
theorem k_197 : (.methodLink "RuleKeeper" 113 y_Kp_isNumber : Cond) ∈ gw := List.mem_filter.mpr ⟨List.mem_append_right _ (List.mem_of_getElem? (i := 197) (by decide +kernel)), rfl⟩
theorem k_198 : (.static y_Kp_isNumber : Cond) ∈ gw := List.mem_filter.mpr ⟨List.mem_append_right _ (List.mem_of_getElem? (i := 198) (by decide +kernel)), rfl⟩
theorem k_199 : (.code y_Kp_isNumber b_Kp_isNumber 1 (some .boolean) : Cond) ∈ gw := List.mem_filter.mpr ⟨List.mem_append_right _ (List.mem_of_getElem? (i := 199) (by decide +kernel)), rfl⟩
theorem k_200 : (.methodLink "RuleKeeper" 57 y_Kp_codeOf : Cond) ∈ gw := List.mem_filter.mpr ⟨List.mem_append_right _ (List.mem_of_getElem? (i := 200) (by decide +kernel)), rfl⟩
theorem k_201 : (.static y_Kp_codeOf : Cond) ∈ gw := List.mem_filter.mpr ⟨List.mem_append_right _ (List.mem_of_getElem? (i := 201) (by decide +kernel)), rfl⟩
theorem k_202 : (.code y_Kp_codeOf b_Kp_codeOf 3 (some .int) : Cond) ∈ gw := List.mem_filter.mpr ⟨List.mem_append_right _ (List.mem_of_getElem? (i := 202) (by decide +kernel)), rfl⟩
theorem k_203 : (.methodLink "RuleKeeper" 61 y_Mk_has : Cond) ∈ gw := List.mem_filter.mpr ⟨List.mem_append_right _ (List.mem_of_getElem? (i := 203) (by decide +kernel)), rfl⟩
theorem k_204 : (.instanceMethod y_Mk_has : Cond) ∈ gw := List.mem_filter.mpr ⟨List.mem_append_right _ (List.mem_of_getElem? (i := 204) (by decide +kernel)), rfl⟩
theorem k_205 : (.selects "RuleKeeper$Marks" y_Mk_has y_Mk_has : Cond) ∈ gw := List.mem_filter.mpr ⟨List.mem_append_right _ (List.mem_of_getElem? (i := 205) (by decide +kernel)), rfl⟩
theorem k_206 : (.code y_Mk_has b_Mk_has 2 (some .boolean) : Cond) ∈ gw := List.mem_filter.mpr ⟨List.mem_append_right _ (List.mem_of_getElem? (i := 206) (by decide +kernel)), rfl⟩
theorem k_207 : (.methodLink "RuleKeeper" 65 y_Tr_has : Cond) ∈ gw := List.mem_filter.mpr ⟨List.mem_append_right _ (List.mem_of_getElem? (i := 207) (by decide +kernel)), rfl⟩
theorem k_208 : (.instanceMethod y_Tr_has : Cond) ∈ gw := List.mem_filter.mpr ⟨List.mem_append_right _ (List.mem_of_getElem? (i := 208) (by decide +kernel)), rfl⟩
theorem k_209 : (.selects "RuleKeeper$Triples" y_Tr_has y_Tr_has : Cond) ∈ gw := List.mem_filter.mpr ⟨List.mem_append_right _ (List.mem_of_getElem? (i := 209) (by decide +kernel)), rfl⟩
theorem k_210 : (.code y_Tr_has b_Tr_has 2 (some .boolean) : Cond) ∈ gw := List.mem_filter.mpr ⟨List.mem_append_right _ (List.mem_of_getElem? (i := 210) (by decide +kernel)), rfl⟩
theorem k_211 : (.methodLink "RuleKeeper$Triples" 26 y_Mk_has : Cond) ∈ gw := List.mem_filter.mpr ⟨List.mem_append_right _ (List.mem_of_getElem? (i := 211) (by decide +kernel)), rfl⟩
theorem k_212 : (.methodLink "RuleKeeper" 68 y_Kp_hold : Cond) ∈ gw := List.mem_filter.mpr ⟨List.mem_append_right _ (List.mem_of_getElem? (i := 212) (by decide +kernel)), rfl⟩
theorem k_214 : (.instanceMethod y_Kp_hold : Cond) ∈ gw := List.mem_filter.mpr ⟨List.mem_append_right _ (List.mem_of_getElem? (i := 214) (by decide +kernel)), rfl⟩
theorem k_215 : (.code y_Kp_hold b_Kp_hold 3 (some .boolean) : Cond) ∈ gw := List.mem_filter.mpr ⟨List.mem_append_right _ (List.mem_of_getElem? (i := 215) (by decide +kernel)), rfl⟩
theorem k_216 : (.methodLink "RuleKeeper" 128 y_Tr_add : Cond) ∈ gw := List.mem_filter.mpr ⟨List.mem_append_right _ (List.mem_of_getElem? (i := 216) (by decide +kernel)), rfl⟩
theorem k_217 : (.instanceMethod y_Tr_add : Cond) ∈ gw := List.mem_filter.mpr ⟨List.mem_append_right _ (List.mem_of_getElem? (i := 217) (by decide +kernel)), rfl⟩
theorem k_218 : (.selects "RuleKeeper$Triples" y_Tr_add y_Tr_add : Cond) ∈ gw := List.mem_filter.mpr ⟨List.mem_append_right _ (List.mem_of_getElem? (i := 218) (by decide +kernel)), rfl⟩
theorem k_219 : (.code y_Tr_add b_Tr_add 2 (some .boolean) : Cond) ∈ gw := List.mem_filter.mpr ⟨List.mem_append_right _ (List.mem_of_getElem? (i := 219) (by decide +kernel)), rfl⟩
theorem k_220 : (.methodLink "RuleKeeper$Triples" 30 y_Mk_put : Cond) ∈ gw := List.mem_filter.mpr ⟨List.mem_append_right _ (List.mem_of_getElem? (i := 220) (by decide +kernel)), rfl⟩
theorem k_221 : (.instanceMethod y_Mk_put : Cond) ∈ gw := List.mem_filter.mpr ⟨List.mem_append_right _ (List.mem_of_getElem? (i := 221) (by decide +kernel)), rfl⟩
theorem k_222 : (.selects "RuleKeeper$Marks" y_Mk_put y_Mk_put : Cond) ∈ gw := List.mem_filter.mpr ⟨List.mem_append_right _ (List.mem_of_getElem? (i := 222) (by decide +kernel)), rfl⟩
theorem k_223 : (.code y_Mk_put b_Mk_put 2 none : Cond) ∈ gw := List.mem_filter.mpr ⟨List.mem_append_right _ (List.mem_of_getElem? (i := 223) (by decide +kernel)), rfl⟩
theorem k_224 : (.methodLink "RuleKeeper" 95 y_Kp_follow : Cond) ∈ gw := List.mem_filter.mpr ⟨List.mem_append_right _ (List.mem_of_getElem? (i := 224) (by decide +kernel)), rfl⟩
theorem k_226 : (.instanceMethod y_Kp_follow : Cond) ∈ gw := List.mem_filter.mpr ⟨List.mem_append_right _ (List.mem_of_getElem? (i := 226) (by decide +kernel)), rfl⟩
theorem k_227 : (.code y_Kp_follow b_Kp_follow 8 (some .boolean) : Cond) ∈ gw := List.mem_filter.mpr ⟨List.mem_append_right _ (List.mem_of_getElem? (i := 227) (by decide +kernel)), rfl⟩
theorem k_228 : (.methodLink "RuleKeeper" 122 ⟨"java/lang/Math", "max", "(II)I"⟩ : Cond) ∈ gw := List.mem_filter.mpr ⟨List.mem_append_right _ (List.mem_of_getElem? (i := 228) (by decide +kernel)), rfl⟩
theorem k_229 : (.static ⟨"java/lang/Math", "max", "(II)I"⟩ : Cond) ∈ gw := List.mem_filter.mpr ⟨List.mem_append_right _ (List.mem_of_getElem? (i := 229) (by decide +kernel)), rfl⟩
theorem k_230 : (.code Lib.Math.max.name Lib.Math.max.code 2 (some .int) : Cond) ∈ gw := List.mem_filter.mpr ⟨List.mem_append_right _ (List.mem_of_getElem? (i := 230) (by decide +kernel)), rfl⟩
theorem k_231 : (.methodLink "RuleKeeper" 138 y_Sv_derive : Cond) ∈ gw := List.mem_filter.mpr ⟨List.mem_append_right _ (List.mem_of_getElem? (i := 231) (by decide +kernel)), rfl⟩
theorem k_232 : (.instanceMethod y_Sv_derive : Cond) ∈ gw := List.mem_filter.mpr ⟨List.mem_append_right _ (List.mem_of_getElem? (i := 232) (by decide +kernel)), rfl⟩
theorem k_233 : (.selects "RuleKeeper$Solver" y_Sv_derive y_Sv_derive : Cond) ∈ gw := List.mem_filter.mpr ⟨List.mem_append_right _ (List.mem_of_getElem? (i := 233) (by decide +kernel)), rfl⟩
theorem k_234 : (.code y_Sv_derive b_Sv_derive 7 (some .boolean) : Cond) ∈ gw := List.mem_filter.mpr ⟨List.mem_append_right _ (List.mem_of_getElem? (i := 234) (by decide +kernel)), rfl⟩
theorem k_235 : (.methodLink "RuleKeeper$Solver" 42 y_Pt_fits : Cond) ∈ gw := List.mem_filter.mpr ⟨List.mem_append_right _ (List.mem_of_getElem? (i := 235) (by decide +kernel)), rfl⟩
theorem k_236 : (.instanceMethod y_Pt_fits : Cond) ∈ gw := List.mem_filter.mpr ⟨List.mem_append_right _ (List.mem_of_getElem? (i := 236) (by decide +kernel)), rfl⟩
theorem k_237 : (.selects "RuleKeeper$Pattern" y_Pt_fits y_Pt_fits : Cond) ∈ gw := List.mem_filter.mpr ⟨List.mem_append_right _ (List.mem_of_getElem? (i := 237) (by decide +kernel)), rfl⟩
theorem k_238 : (.code y_Pt_fits b_Pt_fits 2 (some .boolean) : Cond) ∈ gw := List.mem_filter.mpr ⟨List.mem_append_right _ (List.mem_of_getElem? (i := 238) (by decide +kernel)), rfl⟩
theorem k_239 : (.methodLink "RuleKeeper$Pattern" 41 y_Pt_agrees : Cond) ∈ gw := List.mem_filter.mpr ⟨List.mem_append_right _ (List.mem_of_getElem? (i := 239) (by decide +kernel)), rfl⟩
theorem k_240 : (.instanceMethod y_Pt_agrees : Cond) ∈ gw := List.mem_filter.mpr ⟨List.mem_append_right _ (List.mem_of_getElem? (i := 240) (by decide +kernel)), rfl⟩
theorem k_241 : (.selects "RuleKeeper$Pattern" y_Pt_agrees y_Pt_agrees : Cond) ∈ gw := List.mem_filter.mpr ⟨List.mem_append_right _ (List.mem_of_getElem? (i := 241) (by decide +kernel)), rfl⟩
theorem k_242 : (.code y_Pt_agrees b_Pt_agrees 5 (some .boolean) : Cond) ∈ gw := List.mem_filter.mpr ⟨List.mem_append_right _ (List.mem_of_getElem? (i := 242) (by decide +kernel)), rfl⟩
theorem k_243 : (.methodLink "RuleKeeper$Solver" 51 y_Pt_bind : Cond) ∈ gw := List.mem_filter.mpr ⟨List.mem_append_right _ (List.mem_of_getElem? (i := 243) (by decide +kernel)), rfl⟩
theorem k_244 : (.instanceMethod y_Pt_bind : Cond) ∈ gw := List.mem_filter.mpr ⟨List.mem_append_right _ (List.mem_of_getElem? (i := 244) (by decide +kernel)), rfl⟩
theorem k_245 : (.selects "RuleKeeper$Pattern" y_Pt_bind y_Pt_bind : Cond) ∈ gw := List.mem_filter.mpr ⟨List.mem_append_right _ (List.mem_of_getElem? (i := 245) (by decide +kernel)), rfl⟩
theorem k_246 : (.code y_Pt_bind b_Pt_bind 5 none : Cond) ∈ gw := List.mem_filter.mpr ⟨List.mem_append_right _ (List.mem_of_getElem? (i := 246) (by decide +kernel)), rfl⟩
theorem k_247 : (.methodLink "RuleKeeper$Solver" 55 y_Sv_isMatchedBefore : Cond) ∈ gw := List.mem_filter.mpr ⟨List.mem_append_right _ (List.mem_of_getElem? (i := 247) (by decide +kernel)), rfl⟩
theorem k_249 : (.instanceMethod y_Sv_isMatchedBefore : Cond) ∈ gw := List.mem_filter.mpr ⟨List.mem_append_right _ (List.mem_of_getElem? (i := 249) (by decide +kernel)), rfl⟩
theorem k_250 : (.code y_Sv_isMatchedBefore b_Sv_isMatchedBefore 8 (some .boolean) : Cond) ∈ gw := List.mem_filter.mpr ⟨List.mem_append_right _ (List.mem_of_getElem? (i := 250) (by decide +kernel)), rfl⟩
theorem k_251 : (.methodLink "RuleKeeper$Solver" 84 y_Pt_maskOf : Cond) ∈ gw := List.mem_filter.mpr ⟨List.mem_append_right _ (List.mem_of_getElem? (i := 251) (by decide +kernel)), rfl⟩
theorem k_252 : (.instanceMethod y_Pt_maskOf : Cond) ∈ gw := List.mem_filter.mpr ⟨List.mem_append_right _ (List.mem_of_getElem? (i := 252) (by decide +kernel)), rfl⟩
theorem k_253 : (.selects "RuleKeeper$Pattern" y_Pt_maskOf y_Pt_maskOf : Cond) ∈ gw := List.mem_filter.mpr ⟨List.mem_append_right _ (List.mem_of_getElem? (i := 253) (by decide +kernel)), rfl⟩
theorem k_254 : (.code y_Pt_maskOf b_Pt_maskOf 4 (some .int) : Cond) ∈ gw := List.mem_filter.mpr ⟨List.mem_append_right _ (List.mem_of_getElem? (i := 254) (by decide +kernel)), rfl⟩
theorem k_255 : (.methodLink "RuleKeeper$Solver" 91 y_Pt_filled : Cond) ∈ gw := List.mem_filter.mpr ⟨List.mem_append_right _ (List.mem_of_getElem? (i := 255) (by decide +kernel)), rfl⟩
theorem k_256 : (.instanceMethod y_Pt_filled : Cond) ∈ gw := List.mem_filter.mpr ⟨List.mem_append_right _ (List.mem_of_getElem? (i := 256) (by decide +kernel)), rfl⟩
theorem k_257 : (.selects "RuleKeeper$Pattern" y_Pt_filled y_Pt_filled : Cond) ∈ gw := List.mem_filter.mpr ⟨List.mem_append_right _ (List.mem_of_getElem? (i := 257) (by decide +kernel)), rfl⟩
theorem k_258 : (.code y_Pt_filled b_Pt_filled 5 (some .int) : Cond) ∈ gw := List.mem_filter.mpr ⟨List.mem_append_right _ (List.mem_of_getElem? (i := 258) (by decide +kernel)), rfl⟩
theorem k_259 : (.methodLink "RuleKeeper$Solver" 95 y_Pt_agrees : Cond) ∈ gw := List.mem_filter.mpr ⟨List.mem_append_right _ (List.mem_of_getElem? (i := 259) (by decide +kernel)), rfl⟩
theorem k_260 : (.methodLink "RuleKeeper$Solver" 59 y_Sv_fillColumns : Cond) ∈ gw := List.mem_filter.mpr ⟨List.mem_append_right _ (List.mem_of_getElem? (i := 260) (by decide +kernel)), rfl⟩
theorem k_262 : (.instanceMethod y_Sv_fillColumns : Cond) ∈ gw := List.mem_filter.mpr ⟨List.mem_append_right _ (List.mem_of_getElem? (i := 262) (by decide +kernel)), rfl⟩
theorem k_263 : (.code y_Sv_fillColumns b_Sv_fillColumns 7 (some .boolean) : Cond) ∈ gw := List.mem_filter.mpr ⟨List.mem_append_right _ (List.mem_of_getElem? (i := 263) (by decide +kernel)), rfl⟩
theorem k_264 : (.methodLink "RuleKeeper$Solver" 104 y_Co_fill : Cond) ∈ gw := List.mem_filter.mpr ⟨List.mem_append_right _ (List.mem_of_getElem? (i := 264) (by decide +kernel)), rfl⟩
theorem k_265 : (.instanceMethod y_Co_fill : Cond) ∈ gw := List.mem_filter.mpr ⟨List.mem_append_right _ (List.mem_of_getElem? (i := 265) (by decide +kernel)), rfl⟩
theorem k_266 : (.selects "RuleKeeper$Column" y_Co_fill y_Co_fill : Cond) ∈ gw := List.mem_filter.mpr ⟨List.mem_append_right _ (List.mem_of_getElem? (i := 266) (by decide +kernel)), rfl⟩
theorem k_267 : (.code y_Co_fill b_Co_fill 10 none : Cond) ∈ gw := List.mem_filter.mpr ⟨List.mem_append_right _ (List.mem_of_getElem? (i := 267) (by decide +kernel)), rfl⟩
theorem k_268 : (.methodLink "RuleKeeper$Column" 40 y_Pt_maskOf : Cond) ∈ gw := List.mem_filter.mpr ⟨List.mem_append_right _ (List.mem_of_getElem? (i := 268) (by decide +kernel)), rfl⟩
theorem k_269 : (.methodLink "RuleKeeper$Column" 47 y_Pt_filled : Cond) ∈ gw := List.mem_filter.mpr ⟨List.mem_append_right _ (List.mem_of_getElem? (i := 269) (by decide +kernel)), rfl⟩
theorem k_270 : (.methodLink "RuleKeeper$Column" 57 y_Pt_agrees : Cond) ∈ gw := List.mem_filter.mpr ⟨List.mem_append_right _ (List.mem_of_getElem? (i := 270) (by decide +kernel)), rfl⟩
theorem k_271 : (.methodLink "RuleKeeper$Column" 61 y_Co_placeOf : Cond) ∈ gw := List.mem_filter.mpr ⟨List.mem_append_right _ (List.mem_of_getElem? (i := 271) (by decide +kernel)), rfl⟩
theorem k_272 : (.static y_Co_placeOf : Cond) ∈ gw := List.mem_filter.mpr ⟨List.mem_append_right _ (List.mem_of_getElem? (i := 272) (by decide +kernel)), rfl⟩
theorem k_273 : (.code y_Co_placeOf b_Co_placeOf 4 (some .int) : Cond) ∈ gw := List.mem_filter.mpr ⟨List.mem_append_right _ (List.mem_of_getElem? (i := 273) (by decide +kernel)), rfl⟩
theorem k_274 : (.methodLink "RuleKeeper$Column" 65 y_Co_take : Cond) ∈ gw := List.mem_filter.mpr ⟨List.mem_append_right _ (List.mem_of_getElem? (i := 274) (by decide +kernel)), rfl⟩
theorem k_276 : (.instanceMethod y_Co_take : Cond) ∈ gw := List.mem_filter.mpr ⟨List.mem_append_right _ (List.mem_of_getElem? (i := 276) (by decide +kernel)), rfl⟩
theorem k_277 : (.code y_Co_take b_Co_take 5 none : Cond) ∈ gw := List.mem_filter.mpr ⟨List.mem_append_right _ (List.mem_of_getElem? (i := 277) (by decide +kernel)), rfl⟩
theorem k_278 : (.methodLink "RuleKeeper$Solver" 63 y_Sv_addJoined : Cond) ∈ gw := List.mem_filter.mpr ⟨List.mem_append_right _ (List.mem_of_getElem? (i := 278) (by decide +kernel)), rfl⟩
theorem k_279 : (.static y_Sv_addJoined : Cond) ∈ gw := List.mem_filter.mpr ⟨List.mem_append_right _ (List.mem_of_getElem? (i := 279) (by decide +kernel)), rfl⟩
theorem k_280 : (.code y_Sv_addJoined b_Sv_addJoined 10 (some .boolean) : Cond) ∈ gw := List.mem_filter.mpr ⟨List.mem_append_right _ (List.mem_of_getElem? (i := 280) (by decide +kernel)), rfl⟩
theorem k_281 : (.methodLink "RuleKeeper$Solver" 109 y_Tr_has : Cond) ∈ gw := List.mem_filter.mpr ⟨List.mem_append_right _ (List.mem_of_getElem? (i := 281) (by decide +kernel)), rfl⟩
theorem k_282 : (.methodLink "RuleKeeper$Solver" 112 y_Tr_add : Cond) ∈ gw := List.mem_filter.mpr ⟨List.mem_append_right _ (List.mem_of_getElem? (i := 282) (by decide +kernel)), rfl⟩
theorem k_283 : (.methodLink "RuleKeeper" 99 y_Tr_cutTo : Cond) ∈ gw := List.mem_filter.mpr ⟨List.mem_append_right _ (List.mem_of_getElem? (i := 283) (by decide +kernel)), rfl⟩
theorem k_284 : (.instanceMethod y_Tr_cutTo : Cond) ∈ gw := List.mem_filter.mpr ⟨List.mem_append_right _ (List.mem_of_getElem? (i := 284) (by decide +kernel)), rfl⟩
theorem k_285 : (.selects "RuleKeeper$Triples" y_Tr_cutTo y_Tr_cutTo : Cond) ∈ gw := List.mem_filter.mpr ⟨List.mem_append_right _ (List.mem_of_getElem? (i := 285) (by decide +kernel)), rfl⟩
theorem k_286 : (.code y_Tr_cutTo b_Tr_cutTo 3 none : Cond) ∈ gw := List.mem_filter.mpr ⟨List.mem_append_right _ (List.mem_of_getElem? (i := 286) (by decide +kernel)), rfl⟩
theorem k_287 : (.methodLink "RuleKeeper$Triples" 34 ⟨"java/lang/Math", "max", "(II)I"⟩ : Cond) ∈ gw := List.mem_filter.mpr ⟨List.mem_append_right _ (List.mem_of_getElem? (i := 287) (by decide +kernel)), rfl⟩
theorem k_288 : (.methodLink "RuleKeeper$Triples" 40 y_Mk_drop : Cond) ∈ gw := List.mem_filter.mpr ⟨List.mem_append_right _ (List.mem_of_getElem? (i := 288) (by decide +kernel)), rfl⟩
theorem k_289 : (.instanceMethod y_Mk_drop : Cond) ∈ gw := List.mem_filter.mpr ⟨List.mem_append_right _ (List.mem_of_getElem? (i := 289) (by decide +kernel)), rfl⟩
theorem k_290 : (.selects "RuleKeeper$Marks" y_Mk_drop y_Mk_drop : Cond) ∈ gw := List.mem_filter.mpr ⟨List.mem_append_right _ (List.mem_of_getElem? (i := 290) (by decide +kernel)), rfl⟩
theorem k_291 : (.code y_Mk_drop b_Mk_drop 2 none : Cond) ∈ gw := List.mem_filter.mpr ⟨List.mem_append_right _ (List.mem_of_getElem? (i := 291) (by decide +kernel)), rfl⟩
theorem k_292 : (.methodLink "RuleKeeper$Triples" 43 ⟨"java/lang/Math", "min", "(II)I"⟩ : Cond) ∈ gw := List.mem_filter.mpr ⟨List.mem_append_right _ (List.mem_of_getElem? (i := 292) (by decide +kernel)), rfl⟩
theorem k_293 : (.static ⟨"java/lang/Math", "min", "(II)I"⟩ : Cond) ∈ gw := List.mem_filter.mpr ⟨List.mem_append_right _ (List.mem_of_getElem? (i := 293) (by decide +kernel)), rfl⟩
theorem k_294 : (.code Lib.Math.min.name Lib.Math.min.code 2 (some .int) : Cond) ∈ gw := List.mem_filter.mpr ⟨List.mem_append_right _ (List.mem_of_getElem? (i := 294) (by decide +kernel)), rfl⟩
theorem k_295 : (.methodLink "RuleKeeper" 71 y_Mk_put : Cond) ∈ gw := List.mem_filter.mpr ⟨List.mem_append_right _ (List.mem_of_getElem? (i := 295) (by decide +kernel)), rfl⟩
theorem k_296 : (.methodLink "RuleKeeperLaw" 18 y_Kp_unsay : Cond) ∈ gw := List.mem_filter.mpr ⟨List.mem_append_right _ (List.mem_of_getElem? (i := 296) (by decide +kernel)), rfl⟩
theorem k_297 : (.instanceMethod y_Kp_unsay : Cond) ∈ gw := List.mem_filter.mpr ⟨List.mem_append_right _ (List.mem_of_getElem? (i := 297) (by decide +kernel)), rfl⟩
theorem k_298 : (.selects "RuleKeeper" y_Kp_unsay y_Kp_unsay : Cond) ∈ gw := List.mem_filter.mpr ⟨List.mem_append_right _ (List.mem_of_getElem? (i := 298) (by decide +kernel)), rfl⟩
theorem k_299 : (.code y_Kp_unsay b_Kp_unsay 5 (some .int) : Cond) ∈ gw := List.mem_filter.mpr ⟨List.mem_append_right _ (List.mem_of_getElem? (i := 299) (by decide +kernel)), rfl⟩
theorem k_300 : (.methodLink "RuleKeeper" 75 y_Mk_drop : Cond) ∈ gw := List.mem_filter.mpr ⟨List.mem_append_right _ (List.mem_of_getElem? (i := 300) (by decide +kernel)), rfl⟩
theorem k_301 : (.methodLink "RuleKeeper" 78 y_Kp_holdAnew : Cond) ∈ gw := List.mem_filter.mpr ⟨List.mem_append_right _ (List.mem_of_getElem? (i := 301) (by decide +kernel)), rfl⟩
theorem k_303 : (.instanceMethod y_Kp_holdAnew : Cond) ∈ gw := List.mem_filter.mpr ⟨List.mem_append_right _ (List.mem_of_getElem? (i := 303) (by decide +kernel)), rfl⟩
theorem k_304 : (.code y_Kp_holdAnew b_Kp_holdAnew 1 none : Cond) ∈ gw := List.mem_filter.mpr ⟨List.mem_append_right _ (List.mem_of_getElem? (i := 304) (by decide +kernel)), rfl⟩
theorem k_305 : (.methodLink "RuleKeeper" 131 y_Tr_keepThose : Cond) ∈ gw := List.mem_filter.mpr ⟨List.mem_append_right _ (List.mem_of_getElem? (i := 305) (by decide +kernel)), rfl⟩
theorem k_306 : (.instanceMethod y_Tr_keepThose : Cond) ∈ gw := List.mem_filter.mpr ⟨List.mem_append_right _ (List.mem_of_getElem? (i := 306) (by decide +kernel)), rfl⟩
theorem k_307 : (.selects "RuleKeeper$Triples" y_Tr_keepThose y_Tr_keepThose : Cond) ∈ gw := List.mem_filter.mpr ⟨List.mem_append_right _ (List.mem_of_getElem? (i := 307) (by decide +kernel)), rfl⟩
theorem k_308 : (.code y_Tr_keepThose b_Tr_keepThose 4 none : Cond) ∈ gw := List.mem_filter.mpr ⟨List.mem_append_right _ (List.mem_of_getElem? (i := 308) (by decide +kernel)), rfl⟩
theorem k_309 : (.methodLink "RuleKeeperLaw" 22 y_Kp_pattern : Cond) ∈ gw := List.mem_filter.mpr ⟨List.mem_append_right _ (List.mem_of_getElem? (i := 309) (by decide +kernel)), rfl⟩
theorem k_310 : (.instanceMethod y_Kp_pattern : Cond) ∈ gw := List.mem_filter.mpr ⟨List.mem_append_right _ (List.mem_of_getElem? (i := 310) (by decide +kernel)), rfl⟩
theorem k_311 : (.selects "RuleKeeper" y_Kp_pattern y_Kp_pattern : Cond) ∈ gw := List.mem_filter.mpr ⟨List.mem_append_right _ (List.mem_of_getElem? (i := 311) (by decide +kernel)), rfl⟩
theorem k_312 : (.code y_Kp_pattern b_Kp_pattern 4 (some .int) : Cond) ∈ gw := List.mem_filter.mpr ⟨List.mem_append_right _ (List.mem_of_getElem? (i := 312) (by decide +kernel)), rfl⟩
theorem k_313 : (.methodLink "RuleKeeper" 81 y_Kp_isPattern : Cond) ∈ gw := List.mem_filter.mpr ⟨List.mem_append_right _ (List.mem_of_getElem? (i := 313) (by decide +kernel)), rfl⟩
theorem k_314 : (.static y_Kp_isPattern : Cond) ∈ gw := List.mem_filter.mpr ⟨List.mem_append_right _ (List.mem_of_getElem? (i := 314) (by decide +kernel)), rfl⟩
theorem k_315 : (.code y_Kp_isPattern b_Kp_isPattern 3 (some .boolean) : Cond) ∈ gw := List.mem_filter.mpr ⟨List.mem_append_right _ (List.mem_of_getElem? (i := 315) (by decide +kernel)), rfl⟩
theorem k_316 : (.methodLink "RuleKeeper" 116 y_Kp_isItem : Cond) ∈ gw := List.mem_filter.mpr ⟨List.mem_append_right _ (List.mem_of_getElem? (i := 316) (by decide +kernel)), rfl⟩
theorem k_317 : (.static y_Kp_isItem : Cond) ∈ gw := List.mem_filter.mpr ⟨List.mem_append_right _ (List.mem_of_getElem? (i := 317) (by decide +kernel)), rfl⟩
theorem k_318 : (.code y_Kp_isItem b_Kp_isItem 1 (some .boolean) : Cond) ∈ gw := List.mem_filter.mpr ⟨List.mem_append_right _ (List.mem_of_getElem? (i := 318) (by decide +kernel)), rfl⟩
theorem k_319 : (.methodLink "RuleKeeperLaw" 26 y_Kp_rule : Cond) ∈ gw := List.mem_filter.mpr ⟨List.mem_append_right _ (List.mem_of_getElem? (i := 319) (by decide +kernel)), rfl⟩
theorem k_320 : (.instanceMethod y_Kp_rule : Cond) ∈ gw := List.mem_filter.mpr ⟨List.mem_append_right _ (List.mem_of_getElem? (i := 320) (by decide +kernel)), rfl⟩
theorem k_321 : (.selects "RuleKeeper" y_Kp_rule y_Kp_rule : Cond) ∈ gw := List.mem_filter.mpr ⟨List.mem_append_right _ (List.mem_of_getElem? (i := 321) (by decide +kernel)), rfl⟩
theorem k_322 : (.code y_Kp_rule b_Kp_rule 2 (some .int) : Cond) ∈ gw := List.mem_filter.mpr ⟨List.mem_append_right _ (List.mem_of_getElem? (i := 322) (by decide +kernel)), rfl⟩
theorem k_323 : (.methodLink "RuleKeeper" 84 y_Kp_draftIsRule : Cond) ∈ gw := List.mem_filter.mpr ⟨List.mem_append_right _ (List.mem_of_getElem? (i := 323) (by decide +kernel)), rfl⟩
theorem k_325 : (.instanceMethod y_Kp_draftIsRule : Cond) ∈ gw := List.mem_filter.mpr ⟨List.mem_append_right _ (List.mem_of_getElem? (i := 325) (by decide +kernel)), rfl⟩
theorem k_326 : (.code y_Kp_draftIsRule b_Kp_draftIsRule 4 (some .boolean) : Cond) ∈ gw := List.mem_filter.mpr ⟨List.mem_append_right _ (List.mem_of_getElem? (i := 326) (by decide +kernel)), rfl⟩
theorem k_327 : (.methodLink "RuleKeeper" 91 y_Kp_ruleOfDraft : Cond) ∈ gw := List.mem_filter.mpr ⟨List.mem_append_right _ (List.mem_of_getElem? (i := 327) (by decide +kernel)), rfl⟩
theorem k_329 : (.instanceMethod y_Kp_ruleOfDraft : Cond) ∈ gw := List.mem_filter.mpr ⟨List.mem_append_right _ (List.mem_of_getElem? (i := 329) (by decide +kernel)), rfl⟩
theorem k_330 : (.code y_Kp_ruleOfDraft b_Kp_ruleOfDraft 4 (some (.object "RuleKeeper$Rule")) : Cond) ∈ gw := List.mem_filter.mpr ⟨List.mem_append_right _ (List.mem_of_getElem? (i := 330) (by decide +kernel)), rfl⟩
theorem k_331 : (.methodLink "RuleKeeperLaw" 31 y_Kp_unrule : Cond) ∈ gw := List.mem_filter.mpr ⟨List.mem_append_right _ (List.mem_of_getElem? (i := 331) (by decide +kernel)), rfl⟩
theorem k_332 : (.instanceMethod y_Kp_unrule : Cond) ∈ gw := List.mem_filter.mpr ⟨List.mem_append_right _ (List.mem_of_getElem? (i := 332) (by decide +kernel)), rfl⟩
theorem k_333 : (.selects "RuleKeeper" y_Kp_unrule y_Kp_unrule : Cond) ∈ gw := List.mem_filter.mpr ⟨List.mem_append_right _ (List.mem_of_getElem? (i := 333) (by decide +kernel)), rfl⟩
theorem k_334 : (.code y_Kp_unrule b_Kp_unrule 3 (some .int) : Cond) ∈ gw := List.mem_filter.mpr ⟨List.mem_append_right _ (List.mem_of_getElem? (i := 334) (by decide +kernel)), rfl⟩
theorem k_335 : (.methodLink "RuleKeeperLaw" 36 y_Kp_rules : Cond) ∈ gw := List.mem_filter.mpr ⟨List.mem_append_right _ (List.mem_of_getElem? (i := 335) (by decide +kernel)), rfl⟩
theorem k_336 : (.instanceMethod y_Kp_rules : Cond) ∈ gw := List.mem_filter.mpr ⟨List.mem_append_right _ (List.mem_of_getElem? (i := 336) (by decide +kernel)), rfl⟩
theorem k_337 : (.selects "RuleKeeper" y_Kp_rules y_Kp_rules : Cond) ∈ gw := List.mem_filter.mpr ⟨List.mem_append_right _ (List.mem_of_getElem? (i := 337) (by decide +kernel)), rfl⟩
theorem k_338 : (.code y_Kp_rules b_Kp_rules 1 (some .int) : Cond) ∈ gw := List.mem_filter.mpr ⟨List.mem_append_right _ (List.mem_of_getElem? (i := 338) (by decide +kernel)), rfl⟩
theorem k_339 : (.methodLink "RuleKeeperLaw" 40 y_Kp_holds : Cond) ∈ gw := List.mem_filter.mpr ⟨List.mem_append_right _ (List.mem_of_getElem? (i := 339) (by decide +kernel)), rfl⟩
theorem k_340 : (.instanceMethod y_Kp_holds : Cond) ∈ gw := List.mem_filter.mpr ⟨List.mem_append_right _ (List.mem_of_getElem? (i := 340) (by decide +kernel)), rfl⟩
theorem k_341 : (.selects "RuleKeeper" y_Kp_holds y_Kp_holds : Cond) ∈ gw := List.mem_filter.mpr ⟨List.mem_append_right _ (List.mem_of_getElem? (i := 341) (by decide +kernel)), rfl⟩
theorem k_342 : (.code y_Kp_holds b_Kp_holds 5 (some .int) : Cond) ∈ gw := List.mem_filter.mpr ⟨List.mem_append_right _ (List.mem_of_getElem? (i := 342) (by decide +kernel)), rfl⟩
theorem k_343 : (.methodLink "RuleKeeperLaw" 44 y_Kp_support : Cond) ∈ gw := List.mem_filter.mpr ⟨List.mem_append_right _ (List.mem_of_getElem? (i := 343) (by decide +kernel)), rfl⟩
theorem k_344 : (.instanceMethod y_Kp_support : Cond) ∈ gw := List.mem_filter.mpr ⟨List.mem_append_right _ (List.mem_of_getElem? (i := 344) (by decide +kernel)), rfl⟩
theorem k_345 : (.selects "RuleKeeper" y_Kp_support y_Kp_support : Cond) ∈ gw := List.mem_filter.mpr ⟨List.mem_append_right _ (List.mem_of_getElem? (i := 345) (by decide +kernel)), rfl⟩
theorem k_346 : (.code y_Kp_support b_Kp_support 7 (some .int) : Cond) ∈ gw := List.mem_filter.mpr ⟨List.mem_append_right _ (List.mem_of_getElem? (i := 346) (by decide +kernel)), rfl⟩
theorem k_347 : (.methodLink "RuleKeeper" 102 y_Sv_casesGiving : Cond) ∈ gw := List.mem_filter.mpr ⟨List.mem_append_right _ (List.mem_of_getElem? (i := 347) (by decide +kernel)), rfl⟩
theorem k_348 : (.instanceMethod y_Sv_casesGiving : Cond) ∈ gw := List.mem_filter.mpr ⟨List.mem_append_right _ (List.mem_of_getElem? (i := 348) (by decide +kernel)), rfl⟩
theorem k_349 : (.selects "RuleKeeper$Solver" y_Sv_casesGiving y_Sv_casesGiving : Cond) ∈ gw := List.mem_filter.mpr ⟨List.mem_append_right _ (List.mem_of_getElem? (i := 349) (by decide +kernel)), rfl⟩
theorem k_350 : (.code y_Sv_casesGiving b_Sv_casesGiving 4 (some .int) : Cond) ∈ gw := List.mem_filter.mpr ⟨List.mem_append_right _ (List.mem_of_getElem? (i := 350) (by decide +kernel)), rfl⟩
theorem k_351 : (.methodLink "RuleKeeper$Solver" 77 y_Sv_countJoined : Cond) ∈ gw := List.mem_filter.mpr ⟨List.mem_append_right _ (List.mem_of_getElem? (i := 351) (by decide +kernel)), rfl⟩
theorem k_352 : (.static y_Sv_countJoined : Cond) ∈ gw := List.mem_filter.mpr ⟨List.mem_append_right _ (List.mem_of_getElem? (i := 352) (by decide +kernel)), rfl⟩
theorem k_353 : (.code y_Sv_countJoined b_Sv_countJoined 8 (some .int) : Cond) ∈ gw := List.mem_filter.mpr ⟨List.mem_append_right _ (List.mem_of_getElem? (i := 353) (by decide +kernel)), rfl⟩
theorem k_354 : (.methodLink "RuleKeeperLaw" 48 y_Kp_size : Cond) ∈ gw := List.mem_filter.mpr ⟨List.mem_append_right _ (List.mem_of_getElem? (i := 354) (by decide +kernel)), rfl⟩
theorem k_355 : (.instanceMethod y_Kp_size : Cond) ∈ gw := List.mem_filter.mpr ⟨List.mem_append_right _ (List.mem_of_getElem? (i := 355) (by decide +kernel)), rfl⟩
theorem k_356 : (.selects "RuleKeeper" y_Kp_size y_Kp_size : Cond) ∈ gw := List.mem_filter.mpr ⟨List.mem_append_right _ (List.mem_of_getElem? (i := 356) (by decide +kernel)), rfl⟩
theorem k_357 : (.code y_Kp_size b_Kp_size 1 (some .int) : Cond) ∈ gw := List.mem_filter.mpr ⟨List.mem_append_right _ (List.mem_of_getElem? (i := 357) (by decide +kernel)), rfl⟩
theorem k_358 : (.methodLink "RuleKeeperLaw" 52 y_Kp_next : Cond) ∈ gw := List.mem_filter.mpr ⟨List.mem_append_right _ (List.mem_of_getElem? (i := 358) (by decide +kernel)), rfl⟩
theorem k_359 : (.instanceMethod y_Kp_next : Cond) ∈ gw := List.mem_filter.mpr ⟨List.mem_append_right _ (List.mem_of_getElem? (i := 359) (by decide +kernel)), rfl⟩
theorem k_360 : (.selects "RuleKeeper" y_Kp_next y_Kp_next : Cond) ∈ gw := List.mem_filter.mpr ⟨List.mem_append_right _ (List.mem_of_getElem? (i := 360) (by decide +kernel)), rfl⟩
theorem k_361 : (.code y_Kp_next b_Kp_next 5 (some .int) : Cond) ∈ gw := List.mem_filter.mpr ⟨List.mem_append_right _ (List.mem_of_getElem? (i := 361) (by decide +kernel)), rfl⟩
theorem k_362 : (.methodLink "RuleKeeperLaw" 56 y_Kp_fitting : Cond) ∈ gw := List.mem_filter.mpr ⟨List.mem_append_right _ (List.mem_of_getElem? (i := 362) (by decide +kernel)), rfl⟩
theorem k_363 : (.instanceMethod y_Kp_fitting : Cond) ∈ gw := List.mem_filter.mpr ⟨List.mem_append_right _ (List.mem_of_getElem? (i := 363) (by decide +kernel)), rfl⟩
theorem k_364 : (.selects "RuleKeeper" y_Kp_fitting y_Kp_fitting : Cond) ∈ gw := List.mem_filter.mpr ⟨List.mem_append_right _ (List.mem_of_getElem? (i := 364) (by decide +kernel)), rfl⟩
theorem k_365 : (.code y_Kp_fitting b_Kp_fitting 7 (some .int) : Cond) ∈ gw := List.mem_filter.mpr ⟨List.mem_append_right _ (List.mem_of_getElem? (i := 365) (by decide +kernel)), rfl⟩
theorem k_366 : (.methodLink "RuleKeeper" 110 y_Pt_fits : Cond) ∈ gw := List.mem_filter.mpr ⟨List.mem_append_right _ (List.mem_of_getElem? (i := 366) (by decide +kernel)), rfl⟩
theorem k_367 : (.methodLink "RuleKeeperLaw" 60 y_Kp_clear : Cond) ∈ gw := List.mem_filter.mpr ⟨List.mem_append_right _ (List.mem_of_getElem? (i := 367) (by decide +kernel)), rfl⟩
theorem k_368 : (.instanceMethod y_Kp_clear : Cond) ∈ gw := List.mem_filter.mpr ⟨List.mem_append_right _ (List.mem_of_getElem? (i := 368) (by decide +kernel)), rfl⟩
theorem k_369 : (.selects "RuleKeeper" y_Kp_clear y_Kp_clear : Cond) ∈ gw := List.mem_filter.mpr ⟨List.mem_append_right _ (List.mem_of_getElem? (i := 369) (by decide +kernel)), rfl⟩
theorem k_370 : (.code y_Kp_clear b_Kp_clear 3 (some .int) : Cond) ∈ gw := List.mem_filter.mpr ⟨List.mem_append_right _ (List.mem_of_getElem? (i := 370) (by decide +kernel)), rfl⟩
theorem k_371 : (.classLink "RuleKeeperLaw" 10 "RuleKeeperModel" : Cond) ∈ gw := List.mem_filter.mpr ⟨List.mem_append_right _ (List.mem_of_getElem? (i := 371) (by decide +kernel)), rfl⟩
theorem k_372 : (.instantiable "RuleKeeperModel" 14 : Cond) ∈ gw := List.mem_filter.mpr ⟨List.mem_append_right _ (List.mem_of_getElem? (i := 372) (by decide +kernel)), rfl⟩
theorem k_373 : (.methodLink "RuleKeeperLaw" 12 y_Md_init : Cond) ∈ gw := List.mem_filter.mpr ⟨List.mem_append_right _ (List.mem_of_getElem? (i := 373) (by decide +kernel)), rfl⟩
theorem k_374 : (.instanceMethod y_Md_init : Cond) ∈ gw := List.mem_filter.mpr ⟨List.mem_append_right _ (List.mem_of_getElem? (i := 374) (by decide +kernel)), rfl⟩
theorem k_375 : (.code y_Md_init b_Md_init 1 none : Cond) ∈ gw := List.mem_filter.mpr ⟨List.mem_append_right _ (List.mem_of_getElem? (i := 375) (by decide +kernel)), rfl⟩
theorem k_376 : (.methodLink "RuleKeeperModel" 1 ⟨"java/lang/Object", "<init>", "()V"⟩ : Cond) ∈ gw := List.mem_filter.mpr ⟨List.mem_append_right _ (List.mem_of_getElem? (i := 376) (by decide +kernel)), rfl⟩
theorem k_377 : (.constant "RuleKeeperModel" 7 32768 : Cond) ∈ gw := List.mem_filter.mpr ⟨List.mem_append_right _ (List.mem_of_getElem? (i := 377) (by decide +kernel)), rfl⟩
theorem k_378 : (.fieldLink "RuleKeeperModel" 8 "RuleKeeperModel" "said" "[Z" : Cond) ∈ gw := List.mem_filter.mpr ⟨List.mem_append_right _ (List.mem_of_getElem? (i := 378) (by decide +kernel)), rfl⟩
theorem k_379 : (.fieldLink "RuleKeeperModel" 14 "RuleKeeperModel" "holding" "[Z" : Cond) ∈ gw := List.mem_filter.mpr ⟨List.mem_append_right _ (List.mem_of_getElem? (i := 379) (by decide +kernel)), rfl⟩
theorem k_380 : (.fieldLink "RuleKeeperModel" 17 "RuleKeeperModel" "supports" "[I" : Cond) ∈ gw := List.mem_filter.mpr ⟨List.mem_append_right _ (List.mem_of_getElem? (i := 380) (by decide +kernel)), rfl⟩
theorem k_381 : (.fieldLink "RuleKeeperModel" 21 "RuleKeeperModel" "row" "[I" : Cond) ∈ gw := List.mem_filter.mpr ⟨List.mem_append_right _ (List.mem_of_getElem? (i := 381) (by decide +kernel)), rfl⟩
theorem k_382 : (.fieldLink "RuleKeeperModel" 53 "RuleKeeperModel" "size" "I" : Cond) ∈ gw := List.mem_filter.mpr ⟨List.mem_append_right _ (List.mem_of_getElem? (i := 382) (by decide +kernel)), rfl⟩
theorem k_383 : (.fieldLink "RuleKeeperModel" 24 "RuleKeeperModel" "items" "[I" : Cond) ∈ gw := List.mem_filter.mpr ⟨List.mem_append_right _ (List.mem_of_getElem? (i := 383) (by decide +kernel)), rfl⟩
theorem k_384 : (.fieldLink "RuleKeeperModel" 27 "RuleKeeperModel" "bodies" "[I" : Cond) ∈ gw := List.mem_filter.mpr ⟨List.mem_append_right _ (List.mem_of_getElem? (i := 384) (by decide +kernel)), rfl⟩
theorem k_385 : (.fieldLink "RuleKeeperModel" 77 "RuleKeeperModel" "rules" "I" : Cond) ∈ gw := List.mem_filter.mpr ⟨List.mem_append_right _ (List.mem_of_getElem? (i := 385) (by decide +kernel)), rfl⟩
theorem k_386 : (.fieldLink "RuleKeeperModel" 30 "RuleKeeperModel" "draft" "[I" : Cond) ∈ gw := List.mem_filter.mpr ⟨List.mem_append_right _ (List.mem_of_getElem? (i := 386) (by decide +kernel)), rfl⟩
theorem k_387 : (.fieldLink "RuleKeeperModel" 96 "RuleKeeperModel" "drafted" "I" : Cond) ∈ gw := List.mem_filter.mpr ⟨List.mem_append_right _ (List.mem_of_getElem? (i := 387) (by decide +kernel)), rfl⟩
theorem k_388 : (.fieldLink "RuleKeeperModel" 33 "RuleKeeperModel" "values" "[I" : Cond) ∈ gw := List.mem_filter.mpr ⟨List.mem_append_right _ (List.mem_of_getElem? (i := 388) (by decide +kernel)), rfl⟩
theorem k_389 : (.fieldLink "RuleKeeperModel" 36 "RuleKeeperModel" "bound" "[I" : Cond) ∈ gw := List.mem_filter.mpr ⟨List.mem_append_right _ (List.mem_of_getElem? (i := 389) (by decide +kernel)), rfl⟩
theorem k_390 : (.fieldLink "RuleKeeperModel" 39 "RuleKeeperModel" "places" "[I" : Cond) ∈ gw := List.mem_filter.mpr ⟨List.mem_append_right _ (List.mem_of_getElem? (i := 390) (by decide +kernel)), rfl⟩
theorem k_391 : (.fieldLink "RuleKeeperModel" 42 "RuleKeeperModel" "asked" "[I" : Cond) ∈ gw := List.mem_filter.mpr ⟨List.mem_append_right _ (List.mem_of_getElem? (i := 391) (by decide +kernel)), rfl⟩
theorem k_392 : (.laysFinal "RuleKeeperModel" "RuleKeeperModel" "said" "[Z" : Cond) ∈ gw := List.mem_filter.mpr ⟨List.mem_append_right _ (List.mem_of_getElem? (i := 392) (by decide +kernel)), rfl⟩
theorem k_394 : (.laysFinal "RuleKeeperModel" "RuleKeeperModel" "holding" "[Z" : Cond) ∈ gw := List.mem_filter.mpr ⟨List.mem_append_right _ (List.mem_of_getElem? (i := 394) (by decide +kernel)), rfl⟩
theorem k_396 : (.laysFinal "RuleKeeperModel" "RuleKeeperModel" "supports" "[I" : Cond) ∈ gw := List.mem_filter.mpr ⟨List.mem_append_right _ (List.mem_of_getElem? (i := 396) (by decide +kernel)), rfl⟩
theorem k_398 : (.laysFinal "RuleKeeperModel" "RuleKeeperModel" "row" "[I" : Cond) ∈ gw := List.mem_filter.mpr ⟨List.mem_append_right _ (List.mem_of_getElem? (i := 398) (by decide +kernel)), rfl⟩
theorem k_400 : (.lays "RuleKeeperModel" "RuleKeeperModel" "size" "I" : Cond) ∈ gw := List.mem_filter.mpr ⟨List.mem_append_right _ (List.mem_of_getElem? (i := 400) (by decide +kernel)), rfl⟩
theorem k_402 : (.laysFinal "RuleKeeperModel" "RuleKeeperModel" "items" "[I" : Cond) ∈ gw := List.mem_filter.mpr ⟨List.mem_append_right _ (List.mem_of_getElem? (i := 402) (by decide +kernel)), rfl⟩
theorem k_404 : (.laysFinal "RuleKeeperModel" "RuleKeeperModel" "bodies" "[I" : Cond) ∈ gw := List.mem_filter.mpr ⟨List.mem_append_right _ (List.mem_of_getElem? (i := 404) (by decide +kernel)), rfl⟩
theorem k_406 : (.lays "RuleKeeperModel" "RuleKeeperModel" "rules" "I" : Cond) ∈ gw := List.mem_filter.mpr ⟨List.mem_append_right _ (List.mem_of_getElem? (i := 406) (by decide +kernel)), rfl⟩
theorem k_408 : (.laysFinal "RuleKeeperModel" "RuleKeeperModel" "draft" "[I" : Cond) ∈ gw := List.mem_filter.mpr ⟨List.mem_append_right _ (List.mem_of_getElem? (i := 408) (by decide +kernel)), rfl⟩
theorem k_410 : (.lays "RuleKeeperModel" "RuleKeeperModel" "drafted" "I" : Cond) ∈ gw := List.mem_filter.mpr ⟨List.mem_append_right _ (List.mem_of_getElem? (i := 410) (by decide +kernel)), rfl⟩
theorem k_412 : (.laysFinal "RuleKeeperModel" "RuleKeeperModel" "values" "[I" : Cond) ∈ gw := List.mem_filter.mpr ⟨List.mem_append_right _ (List.mem_of_getElem? (i := 412) (by decide +kernel)), rfl⟩
theorem k_414 : (.laysFinal "RuleKeeperModel" "RuleKeeperModel" "bound" "[I" : Cond) ∈ gw := List.mem_filter.mpr ⟨List.mem_append_right _ (List.mem_of_getElem? (i := 414) (by decide +kernel)), rfl⟩
theorem k_416 : (.laysFinal "RuleKeeperModel" "RuleKeeperModel" "places" "[I" : Cond) ∈ gw := List.mem_filter.mpr ⟨List.mem_append_right _ (List.mem_of_getElem? (i := 416) (by decide +kernel)), rfl⟩
theorem k_418 : (.laysFinal "RuleKeeperModel" "RuleKeeperModel" "asked" "[I" : Cond) ∈ gw := List.mem_filter.mpr ⟨List.mem_append_right _ (List.mem_of_getElem? (i := 418) (by decide +kernel)), rfl⟩
theorem k_421 : (.arrayClass .boolean : Cond) ∈ gw := List.mem_filter.mpr ⟨List.mem_append_right _ (List.mem_of_getElem? (i := 421) (by decide +kernel)), rfl⟩
theorem k_422 : (.methodLink "RuleKeeperLaw" 17 y_Md_say : Cond) ∈ gw := List.mem_filter.mpr ⟨List.mem_append_right _ (List.mem_of_getElem? (i := 422) (by decide +kernel)), rfl⟩
theorem k_423 : (.instanceMethod y_Md_say : Cond) ∈ gw := List.mem_filter.mpr ⟨List.mem_append_right _ (List.mem_of_getElem? (i := 423) (by decide +kernel)), rfl⟩
theorem k_424 : (.selects "RuleKeeperModel" y_Md_say y_Md_say : Cond) ∈ gw := List.mem_filter.mpr ⟨List.mem_append_right _ (List.mem_of_getElem? (i := 424) (by decide +kernel)), rfl⟩
theorem k_425 : (.code y_Md_say b_Md_say 5 (some .int) : Cond) ∈ gw := List.mem_filter.mpr ⟨List.mem_append_right _ (List.mem_of_getElem? (i := 425) (by decide +kernel)), rfl⟩
theorem k_426 : (.methodLink "RuleKeeperModel" 86 y_Md_isNumber : Cond) ∈ gw := List.mem_filter.mpr ⟨List.mem_append_right _ (List.mem_of_getElem? (i := 426) (by decide +kernel)), rfl⟩
theorem k_427 : (.static y_Md_isNumber : Cond) ∈ gw := List.mem_filter.mpr ⟨List.mem_append_right _ (List.mem_of_getElem? (i := 427) (by decide +kernel)), rfl⟩
theorem k_428 : (.code y_Md_isNumber b_Md_isNumber 1 (some .boolean) : Cond) ∈ gw := List.mem_filter.mpr ⟨List.mem_append_right _ (List.mem_of_getElem? (i := 428) (by decide +kernel)), rfl⟩
theorem k_429 : (.methodLink "RuleKeeperModel" 69 y_Md_code : Cond) ∈ gw := List.mem_filter.mpr ⟨List.mem_append_right _ (List.mem_of_getElem? (i := 429) (by decide +kernel)), rfl⟩
theorem k_430 : (.static y_Md_code : Cond) ∈ gw := List.mem_filter.mpr ⟨List.mem_append_right _ (List.mem_of_getElem? (i := 430) (by decide +kernel)), rfl⟩
theorem k_431 : (.code y_Md_code b_Md_code 3 (some .int) : Cond) ∈ gw := List.mem_filter.mpr ⟨List.mem_append_right _ (List.mem_of_getElem? (i := 431) (by decide +kernel)), rfl⟩
theorem k_432 : (.methodLink "RuleKeeperModel" 89 y_Md_reckon : Cond) ∈ gw := List.mem_filter.mpr ⟨List.mem_append_right _ (List.mem_of_getElem? (i := 432) (by decide +kernel)), rfl⟩
theorem k_434 : (.instanceMethod y_Md_reckon : Cond) ∈ gw := List.mem_filter.mpr ⟨List.mem_append_right _ (List.mem_of_getElem? (i := 434) (by decide +kernel)), rfl⟩
theorem k_435 : (.code y_Md_reckon b_Md_reckon 3 (some .boolean) : Cond) ∈ gw := List.mem_filter.mpr ⟨List.mem_append_right _ (List.mem_of_getElem? (i := 435) (by decide +kernel)), rfl⟩
theorem k_436 : (.methodLink "RuleKeeperModel" 73 y_Md_come : Cond) ∈ gw := List.mem_filter.mpr ⟨List.mem_append_right _ (List.mem_of_getElem? (i := 436) (by decide +kernel)), rfl⟩
theorem k_438 : (.instanceMethod y_Md_come : Cond) ∈ gw := List.mem_filter.mpr ⟨List.mem_append_right _ (List.mem_of_getElem? (i := 438) (by decide +kernel)), rfl⟩
theorem k_439 : (.code y_Md_come b_Md_come 2 (some .boolean) : Cond) ∈ gw := List.mem_filter.mpr ⟨List.mem_append_right _ (List.mem_of_getElem? (i := 439) (by decide +kernel)), rfl⟩
theorem k_440 : (.methodLink "RuleKeeperModel" 80 y_Md_free : Cond) ∈ gw := List.mem_filter.mpr ⟨List.mem_append_right _ (List.mem_of_getElem? (i := 440) (by decide +kernel)), rfl⟩
theorem k_442 : (.instanceMethod y_Md_free : Cond) ∈ gw := List.mem_filter.mpr ⟨List.mem_append_right _ (List.mem_of_getElem? (i := 442) (by decide +kernel)), rfl⟩
theorem k_443 : (.code y_Md_free b_Md_free 2 none : Cond) ∈ gw := List.mem_filter.mpr ⟨List.mem_append_right _ (List.mem_of_getElem? (i := 443) (by decide +kernel)), rfl⟩
theorem k_444 : (.methodLink "RuleKeeperModel" 83 y_Md_allCases : Cond) ∈ gw := List.mem_filter.mpr ⟨List.mem_append_right _ (List.mem_of_getElem? (i := 444) (by decide +kernel)), rfl⟩
theorem k_446 : (.instanceMethod y_Md_allCases : Cond) ∈ gw := List.mem_filter.mpr ⟨List.mem_append_right _ (List.mem_of_getElem? (i := 446) (by decide +kernel)), rfl⟩
theorem k_447 : (.code y_Md_allCases b_Md_allCases 6 (some .boolean) : Cond) ∈ gw := List.mem_filter.mpr ⟨List.mem_append_right _ (List.mem_of_getElem? (i := 447) (by decide +kernel)), rfl⟩
theorem k_448 : (.methodLink "RuleKeeperModel" 49 y_Md_loosen : Cond) ∈ gw := List.mem_filter.mpr ⟨List.mem_append_right _ (List.mem_of_getElem? (i := 448) (by decide +kernel)), rfl⟩
theorem k_450 : (.instanceMethod y_Md_loosen : Cond) ∈ gw := List.mem_filter.mpr ⟨List.mem_append_right _ (List.mem_of_getElem? (i := 450) (by decide +kernel)), rfl⟩
theorem k_451 : (.code y_Md_loosen b_Md_loosen 5 none : Cond) ∈ gw := List.mem_filter.mpr ⟨List.mem_append_right _ (List.mem_of_getElem? (i := 451) (by decide +kernel)), rfl⟩
theorem k_452 : (.methodLink "RuleKeeperModel" 57 y_Md_bind : Cond) ∈ gw := List.mem_filter.mpr ⟨List.mem_append_right _ (List.mem_of_getElem? (i := 452) (by decide +kernel)), rfl⟩
theorem k_454 : (.instanceMethod y_Md_bind : Cond) ∈ gw := List.mem_filter.mpr ⟨List.mem_append_right _ (List.mem_of_getElem? (i := 454) (by decide +kernel)), rfl⟩
theorem k_455 : (.code y_Md_bind b_Md_bind 8 (some .boolean) : Cond) ∈ gw := List.mem_filter.mpr ⟨List.mem_append_right _ (List.mem_of_getElem? (i := 455) (by decide +kernel)), rfl⟩
theorem k_456 : (.methodLink "RuleKeeperModel" 45 y_Md_part : Cond) ∈ gw := List.mem_filter.mpr ⟨List.mem_append_right _ (List.mem_of_getElem? (i := 456) (by decide +kernel)), rfl⟩
theorem k_457 : (.static y_Md_part : Cond) ∈ gw := List.mem_filter.mpr ⟨List.mem_append_right _ (List.mem_of_getElem? (i := 457) (by decide +kernel)), rfl⟩
theorem k_458 : (.code y_Md_part b_Md_part 2 (some .int) : Cond) ∈ gw := List.mem_filter.mpr ⟨List.mem_append_right _ (List.mem_of_getElem? (i := 458) (by decide +kernel)), rfl⟩
theorem k_459 : (.methodLink "RuleKeeperModel" 61 y_Md_give : Cond) ∈ gw := List.mem_filter.mpr ⟨List.mem_append_right _ (List.mem_of_getElem? (i := 459) (by decide +kernel)), rfl⟩
theorem k_461 : (.instanceMethod y_Md_give : Cond) ∈ gw := List.mem_filter.mpr ⟨List.mem_append_right _ (List.mem_of_getElem? (i := 461) (by decide +kernel)), rfl⟩
theorem k_462 : (.code y_Md_give b_Md_give 5 (some .boolean) : Cond) ∈ gw := List.mem_filter.mpr ⟨List.mem_append_right _ (List.mem_of_getElem? (i := 462) (by decide +kernel)), rfl⟩
theorem k_463 : (.methodLink "RuleKeeperModel" 65 y_Md_value : Cond) ∈ gw := List.mem_filter.mpr ⟨List.mem_append_right _ (List.mem_of_getElem? (i := 463) (by decide +kernel)), rfl⟩
theorem k_465 : (.instanceMethod y_Md_value : Cond) ∈ gw := List.mem_filter.mpr ⟨List.mem_append_right _ (List.mem_of_getElem? (i := 465) (by decide +kernel)), rfl⟩
theorem k_466 : (.code y_Md_value b_Md_value 2 (some .int) : Cond) ∈ gw := List.mem_filter.mpr ⟨List.mem_append_right _ (List.mem_of_getElem? (i := 466) (by decide +kernel)), rfl⟩
theorem k_467 : (.methodLink "RuleKeeperLaw" 21 y_Md_unsay : Cond) ∈ gw := List.mem_filter.mpr ⟨List.mem_append_right _ (List.mem_of_getElem? (i := 467) (by decide +kernel)), rfl⟩
theorem k_468 : (.instanceMethod y_Md_unsay : Cond) ∈ gw := List.mem_filter.mpr ⟨List.mem_append_right _ (List.mem_of_getElem? (i := 468) (by decide +kernel)), rfl⟩
theorem k_469 : (.selects "RuleKeeperModel" y_Md_unsay y_Md_unsay : Cond) ∈ gw := List.mem_filter.mpr ⟨List.mem_append_right _ (List.mem_of_getElem? (i := 469) (by decide +kernel)), rfl⟩
theorem k_470 : (.code y_Md_unsay b_Md_unsay 5 (some .int) : Cond) ∈ gw := List.mem_filter.mpr ⟨List.mem_append_right _ (List.mem_of_getElem? (i := 470) (by decide +kernel)), rfl⟩
theorem k_471 : (.methodLink "RuleKeeperLaw" 25 y_Md_pattern : Cond) ∈ gw := List.mem_filter.mpr ⟨List.mem_append_right _ (List.mem_of_getElem? (i := 471) (by decide +kernel)), rfl⟩
theorem k_472 : (.instanceMethod y_Md_pattern : Cond) ∈ gw := List.mem_filter.mpr ⟨List.mem_append_right _ (List.mem_of_getElem? (i := 472) (by decide +kernel)), rfl⟩
theorem k_473 : (.selects "RuleKeeperModel" y_Md_pattern y_Md_pattern : Cond) ∈ gw := List.mem_filter.mpr ⟨List.mem_append_right _ (List.mem_of_getElem? (i := 473) (by decide +kernel)), rfl⟩
theorem k_474 : (.code y_Md_pattern b_Md_pattern 4 (some .int) : Cond) ∈ gw := List.mem_filter.mpr ⟨List.mem_append_right _ (List.mem_of_getElem? (i := 474) (by decide +kernel)), rfl⟩
theorem k_475 : (.methodLink "RuleKeeperModel" 93 y_Md_isItem : Cond) ∈ gw := List.mem_filter.mpr ⟨List.mem_append_right _ (List.mem_of_getElem? (i := 475) (by decide +kernel)), rfl⟩
theorem k_476 : (.static y_Md_isItem : Cond) ∈ gw := List.mem_filter.mpr ⟨List.mem_append_right _ (List.mem_of_getElem? (i := 476) (by decide +kernel)), rfl⟩
theorem k_477 : (.code y_Md_isItem b_Md_isItem 1 (some .boolean) : Cond) ∈ gw := List.mem_filter.mpr ⟨List.mem_append_right _ (List.mem_of_getElem? (i := 477) (by decide +kernel)), rfl⟩
theorem k_478 : (.methodLink "RuleKeeperLaw" 30 y_Md_rule : Cond) ∈ gw := List.mem_filter.mpr ⟨List.mem_append_right _ (List.mem_of_getElem? (i := 478) (by decide +kernel)), rfl⟩
theorem k_479 : (.instanceMethod y_Md_rule : Cond) ∈ gw := List.mem_filter.mpr ⟨List.mem_append_right _ (List.mem_of_getElem? (i := 479) (by decide +kernel)), rfl⟩
theorem k_480 : (.selects "RuleKeeperModel" y_Md_rule y_Md_rule : Cond) ∈ gw := List.mem_filter.mpr ⟨List.mem_append_right _ (List.mem_of_getElem? (i := 480) (by decide +kernel)), rfl⟩
theorem k_481 : (.code y_Md_rule b_Md_rule 2 (some .int) : Cond) ∈ gw := List.mem_filter.mpr ⟨List.mem_append_right _ (List.mem_of_getElem? (i := 481) (by decide +kernel)), rfl⟩
theorem k_482 : (.methodLink "RuleKeeperModel" 99 y_Md_isMade : Cond) ∈ gw := List.mem_filter.mpr ⟨List.mem_append_right _ (List.mem_of_getElem? (i := 482) (by decide +kernel)), rfl⟩
theorem k_484 : (.instanceMethod y_Md_isMade : Cond) ∈ gw := List.mem_filter.mpr ⟨List.mem_append_right _ (List.mem_of_getElem? (i := 484) (by decide +kernel)), rfl⟩
theorem k_485 : (.code y_Md_isMade b_Md_isMade 5 (some .boolean) : Cond) ∈ gw := List.mem_filter.mpr ⟨List.mem_append_right _ (List.mem_of_getElem? (i := 485) (by decide +kernel)), rfl⟩
theorem k_486 : (.methodLink "RuleKeeperLaw" 35 y_Md_unrule : Cond) ∈ gw := List.mem_filter.mpr ⟨List.mem_append_right _ (List.mem_of_getElem? (i := 486) (by decide +kernel)), rfl⟩
theorem k_487 : (.instanceMethod y_Md_unrule : Cond) ∈ gw := List.mem_filter.mpr ⟨List.mem_append_right _ (List.mem_of_getElem? (i := 487) (by decide +kernel)), rfl⟩
theorem k_488 : (.selects "RuleKeeperModel" y_Md_unrule y_Md_unrule : Cond) ∈ gw := List.mem_filter.mpr ⟨List.mem_append_right _ (List.mem_of_getElem? (i := 488) (by decide +kernel)), rfl⟩
theorem k_489 : (.code y_Md_unrule b_Md_unrule 4 (some .int) : Cond) ∈ gw := List.mem_filter.mpr ⟨List.mem_append_right _ (List.mem_of_getElem? (i := 489) (by decide +kernel)), rfl⟩
theorem k_490 : (.methodLink "RuleKeeperLaw" 39 y_Md_rules : Cond) ∈ gw := List.mem_filter.mpr ⟨List.mem_append_right _ (List.mem_of_getElem? (i := 490) (by decide +kernel)), rfl⟩
theorem k_491 : (.instanceMethod y_Md_rules : Cond) ∈ gw := List.mem_filter.mpr ⟨List.mem_append_right _ (List.mem_of_getElem? (i := 491) (by decide +kernel)), rfl⟩
theorem k_492 : (.selects "RuleKeeperModel" y_Md_rules y_Md_rules : Cond) ∈ gw := List.mem_filter.mpr ⟨List.mem_append_right _ (List.mem_of_getElem? (i := 492) (by decide +kernel)), rfl⟩
theorem k_493 : (.code y_Md_rules b_Md_rules 1 (some .int) : Cond) ∈ gw := List.mem_filter.mpr ⟨List.mem_append_right _ (List.mem_of_getElem? (i := 493) (by decide +kernel)), rfl⟩
theorem k_494 : (.methodLink "RuleKeeperLaw" 43 y_Md_holds : Cond) ∈ gw := List.mem_filter.mpr ⟨List.mem_append_right _ (List.mem_of_getElem? (i := 494) (by decide +kernel)), rfl⟩
theorem k_495 : (.instanceMethod y_Md_holds : Cond) ∈ gw := List.mem_filter.mpr ⟨List.mem_append_right _ (List.mem_of_getElem? (i := 495) (by decide +kernel)), rfl⟩
theorem k_496 : (.selects "RuleKeeperModel" y_Md_holds y_Md_holds : Cond) ∈ gw := List.mem_filter.mpr ⟨List.mem_append_right _ (List.mem_of_getElem? (i := 496) (by decide +kernel)), rfl⟩
theorem k_497 : (.code y_Md_holds b_Md_holds 5 (some .int) : Cond) ∈ gw := List.mem_filter.mpr ⟨List.mem_append_right _ (List.mem_of_getElem? (i := 497) (by decide +kernel)), rfl⟩
theorem k_498 : (.methodLink "RuleKeeperLaw" 47 y_Md_support : Cond) ∈ gw := List.mem_filter.mpr ⟨List.mem_append_right _ (List.mem_of_getElem? (i := 498) (by decide +kernel)), rfl⟩
theorem k_499 : (.instanceMethod y_Md_support : Cond) ∈ gw := List.mem_filter.mpr ⟨List.mem_append_right _ (List.mem_of_getElem? (i := 499) (by decide +kernel)), rfl⟩
theorem k_500 : (.selects "RuleKeeperModel" y_Md_support y_Md_support : Cond) ∈ gw := List.mem_filter.mpr ⟨List.mem_append_right _ (List.mem_of_getElem? (i := 500) (by decide +kernel)), rfl⟩
theorem k_501 : (.code y_Md_support b_Md_support 4 (some .int) : Cond) ∈ gw := List.mem_filter.mpr ⟨List.mem_append_right _ (List.mem_of_getElem? (i := 501) (by decide +kernel)), rfl⟩
theorem k_502 : (.methodLink "RuleKeeperLaw" 51 y_Md_size : Cond) ∈ gw := List.mem_filter.mpr ⟨List.mem_append_right _ (List.mem_of_getElem? (i := 502) (by decide +kernel)), rfl⟩
theorem k_503 : (.instanceMethod y_Md_size : Cond) ∈ gw := List.mem_filter.mpr ⟨List.mem_append_right _ (List.mem_of_getElem? (i := 503) (by decide +kernel)), rfl⟩
theorem k_504 : (.selects "RuleKeeperModel" y_Md_size y_Md_size : Cond) ∈ gw := List.mem_filter.mpr ⟨List.mem_append_right _ (List.mem_of_getElem? (i := 504) (by decide +kernel)), rfl⟩
theorem k_505 : (.code y_Md_size b_Md_size 1 (some .int) : Cond) ∈ gw := List.mem_filter.mpr ⟨List.mem_append_right _ (List.mem_of_getElem? (i := 505) (by decide +kernel)), rfl⟩
theorem k_506 : (.methodLink "RuleKeeperLaw" 55 y_Md_next : Cond) ∈ gw := List.mem_filter.mpr ⟨List.mem_append_right _ (List.mem_of_getElem? (i := 506) (by decide +kernel)), rfl⟩
theorem k_507 : (.instanceMethod y_Md_next : Cond) ∈ gw := List.mem_filter.mpr ⟨List.mem_append_right _ (List.mem_of_getElem? (i := 507) (by decide +kernel)), rfl⟩
theorem k_508 : (.selects "RuleKeeperModel" y_Md_next y_Md_next : Cond) ∈ gw := List.mem_filter.mpr ⟨List.mem_append_right _ (List.mem_of_getElem? (i := 508) (by decide +kernel)), rfl⟩
theorem k_509 : (.code y_Md_next b_Md_next 3 (some .int) : Cond) ∈ gw := List.mem_filter.mpr ⟨List.mem_append_right _ (List.mem_of_getElem? (i := 509) (by decide +kernel)), rfl⟩
theorem k_510 : (.methodLink "RuleKeeperLaw" 59 y_Md_fitting : Cond) ∈ gw := List.mem_filter.mpr ⟨List.mem_append_right _ (List.mem_of_getElem? (i := 510) (by decide +kernel)), rfl⟩
theorem k_511 : (.instanceMethod y_Md_fitting : Cond) ∈ gw := List.mem_filter.mpr ⟨List.mem_append_right _ (List.mem_of_getElem? (i := 511) (by decide +kernel)), rfl⟩
theorem k_512 : (.selects "RuleKeeperModel" y_Md_fitting y_Md_fitting : Cond) ∈ gw := List.mem_filter.mpr ⟨List.mem_append_right _ (List.mem_of_getElem? (i := 512) (by decide +kernel)), rfl⟩
theorem k_513 : (.code y_Md_fitting b_Md_fitting 6 (some .int) : Cond) ∈ gw := List.mem_filter.mpr ⟨List.mem_append_right _ (List.mem_of_getElem? (i := 513) (by decide +kernel)), rfl⟩
theorem k_514 : (.methodLink "RuleKeeperLaw" 63 y_Md_clear : Cond) ∈ gw := List.mem_filter.mpr ⟨List.mem_append_right _ (List.mem_of_getElem? (i := 514) (by decide +kernel)), rfl⟩
theorem k_515 : (.instanceMethod y_Md_clear : Cond) ∈ gw := List.mem_filter.mpr ⟨List.mem_append_right _ (List.mem_of_getElem? (i := 515) (by decide +kernel)), rfl⟩
theorem k_516 : (.selects "RuleKeeperModel" y_Md_clear y_Md_clear : Cond) ∈ gw := List.mem_filter.mpr ⟨List.mem_append_right _ (List.mem_of_getElem? (i := 516) (by decide +kernel)), rfl⟩
theorem k_517 : (.code y_Md_clear b_Md_clear 3 (some .int) : Cond) ∈ gw := List.mem_filter.mpr ⟨List.mem_append_right _ (List.mem_of_getElem? (i := 517) (by decide +kernel)), rfl⟩
theorem s_Kp_hold : (.selects "RuleKeeper" y_Kp_hold y_Kp_hold : Cond) ∈ gw := List.mem_filter.mpr ⟨List.mem_append_left _ (List.mem_of_getElem? (i := 0) (by decide +kernel)), rfl⟩
theorem s_Kp_follow : (.selects "RuleKeeper" y_Kp_follow y_Kp_follow : Cond) ∈ gw := List.mem_filter.mpr ⟨List.mem_append_left _ (List.mem_of_getElem? (i := 1) (by decide +kernel)), rfl⟩
theorem s_Sv_isMatchedBefore : (.selects "RuleKeeper$Solver" y_Sv_isMatchedBefore y_Sv_isMatchedBefore : Cond) ∈ gw := List.mem_filter.mpr ⟨List.mem_append_left _ (List.mem_of_getElem? (i := 2) (by decide +kernel)), rfl⟩
theorem s_Sv_fillColumns : (.selects "RuleKeeper$Solver" y_Sv_fillColumns y_Sv_fillColumns : Cond) ∈ gw := List.mem_filter.mpr ⟨List.mem_append_left _ (List.mem_of_getElem? (i := 3) (by decide +kernel)), rfl⟩
theorem s_Co_take : (.selects "RuleKeeper$Column" y_Co_take y_Co_take : Cond) ∈ gw := List.mem_filter.mpr ⟨List.mem_append_left _ (List.mem_of_getElem? (i := 4) (by decide +kernel)), rfl⟩
theorem s_Kp_holdAnew : (.selects "RuleKeeper" y_Kp_holdAnew y_Kp_holdAnew : Cond) ∈ gw := List.mem_filter.mpr ⟨List.mem_append_left _ (List.mem_of_getElem? (i := 5) (by decide +kernel)), rfl⟩
theorem s_Kp_draftIsRule : (.selects "RuleKeeper" y_Kp_draftIsRule y_Kp_draftIsRule : Cond) ∈ gw := List.mem_filter.mpr ⟨List.mem_append_left _ (List.mem_of_getElem? (i := 6) (by decide +kernel)), rfl⟩
theorem s_Kp_ruleOfDraft : (.selects "RuleKeeper" y_Kp_ruleOfDraft y_Kp_ruleOfDraft : Cond) ∈ gw := List.mem_filter.mpr ⟨List.mem_append_left _ (List.mem_of_getElem? (i := 7) (by decide +kernel)), rfl⟩
theorem s_Md_reckon : (.selects "RuleKeeperModel" y_Md_reckon y_Md_reckon : Cond) ∈ gw := List.mem_filter.mpr ⟨List.mem_append_left _ (List.mem_of_getElem? (i := 8) (by decide +kernel)), rfl⟩
theorem s_Md_come : (.selects "RuleKeeperModel" y_Md_come y_Md_come : Cond) ∈ gw := List.mem_filter.mpr ⟨List.mem_append_left _ (List.mem_of_getElem? (i := 9) (by decide +kernel)), rfl⟩
theorem s_Md_free : (.selects "RuleKeeperModel" y_Md_free y_Md_free : Cond) ∈ gw := List.mem_filter.mpr ⟨List.mem_append_left _ (List.mem_of_getElem? (i := 10) (by decide +kernel)), rfl⟩
theorem s_Md_allCases : (.selects "RuleKeeperModel" y_Md_allCases y_Md_allCases : Cond) ∈ gw := List.mem_filter.mpr ⟨List.mem_append_left _ (List.mem_of_getElem? (i := 11) (by decide +kernel)), rfl⟩
theorem s_Md_loosen : (.selects "RuleKeeperModel" y_Md_loosen y_Md_loosen : Cond) ∈ gw := List.mem_filter.mpr ⟨List.mem_append_left _ (List.mem_of_getElem? (i := 12) (by decide +kernel)), rfl⟩
theorem s_Md_bind : (.selects "RuleKeeperModel" y_Md_bind y_Md_bind : Cond) ∈ gw := List.mem_filter.mpr ⟨List.mem_append_left _ (List.mem_of_getElem? (i := 13) (by decide +kernel)), rfl⟩
theorem s_Md_give : (.selects "RuleKeeperModel" y_Md_give y_Md_give : Cond) ∈ gw := List.mem_filter.mpr ⟨List.mem_append_left _ (List.mem_of_getElem? (i := 14) (by decide +kernel)), rfl⟩
theorem s_Md_value : (.selects "RuleKeeperModel" y_Md_value y_Md_value : Cond) ∈ gw := List.mem_filter.mpr ⟨List.mem_append_left _ (List.mem_of_getElem? (i := 15) (by decide +kernel)), rfl⟩
theorem s_Md_isMade : (.selects "RuleKeeperModel" y_Md_isMade y_Md_isMade : Cond) ∈ gw := List.mem_filter.mpr ⟨List.mem_append_left _ (List.mem_of_getElem? (i := 16) (by decide +kernel)), rfl⟩
theorem i_Mk : ∀ w ∈ u_ws R_Mk T_Mk 1, w ∈ gw := by
  intro w hw
  obtain ⟨k, hk, rfl⟩ := List.mem_map.mp hw
  have hk := List.mem_range.mp hk
  rcases (show k = 0 by omega) with rfl
  · exact k_37
theorem i_Tr : ∀ w ∈ u_ws R_Tr T_Tr 3, w ∈ gw := by
  intro w hw
  obtain ⟨k, hk, rfl⟩ := List.mem_map.mp hw
  have hk := List.mem_range.mp hk
  rcases (show k = 0 ∨ k = 1 ∨ k = 2 by omega) with rfl | rfl | rfl
  · exact k_50
  · exact k_52
  · exact k_54
theorem i_Pt : ∀ w ∈ u_ws R_Pt T_Pt 8, w ∈ gw := by
  intro w hw
  obtain ⟨k, hk, rfl⟩ := List.mem_map.mp hw
  have hk := List.mem_range.mp hk
  rcases (show k = 0 ∨ k = 1 ∨ k = 2 ∨ k = 3 ∨ k = 4 ∨ k = 5 ∨ k = 6 ∨ k = 7 by omega) with rfl | rfl | rfl | rfl | rfl | rfl | rfl | rfl
  · exact k_87
  · exact k_89
  · exact k_91
  · exact k_93
  · exact k_95
  · exact k_97
  · exact k_99
  · exact k_101
theorem i_Ru : ∀ w ∈ u_ws R_Ru T_Ru 3, w ∈ gw := by
  intro w hw
  obtain ⟨k, hk, rfl⟩ := List.mem_map.mp hw
  have hk := List.mem_range.mp hk
  rcases (show k = 0 ∨ k = 1 ∨ k = 2 by omega) with rfl | rfl | rfl
  · exact k_161
  · exact k_163
  · exact k_165
theorem i_Co : ∀ w ∈ u_ws R_Co T_Co 6, w ∈ gw := by
  intro w hw
  obtain ⟨k, hk, rfl⟩ := List.mem_map.mp hw
  have hk := List.mem_range.mp hk
  rcases (show k = 0 ∨ k = 1 ∨ k = 2 ∨ k = 3 ∨ k = 4 ∨ k = 5 by omega) with rfl | rfl | rfl | rfl | rfl | rfl
  · exact k_115
  · exact k_117
  · exact k_119
  · exact k_121
  · exact k_123
  · exact k_125
theorem i_Sv : ∀ w ∈ u_ws R_Sv T_Sv 4, w ∈ gw := by
  intro w hw
  obtain ⟨k, hk, rfl⟩ := List.mem_map.mp hw
  have hk := List.mem_range.mp hk
  rcases (show k = 0 ∨ k = 1 ∨ k = 2 ∨ k = 3 by omega) with rfl | rfl | rfl | rfl
  · exact k_133
  · exact k_135
  · exact k_137
  · exact k_139
theorem i_Kp : ∀ w ∈ u_ws R_Kp T_Kp 7, w ∈ gw := by
  intro w hw
  obtain ⟨k, hk, rfl⟩ := List.mem_map.mp hw
  have hk := List.mem_range.mp hk
  rcases (show k = 0 ∨ k = 1 ∨ k = 2 ∨ k = 3 ∨ k = 4 ∨ k = 5 ∨ k = 6 by omega) with rfl | rfl | rfl | rfl | rfl | rfl | rfl
  · exact k_175
  · exact k_177
  · exact k_179
  · exact k_181
  · exact k_183
  · exact k_185
  · exact k_187
theorem i_Md : ∀ w ∈ u_ws R_Md T_Md 14, w ∈ gw := by
  intro w hw
  obtain ⟨k, hk, rfl⟩ := List.mem_map.mp hw
  have hk := List.mem_range.mp hk
  rcases (show k = 0 ∨ k = 1 ∨ k = 2 ∨ k = 3 ∨ k = 4 ∨ k = 5 ∨ k = 6 ∨ k = 7 ∨ k = 8 ∨ k = 9 ∨ k = 10 ∨ k = 11 ∨ k = 12 ∨ k = 13 by omega) with rfl | rfl | rfl | rfl | rfl | rfl | rfl | rfl | rfl | rfl | rfl | rfl | rfl | rfl
  · exact k_392
  · exact k_394
  · exact k_396
  · exact k_398
  · exact k_400
  · exact k_402
  · exact k_404
  · exact k_406
  · exact k_408
  · exact k_410
  · exact k_412
  · exact k_414
  · exact k_416
  · exact k_418
