/-! WORDS of the tables that the methods use (printed by gen/build.py) -/
theorem tw_1 : (.initialized "NightColander" : Cond) ∈ zTB := List.mem_filter.mpr ⟨zm_1 (List.mem_of_getElem? (i := 1) rfl), rfl⟩
theorem tw_2 : (.initialized "NightColander$Night" : Cond) ∈ zTB := List.mem_filter.mpr ⟨zm_1 (List.mem_of_getElem? (i := 2) rfl), rfl⟩
theorem tw_3 : (.initialized "java/util/Arrays" : Cond) ∈ zTB := List.mem_filter.mpr ⟨zm_1 (List.mem_of_getElem? (i := 3) rfl), rfl⟩
theorem tw_4 : (.initialized "NightColander$Past" : Cond) ∈ zTB := List.mem_filter.mpr ⟨zm_1 (List.mem_of_getElem? (i := 4) rfl), rfl⟩
theorem tw_5 : (.initialized "NightColander$Tape" : Cond) ∈ zTB := List.mem_filter.mpr ⟨zm_1 (List.mem_of_getElem? (i := 5) rfl), rfl⟩
theorem tw_6 : (.initialized "NightColander$Parser" : Cond) ∈ zTB := List.mem_filter.mpr ⟨zm_1 (List.mem_of_getElem? (i := 6) rfl), rfl⟩
theorem tw_7 : (.initialized "NightColander$Text" : Cond) ∈ zTB := List.mem_filter.mpr ⟨zm_1 (List.mem_of_getElem? (i := 7) rfl), rfl⟩
theorem tw_8 : (.initialized "NightColander$Judge" : Cond) ∈ zTB := List.mem_filter.mpr ⟨zm_1 (List.mem_of_getElem? (i := 8) rfl), rfl⟩
theorem tw_9 : (.initialized "NightColander$Machine" : Cond) ∈ zTB := List.mem_filter.mpr ⟨zm_1 (List.mem_of_getElem? (i := 9) rfl), rfl⟩
theorem tw_10 : (.initialized "NightColander$Deeds" : Cond) ∈ zTB := List.mem_filter.mpr ⟨zm_1 (List.mem_of_getElem? (i := 10) rfl), rfl⟩
theorem tw_11 : (.initialized "NightColander$Runner" : Cond) ∈ zTB := List.mem_filter.mpr ⟨zm_1 (List.mem_of_getElem? (i := 11) rfl), rfl⟩
theorem tw_12 : (.initialized "NightColander$Paper" : Cond) ∈ zTB := List.mem_filter.mpr ⟨zm_1 (List.mem_of_getElem? (i := 12) rfl), rfl⟩
theorem tw_13 : (.initialized "NightColanderModel" : Cond) ∈ zTB := List.mem_filter.mpr ⟨zm_1 (List.mem_of_getElem? (i := 13) rfl), rfl⟩
theorem tw_14 : (.initialized "java/lang/Math" : Cond) ∈ zTB := List.mem_filter.mpr ⟨zm_1 (List.mem_of_getElem? (i := 14) rfl), rfl⟩
theorem tw_15 : (.initialized "java/lang/String" : Cond) ∈ zTB := List.mem_filter.mpr ⟨zm_1 (List.mem_of_getElem? (i := 15) rfl), rfl⟩
theorem tw_16 : (.initialized "java/lang/StringLatin1" : Cond) ∈ zTB := List.mem_filter.mpr ⟨zm_1 (List.mem_of_getElem? (i := 16) rfl), rfl⟩
theorem tw_17 : (.initialized "jdk/internal/util/Preconditions" : Cond) ∈ zTB := List.mem_filter.mpr ⟨zm_1 (List.mem_of_getElem? (i := 17) rfl), rfl⟩
theorem tw_20 : (.initialized "java/lang/System" : Cond) ∈ zTB := List.mem_filter.mpr ⟨zm_1 (List.mem_of_getElem? (i := 20) rfl), rfl⟩
theorem tw_21 : (.initialized "java/lang/Integer" : Cond) ∈ zTB := List.mem_filter.mpr ⟨zm_1 (List.mem_of_getElem? (i := 21) rfl), rfl⟩
theorem tw_27 : (.methodLink "NightColander" 3 ⟨"java/lang/Object","<init>","()V"⟩ : Cond) ∈ zTB := List.mem_filter.mpr ⟨zm_1 (List.mem_of_getElem? (i := 27) rfl), rfl⟩
theorem tw_28 : (.instanceMethod ⟨"java/lang/Object","<init>","()V"⟩ : Cond) ∈ zTB := List.mem_filter.mpr ⟨zm_1 (List.mem_of_getElem? (i := 28) rfl), rfl⟩
theorem tw_29 : (.code ⟨"java/lang/Object","<init>","()V"⟩ object_method_1_code 1 (Option.none : Option FieldType) : Cond) ∈ zTB := List.mem_filter.mpr ⟨zm_1 (List.mem_of_getElem? (i := 29) rfl), rfl⟩
theorem tw_30 : (.classLink "NightColander" 9 "NightColander$Night" : Cond) ∈ zTB := List.mem_filter.mpr ⟨zm_1 (List.mem_of_getElem? (i := 30) rfl), rfl⟩
theorem tw_31 : (.instantiable "NightColander$Night" 15 : Cond) ∈ zTB := List.mem_filter.mpr ⟨zm_1 (List.mem_of_getElem? (i := 31) rfl), rfl⟩
theorem tw_32 : (.methodLink "NightColander" 11 ⟨"NightColander$Night","<init>","()V"⟩ : Cond) ∈ zTB := List.mem_filter.mpr ⟨zm_1 (List.mem_of_getElem? (i := 32) rfl), rfl⟩
theorem tw_33 : (.instanceMethod ⟨"NightColander$Night","<init>","()V"⟩ : Cond) ∈ zTB := List.mem_filter.mpr ⟨zm_1 (List.mem_of_getElem? (i := 33) rfl), rfl⟩
theorem tw_34 : (.code ⟨"NightColander$Night","<init>","()V"⟩ prog_5_method_1_code 1 (Option.none : Option FieldType) : Cond) ∈ zTB := List.mem_filter.mpr ⟨zm_1 (List.mem_of_getElem? (i := 34) rfl), rfl⟩
theorem tw_35 : (.methodLink "NightColander$Night" 3 ⟨"java/lang/Object","<init>","()V"⟩ : Cond) ∈ zTB := List.mem_filter.mpr ⟨zm_1 (List.mem_of_getElem? (i := 35) rfl), rfl⟩
theorem tw_36 : (.classLink "NightColander$Night" 43 "NightColander$Text" : Cond) ∈ zTB := List.mem_filter.mpr ⟨zm_1 (List.mem_of_getElem? (i := 36) rfl), rfl⟩
theorem tw_38 : (.methodLink "NightColander$Night" 62 ⟨"java/util/Arrays","fill","([II)V"⟩ : Cond) ∈ zTB := List.mem_filter.mpr ⟨zm_1 (List.mem_of_getElem? (i := 38) rfl), rfl⟩
theorem tw_39 : (.static ⟨"java/util/Arrays","fill","([II)V"⟩ : Cond) ∈ zTB := List.mem_filter.mpr ⟨zm_1 (List.mem_of_getElem? (i := 39) rfl), rfl⟩
theorem tw_40 : (.code ⟨"java/util/Arrays","fill","([II)V"⟩ prog_22_method_103_code 4 (Option.none : Option FieldType) : Cond) ∈ zTB := List.mem_filter.mpr ⟨zm_1 (List.mem_of_getElem? (i := 40) rfl), rfl⟩
theorem tw_41 : (.fieldLink "NightColander$Night" 9 "NightColander$Night" "bores" "[I" : Cond) ∈ zTB := List.mem_filter.mpr ⟨zm_1 (List.mem_of_getElem? (i := 41) rfl), rfl⟩
theorem tw_42 : (.fieldLink "NightColander$Judge" 22 "NightColander$Night" "bores" "[I" : Cond) ∈ zTB := List.mem_filter.mpr ⟨zm_1 (List.mem_of_getElem? (i := 42) rfl), rfl⟩
theorem tw_43 : (.fieldLink "NightColander" 118 "NightColander$Night" "bores" "[I" : Cond) ∈ zTB := List.mem_filter.mpr ⟨zm_1 (List.mem_of_getElem? (i := 43) rfl), rfl⟩
theorem tw_44 : (.fieldLink "NightColander$Deeds" 62 "NightColander$Night" "bores" "[I" : Cond) ∈ zTB := List.mem_filter.mpr ⟨zm_1 (List.mem_of_getElem? (i := 44) rfl), rfl⟩
theorem tw_45 : (.fieldLink "NightColander$Past" 31 "NightColander$Night" "bores" "[I" : Cond) ∈ zTB := List.mem_filter.mpr ⟨zm_1 (List.mem_of_getElem? (i := 45) rfl), rfl⟩
theorem tw_46 : (.fieldLink "NightColander$Night" 15 "NightColander$Night" "blocked" "[Z" : Cond) ∈ zTB := List.mem_filter.mpr ⟨zm_1 (List.mem_of_getElem? (i := 46) rfl), rfl⟩
theorem tw_47 : (.fieldLink "NightColander" 121 "NightColander$Night" "blocked" "[Z" : Cond) ∈ zTB := List.mem_filter.mpr ⟨zm_1 (List.mem_of_getElem? (i := 47) rfl), rfl⟩
theorem tw_48 : (.fieldLink "NightColander$Past" 25 "NightColander$Night" "blocked" "[Z" : Cond) ∈ zTB := List.mem_filter.mpr ⟨zm_1 (List.mem_of_getElem? (i := 48) rfl), rfl⟩
theorem tw_49 : (.fieldLink "NightColander$Deeds" 94 "NightColander$Night" "blocked" "[Z" : Cond) ∈ zTB := List.mem_filter.mpr ⟨zm_1 (List.mem_of_getElem? (i := 49) rfl), rfl⟩
theorem tw_50 : (.fieldLink "NightColander$Judge" 52 "NightColander$Night" "blocked" "[Z" : Cond) ∈ zTB := List.mem_filter.mpr ⟨zm_1 (List.mem_of_getElem? (i := 50) rfl), rfl⟩
theorem tw_51 : (.fieldLink "NightColander$Paper" 170 "NightColander$Night" "blocked" "[Z" : Cond) ∈ zTB := List.mem_filter.mpr ⟨zm_1 (List.mem_of_getElem? (i := 51) rfl), rfl⟩
theorem tw_52 : (.fieldLink "NightColander$Night" 19 "NightColander$Night" "turns" "[I" : Cond) ∈ zTB := List.mem_filter.mpr ⟨zm_1 (List.mem_of_getElem? (i := 52) rfl), rfl⟩
theorem tw_53 : (.fieldLink "NightColander" 140 "NightColander$Night" "turns" "[I" : Cond) ∈ zTB := List.mem_filter.mpr ⟨zm_1 (List.mem_of_getElem? (i := 53) rfl), rfl⟩
theorem tw_54 : (.fieldLink "NightColander$Runner" 77 "NightColander$Night" "turns" "[I" : Cond) ∈ zTB := List.mem_filter.mpr ⟨zm_1 (List.mem_of_getElem? (i := 54) rfl), rfl⟩
theorem tw_55 : (.fieldLink "NightColander$Paper" 106 "NightColander$Night" "turns" "[I" : Cond) ∈ zTB := List.mem_filter.mpr ⟨zm_1 (List.mem_of_getElem? (i := 55) rfl), rfl⟩
theorem tw_56 : (.fieldLink "NightColander$Night" 22 "NightColander$Night" "sizes" "[I" : Cond) ∈ zTB := List.mem_filter.mpr ⟨zm_1 (List.mem_of_getElem? (i := 56) rfl), rfl⟩
theorem tw_57 : (.fieldLink "NightColander" 164 "NightColander$Night" "sizes" "[I" : Cond) ∈ zTB := List.mem_filter.mpr ⟨zm_1 (List.mem_of_getElem? (i := 57) rfl), rfl⟩
theorem tw_58 : (.fieldLink "NightColander$Paper" 94 "NightColander$Night" "sizes" "[I" : Cond) ∈ zTB := List.mem_filter.mpr ⟨zm_1 (List.mem_of_getElem? (i := 58) rfl), rfl⟩
theorem tw_59 : (.fieldLink "NightColander$Deeds" 102 "NightColander$Night" "sizes" "[I" : Cond) ∈ zTB := List.mem_filter.mpr ⟨zm_1 (List.mem_of_getElem? (i := 59) rfl), rfl⟩
theorem tw_60 : (.fieldLink "NightColander$Night" 25 "NightColander$Night" "levels" "[I" : Cond) ∈ zTB := List.mem_filter.mpr ⟨zm_1 (List.mem_of_getElem? (i := 60) rfl), rfl⟩
theorem tw_61 : (.fieldLink "NightColander$Deeds" 21 "NightColander$Night" "levels" "[I" : Cond) ∈ zTB := List.mem_filter.mpr ⟨zm_1 (List.mem_of_getElem? (i := 61) rfl), rfl⟩
theorem tw_62 : (.fieldLink "NightColander$Runner" 84 "NightColander$Night" "levels" "[I" : Cond) ∈ zTB := List.mem_filter.mpr ⟨zm_1 (List.mem_of_getElem? (i := 62) rfl), rfl⟩
theorem tw_63 : (.fieldLink "NightColander" 167 "NightColander$Night" "levels" "[I" : Cond) ∈ zTB := List.mem_filter.mpr ⟨zm_1 (List.mem_of_getElem? (i := 63) rfl), rfl⟩
theorem tw_64 : (.fieldLink "NightColander$Past" 37 "NightColander$Night" "levels" "[I" : Cond) ∈ zTB := List.mem_filter.mpr ⟨zm_1 (List.mem_of_getElem? (i := 64) rfl), rfl⟩
theorem tw_65 : (.fieldLink "NightColander$Paper" 97 "NightColander$Night" "levels" "[I" : Cond) ∈ zTB := List.mem_filter.mpr ⟨zm_1 (List.mem_of_getElem? (i := 65) rfl), rfl⟩
theorem tw_66 : (.fieldLink "NightColander$Judge" 60 "NightColander$Night" "levels" "[I" : Cond) ∈ zTB := List.mem_filter.mpr ⟨zm_1 (List.mem_of_getElem? (i := 66) rfl), rfl⟩
theorem tw_67 : (.fieldLink "NightColander$Night" 28 "NightColander$Night" "fields" "[I" : Cond) ∈ zTB := List.mem_filter.mpr ⟨zm_1 (List.mem_of_getElem? (i := 67) rfl), rfl⟩
theorem tw_68 : (.fieldLink "NightColander$Deeds" 15 "NightColander$Night" "fields" "[I" : Cond) ∈ zTB := List.mem_filter.mpr ⟨zm_1 (List.mem_of_getElem? (i := 68) rfl), rfl⟩
theorem tw_69 : (.fieldLink "NightColander$Judge" 42 "NightColander$Night" "fields" "[I" : Cond) ∈ zTB := List.mem_filter.mpr ⟨zm_1 (List.mem_of_getElem? (i := 69) rfl), rfl⟩
theorem tw_70 : (.fieldLink "NightColander" 170 "NightColander$Night" "fields" "[I" : Cond) ∈ zTB := List.mem_filter.mpr ⟨zm_1 (List.mem_of_getElem? (i := 70) rfl), rfl⟩
theorem tw_71 : (.fieldLink "NightColander$Past" 34 "NightColander$Night" "fields" "[I" : Cond) ∈ zTB := List.mem_filter.mpr ⟨zm_1 (List.mem_of_getElem? (i := 71) rfl), rfl⟩
theorem tw_72 : (.fieldLink "NightColander$Paper" 91 "NightColander$Night" "fields" "[I" : Cond) ∈ zTB := List.mem_filter.mpr ⟨zm_1 (List.mem_of_getElem? (i := 72) rfl), rfl⟩
theorem tw_73 : (.fieldLink "NightColander$Night" 31 "NightColander$Night" "wants" "[I" : Cond) ∈ zTB := List.mem_filter.mpr ⟨zm_1 (List.mem_of_getElem? (i := 73) rfl), rfl⟩
theorem tw_74 : (.fieldLink "NightColander" 183 "NightColander$Night" "wants" "[I" : Cond) ∈ zTB := List.mem_filter.mpr ⟨zm_1 (List.mem_of_getElem? (i := 74) rfl), rfl⟩
theorem tw_75 : (.fieldLink "NightColander$Paper" 161 "NightColander$Night" "wants" "[I" : Cond) ∈ zTB := List.mem_filter.mpr ⟨zm_1 (List.mem_of_getElem? (i := 75) rfl), rfl⟩
theorem tw_76 : (.fieldLink "NightColander$Night" 34 "NightColander$Night" "seenFields" "[I" : Cond) ∈ zTB := List.mem_filter.mpr ⟨zm_1 (List.mem_of_getElem? (i := 76) rfl), rfl⟩
theorem tw_77 : (.fieldLink "NightColander$Paper" 125 "NightColander$Night" "seenFields" "[I" : Cond) ∈ zTB := List.mem_filter.mpr ⟨zm_1 (List.mem_of_getElem? (i := 77) rfl), rfl⟩
theorem tw_78 : (.fieldLink "NightColander$Night" 37 "NightColander$Night" "seenThreads" "[I" : Cond) ∈ zTB := List.mem_filter.mpr ⟨zm_1 (List.mem_of_getElem? (i := 78) rfl), rfl⟩
theorem tw_79 : (.fieldLink "NightColander$Paper" 131 "NightColander$Night" "seenThreads" "[I" : Cond) ∈ zTB := List.mem_filter.mpr ⟨zm_1 (List.mem_of_getElem? (i := 79) rfl), rfl⟩
theorem tw_80 : (.fieldLink "NightColander$Night" 40 "NightColander$Night" "terms" "[I" : Cond) ∈ zTB := List.mem_filter.mpr ⟨zm_1 (List.mem_of_getElem? (i := 80) rfl), rfl⟩
theorem tw_81 : (.fieldLink "NightColander$Judge" 27 "NightColander$Night" "terms" "[I" : Cond) ∈ zTB := List.mem_filter.mpr ⟨zm_1 (List.mem_of_getElem? (i := 81) rfl), rfl⟩
theorem tw_82 : (.fieldLink "NightColander$Runner" 68 "NightColander$Night" "terms" "[I" : Cond) ∈ zTB := List.mem_filter.mpr ⟨zm_1 (List.mem_of_getElem? (i := 82) rfl), rfl⟩
theorem tw_83 : (.fieldLink "NightColander$Deeds" 49 "NightColander$Night" "terms" "[I" : Cond) ∈ zTB := List.mem_filter.mpr ⟨zm_1 (List.mem_of_getElem? (i := 83) rfl), rfl⟩
theorem tw_84 : (.fieldLink "NightColander" 192 "NightColander$Night" "terms" "[I" : Cond) ∈ zTB := List.mem_filter.mpr ⟨zm_1 (List.mem_of_getElem? (i := 84) rfl), rfl⟩
theorem tw_85 : (.fieldLink "NightColander$Night" 45 "NightColander$Night" "laws" "[LNightColander$Text;" : Cond) ∈ zTB := List.mem_filter.mpr ⟨zm_1 (List.mem_of_getElem? (i := 85) rfl), rfl⟩
theorem tw_86 : (.fieldLink "NightColander$Night" 49 "NightColander$Night" "bucketCount" "I" : Cond) ∈ zTB := List.mem_filter.mpr ⟨zm_1 (List.mem_of_getElem? (i := 86) rfl), rfl⟩
theorem tw_87 : (.fieldLink "NightColander" 155 "NightColander$Night" "bucketCount" "I" : Cond) ∈ zTB := List.mem_filter.mpr ⟨zm_1 (List.mem_of_getElem? (i := 87) rfl), rfl⟩
theorem tw_88 : (.fieldLink "NightColander$Paper" 77 "NightColander$Night" "bucketCount" "I" : Cond) ∈ zTB := List.mem_filter.mpr ⟨zm_1 (List.mem_of_getElem? (i := 88) rfl), rfl⟩
theorem tw_89 : (.fieldLink "NightColander$Deeds" 98 "NightColander$Night" "bucketCount" "I" : Cond) ∈ zTB := List.mem_filter.mpr ⟨zm_1 (List.mem_of_getElem? (i := 89) rfl), rfl⟩
theorem tw_90 : (.fieldLink "NightColander$Night" 53 "NightColander$Night" "seenCount" "I" : Cond) ∈ zTB := List.mem_filter.mpr ⟨zm_1 (List.mem_of_getElem? (i := 90) rfl), rfl⟩
theorem tw_91 : (.fieldLink "NightColander$Paper" 122 "NightColander$Night" "seenCount" "I" : Cond) ∈ zTB := List.mem_filter.mpr ⟨zm_1 (List.mem_of_getElem? (i := 91) rfl), rfl⟩
theorem tw_92 : (.fieldLink "NightColander" 273 "NightColander$Night" "seenCount" "I" : Cond) ∈ zTB := List.mem_filter.mpr ⟨zm_1 (List.mem_of_getElem? (i := 92) rfl), rfl⟩
theorem tw_93 : (.fieldLink "NightColander$Night" 56 "NightColander$Night" "lawCount" "I" : Cond) ∈ zTB := List.mem_filter.mpr ⟨zm_1 (List.mem_of_getElem? (i := 93) rfl), rfl⟩
theorem tw_94 : (.fieldLink "NightColander" 208 "NightColander$Night" "lawCount" "I" : Cond) ∈ zTB := List.mem_filter.mpr ⟨zm_1 (List.mem_of_getElem? (i := 94) rfl), rfl⟩
theorem tw_95 : (.fieldLink "NightColander$Night" 59 "NightColander$Night" "inForce" "I" : Cond) ∈ zTB := List.mem_filter.mpr ⟨zm_1 (List.mem_of_getElem? (i := 95) rfl), rfl⟩
theorem tw_96 : (.fieldLink "NightColander" 246 "NightColander$Night" "inForce" "I" : Cond) ∈ zTB := List.mem_filter.mpr ⟨zm_1 (List.mem_of_getElem? (i := 96) rfl), rfl⟩
theorem tw_97 : (.fieldLink "NightColander$Paper" 189 "NightColander$Night" "inForce" "I" : Cond) ∈ zTB := List.mem_filter.mpr ⟨zm_1 (List.mem_of_getElem? (i := 97) rfl), rfl⟩
theorem tw_129 : (.arrayClass .int : Cond) ∈ zTB := List.mem_filter.mpr ⟨zm_1 (List.mem_of_getElem? (i := 129) rfl), rfl⟩
theorem tw_130 : (.arrayClass .boolean : Cond) ∈ zTB := List.mem_filter.mpr ⟨zm_1 (List.mem_of_getElem? (i := 130) rfl), rfl⟩
theorem tw_132 : (.classLink "NightColander" 32 "NightColander$Past" : Cond) ∈ zTB := List.mem_filter.mpr ⟨zm_1 (List.mem_of_getElem? (i := 132) rfl), rfl⟩
theorem tw_133 : (.instantiable "NightColander$Past" 2 : Cond) ∈ zTB := List.mem_filter.mpr ⟨zm_1 (List.mem_of_getElem? (i := 133) rfl), rfl⟩
theorem tw_135 : (.instanceMethod ⟨"NightColander$Past","<init>","()V"⟩ : Cond) ∈ zTB := List.mem_filter.mpr ⟨zm_1 (List.mem_of_getElem? (i := 135) rfl), rfl⟩
theorem tw_136 : (.code ⟨"NightColander$Past","<init>","()V"⟩ prog_8_method_1_code 1 (Option.none : Option FieldType) : Cond) ∈ zTB := List.mem_filter.mpr ⟨zm_1 (List.mem_of_getElem? (i := 136) rfl), rfl⟩
theorem tw_137 : (.methodLink "NightColander$Past" 3 ⟨"java/lang/Object","<init>","()V"⟩ : Cond) ∈ zTB := List.mem_filter.mpr ⟨zm_1 (List.mem_of_getElem? (i := 137) rfl), rfl⟩
theorem tw_138 : (.fieldLink "NightColander$Past" 11 "NightColander$Past" "rows" "[I" : Cond) ∈ zTB := List.mem_filter.mpr ⟨zm_1 (List.mem_of_getElem? (i := 138) rfl), rfl⟩
theorem tw_139 : (.fieldLink "NightColander$Past" 15 "NightColander$Past" "kept" "I" : Cond) ∈ zTB := List.mem_filter.mpr ⟨zm_1 (List.mem_of_getElem? (i := 139) rfl), rfl⟩
theorem tw_140 : (.fieldLink "NightColander" 327 "NightColander$Past" "kept" "I" : Cond) ∈ zTB := List.mem_filter.mpr ⟨zm_1 (List.mem_of_getElem? (i := 140) rfl), rfl⟩
theorem tw_146 : (.classLink "NightColander" 42 "NightColander$Tape" : Cond) ∈ zTB := List.mem_filter.mpr ⟨zm_1 (List.mem_of_getElem? (i := 146) rfl), rfl⟩
theorem tw_147 : (.instantiable "NightColander$Tape" 6 : Cond) ∈ zTB := List.mem_filter.mpr ⟨zm_1 (List.mem_of_getElem? (i := 147) rfl), rfl⟩
theorem tw_149 : (.instanceMethod ⟨"NightColander$Tape","<init>","()V"⟩ : Cond) ∈ zTB := List.mem_filter.mpr ⟨zm_1 (List.mem_of_getElem? (i := 149) rfl), rfl⟩
theorem tw_150 : (.code ⟨"NightColander$Tape","<init>","()V"⟩ prog_10_method_1_code 1 (Option.none : Option FieldType) : Cond) ∈ zTB := List.mem_filter.mpr ⟨zm_1 (List.mem_of_getElem? (i := 150) rfl), rfl⟩
theorem tw_151 : (.methodLink "NightColander$Tape" 3 ⟨"java/lang/Object","<init>","()V"⟩ : Cond) ∈ zTB := List.mem_filter.mpr ⟨zm_1 (List.mem_of_getElem? (i := 151) rfl), rfl⟩
theorem tw_152 : (.fieldLink "NightColander$Tape" 11 "NightColander$Tape" "bytes" "[B" : Cond) ∈ zTB := List.mem_filter.mpr ⟨zm_1 (List.mem_of_getElem? (i := 152) rfl), rfl⟩
theorem tw_153 : (.fieldLink "NightColander$Tape" 15 "NightColander$Tape" "length" "I" : Cond) ∈ zTB := List.mem_filter.mpr ⟨zm_1 (List.mem_of_getElem? (i := 153) rfl), rfl⟩
theorem tw_154 : (.fieldLink "NightColander" 202 "NightColander$Tape" "length" "I" : Cond) ∈ zTB := List.mem_filter.mpr ⟨zm_1 (List.mem_of_getElem? (i := 154) rfl), rfl⟩
theorem tw_155 : (.fieldLink "NightColander$Tape" 19 "NightColander$Tape" "kind" "I" : Cond) ∈ zTB := List.mem_filter.mpr ⟨zm_1 (List.mem_of_getElem? (i := 155) rfl), rfl⟩
theorem tw_156 : (.fieldLink "NightColander$Tape" 22 "NightColander$Tape" "start" "I" : Cond) ∈ zTB := List.mem_filter.mpr ⟨zm_1 (List.mem_of_getElem? (i := 156) rfl), rfl⟩
theorem tw_157 : (.fieldLink "NightColander$Tape" 25 "NightColander$Tape" "behind" "I" : Cond) ∈ zTB := List.mem_filter.mpr ⟨zm_1 (List.mem_of_getElem? (i := 157) rfl), rfl⟩
theorem tw_158 : (.fieldLink "NightColander$Tape" 28 "NightColander$Tape" "value" "I" : Cond) ∈ zTB := List.mem_filter.mpr ⟨zm_1 (List.mem_of_getElem? (i := 158) rfl), rfl⟩
theorem tw_172 : (.arrayClass .byte : Cond) ∈ zTB := List.mem_filter.mpr ⟨zm_1 (List.mem_of_getElem? (i := 172) rfl), rfl⟩
theorem tw_173 : (.classLink "NightColander" 49 "NightColander$Parser" : Cond) ∈ zTB := List.mem_filter.mpr ⟨zm_1 (List.mem_of_getElem? (i := 173) rfl), rfl⟩
theorem tw_174 : (.instantiable "NightColander$Parser" 4 : Cond) ∈ zTB := List.mem_filter.mpr ⟨zm_1 (List.mem_of_getElem? (i := 174) rfl), rfl⟩
theorem tw_175 : (.methodLink "NightColander" 51 ⟨"NightColander$Parser","<init>","(LNightColander$Tape;)V"⟩ : Cond) ∈ zTB := List.mem_filter.mpr ⟨zm_1 (List.mem_of_getElem? (i := 175) rfl), rfl⟩
theorem tw_176 : (.instanceMethod ⟨"NightColander$Parser","<init>","(LNightColander$Tape;)V"⟩ : Cond) ∈ zTB := List.mem_filter.mpr ⟨zm_1 (List.mem_of_getElem? (i := 176) rfl), rfl⟩
theorem tw_177 : (.code ⟨"NightColander$Parser","<init>","(LNightColander$Tape;)V"⟩ prog_7_method_1_code 2 (Option.none : Option FieldType) : Cond) ∈ zTB := List.mem_filter.mpr ⟨zm_1 (List.mem_of_getElem? (i := 177) rfl), rfl⟩
theorem tw_178 : (.methodLink "NightColander$Parser" 3 ⟨"java/lang/Object","<init>","()V"⟩ : Cond) ∈ zTB := List.mem_filter.mpr ⟨zm_1 (List.mem_of_getElem? (i := 178) rfl), rfl⟩
theorem tw_179 : (.classLink "NightColander$Parser" 9 "NightColander$Text" : Cond) ∈ zTB := List.mem_filter.mpr ⟨zm_1 (List.mem_of_getElem? (i := 179) rfl), rfl⟩
theorem tw_180 : (.instantiable "NightColander$Text" 7 : Cond) ∈ zTB := List.mem_filter.mpr ⟨zm_1 (List.mem_of_getElem? (i := 180) rfl), rfl⟩
theorem tw_181 : (.methodLink "NightColander$Parser" 11 ⟨"NightColander$Text","<init>","()V"⟩ : Cond) ∈ zTB := List.mem_filter.mpr ⟨zm_1 (List.mem_of_getElem? (i := 181) rfl), rfl⟩
theorem tw_182 : (.instanceMethod ⟨"NightColander$Text","<init>","()V"⟩ : Cond) ∈ zTB := List.mem_filter.mpr ⟨zm_1 (List.mem_of_getElem? (i := 182) rfl), rfl⟩
theorem tw_183 : (.code ⟨"NightColander$Text","<init>","()V"⟩ prog_11_method_1_code 1 (Option.none : Option FieldType) : Cond) ∈ zTB := List.mem_filter.mpr ⟨zm_1 (List.mem_of_getElem? (i := 183) rfl), rfl⟩
theorem tw_184 : (.methodLink "NightColander$Text" 1 ⟨"java/lang/Object","<init>","()V"⟩ : Cond) ∈ zTB := List.mem_filter.mpr ⟨zm_1 (List.mem_of_getElem? (i := 184) rfl), rfl⟩
theorem tw_185 : (.fieldLink "NightColander$Text" 16 "NightColander$Text" "steps" "[I" : Cond) ∈ zTB := List.mem_filter.mpr ⟨zm_1 (List.mem_of_getElem? (i := 185) rfl), rfl⟩
theorem tw_186 : (.fieldLink "NightColander$Machine" 21 "NightColander$Text" "steps" "[I" : Cond) ∈ zTB := List.mem_filter.mpr ⟨zm_1 (List.mem_of_getElem? (i := 186) rfl), rfl⟩
theorem tw_187 : (.fieldLink "NightColander$Text" 20 "NightColander$Text" "kinds" "[I" : Cond) ∈ zTB := List.mem_filter.mpr ⟨zm_1 (List.mem_of_getElem? (i := 187) rfl), rfl⟩
theorem tw_188 : (.fieldLink "NightColander$Runner" 58 "NightColander$Text" "kinds" "[I" : Cond) ∈ zTB := List.mem_filter.mpr ⟨zm_1 (List.mem_of_getElem? (i := 188) rfl), rfl⟩
theorem tw_189 : (.fieldLink "NightColander$Judge" 69 "NightColander$Text" "kinds" "[I" : Cond) ∈ zTB := List.mem_filter.mpr ⟨zm_1 (List.mem_of_getElem? (i := 189) rfl), rfl⟩
theorem tw_190 : (.fieldLink "NightColander$Text" 23 "NightColander$Text" "times" "[I" : Cond) ∈ zTB := List.mem_filter.mpr ⟨zm_1 (List.mem_of_getElem? (i := 190) rfl), rfl⟩
theorem tw_191 : (.fieldLink "NightColander$Runner" 46 "NightColander$Text" "times" "[I" : Cond) ∈ zTB := List.mem_filter.mpr ⟨zm_1 (List.mem_of_getElem? (i := 191) rfl), rfl⟩
theorem tw_192 : (.fieldLink "NightColander$Text" 26 "NightColander$Text" "words" "[I" : Cond) ∈ zTB := List.mem_filter.mpr ⟨zm_1 (List.mem_of_getElem? (i := 192) rfl), rfl⟩
theorem tw_193 : (.fieldLink "NightColander$Runner" 49 "NightColander$Text" "words" "[I" : Cond) ∈ zTB := List.mem_filter.mpr ⟨zm_1 (List.mem_of_getElem? (i := 193) rfl), rfl⟩
theorem tw_194 : (.fieldLink "NightColander$Text" 29 "NightColander$Text" "marks" "[I" : Cond) ∈ zTB := List.mem_filter.mpr ⟨zm_1 (List.mem_of_getElem? (i := 194) rfl), rfl⟩
theorem tw_195 : (.fieldLink "NightColander$Text" 7 "NightColander$Text" "length" "I" : Cond) ∈ zTB := List.mem_filter.mpr ⟨zm_1 (List.mem_of_getElem? (i := 195) rfl), rfl⟩
theorem tw_196 : (.fieldLink "NightColander$Machine" 15 "NightColander$Text" "length" "I" : Cond) ∈ zTB := List.mem_filter.mpr ⟨zm_1 (List.mem_of_getElem? (i := 196) rfl), rfl⟩
theorem tw_197 : (.fieldLink "NightColander$Text" 13 "NightColander$Text" "clauses" "I" : Cond) ∈ zTB := List.mem_filter.mpr ⟨zm_1 (List.mem_of_getElem? (i := 197) rfl), rfl⟩
theorem tw_198 : (.fieldLink "NightColander$Runner" 37 "NightColander$Text" "clauses" "I" : Cond) ∈ zTB := List.mem_filter.mpr ⟨zm_1 (List.mem_of_getElem? (i := 198) rfl), rfl⟩
theorem tw_199 : (.fieldLink "NightColander$Judge" 63 "NightColander$Text" "clauses" "I" : Cond) ∈ zTB := List.mem_filter.mpr ⟨zm_1 (List.mem_of_getElem? (i := 199) rfl), rfl⟩
theorem tw_215 : (.fieldLink "NightColander$Parser" 12 "NightColander$Parser" "text" "LNightColander$Text;" : Cond) ∈ zTB := List.mem_filter.mpr ⟨zm_1 (List.mem_of_getElem? (i := 215) rfl), rfl⟩
theorem tw_216 : (.fieldLink "NightColander" 215 "NightColander$Parser" "text" "LNightColander$Text;" : Cond) ∈ zTB := List.mem_filter.mpr ⟨zm_1 (List.mem_of_getElem? (i := 216) rfl), rfl⟩
theorem tw_217 : (.fieldLink "NightColander$Parser" 26 "NightColander$Parser" "tape" "LNightColander$Tape;" : Cond) ∈ zTB := List.mem_filter.mpr ⟨zm_1 (List.mem_of_getElem? (i := 217) rfl), rfl⟩
theorem tw_218 : (.fieldLink "NightColander$Parser" 18 "NightColander$Parser" "ordering" "Z" : Cond) ∈ zTB := List.mem_filter.mpr ⟨zm_1 (List.mem_of_getElem? (i := 218) rfl), rfl⟩
theorem tw_219 : (.fieldLink "NightColander$Parser" 22 "NightColander$Parser" "parts" "I" : Cond) ∈ zTB := List.mem_filter.mpr ⟨zm_1 (List.mem_of_getElem? (i := 219) rfl), rfl⟩
theorem tw_229 : (.classLink "NightColander" 58 "NightColander$Judge" : Cond) ∈ zTB := List.mem_filter.mpr ⟨zm_1 (List.mem_of_getElem? (i := 229) rfl), rfl⟩
theorem tw_230 : (.instantiable "NightColander$Judge" 2 : Cond) ∈ zTB := List.mem_filter.mpr ⟨zm_1 (List.mem_of_getElem? (i := 230) rfl), rfl⟩
theorem tw_232 : (.instanceMethod ⟨"NightColander$Judge","<init>","()V"⟩ : Cond) ∈ zTB := List.mem_filter.mpr ⟨zm_1 (List.mem_of_getElem? (i := 232) rfl), rfl⟩
theorem tw_233 : (.code ⟨"NightColander$Judge","<init>","()V"⟩ prog_3_method_1_code 1 (Option.none : Option FieldType) : Cond) ∈ zTB := List.mem_filter.mpr ⟨zm_1 (List.mem_of_getElem? (i := 233) rfl), rfl⟩
theorem tw_234 : (.methodLink "NightColander$Judge" 3 ⟨"java/lang/Object","<init>","()V"⟩ : Cond) ∈ zTB := List.mem_filter.mpr ⟨zm_1 (List.mem_of_getElem? (i := 234) rfl), rfl⟩
theorem tw_235 : (.classLink "NightColander$Judge" 9 "NightColander$Machine" : Cond) ∈ zTB := List.mem_filter.mpr ⟨zm_1 (List.mem_of_getElem? (i := 235) rfl), rfl⟩
theorem tw_236 : (.instantiable "NightColander$Machine" 1 : Cond) ∈ zTB := List.mem_filter.mpr ⟨zm_1 (List.mem_of_getElem? (i := 236) rfl), rfl⟩
theorem tw_238 : (.instanceMethod ⟨"NightColander$Machine","<init>","()V"⟩ : Cond) ∈ zTB := List.mem_filter.mpr ⟨zm_1 (List.mem_of_getElem? (i := 238) rfl), rfl⟩
theorem tw_239 : (.code ⟨"NightColander$Machine","<init>","()V"⟩ prog_4_method_1_code 1 (Option.none : Option FieldType) : Cond) ∈ zTB := List.mem_filter.mpr ⟨zm_1 (List.mem_of_getElem? (i := 239) rfl), rfl⟩
theorem tw_240 : (.methodLink "NightColander$Machine" 3 ⟨"java/lang/Object","<init>","()V"⟩ : Cond) ∈ zTB := List.mem_filter.mpr ⟨zm_2 (List.mem_of_getElem? (i := 0) rfl), rfl⟩
theorem tw_241 : (.fieldLink "NightColander$Machine" 9 "NightColander$Machine" "stack" "[I" : Cond) ∈ zTB := List.mem_filter.mpr ⟨zm_2 (List.mem_of_getElem? (i := 1) rfl), rfl⟩
theorem tw_245 : (.fieldLink "NightColander$Judge" 12 "NightColander$Judge" "machine" "LNightColander$Machine;" : Cond) ∈ zTB := List.mem_filter.mpr ⟨zm_2 (List.mem_of_getElem? (i := 5) rfl), rfl⟩
theorem tw_246 : (.fieldLink "NightColander$Judge" 18 "NightColander$Judge" "words" "[I" : Cond) ∈ zTB := List.mem_filter.mpr ⟨zm_2 (List.mem_of_getElem? (i := 6) rfl), rfl⟩
theorem tw_252 : (.classLink "NightColander" 65 "NightColander$Deeds" : Cond) ∈ zTB := List.mem_filter.mpr ⟨zm_2 (List.mem_of_getElem? (i := 12) rfl), rfl⟩
theorem tw_253 : (.instantiable "NightColander$Deeds" 1 : Cond) ∈ zTB := List.mem_filter.mpr ⟨zm_2 (List.mem_of_getElem? (i := 13) rfl), rfl⟩
theorem tw_254 : (.methodLink "NightColander" 67 ⟨"NightColander$Deeds","<init>","(LNightColander$Judge;)V"⟩ : Cond) ∈ zTB := List.mem_filter.mpr ⟨zm_2 (List.mem_of_getElem? (i := 14) rfl), rfl⟩
theorem tw_255 : (.instanceMethod ⟨"NightColander$Deeds","<init>","(LNightColander$Judge;)V"⟩ : Cond) ∈ zTB := List.mem_filter.mpr ⟨zm_2 (List.mem_of_getElem? (i := 15) rfl), rfl⟩
theorem tw_256 : (.code ⟨"NightColander$Deeds","<init>","(LNightColander$Judge;)V"⟩ prog_2_method_1_code 2 (Option.none : Option FieldType) : Cond) ∈ zTB := List.mem_filter.mpr ⟨zm_2 (List.mem_of_getElem? (i := 16) rfl), rfl⟩
theorem tw_257 : (.methodLink "NightColander$Deeds" 3 ⟨"java/lang/Object","<init>","()V"⟩ : Cond) ∈ zTB := List.mem_filter.mpr ⟨zm_2 (List.mem_of_getElem? (i := 17) rfl), rfl⟩
theorem tw_258 : (.fieldLink "NightColander$Deeds" 9 "NightColander$Deeds" "judge" "LNightColander$Judge;" : Cond) ∈ zTB := List.mem_filter.mpr ⟨zm_2 (List.mem_of_getElem? (i := 18) rfl), rfl⟩
theorem tw_262 : (.classLink "NightColander" 74 "NightColander$Runner" : Cond) ∈ zTB := List.mem_filter.mpr ⟨zm_2 (List.mem_of_getElem? (i := 22) rfl), rfl⟩
theorem tw_263 : (.instantiable "NightColander$Runner" 6 : Cond) ∈ zTB := List.mem_filter.mpr ⟨zm_2 (List.mem_of_getElem? (i := 23) rfl), rfl⟩
theorem tw_264 : (.methodLink "NightColander" 76 ⟨"NightColander$Runner","<init>","(LNightColander$Judge;LNightColander$Deeds;)V"⟩ : Cond) ∈ zTB := List.mem_filter.mpr ⟨zm_2 (List.mem_of_getElem? (i := 24) rfl), rfl⟩
theorem tw_265 : (.instanceMethod ⟨"NightColander$Runner","<init>","(LNightColander$Judge;LNightColander$Deeds;)V"⟩ : Cond) ∈ zTB := List.mem_filter.mpr ⟨zm_2 (List.mem_of_getElem? (i := 25) rfl), rfl⟩
theorem tw_266 : (.code ⟨"NightColander$Runner","<init>","(LNightColander$Judge;LNightColander$Deeds;)V"⟩ prog_9_method_1_code 3 (Option.none : Option FieldType) : Cond) ∈ zTB := List.mem_filter.mpr ⟨zm_2 (List.mem_of_getElem? (i := 26) rfl), rfl⟩
theorem tw_267 : (.methodLink "NightColander$Runner" 3 ⟨"java/lang/Object","<init>","()V"⟩ : Cond) ∈ zTB := List.mem_filter.mpr ⟨zm_2 (List.mem_of_getElem? (i := 27) rfl), rfl⟩
theorem tw_268 : (.classLink "NightColander$Runner" 9 "NightColander$Machine" : Cond) ∈ zTB := List.mem_filter.mpr ⟨zm_2 (List.mem_of_getElem? (i := 28) rfl), rfl⟩
theorem tw_270 : (.fieldLink "NightColander$Runner" 29 "NightColander$Runner" "judge" "LNightColander$Judge;" : Cond) ∈ zTB := List.mem_filter.mpr ⟨zm_2 (List.mem_of_getElem? (i := 30) rfl), rfl⟩
theorem tw_271 : (.fieldLink "NightColander$Runner" 33 "NightColander$Runner" "deeds" "LNightColander$Deeds;" : Cond) ∈ zTB := List.mem_filter.mpr ⟨zm_2 (List.mem_of_getElem? (i := 31) rfl), rfl⟩
theorem tw_272 : (.fieldLink "NightColander$Runner" 12 "NightColander$Runner" "machine" "LNightColander$Machine;" : Cond) ∈ zTB := List.mem_filter.mpr ⟨zm_2 (List.mem_of_getElem? (i := 32) rfl), rfl⟩
theorem tw_273 : (.fieldLink "NightColander$Runner" 18 "NightColander$Runner" "words" "[I" : Cond) ∈ zTB := List.mem_filter.mpr ⟨zm_2 (List.mem_of_getElem? (i := 33) rfl), rfl⟩
theorem tw_274 : (.fieldLink "NightColander$Runner" 22 "NightColander$Runner" "done" "I" : Cond) ∈ zTB := List.mem_filter.mpr ⟨zm_2 (List.mem_of_getElem? (i := 34) rfl), rfl⟩
theorem tw_275 : (.fieldLink "NightColander" 240 "NightColander$Runner" "done" "I" : Cond) ∈ zTB := List.mem_filter.mpr ⟨zm_2 (List.mem_of_getElem? (i := 35) rfl), rfl⟩
theorem tw_276 : (.fieldLink "NightColander$Runner" 26 "NightColander$Runner" "latest" "I" : Cond) ∈ zTB := List.mem_filter.mpr ⟨zm_2 (List.mem_of_getElem? (i := 36) rfl), rfl⟩
theorem tw_290 : (.classLink "NightColander" 83 "NightColander$Paper" : Cond) ∈ zTB := List.mem_filter.mpr ⟨zm_2 (List.mem_of_getElem? (i := 50) rfl), rfl⟩
theorem tw_291 : (.instantiable "NightColander$Paper" 10 : Cond) ∈ zTB := List.mem_filter.mpr ⟨zm_2 (List.mem_of_getElem? (i := 51) rfl), rfl⟩
theorem tw_292 : (.methodLink "NightColander" 85 ⟨"NightColander$Paper","<init>","(LNightColander$Judge;)V"⟩ : Cond) ∈ zTB := List.mem_filter.mpr ⟨zm_2 (List.mem_of_getElem? (i := 52) rfl), rfl⟩
theorem tw_293 : (.instanceMethod ⟨"NightColander$Paper","<init>","(LNightColander$Judge;)V"⟩ : Cond) ∈ zTB := List.mem_filter.mpr ⟨zm_2 (List.mem_of_getElem? (i := 53) rfl), rfl⟩
theorem tw_294 : (.code ⟨"NightColander$Paper","<init>","(LNightColander$Judge;)V"⟩ prog_6_method_1_code 2 (Option.none : Option FieldType) : Cond) ∈ zTB := List.mem_filter.mpr ⟨zm_2 (List.mem_of_getElem? (i := 54) rfl), rfl⟩
theorem tw_295 : (.methodLink "NightColander$Paper" 3 ⟨"java/lang/Object","<init>","()V"⟩ : Cond) ∈ zTB := List.mem_filter.mpr ⟨zm_2 (List.mem_of_getElem? (i := 55) rfl), rfl⟩
theorem tw_296 : (.classLink "NightColander$Paper" 9 "NightColander$Night" : Cond) ∈ zTB := List.mem_filter.mpr ⟨zm_2 (List.mem_of_getElem? (i := 56) rfl), rfl⟩
theorem tw_297 : (.methodLink "NightColander$Paper" 11 ⟨"NightColander$Night","<init>","()V"⟩ : Cond) ∈ zTB := List.mem_filter.mpr ⟨zm_2 (List.mem_of_getElem? (i := 57) rfl), rfl⟩
theorem tw_298 : (.fieldLink "NightColander$Paper" 45 "NightColander$Paper" "judge" "LNightColander$Judge;" : Cond) ∈ zTB := List.mem_filter.mpr ⟨zm_2 (List.mem_of_getElem? (i := 58) rfl), rfl⟩
theorem tw_299 : (.fieldLink "NightColander$Paper" 12 "NightColander$Paper" "sketch" "LNightColander$Night;" : Cond) ∈ zTB := List.mem_filter.mpr ⟨zm_2 (List.mem_of_getElem? (i := 59) rfl), rfl⟩
theorem tw_300 : (.fieldLink "NightColander$Paper" 18 "NightColander$Paper" "shares" "[I" : Cond) ∈ zTB := List.mem_filter.mpr ⟨zm_2 (List.mem_of_getElem? (i := 60) rfl), rfl⟩
theorem tw_301 : (.fieldLink "NightColander$Paper" 22 "NightColander$Paper" "falls" "[I" : Cond) ∈ zTB := List.mem_filter.mpr ⟨zm_2 (List.mem_of_getElem? (i := 61) rfl), rfl⟩
theorem tw_302 : (.fieldLink "NightColander$Paper" 25 "NightColander$Paper" "catches" "[I" : Cond) ∈ zTB := List.mem_filter.mpr ⟨zm_2 (List.mem_of_getElem? (i := 62) rfl), rfl⟩
theorem tw_303 : (.fieldLink "NightColander$Paper" 28 "NightColander$Paper" "fitting" "[I" : Cond) ∈ zTB := List.mem_filter.mpr ⟨zm_2 (List.mem_of_getElem? (i := 63) rfl), rfl⟩
theorem tw_304 : (.fieldLink "NightColander$Paper" 31 "NightColander$Paper" "tally" "[I" : Cond) ∈ zTB := List.mem_filter.mpr ⟨zm_2 (List.mem_of_getElem? (i := 64) rfl), rfl⟩
theorem tw_305 : (.fieldLink "NightColander$Paper" 34 "NightColander$Paper" "chances" "[J" : Cond) ∈ zTB := List.mem_filter.mpr ⟨zm_2 (List.mem_of_getElem? (i := 65) rfl), rfl⟩
theorem tw_306 : (.fieldLink "NightColander$Paper" 38 "NightColander$Paper" "best" "I" : Cond) ∈ zTB := List.mem_filter.mpr ⟨zm_2 (List.mem_of_getElem? (i := 66) rfl), rfl⟩
theorem tw_307 : (.fieldLink "NightColander" 267 "NightColander$Paper" "best" "I" : Cond) ∈ zTB := List.mem_filter.mpr ⟨zm_2 (List.mem_of_getElem? (i := 67) rfl), rfl⟩
theorem tw_308 : (.fieldLink "NightColander$Paper" 42 "NightColander$Paper" "choice" "I" : Cond) ∈ zTB := List.mem_filter.mpr ⟨zm_2 (List.mem_of_getElem? (i := 68) rfl), rfl⟩
theorem tw_309 : (.fieldLink "NightColander" 286 "NightColander$Paper" "choice" "I" : Cond) ∈ zTB := List.mem_filter.mpr ⟨zm_2 (List.mem_of_getElem? (i := 69) rfl), rfl⟩
theorem tw_331 : (.arrayClass .long : Cond) ∈ zTB := List.mem_filter.mpr ⟨zm_2 (List.mem_of_getElem? (i := 91) rfl), rfl⟩
theorem tw_332 : (.fieldLink "NightColander" 12 "NightColander" "now" "LNightColander$Night;" : Cond) ∈ zTB := List.mem_filter.mpr ⟨zm_2 (List.mem_of_getElem? (i := 92) rfl), rfl⟩
theorem tw_333 : (.fieldLink "NightColander" 18 "NightColander" "images" "[LNightColander$Night;" : Cond) ∈ zTB := List.mem_filter.mpr ⟨zm_2 (List.mem_of_getElem? (i := 93) rfl), rfl⟩
theorem tw_334 : (.fieldLink "NightColander" 22 "NightColander" "imageKept" "[Z" : Cond) ∈ zTB := List.mem_filter.mpr ⟨zm_2 (List.mem_of_getElem? (i := 94) rfl), rfl⟩
theorem tw_335 : (.fieldLink "NightColander" 26 "NightColander" "yearsNight" "LNightColander$Night;" : Cond) ∈ zTB := List.mem_filter.mpr ⟨zm_2 (List.mem_of_getElem? (i := 95) rfl), rfl⟩
theorem tw_336 : (.fieldLink "NightColander" 29 "NightColander" "aheadNight" "LNightColander$Night;" : Cond) ∈ zTB := List.mem_filter.mpr ⟨zm_2 (List.mem_of_getElem? (i := 96) rfl), rfl⟩
theorem tw_337 : (.fieldLink "NightColander" 35 "NightColander" "past" "LNightColander$Past;" : Cond) ∈ zTB := List.mem_filter.mpr ⟨zm_2 (List.mem_of_getElem? (i := 97) rfl), rfl⟩
theorem tw_338 : (.fieldLink "NightColander" 39 "NightColander" "aheadPast" "LNightColander$Past;" : Cond) ∈ zTB := List.mem_filter.mpr ⟨zm_2 (List.mem_of_getElem? (i := 98) rfl), rfl⟩
theorem tw_339 : (.fieldLink "NightColander" 45 "NightColander" "tape" "LNightColander$Tape;" : Cond) ∈ zTB := List.mem_filter.mpr ⟨zm_2 (List.mem_of_getElem? (i := 99) rfl), rfl⟩
theorem tw_340 : (.fieldLink "NightColander" 54 "NightColander" "parser" "LNightColander$Parser;" : Cond) ∈ zTB := List.mem_filter.mpr ⟨zm_2 (List.mem_of_getElem? (i := 100) rfl), rfl⟩
theorem tw_341 : (.fieldLink "NightColander" 61 "NightColander" "judge" "LNightColander$Judge;" : Cond) ∈ zTB := List.mem_filter.mpr ⟨zm_2 (List.mem_of_getElem? (i := 101) rfl), rfl⟩
theorem tw_342 : (.fieldLink "NightColander" 70 "NightColander" "deeds" "LNightColander$Deeds;" : Cond) ∈ zTB := List.mem_filter.mpr ⟨zm_2 (List.mem_of_getElem? (i := 102) rfl), rfl⟩
theorem tw_343 : (.fieldLink "NightColander" 79 "NightColander" "runner" "LNightColander$Runner;" : Cond) ∈ zTB := List.mem_filter.mpr ⟨zm_2 (List.mem_of_getElem? (i := 103) rfl), rfl⟩
theorem tw_344 : (.fieldLink "NightColander" 86 "NightColander" "paper" "LNightColander$Paper;" : Cond) ∈ zTB := List.mem_filter.mpr ⟨zm_2 (List.mem_of_getElem? (i := 104) rfl), rfl⟩
theorem tw_345 : (.fieldLink "NightColander" 90 "NightColander" "refusals" "[I" : Cond) ∈ zTB := List.mem_filter.mpr ⟨zm_2 (List.mem_of_getElem? (i := 105) rfl), rfl⟩
theorem tw_346 : (.fieldLink "NightColander" 94 "NightColander" "yearsKept" "Z" : Cond) ∈ zTB := List.mem_filter.mpr ⟨zm_2 (List.mem_of_getElem? (i := 106) rfl), rfl⟩
theorem tw_347 : (.fieldLink "NightColander" 98 "NightColander" "latestStatus" "I" : Cond) ∈ zTB := List.mem_filter.mpr ⟨zm_2 (List.mem_of_getElem? (i := 107) rfl), rfl⟩
theorem tw_348 : (.fieldLink "NightColander" 102 "NightColander" "latestPeas" "I" : Cond) ∈ zTB := List.mem_filter.mpr ⟨zm_2 (List.mem_of_getElem? (i := 108) rfl), rfl⟩
theorem tw_349 : (.fieldLink "NightColander" 105 "NightColander" "latestFault" "I" : Cond) ∈ zTB := List.mem_filter.mpr ⟨zm_2 (List.mem_of_getElem? (i := 109) rfl), rfl⟩
theorem tw_350 : (.fieldLink "NightColander" 108 "NightColander" "latestStop" "I" : Cond) ∈ zTB := List.mem_filter.mpr ⟨zm_2 (List.mem_of_getElem? (i := 110) rfl), rfl⟩
theorem tw_394 : (.methodLink "NightColander" 111 ⟨"NightColander","isRing","(I)Z"⟩ : Cond) ∈ zTB := List.mem_filter.mpr ⟨zm_2 (List.mem_of_getElem? (i := 154) rfl), rfl⟩
theorem tw_395 : (.static ⟨"NightColander","isRing","(I)Z"⟩ : Cond) ∈ zTB := List.mem_filter.mpr ⟨zm_2 (List.mem_of_getElem? (i := 155) rfl), rfl⟩
theorem tw_396 : (.code ⟨"NightColander","isRing","(I)Z"⟩ prog_1_method_44_code 1 (some .boolean) : Cond) ∈ zTB := List.mem_filter.mpr ⟨zm_2 (List.mem_of_getElem? (i := 156) rfl), rfl⟩
theorem tw_397 : (.methodLink "NightColander" 132 ⟨"NightColander","within","(III)Z"⟩ : Cond) ∈ zTB := List.mem_filter.mpr ⟨zm_2 (List.mem_of_getElem? (i := 157) rfl), rfl⟩
theorem tw_398 : (.static ⟨"NightColander","within","(III)Z"⟩ : Cond) ∈ zTB := List.mem_filter.mpr ⟨zm_2 (List.mem_of_getElem? (i := 158) rfl), rfl⟩
theorem tw_399 : (.code ⟨"NightColander","within","(III)Z"⟩ prog_1_method_43_code 3 (some .boolean) : Cond) ∈ zTB := List.mem_filter.mpr ⟨zm_2 (List.mem_of_getElem? (i := 159) rfl), rfl⟩
theorem tw_400 : (.methodLink "NightColander" 115 ⟨"NightColander","isHole","(I)Z"⟩ : Cond) ∈ zTB := List.mem_filter.mpr ⟨zm_2 (List.mem_of_getElem? (i := 160) rfl), rfl⟩
theorem tw_401 : (.static ⟨"NightColander","isHole","(I)Z"⟩ : Cond) ∈ zTB := List.mem_filter.mpr ⟨zm_2 (List.mem_of_getElem? (i := 161) rfl), rfl⟩
theorem tw_402 : (.code ⟨"NightColander","isHole","(I)Z"⟩ prog_1_method_45_code 1 (some .boolean) : Cond) ∈ zTB := List.mem_filter.mpr ⟨zm_2 (List.mem_of_getElem? (i := 162) rfl), rfl⟩
theorem tw_403 : (.methodLink "NightColander" 124 ⟨"NightColander$Night","fieldBelow","(II)I"⟩ : Cond) ∈ zTB := List.mem_filter.mpr ⟨zm_2 (List.mem_of_getElem? (i := 163) rfl), rfl⟩
theorem tw_404 : (.instanceMethod ⟨"NightColander$Night","fieldBelow","(II)I"⟩ : Cond) ∈ zTB := List.mem_filter.mpr ⟨zm_2 (List.mem_of_getElem? (i := 164) rfl), rfl⟩
theorem tw_405 : (.selects "NightColander$Night" ⟨"NightColander$Night","fieldBelow","(II)I"⟩ ⟨"NightColander$Night","fieldBelow","(II)I"⟩ : Cond) ∈ zTB := List.mem_filter.mpr ⟨zm_2 (List.mem_of_getElem? (i := 165) rfl), rfl⟩
theorem tw_406 : (.code ⟨"NightColander$Night","fieldBelow","(II)I"⟩ prog_5_method_6_code 3 (some .int) : Cond) ∈ zTB := List.mem_filter.mpr ⟨zm_2 (List.mem_of_getElem? (i := 166) rfl), rfl⟩
theorem tw_407 : (.methodLink "NightColander$Night" 78 ⟨"java/lang/Math","floorMod","(II)I"⟩ : Cond) ∈ zTB := List.mem_filter.mpr ⟨zm_2 (List.mem_of_getElem? (i := 167) rfl), rfl⟩
theorem tw_408 : (.static ⟨"java/lang/Math","floorMod","(II)I"⟩ : Cond) ∈ zTB := List.mem_filter.mpr ⟨zm_2 (List.mem_of_getElem? (i := 168) rfl), rfl⟩
theorem tw_409 : (.code ⟨"java/lang/Math","floorMod","(II)I"⟩ prog_17_method_50_code 3 (some .int) : Cond) ∈ zTB := List.mem_filter.mpr ⟨zm_2 (List.mem_of_getElem? (i := 169) rfl), rfl⟩
theorem tw_410 : (.methodLink "NightColander" 128 ⟨"NightColander$Judge","runsOf","(LNightColander$Night;II)I"⟩ : Cond) ∈ zTB := List.mem_filter.mpr ⟨zm_2 (List.mem_of_getElem? (i := 170) rfl), rfl⟩
theorem tw_411 : (.instanceMethod ⟨"NightColander$Judge","runsOf","(LNightColander$Night;II)I"⟩ : Cond) ∈ zTB := List.mem_filter.mpr ⟨zm_2 (List.mem_of_getElem? (i := 171) rfl), rfl⟩
theorem tw_412 : (.selects "NightColander$Judge" ⟨"NightColander$Judge","runsOf","(LNightColander$Night;II)I"⟩ ⟨"NightColander$Judge","runsOf","(LNightColander$Night;II)I"⟩ : Cond) ∈ zTB := List.mem_filter.mpr ⟨zm_2 (List.mem_of_getElem? (i := 172) rfl), rfl⟩
theorem tw_413 : (.code ⟨"NightColander$Judge","runsOf","(LNightColander$Night;II)I"⟩ prog_3_method_2_code 7 (some .int) : Cond) ∈ zTB := List.mem_filter.mpr ⟨zm_2 (List.mem_of_getElem? (i := 173) rfl), rfl⟩
theorem tw_414 : (.methodLink "NightColander$Judge" 30 ⟨"NightColander$Night","lawInForce","()LNightColander$Text;"⟩ : Cond) ∈ zTB := List.mem_filter.mpr ⟨zm_2 (List.mem_of_getElem? (i := 174) rfl), rfl⟩
theorem tw_415 : (.instanceMethod ⟨"NightColander$Night","lawInForce","()LNightColander$Text;"⟩ : Cond) ∈ zTB := List.mem_filter.mpr ⟨zm_2 (List.mem_of_getElem? (i := 175) rfl), rfl⟩
theorem tw_416 : (.selects "NightColander$Night" ⟨"NightColander$Night","lawInForce","()LNightColander$Text;"⟩ ⟨"NightColander$Night","lawInForce","()LNightColander$Text;"⟩ : Cond) ∈ zTB := List.mem_filter.mpr ⟨zm_2 (List.mem_of_getElem? (i := 176) rfl), rfl⟩
theorem tw_417 : (.code ⟨"NightColander$Night","lawInForce","()LNightColander$Text;"⟩ prog_5_method_5_code 1 (some (.object "NightColander$Text")) : Cond) ∈ zTB := List.mem_filter.mpr ⟨zm_2 (List.mem_of_getElem? (i := 177) rfl), rfl⟩
theorem tw_418 : (.methodLink "NightColander$Judge" 34 ⟨"NightColander$Night","fieldBelow","(II)I"⟩ : Cond) ∈ zTB := List.mem_filter.mpr ⟨zm_2 (List.mem_of_getElem? (i := 178) rfl), rfl⟩
theorem tw_419 : (.methodLink "NightColander$Judge" 38 ⟨"NightColander$Judge","told","(LNightColander$Night;LNightColander$Text;III)I"⟩ : Cond) ∈ zTB := List.mem_filter.mpr ⟨zm_2 (List.mem_of_getElem? (i := 179) rfl), rfl⟩
theorem tw_421 : (.instanceMethod ⟨"NightColander$Judge","told","(LNightColander$Night;LNightColander$Text;III)I"⟩ : Cond) ∈ zTB := List.mem_filter.mpr ⟨zm_2 (List.mem_of_getElem? (i := 181) rfl), rfl⟩
theorem tw_422 : (.code ⟨"NightColander$Judge","told","(LNightColander$Night;LNightColander$Text;III)I"⟩ prog_3_method_9_code 10 (some .int) : Cond) ∈ zTB := List.mem_filter.mpr ⟨zm_2 (List.mem_of_getElem? (i := 182) rfl), rfl⟩
theorem tw_423 : (.methodLink "NightColander$Judge" 72 ⟨"NightColander$Text","markOf","(II)I"⟩ : Cond) ∈ zTB := List.mem_filter.mpr ⟨zm_2 (List.mem_of_getElem? (i := 183) rfl), rfl⟩
theorem tw_424 : (.instanceMethod ⟨"NightColander$Text","markOf","(II)I"⟩ : Cond) ∈ zTB := List.mem_filter.mpr ⟨zm_2 (List.mem_of_getElem? (i := 184) rfl), rfl⟩
theorem tw_425 : (.selects "NightColander$Text" ⟨"NightColander$Text","markOf","(II)I"⟩ ⟨"NightColander$Text","markOf","(II)I"⟩ : Cond) ∈ zTB := List.mem_filter.mpr ⟨zm_2 (List.mem_of_getElem? (i := 185) rfl), rfl⟩
theorem tw_426 : (.code ⟨"NightColander$Text","markOf","(II)I"⟩ prog_11_method_12_code 4 (some .int) : Cond) ∈ zTB := List.mem_filter.mpr ⟨zm_2 (List.mem_of_getElem? (i := 186) rfl), rfl⟩
theorem tw_427 : (.methodLink "NightColander$Judge" 75 ⟨"NightColander$Machine","work","(LNightColander$Text;II[I)I"⟩ : Cond) ∈ zTB := List.mem_filter.mpr ⟨zm_2 (List.mem_of_getElem? (i := 187) rfl), rfl⟩
theorem tw_428 : (.instanceMethod ⟨"NightColander$Machine","work","(LNightColander$Text;II[I)I"⟩ : Cond) ∈ zTB := List.mem_filter.mpr ⟨zm_2 (List.mem_of_getElem? (i := 188) rfl), rfl⟩
theorem tw_429 : (.selects "NightColander$Machine" ⟨"NightColander$Machine","work","(LNightColander$Text;II[I)I"⟩ ⟨"NightColander$Machine","work","(LNightColander$Text;II[I)I"⟩ : Cond) ∈ zTB := List.mem_filter.mpr ⟨zm_2 (List.mem_of_getElem? (i := 189) rfl), rfl⟩
theorem tw_430 : (.code ⟨"NightColander$Machine","work","(LNightColander$Text;II[I)I"⟩ prog_4_method_2_code 16 (some .int) : Cond) ∈ zTB := List.mem_filter.mpr ⟨zm_2 (List.mem_of_getElem? (i := 190) rfl), rfl⟩
theorem tw_431 : (.constant "NightColander$Machine" 24 (-2147483648) : Cond) ∈ zTB := List.mem_filter.mpr ⟨zm_2 (List.mem_of_getElem? (i := 191) rfl), rfl⟩
theorem tw_432 : (.constantLong "NightColander$Machine" 25 1000000000 : Cond) ∈ zTB := List.mem_filter.mpr ⟨zm_2 (List.mem_of_getElem? (i := 192) rfl), rfl⟩
theorem tw_433 : (.constantLong "NightColander$Machine" 27 (-1000000000) : Cond) ∈ zTB := List.mem_filter.mpr ⟨zm_2 (List.mem_of_getElem? (i := 193) rfl), rfl⟩
theorem tw_434 : (.constant "NightColander$Judge" 79 (-2147483648) : Cond) ∈ zTB := List.mem_filter.mpr ⟨zm_2 (List.mem_of_getElem? (i := 194) rfl), rfl⟩
theorem tw_435 : (.methodLink "NightColander$Judge" 80 ⟨"java/lang/Math","min","(II)I"⟩ : Cond) ∈ zTB := List.mem_filter.mpr ⟨zm_2 (List.mem_of_getElem? (i := 195) rfl), rfl⟩
theorem tw_436 : (.static ⟨"java/lang/Math","min","(II)I"⟩ : Cond) ∈ zTB := List.mem_filter.mpr ⟨zm_2 (List.mem_of_getElem? (i := 196) rfl), rfl⟩
theorem tw_437 : (.code ⟨"java/lang/Math","min","(II)I"⟩ prog_17_method_69_code 2 (some .int) : Cond) ∈ zTB := List.mem_filter.mpr ⟨zm_2 (List.mem_of_getElem? (i := 197) rfl), rfl⟩
theorem tw_438 : (.methodLink "NightColander$Judge" 85 ⟨"java/lang/Math","max","(II)I"⟩ : Cond) ∈ zTB := List.mem_filter.mpr ⟨zm_2 (List.mem_of_getElem? (i := 198) rfl), rfl⟩
theorem tw_439 : (.static ⟨"java/lang/Math","max","(II)I"⟩ : Cond) ∈ zTB := List.mem_filter.mpr ⟨zm_2 (List.mem_of_getElem? (i := 199) rfl), rfl⟩
theorem tw_440 : (.code ⟨"java/lang/Math","max","(II)I"⟩ prog_17_method_65_code 2 (some .int) : Cond) ∈ zTB := List.mem_filter.mpr ⟨zm_2 (List.mem_of_getElem? (i := 200) rfl), rfl⟩
theorem tw_445 : (.methodLink "NightColander" 136 ⟨"NightColander","refuse","(I)I"⟩ : Cond) ∈ zTB := List.mem_filter.mpr ⟨zm_2 (List.mem_of_getElem? (i := 205) rfl), rfl⟩
theorem tw_447 : (.instanceMethod ⟨"NightColander","refuse","(I)I"⟩ : Cond) ∈ zTB := List.mem_filter.mpr ⟨zm_2 (List.mem_of_getElem? (i := 207) rfl), rfl⟩
theorem tw_448 : (.code ⟨"NightColander","refuse","(I)I"⟩ prog_1_method_48_code 3 (some .int) : Cond) ∈ zTB := List.mem_filter.mpr ⟨zm_2 (List.mem_of_getElem? (i := 208) rfl), rfl⟩
theorem tw_449 : (.methodLink "NightColander" 143 ⟨"NightColander$Past","clear","()V"⟩ : Cond) ∈ zTB := List.mem_filter.mpr ⟨zm_2 (List.mem_of_getElem? (i := 209) rfl), rfl⟩
theorem tw_450 : (.instanceMethod ⟨"NightColander$Past","clear","()V"⟩ : Cond) ∈ zTB := List.mem_filter.mpr ⟨zm_2 (List.mem_of_getElem? (i := 210) rfl), rfl⟩
theorem tw_451 : (.selects "NightColander$Past" ⟨"NightColander$Past","clear","()V"⟩ ⟨"NightColander$Past","clear","()V"⟩ : Cond) ∈ zTB := List.mem_filter.mpr ⟨zm_2 (List.mem_of_getElem? (i := 211) rfl), rfl⟩
theorem tw_452 : (.code ⟨"NightColander$Past","clear","()V"⟩ prog_8_method_2_code 1 (Option.none : Option FieldType) : Cond) ∈ zTB := List.mem_filter.mpr ⟨zm_2 (List.mem_of_getElem? (i := 212) rfl), rfl⟩
theorem tw_453 : (.methodLink "NightColander" 146 ⟨"NightColander","accept","(I)I"⟩ : Cond) ∈ zTB := List.mem_filter.mpr ⟨zm_2 (List.mem_of_getElem? (i := 213) rfl), rfl⟩
theorem tw_455 : (.instanceMethod ⟨"NightColander","accept","(I)I"⟩ : Cond) ∈ zTB := List.mem_filter.mpr ⟨zm_2 (List.mem_of_getElem? (i := 215) rfl), rfl⟩
theorem tw_456 : (.code ⟨"NightColander","accept","(I)I"⟩ prog_1_method_47_code 2 (some .int) : Cond) ∈ zTB := List.mem_filter.mpr ⟨zm_2 (List.mem_of_getElem? (i := 216) rfl), rfl⟩
theorem tw_461 : (.methodLink "NightColander" 149 ⟨"NightColander","isField","(I)Z"⟩ : Cond) ∈ zTB := List.mem_filter.mpr ⟨zm_2 (List.mem_of_getElem? (i := 221) rfl), rfl⟩
theorem tw_462 : (.static ⟨"NightColander","isField","(I)Z"⟩ : Cond) ∈ zTB := List.mem_filter.mpr ⟨zm_2 (List.mem_of_getElem? (i := 222) rfl), rfl⟩
theorem tw_463 : (.code ⟨"NightColander","isField","(I)Z"⟩ prog_1_method_46_code 1 (some .boolean) : Cond) ∈ zTB := List.mem_filter.mpr ⟨zm_2 (List.mem_of_getElem? (i := 223) rfl), rfl⟩
theorem tw_464 : (.methodLink "NightColander" 152 ⟨"NightColander$Night","bucketAt","(I)I"⟩ : Cond) ∈ zTB := List.mem_filter.mpr ⟨zm_2 (List.mem_of_getElem? (i := 224) rfl), rfl⟩
theorem tw_465 : (.instanceMethod ⟨"NightColander$Night","bucketAt","(I)I"⟩ : Cond) ∈ zTB := List.mem_filter.mpr ⟨zm_2 (List.mem_of_getElem? (i := 225) rfl), rfl⟩
theorem tw_466 : (.selects "NightColander$Night" ⟨"NightColander$Night","bucketAt","(I)I"⟩ ⟨"NightColander$Night","bucketAt","(I)I"⟩ : Cond) ∈ zTB := List.mem_filter.mpr ⟨zm_2 (List.mem_of_getElem? (i := 226) rfl), rfl⟩
theorem tw_467 : (.code ⟨"NightColander$Night","bucketAt","(I)I"⟩ prog_5_method_8_code 3 (some .int) : Cond) ∈ zTB := List.mem_filter.mpr ⟨zm_2 (List.mem_of_getElem? (i := 227) rfl), rfl⟩
theorem tw_468 : (.methodLink "NightColander" 158 ⟨"NightColander$Night","addBucket","(II)I"⟩ : Cond) ∈ zTB := List.mem_filter.mpr ⟨zm_2 (List.mem_of_getElem? (i := 228) rfl), rfl⟩
theorem tw_469 : (.instanceMethod ⟨"NightColander$Night","addBucket","(II)I"⟩ : Cond) ∈ zTB := List.mem_filter.mpr ⟨zm_2 (List.mem_of_getElem? (i := 229) rfl), rfl⟩
theorem tw_470 : (.selects "NightColander$Night" ⟨"NightColander$Night","addBucket","(II)I"⟩ ⟨"NightColander$Night","addBucket","(II)I"⟩ : Cond) ∈ zTB := List.mem_filter.mpr ⟨zm_2 (List.mem_of_getElem? (i := 230) rfl), rfl⟩
theorem tw_471 : (.code ⟨"NightColander$Night","addBucket","(II)I"⟩ prog_5_method_9_code 3 (some .int) : Cond) ∈ zTB := List.mem_filter.mpr ⟨zm_2 (List.mem_of_getElem? (i := 231) rfl), rfl⟩
theorem tw_476 : (.methodLink "NightColander" 161 ⟨"NightColander$Night","hasBucket","(I)Z"⟩ : Cond) ∈ zTB := List.mem_filter.mpr ⟨zm_2 (List.mem_of_getElem? (i := 236) rfl), rfl⟩
theorem tw_477 : (.instanceMethod ⟨"NightColander$Night","hasBucket","(I)Z"⟩ : Cond) ∈ zTB := List.mem_filter.mpr ⟨zm_2 (List.mem_of_getElem? (i := 237) rfl), rfl⟩
theorem tw_478 : (.selects "NightColander$Night" ⟨"NightColander$Night","hasBucket","(I)Z"⟩ ⟨"NightColander$Night","hasBucket","(I)Z"⟩ : Cond) ∈ zTB := List.mem_filter.mpr ⟨zm_2 (List.mem_of_getElem? (i := 238) rfl), rfl⟩
theorem tw_479 : (.code ⟨"NightColander$Night","hasBucket","(I)Z"⟩ prog_5_method_3_code 2 (some .boolean) : Cond) ∈ zTB := List.mem_filter.mpr ⟨zm_2 (List.mem_of_getElem? (i := 239) rfl), rfl⟩
theorem tw_481 : (.methodLink "NightColander" 173 ⟨"NightColander$Judge","leakOf","(LNightColander$Night;I)I"⟩ : Cond) ∈ zTB := List.mem_filter.mpr ⟨zm_3 (List.mem_of_getElem? (i := 1) rfl), rfl⟩
theorem tw_482 : (.instanceMethod ⟨"NightColander$Judge","leakOf","(LNightColander$Night;I)I"⟩ : Cond) ∈ zTB := List.mem_filter.mpr ⟨zm_3 (List.mem_of_getElem? (i := 2) rfl), rfl⟩
theorem tw_483 : (.selects "NightColander$Judge" ⟨"NightColander$Judge","leakOf","(LNightColander$Night;I)I"⟩ ⟨"NightColander$Judge","leakOf","(LNightColander$Night;I)I"⟩ : Cond) ∈ zTB := List.mem_filter.mpr ⟨zm_3 (List.mem_of_getElem? (i := 3) rfl), rfl⟩
theorem tw_484 : (.code ⟨"NightColander$Judge","leakOf","(LNightColander$Night;I)I"⟩ prog_3_method_3_code 3 (some .int) : Cond) ∈ zTB := List.mem_filter.mpr ⟨zm_3 (List.mem_of_getElem? (i := 4) rfl), rfl⟩
theorem tw_485 : (.methodLink "NightColander$Judge" 45 ⟨"NightColander$Judge","askOfBucket","(LNightColander$Night;III)I"⟩ : Cond) ∈ zTB := List.mem_filter.mpr ⟨zm_3 (List.mem_of_getElem? (i := 5) rfl), rfl⟩
theorem tw_487 : (.instanceMethod ⟨"NightColander$Judge","askOfBucket","(LNightColander$Night;III)I"⟩ : Cond) ∈ zTB := List.mem_filter.mpr ⟨zm_3 (List.mem_of_getElem? (i := 7) rfl), rfl⟩
theorem tw_488 : (.code ⟨"NightColander$Judge","askOfBucket","(LNightColander$Night;III)I"⟩ prog_3_method_8_code 7 (some .int) : Cond) ∈ zTB := List.mem_filter.mpr ⟨zm_3 (List.mem_of_getElem? (i := 8) rfl), rfl⟩
theorem tw_489 : (.methodLink "NightColander" 177 ⟨"NightColander$Judge","payOf","(LNightColander$Night;II)I"⟩ : Cond) ∈ zTB := List.mem_filter.mpr ⟨zm_3 (List.mem_of_getElem? (i := 9) rfl), rfl⟩
theorem tw_490 : (.instanceMethod ⟨"NightColander$Judge","payOf","(LNightColander$Night;II)I"⟩ : Cond) ∈ zTB := List.mem_filter.mpr ⟨zm_3 (List.mem_of_getElem? (i := 10) rfl), rfl⟩
theorem tw_491 : (.selects "NightColander$Judge" ⟨"NightColander$Judge","payOf","(LNightColander$Night;II)I"⟩ ⟨"NightColander$Judge","payOf","(LNightColander$Night;II)I"⟩ : Cond) ∈ zTB := List.mem_filter.mpr ⟨zm_3 (List.mem_of_getElem? (i := 11) rfl), rfl⟩
theorem tw_492 : (.code ⟨"NightColander$Judge","payOf","(LNightColander$Night;II)I"⟩ prog_3_method_4_code 4 (some .int) : Cond) ∈ zTB := List.mem_filter.mpr ⟨zm_3 (List.mem_of_getElem? (i := 12) rfl), rfl⟩
theorem tw_493 : (.methodLink "NightColander" 180 ⟨"NightColander","barredAsNumber","(II)I"⟩ : Cond) ∈ zTB := List.mem_filter.mpr ⟨zm_3 (List.mem_of_getElem? (i := 13) rfl), rfl⟩
theorem tw_495 : (.instanceMethod ⟨"NightColander","barredAsNumber","(II)I"⟩ : Cond) ∈ zTB := List.mem_filter.mpr ⟨zm_3 (List.mem_of_getElem? (i := 15) rfl), rfl⟩
theorem tw_496 : (.code ⟨"NightColander","barredAsNumber","(II)I"⟩ prog_1_method_50_code 3 (some .int) : Cond) ∈ zTB := List.mem_filter.mpr ⟨zm_3 (List.mem_of_getElem? (i := 16) rfl), rfl⟩
theorem tw_497 : (.methodLink "NightColander" 330 ⟨"NightColander$Judge","isBarred","(LNightColander$Night;II)Z"⟩ : Cond) ∈ zTB := List.mem_filter.mpr ⟨zm_3 (List.mem_of_getElem? (i := 17) rfl), rfl⟩
theorem tw_498 : (.instanceMethod ⟨"NightColander$Judge","isBarred","(LNightColander$Night;II)Z"⟩ : Cond) ∈ zTB := List.mem_filter.mpr ⟨zm_3 (List.mem_of_getElem? (i := 18) rfl), rfl⟩
theorem tw_499 : (.selects "NightColander$Judge" ⟨"NightColander$Judge","isBarred","(LNightColander$Night;II)Z"⟩ ⟨"NightColander$Judge","isBarred","(LNightColander$Night;II)Z"⟩ : Cond) ∈ zTB := List.mem_filter.mpr ⟨zm_3 (List.mem_of_getElem? (i := 19) rfl), rfl⟩
theorem tw_500 : (.code ⟨"NightColander$Judge","isBarred","(LNightColander$Night;II)Z"⟩ prog_3_method_5_code 4 (some .boolean) : Cond) ∈ zTB := List.mem_filter.mpr ⟨zm_3 (List.mem_of_getElem? (i := 20) rfl), rfl⟩
theorem tw_509 : (.methodLink "NightColander" 186 ⟨"NightColander$Judge","threadsOn","(LNightColander$Night;I)I"⟩ : Cond) ∈ zTB := List.mem_filter.mpr ⟨zm_3 (List.mem_of_getElem? (i := 29) rfl), rfl⟩
theorem tw_510 : (.instanceMethod ⟨"NightColander$Judge","threadsOn","(LNightColander$Night;I)I"⟩ : Cond) ∈ zTB := List.mem_filter.mpr ⟨zm_3 (List.mem_of_getElem? (i := 30) rfl), rfl⟩
theorem tw_511 : (.selects "NightColander$Judge" ⟨"NightColander$Judge","threadsOn","(LNightColander$Night;I)I"⟩ ⟨"NightColander$Judge","threadsOn","(LNightColander$Night;I)I"⟩ : Cond) ∈ zTB := List.mem_filter.mpr ⟨zm_3 (List.mem_of_getElem? (i := 31) rfl), rfl⟩
theorem tw_512 : (.code ⟨"NightColander$Judge","threadsOn","(LNightColander$Night;I)I"⟩ prog_3_method_7_code 6 (some .int) : Cond) ∈ zTB := List.mem_filter.mpr ⟨zm_3 (List.mem_of_getElem? (i := 32) rfl), rfl⟩
theorem tw_513 : (.methodLink "NightColander$Judge" 49 ⟨"NightColander$Night","holeAbove","(II)I"⟩ : Cond) ∈ zTB := List.mem_filter.mpr ⟨zm_3 (List.mem_of_getElem? (i := 33) rfl), rfl⟩
theorem tw_514 : (.instanceMethod ⟨"NightColander$Night","holeAbove","(II)I"⟩ : Cond) ∈ zTB := List.mem_filter.mpr ⟨zm_3 (List.mem_of_getElem? (i := 34) rfl), rfl⟩
theorem tw_515 : (.selects "NightColander$Night" ⟨"NightColander$Night","holeAbove","(II)I"⟩ ⟨"NightColander$Night","holeAbove","(II)I"⟩ : Cond) ∈ zTB := List.mem_filter.mpr ⟨zm_3 (List.mem_of_getElem? (i := 35) rfl), rfl⟩
theorem tw_516 : (.code ⟨"NightColander$Night","holeAbove","(II)I"⟩ prog_5_method_7_code 3 (some .int) : Cond) ∈ zTB := List.mem_filter.mpr ⟨zm_3 (List.mem_of_getElem? (i := 36) rfl), rfl⟩
theorem tw_517 : (.methodLink "NightColander$Judge" 56 ⟨"NightColander$Judge","runsOf","(LNightColander$Night;II)I"⟩ : Cond) ∈ zTB := List.mem_filter.mpr ⟨zm_3 (List.mem_of_getElem? (i := 37) rfl), rfl⟩
theorem tw_522 : (.fieldLink "NightColander" 189 "NightColander" "MOST_TERM" "[I" : Cond) ∈ zTB := List.mem_filter.mpr ⟨zm_3 (List.mem_of_getElem? (i := 42) rfl), rfl⟩
theorem tw_528 : (.methodLink "NightColander" 195 ⟨"NightColander$Tape","hasRoomFor","(I)Z"⟩ : Cond) ∈ zTB := List.mem_filter.mpr ⟨zm_3 (List.mem_of_getElem? (i := 48) rfl), rfl⟩
theorem tw_529 : (.instanceMethod ⟨"NightColander$Tape","hasRoomFor","(I)Z"⟩ : Cond) ∈ zTB := List.mem_filter.mpr ⟨zm_3 (List.mem_of_getElem? (i := 49) rfl), rfl⟩
theorem tw_530 : (.selects "NightColander$Tape" ⟨"NightColander$Tape","hasRoomFor","(I)Z"⟩ ⟨"NightColander$Tape","hasRoomFor","(I)Z"⟩ : Cond) ∈ zTB := List.mem_filter.mpr ⟨zm_3 (List.mem_of_getElem? (i := 50) rfl), rfl⟩
theorem tw_531 : (.code ⟨"NightColander$Tape","hasRoomFor","(I)Z"⟩ prog_10_method_2_code 2 (some .boolean) : Cond) ∈ zTB := List.mem_filter.mpr ⟨zm_3 (List.mem_of_getElem? (i := 51) rfl), rfl⟩
theorem tw_532 : (.methodLink "NightColander" 198 ⟨"NightColander$Tape","addFour","(I)V"⟩ : Cond) ∈ zTB := List.mem_filter.mpr ⟨zm_3 (List.mem_of_getElem? (i := 52) rfl), rfl⟩
theorem tw_533 : (.instanceMethod ⟨"NightColander$Tape","addFour","(I)V"⟩ : Cond) ∈ zTB := List.mem_filter.mpr ⟨zm_3 (List.mem_of_getElem? (i := 53) rfl), rfl⟩
theorem tw_534 : (.selects "NightColander$Tape" ⟨"NightColander$Tape","addFour","(I)V"⟩ ⟨"NightColander$Tape","addFour","(I)V"⟩ : Cond) ∈ zTB := List.mem_filter.mpr ⟨zm_3 (List.mem_of_getElem? (i := 54) rfl), rfl⟩
theorem tw_535 : (.code ⟨"NightColander$Tape","addFour","(I)V"⟩ prog_10_method_3_code 3 (Option.none : Option FieldType) : Cond) ∈ zTB := List.mem_filter.mpr ⟨zm_3 (List.mem_of_getElem? (i := 55) rfl), rfl⟩
theorem tw_544 : (.methodLink "NightColander" 205 ⟨"NightColander","tellHole","(I)Z"⟩ : Cond) ∈ zTB := List.mem_filter.mpr ⟨zm_3 (List.mem_of_getElem? (i := 64) rfl), rfl⟩
theorem tw_546 : (.instanceMethod ⟨"NightColander","tellHole","(I)Z"⟩ : Cond) ∈ zTB := List.mem_filter.mpr ⟨zm_3 (List.mem_of_getElem? (i := 66) rfl), rfl⟩
theorem tw_547 : (.code ⟨"NightColander","tellHole","(I)Z"⟩ prog_1_method_51_code 5 (some .boolean) : Cond) ∈ zTB := List.mem_filter.mpr ⟨zm_3 (List.mem_of_getElem? (i := 67) rfl), rfl⟩
theorem tw_548 : (.methodLink "NightColander" 333 ⟨"NightColander$Tape","byteAt","(I)I"⟩ : Cond) ∈ zTB := List.mem_filter.mpr ⟨zm_3 (List.mem_of_getElem? (i := 68) rfl), rfl⟩
theorem tw_549 : (.instanceMethod ⟨"NightColander$Tape","byteAt","(I)I"⟩ : Cond) ∈ zTB := List.mem_filter.mpr ⟨zm_3 (List.mem_of_getElem? (i := 69) rfl), rfl⟩
theorem tw_550 : (.selects "NightColander$Tape" ⟨"NightColander$Tape","byteAt","(I)I"⟩ ⟨"NightColander$Tape","byteAt","(I)I"⟩ : Cond) ∈ zTB := List.mem_filter.mpr ⟨zm_3 (List.mem_of_getElem? (i := 70) rfl), rfl⟩
theorem tw_551 : (.code ⟨"NightColander$Tape","byteAt","(I)I"⟩ prog_10_method_4_code 2 (some .int) : Cond) ∈ zTB := List.mem_filter.mpr ⟨zm_3 (List.mem_of_getElem? (i := 71) rfl), rfl⟩
theorem tw_560 : (.methodLink "NightColander" 211 ⟨"NightColander$Parser","parse","(Z)I"⟩ : Cond) ∈ zTB := List.mem_filter.mpr ⟨zm_3 (List.mem_of_getElem? (i := 80) rfl), rfl⟩
theorem tw_561 : (.instanceMethod ⟨"NightColander$Parser","parse","(Z)I"⟩ : Cond) ∈ zTB := List.mem_filter.mpr ⟨zm_3 (List.mem_of_getElem? (i := 81) rfl), rfl⟩
theorem tw_562 : (.selects "NightColander$Parser" ⟨"NightColander$Parser","parse","(Z)I"⟩ ⟨"NightColander$Parser","parse","(Z)I"⟩ : Cond) ∈ zTB := List.mem_filter.mpr ⟨zm_3 (List.mem_of_getElem? (i := 82) rfl), rfl⟩
theorem tw_563 : (.code ⟨"NightColander$Parser","parse","(Z)I"⟩ prog_7_method_2_code 3 (some .int) : Cond) ∈ zTB := List.mem_filter.mpr ⟨zm_3 (List.mem_of_getElem? (i := 83) rfl), rfl⟩
theorem tw_564 : (.methodLink "NightColander$Parser" 30 ⟨"NightColander$Text","clear","()V"⟩ : Cond) ∈ zTB := List.mem_filter.mpr ⟨zm_3 (List.mem_of_getElem? (i := 84) rfl), rfl⟩
theorem tw_565 : (.instanceMethod ⟨"NightColander$Text","clear","()V"⟩ : Cond) ∈ zTB := List.mem_filter.mpr ⟨zm_3 (List.mem_of_getElem? (i := 85) rfl), rfl⟩
theorem tw_566 : (.selects "NightColander$Text" ⟨"NightColander$Text","clear","()V"⟩ ⟨"NightColander$Text","clear","()V"⟩ : Cond) ∈ zTB := List.mem_filter.mpr ⟨zm_3 (List.mem_of_getElem? (i := 86) rfl), rfl⟩
theorem tw_567 : (.code ⟨"NightColander$Text","clear","()V"⟩ prog_11_method_4_code 1 (Option.none : Option FieldType) : Cond) ∈ zTB := List.mem_filter.mpr ⟨zm_3 (List.mem_of_getElem? (i := 87) rfl), rfl⟩
theorem tw_568 : (.methodLink "NightColander$Parser" 33 ⟨"NightColander$Tape","rewind","()V"⟩ : Cond) ∈ zTB := List.mem_filter.mpr ⟨zm_3 (List.mem_of_getElem? (i := 88) rfl), rfl⟩
theorem tw_569 : (.instanceMethod ⟨"NightColander$Tape","rewind","()V"⟩ : Cond) ∈ zTB := List.mem_filter.mpr ⟨zm_3 (List.mem_of_getElem? (i := 89) rfl), rfl⟩
theorem tw_570 : (.selects "NightColander$Tape" ⟨"NightColander$Tape","rewind","()V"⟩ ⟨"NightColander$Tape","rewind","()V"⟩ : Cond) ∈ zTB := List.mem_filter.mpr ⟨zm_3 (List.mem_of_getElem? (i := 90) rfl), rfl⟩
theorem tw_571 : (.code ⟨"NightColander$Tape","rewind","()V"⟩ prog_10_method_5_code 1 (Option.none : Option FieldType) : Cond) ∈ zTB := List.mem_filter.mpr ⟨zm_3 (List.mem_of_getElem? (i := 91) rfl), rfl⟩
theorem tw_572 : (.methodLink "NightColander$Tape" 31 ⟨"NightColander$Tape","advance","()V"⟩ : Cond) ∈ zTB := List.mem_filter.mpr ⟨zm_3 (List.mem_of_getElem? (i := 92) rfl), rfl⟩
theorem tw_573 : (.instanceMethod ⟨"NightColander$Tape","advance","()V"⟩ : Cond) ∈ zTB := List.mem_filter.mpr ⟨zm_3 (List.mem_of_getElem? (i := 93) rfl), rfl⟩
theorem tw_574 : (.selects "NightColander$Tape" ⟨"NightColander$Tape","advance","()V"⟩ ⟨"NightColander$Tape","advance","()V"⟩ : Cond) ∈ zTB := List.mem_filter.mpr ⟨zm_3 (List.mem_of_getElem? (i := 94) rfl), rfl⟩
theorem tw_575 : (.code ⟨"NightColander$Tape","advance","()V"⟩ prog_10_method_6_code 1 (Option.none : Option FieldType) : Cond) ∈ zTB := List.mem_filter.mpr ⟨zm_3 (List.mem_of_getElem? (i := 95) rfl), rfl⟩
theorem tw_576 : (.methodLink "NightColander$Tape" 34 ⟨"NightColander$Tape","byteAt","(I)I"⟩ : Cond) ∈ zTB := List.mem_filter.mpr ⟨zm_3 (List.mem_of_getElem? (i := 96) rfl), rfl⟩
theorem tw_577 : (.methodLink "NightColander$Tape" 38 ⟨"NightColander$Tape","isLetter","(I)Z"⟩ : Cond) ∈ zTB := List.mem_filter.mpr ⟨zm_3 (List.mem_of_getElem? (i := 97) rfl), rfl⟩
theorem tw_578 : (.static ⟨"NightColander$Tape","isLetter","(I)Z"⟩ : Cond) ∈ zTB := List.mem_filter.mpr ⟨zm_3 (List.mem_of_getElem? (i := 98) rfl), rfl⟩
theorem tw_579 : (.code ⟨"NightColander$Tape","isLetter","(I)Z"⟩ prog_10_method_16_code 1 (some .boolean) : Cond) ∈ zTB := List.mem_filter.mpr ⟨zm_3 (List.mem_of_getElem? (i := 99) rfl), rfl⟩
theorem tw_580 : (.methodLink "NightColander$Tape" 42 ⟨"NightColander$Tape","isDigit","(I)Z"⟩ : Cond) ∈ zTB := List.mem_filter.mpr ⟨zm_3 (List.mem_of_getElem? (i := 100) rfl), rfl⟩
theorem tw_581 : (.static ⟨"NightColander$Tape","isDigit","(I)Z"⟩ : Cond) ∈ zTB := List.mem_filter.mpr ⟨zm_3 (List.mem_of_getElem? (i := 101) rfl), rfl⟩
theorem tw_582 : (.code ⟨"NightColander$Tape","isDigit","(I)Z"⟩ prog_10_method_17_code 1 (some .boolean) : Cond) ∈ zTB := List.mem_filter.mpr ⟨zm_3 (List.mem_of_getElem? (i := 102) rfl), rfl⟩
theorem tw_583 : (.methodLink "NightColander$Tape" 45 ⟨"java/lang/Math","min","(II)I"⟩ : Cond) ∈ zTB := List.mem_filter.mpr ⟨zm_3 (List.mem_of_getElem? (i := 103) rfl), rfl⟩
theorem tw_584 : (.methodLink "NightColander$Parser" 38 ⟨"NightColander$Parser","readClause","()Z"⟩ : Cond) ∈ zTB := List.mem_filter.mpr ⟨zm_3 (List.mem_of_getElem? (i := 104) rfl), rfl⟩
theorem tw_586 : (.instanceMethod ⟨"NightColander$Parser","readClause","()Z"⟩ : Cond) ∈ zTB := List.mem_filter.mpr ⟨zm_3 (List.mem_of_getElem? (i := 106) rfl), rfl⟩
theorem tw_587 : (.code ⟨"NightColander$Parser","readClause","()Z"⟩ prog_7_method_3_code 2 (some .boolean) : Cond) ∈ zTB := List.mem_filter.mpr ⟨zm_3 (List.mem_of_getElem? (i := 107) rfl), rfl⟩
theorem tw_590 : (.methodLink "NightColander$Parser" 60 ⟨"NightColander$Tape","indexIn","(Ljava/lang/String;)I"⟩ : Cond) ∈ zTB := List.mem_filter.mpr ⟨zm_3 (List.mem_of_getElem? (i := 110) rfl), rfl⟩
theorem tw_591 : (.instanceMethod ⟨"NightColander$Tape","indexIn","(Ljava/lang/String;)I"⟩ : Cond) ∈ zTB := List.mem_filter.mpr ⟨zm_3 (List.mem_of_getElem? (i := 111) rfl), rfl⟩
theorem tw_592 : (.selects "NightColander$Tape" ⟨"NightColander$Tape","indexIn","(Ljava/lang/String;)I"⟩ ⟨"NightColander$Tape","indexIn","(Ljava/lang/String;)I"⟩ : Cond) ∈ zTB := List.mem_filter.mpr ⟨zm_3 (List.mem_of_getElem? (i := 112) rfl), rfl⟩
theorem tw_593 : (.code ⟨"NightColander$Tape","indexIn","(Ljava/lang/String;)I"⟩ prog_10_method_13_code 5 (some .int) : Cond) ∈ zTB := List.mem_filter.mpr ⟨zm_3 (List.mem_of_getElem? (i := 113) rfl), rfl⟩
theorem tw_594 : (.methodLink "NightColander$Tape" 51 ⟨"java/lang/String","length","()I"⟩ : Cond) ∈ zTB := List.mem_filter.mpr ⟨zm_3 (List.mem_of_getElem? (i := 114) rfl), rfl⟩
theorem tw_595 : (.instanceMethod ⟨"java/lang/String","length","()I"⟩ : Cond) ∈ zTB := List.mem_filter.mpr ⟨zm_3 (List.mem_of_getElem? (i := 115) rfl), rfl⟩
theorem tw_596 : (.selects "java/lang/String" ⟨"java/lang/String","length","()I"⟩ ⟨"java/lang/String","length","()I"⟩ : Cond) ∈ zTB := List.mem_filter.mpr ⟨zm_3 (List.mem_of_getElem? (i := 116) rfl), rfl⟩
theorem tw_597 : (.code ⟨"java/lang/String","length","()I"⟩ prog_18_method_54_code 1 (some .int) : Cond) ∈ zTB := List.mem_filter.mpr ⟨zm_3 (List.mem_of_getElem? (i := 117) rfl), rfl⟩
theorem tw_598 : (.methodLink "java/lang/String" 335 ⟨"java/lang/String","coder","()B"⟩ : Cond) ∈ zTB := List.mem_filter.mpr ⟨zm_3 (List.mem_of_getElem? (i := 118) rfl), rfl⟩
theorem tw_599 : (.instanceMethod ⟨"java/lang/String","coder","()B"⟩ : Cond) ∈ zTB := List.mem_filter.mpr ⟨zm_3 (List.mem_of_getElem? (i := 119) rfl), rfl⟩
theorem tw_600 : (.selects "java/lang/String" ⟨"java/lang/String","coder","()B"⟩ ⟨"java/lang/String","coder","()B"⟩ : Cond) ∈ zTB := List.mem_filter.mpr ⟨zm_3 (List.mem_of_getElem? (i := 120) rfl), rfl⟩
theorem tw_601 : (.code ⟨"java/lang/String","coder","()B"⟩ prog_18_method_152_code 1 (some .byte) : Cond) ∈ zTB := List.mem_filter.mpr ⟨zm_3 (List.mem_of_getElem? (i := 121) rfl), rfl⟩
theorem tw_602 : (.fieldLink "java/lang/String" 38 "java/lang/String" "COMPACT_STRINGS" "Z" : Cond) ∈ zTB := List.mem_filter.mpr ⟨zm_3 (List.mem_of_getElem? (i := 122) rfl), rfl⟩
theorem tw_604 : (.methodLink "NightColander$Tape" 64 ⟨"java/lang/String","charAt","(I)C"⟩ : Cond) ∈ zTB := List.mem_filter.mpr ⟨zm_3 (List.mem_of_getElem? (i := 124) rfl), rfl⟩
theorem tw_605 : (.instanceMethod ⟨"java/lang/String","charAt","(I)C"⟩ : Cond) ∈ zTB := List.mem_filter.mpr ⟨zm_3 (List.mem_of_getElem? (i := 125) rfl), rfl⟩
theorem tw_606 : (.selects "java/lang/String" ⟨"java/lang/String","charAt","(I)C"⟩ ⟨"java/lang/String","charAt","(I)C"⟩ : Cond) ∈ zTB := List.mem_filter.mpr ⟨zm_3 (List.mem_of_getElem? (i := 126) rfl), rfl⟩
theorem tw_607 : (.code ⟨"java/lang/String","charAt","(I)C"⟩ prog_18_method_56_code 2 (some .char) : Cond) ∈ zTB := List.mem_filter.mpr ⟨zm_3 (List.mem_of_getElem? (i := 127) rfl), rfl⟩
theorem tw_608 : (.methodLink "java/lang/String" 492 ⟨"java/lang/String","isLatin1","()Z"⟩ : Cond) ∈ zTB := List.mem_filter.mpr ⟨zm_3 (List.mem_of_getElem? (i := 128) rfl), rfl⟩
theorem tw_609 : (.instanceMethod ⟨"java/lang/String","isLatin1","()Z"⟩ : Cond) ∈ zTB := List.mem_filter.mpr ⟨zm_3 (List.mem_of_getElem? (i := 129) rfl), rfl⟩
theorem tw_610 : (.selects "java/lang/String" ⟨"java/lang/String","isLatin1","()Z"⟩ ⟨"java/lang/String","isLatin1","()Z"⟩ : Cond) ∈ zTB := List.mem_filter.mpr ⟨zm_3 (List.mem_of_getElem? (i := 130) rfl), rfl⟩
theorem tw_611 : (.code ⟨"java/lang/String","isLatin1","()Z"⟩ prog_18_method_154_code 1 (some .boolean) : Cond) ∈ zTB := List.mem_filter.mpr ⟨zm_3 (List.mem_of_getElem? (i := 131) rfl), rfl⟩
theorem tw_612 : (.methodLink "java/lang/String" 495 ⟨"java/lang/StringLatin1","charAt","([BI)C"⟩ : Cond) ∈ zTB := List.mem_filter.mpr ⟨zm_3 (List.mem_of_getElem? (i := 132) rfl), rfl⟩
theorem tw_613 : (.static ⟨"java/lang/StringLatin1","charAt","([BI)C"⟩ : Cond) ∈ zTB := List.mem_filter.mpr ⟨zm_3 (List.mem_of_getElem? (i := 133) rfl), rfl⟩
theorem tw_614 : (.code ⟨"java/lang/StringLatin1","charAt","([BI)C"⟩ prog_19_method_2_code 2 (some .char) : Cond) ∈ zTB := List.mem_filter.mpr ⟨zm_3 (List.mem_of_getElem? (i := 134) rfl), rfl⟩
theorem tw_615 : (.methodLink "java/lang/StringLatin1" 9 ⟨"java/lang/String","checkIndex","(II)V"⟩ : Cond) ∈ zTB := List.mem_filter.mpr ⟨zm_3 (List.mem_of_getElem? (i := 135) rfl), rfl⟩
theorem tw_616 : (.static ⟨"java/lang/String","checkIndex","(II)V"⟩ : Cond) ∈ zTB := List.mem_filter.mpr ⟨zm_3 (List.mem_of_getElem? (i := 136) rfl), rfl⟩
theorem tw_617 : (.code ⟨"java/lang/String","checkIndex","(II)V"⟩ prog_18_method_155_code 2 (Option.none : Option FieldType) : Cond) ∈ zTB := List.mem_filter.mpr ⟨zm_3 (List.mem_of_getElem? (i := 137) rfl), rfl⟩
theorem tw_618 : (.fieldLink "java/lang/String" 1053 "jdk/internal/util/Preconditions" "SIOOBE_FORMATTER" "Ljava/util/function/BiFunction;" : Cond) ∈ zTB := List.mem_filter.mpr ⟨zm_3 (List.mem_of_getElem? (i := 138) rfl), rfl⟩
theorem tw_620 : (.methodLink "java/lang/String" 1059 ⟨"jdk/internal/util/Preconditions","checkIndex","(IILjava/util/function/BiFunction;)I"⟩ : Cond) ∈ zTB := List.mem_filter.mpr ⟨zm_3 (List.mem_of_getElem? (i := 140) rfl), rfl⟩
theorem tw_621 : (.static ⟨"jdk/internal/util/Preconditions","checkIndex","(IILjava/util/function/BiFunction;)I"⟩ : Cond) ∈ zTB := List.mem_filter.mpr ⟨zm_3 (List.mem_of_getElem? (i := 141) rfl), rfl⟩
theorem tw_622 : (.code ⟨"jdk/internal/util/Preconditions","checkIndex","(IILjava/util/function/BiFunction;)I"⟩ prog_23_method_11_code 3 (some .int) : Cond) ∈ zTB := List.mem_filter.mpr ⟨zm_3 (List.mem_of_getElem? (i := 142) rfl), rfl⟩
theorem tw_642 : (.methodLink "NightColander$Tape" 56 ⟨"NightColander$Tape","isSame","(Ljava/lang/String;II)Z"⟩ : Cond) ∈ zTB := List.mem_filter.mpr ⟨zm_3 (List.mem_of_getElem? (i := 162) rfl), rfl⟩
theorem tw_644 : (.instanceMethod ⟨"NightColander$Tape","isSame","(Ljava/lang/String;II)Z"⟩ : Cond) ∈ zTB := List.mem_filter.mpr ⟨zm_3 (List.mem_of_getElem? (i := 164) rfl), rfl⟩
theorem tw_645 : (.code ⟨"NightColander$Tape","isSame","(Ljava/lang/String;II)Z"⟩ prog_10_method_15_code 5 (some .boolean) : Cond) ∈ zTB := List.mem_filter.mpr ⟨zm_3 (List.mem_of_getElem? (i := 165) rfl), rfl⟩
theorem tw_646 : (.methodLink "NightColander$Parser" 64 ⟨"NightColander$Text","openClause","(I)V"⟩ : Cond) ∈ zTB := List.mem_filter.mpr ⟨zm_3 (List.mem_of_getElem? (i := 166) rfl), rfl⟩
theorem tw_647 : (.instanceMethod ⟨"NightColander$Text","openClause","(I)V"⟩ : Cond) ∈ zTB := List.mem_filter.mpr ⟨zm_3 (List.mem_of_getElem? (i := 167) rfl), rfl⟩
theorem tw_648 : (.selects "NightColander$Text" ⟨"NightColander$Text","openClause","(I)V"⟩ ⟨"NightColander$Text","openClause","(I)V"⟩ : Cond) ∈ zTB := List.mem_filter.mpr ⟨zm_3 (List.mem_of_getElem? (i := 168) rfl), rfl⟩
theorem tw_649 : (.code ⟨"NightColander$Text","openClause","(I)V"⟩ prog_11_method_5_code 2 (Option.none : Option FieldType) : Cond) ∈ zTB := List.mem_filter.mpr ⟨zm_3 (List.mem_of_getElem? (i := 169) rfl), rfl⟩
theorem tw_650 : (.methodLink "NightColander$Text" 47 ⟨"NightColander$Text","mark","(I)V"⟩ : Cond) ∈ zTB := List.mem_filter.mpr ⟨zm_3 (List.mem_of_getElem? (i := 170) rfl), rfl⟩
theorem tw_651 : (.instanceMethod ⟨"NightColander$Text","mark","(I)V"⟩ : Cond) ∈ zTB := List.mem_filter.mpr ⟨zm_3 (List.mem_of_getElem? (i := 171) rfl), rfl⟩
theorem tw_652 : (.selects "NightColander$Text" ⟨"NightColander$Text","mark","(I)V"⟩ ⟨"NightColander$Text","mark","(I)V"⟩ : Cond) ∈ zTB := List.mem_filter.mpr ⟨zm_3 (List.mem_of_getElem? (i := 172) rfl), rfl⟩
theorem tw_653 : (.code ⟨"NightColander$Text","mark","(I)V"⟩ prog_11_method_6_code 3 (Option.none : Option FieldType) : Cond) ∈ zTB := List.mem_filter.mpr ⟨zm_3 (List.mem_of_getElem? (i := 173) rfl), rfl⟩
theorem tw_654 : (.methodLink "NightColander$Text" 32 ⟨"java/lang/Math","max","(II)I"⟩ : Cond) ∈ zTB := List.mem_filter.mpr ⟨zm_3 (List.mem_of_getElem? (i := 174) rfl), rfl⟩
theorem tw_655 : (.methodLink "NightColander$Parser" 53 ⟨"NightColander$Tape","advance","()V"⟩ : Cond) ∈ zTB := List.mem_filter.mpr ⟨zm_3 (List.mem_of_getElem? (i := 175) rfl), rfl⟩
theorem tw_656 : (.methodLink "NightColander$Parser" 68 ⟨"NightColander$Parser","readOrder","(I)Z"⟩ : Cond) ∈ zTB := List.mem_filter.mpr ⟨zm_3 (List.mem_of_getElem? (i := 176) rfl), rfl⟩
theorem tw_658 : (.instanceMethod ⟨"NightColander$Parser","readOrder","(I)Z"⟩ : Cond) ∈ zTB := List.mem_filter.mpr ⟨zm_3 (List.mem_of_getElem? (i := 178) rfl), rfl⟩
theorem tw_659 : (.code ⟨"NightColander$Parser","readOrder","(I)Z"⟩ prog_7_method_5_code 2 (some .boolean) : Cond) ∈ zTB := List.mem_filter.mpr ⟨zm_3 (List.mem_of_getElem? (i := 179) rfl), rfl⟩
theorem tw_662 : (.methodLink "NightColander$Parser" 97 ⟨"NightColander$Parser","readTwoSums","(Ljava/lang/String;)Z"⟩ : Cond) ∈ zTB := List.mem_filter.mpr ⟨zm_3 (List.mem_of_getElem? (i := 182) rfl), rfl⟩
theorem tw_664 : (.instanceMethod ⟨"NightColander$Parser","readTwoSums","(Ljava/lang/String;)Z"⟩ : Cond) ∈ zTB := List.mem_filter.mpr ⟨zm_3 (List.mem_of_getElem? (i := 184) rfl), rfl⟩
theorem tw_665 : (.code ⟨"NightColander$Parser","readTwoSums","(Ljava/lang/String;)Z"⟩ prog_7_method_6_code 2 (some .boolean) : Cond) ∈ zTB := List.mem_filter.mpr ⟨zm_3 (List.mem_of_getElem? (i := 185) rfl), rfl⟩
theorem tw_666 : (.methodLink "NightColander$Parser" 87 ⟨"NightColander$Parser","readSum","(I)Z"⟩ : Cond) ∈ zTB := List.mem_filter.mpr ⟨zm_3 (List.mem_of_getElem? (i := 186) rfl), rfl⟩
theorem tw_668 : (.instanceMethod ⟨"NightColander$Parser","readSum","(I)Z"⟩ : Cond) ∈ zTB := List.mem_filter.mpr ⟨zm_3 (List.mem_of_getElem? (i := 188) rfl), rfl⟩
theorem tw_669 : (.code ⟨"NightColander$Parser","readSum","(I)Z"⟩ prog_7_method_12_code 4 (some .boolean) : Cond) ∈ zTB := List.mem_filter.mpr ⟨zm_3 (List.mem_of_getElem? (i := 189) rfl), rfl⟩
theorem tw_670 : (.methodLink "NightColander$Parser" 142 ⟨"NightColander$Parser","readTerm","(I)Z"⟩ : Cond) ∈ zTB := List.mem_filter.mpr ⟨zm_3 (List.mem_of_getElem? (i := 190) rfl), rfl⟩
theorem tw_672 : (.instanceMethod ⟨"NightColander$Parser","readTerm","(I)Z"⟩ : Cond) ∈ zTB := List.mem_filter.mpr ⟨zm_3 (List.mem_of_getElem? (i := 192) rfl), rfl⟩
theorem tw_673 : (.code ⟨"NightColander$Parser","readTerm","(I)Z"⟩ prog_7_method_13_code 4 (some .boolean) : Cond) ∈ zTB := List.mem_filter.mpr ⟨zm_3 (List.mem_of_getElem? (i := 193) rfl), rfl⟩
theorem tw_674 : (.methodLink "NightColander$Parser" 147 ⟨"NightColander$Parser","readPart","(I)Z"⟩ : Cond) ∈ zTB := List.mem_filter.mpr ⟨zm_3 (List.mem_of_getElem? (i := 194) rfl), rfl⟩
theorem tw_676 : (.instanceMethod ⟨"NightColander$Parser","readPart","(I)Z"⟩ : Cond) ∈ zTB := List.mem_filter.mpr ⟨zm_3 (List.mem_of_getElem? (i := 196) rfl), rfl⟩
theorem tw_677 : (.code ⟨"NightColander$Parser","readPart","(I)Z"⟩ prog_7_method_14_code 3 (some .boolean) : Cond) ∈ zTB := List.mem_filter.mpr ⟨zm_3 (List.mem_of_getElem? (i := 197) rfl), rfl⟩
theorem tw_678 : (.methodLink "NightColander$Parser" 49 ⟨"NightColander$Tape","atSign","(C)Z"⟩ : Cond) ∈ zTB := List.mem_filter.mpr ⟨zm_3 (List.mem_of_getElem? (i := 198) rfl), rfl⟩
theorem tw_679 : (.instanceMethod ⟨"NightColander$Tape","atSign","(C)Z"⟩ : Cond) ∈ zTB := List.mem_filter.mpr ⟨zm_3 (List.mem_of_getElem? (i := 199) rfl), rfl⟩
theorem tw_680 : (.selects "NightColander$Tape" ⟨"NightColander$Tape","atSign","(C)Z"⟩ ⟨"NightColander$Tape","atSign","(C)Z"⟩ : Cond) ∈ zTB := List.mem_filter.mpr ⟨zm_3 (List.mem_of_getElem? (i := 200) rfl), rfl⟩
theorem tw_681 : (.code ⟨"NightColander$Tape","atSign","(C)Z"⟩ prog_10_method_9_code 2 (some .boolean) : Cond) ∈ zTB := List.mem_filter.mpr ⟨zm_3 (List.mem_of_getElem? (i := 201) rfl), rfl⟩
theorem tw_682 : (.methodLink "NightColander$Parser" 152 ⟨"NightColander$Parser","readSumInBrackets","(I)Z"⟩ : Cond) ∈ zTB := List.mem_filter.mpr ⟨zm_3 (List.mem_of_getElem? (i := 202) rfl), rfl⟩
theorem tw_684 : (.instanceMethod ⟨"NightColander$Parser","readSumInBrackets","(I)Z"⟩ : Cond) ∈ zTB := List.mem_filter.mpr ⟨zm_3 (List.mem_of_getElem? (i := 204) rfl), rfl⟩
theorem tw_685 : (.code ⟨"NightColander$Parser","readSumInBrackets","(I)Z"⟩ prog_7_method_15_code 2 (some .boolean) : Cond) ∈ zTB := List.mem_filter.mpr ⟨zm_3 (List.mem_of_getElem? (i := 205) rfl), rfl⟩
theorem tw_686 : (.methodLink "NightColander$Parser" 102 ⟨"NightColander$Tape","atNumber","(II)Z"⟩ : Cond) ∈ zTB := List.mem_filter.mpr ⟨zm_3 (List.mem_of_getElem? (i := 206) rfl), rfl⟩
theorem tw_687 : (.instanceMethod ⟨"NightColander$Tape","atNumber","(II)Z"⟩ : Cond) ∈ zTB := List.mem_filter.mpr ⟨zm_3 (List.mem_of_getElem? (i := 207) rfl), rfl⟩
theorem tw_688 : (.selects "NightColander$Tape" ⟨"NightColander$Tape","atNumber","(II)Z"⟩ ⟨"NightColander$Tape","atNumber","(II)Z"⟩ : Cond) ∈ zTB := List.mem_filter.mpr ⟨zm_3 (List.mem_of_getElem? (i := 208) rfl), rfl⟩
theorem tw_689 : (.code ⟨"NightColander$Tape","atNumber","(II)Z"⟩ prog_10_method_11_code 3 (some .boolean) : Cond) ∈ zTB := List.mem_filter.mpr ⟨zm_3 (List.mem_of_getElem? (i := 209) rfl), rfl⟩
theorem tw_691 : (.methodLink "NightColander$Parser" 106 ⟨"NightColander$Tape","number","()I"⟩ : Cond) ∈ zTB := List.mem_filter.mpr ⟨zm_3 (List.mem_of_getElem? (i := 211) rfl), rfl⟩
theorem tw_692 : (.instanceMethod ⟨"NightColander$Tape","number","()I"⟩ : Cond) ∈ zTB := List.mem_filter.mpr ⟨zm_3 (List.mem_of_getElem? (i := 212) rfl), rfl⟩
theorem tw_693 : (.selects "NightColander$Tape" ⟨"NightColander$Tape","number","()I"⟩ ⟨"NightColander$Tape","number","()I"⟩ : Cond) ∈ zTB := List.mem_filter.mpr ⟨zm_3 (List.mem_of_getElem? (i := 213) rfl), rfl⟩
theorem tw_694 : (.code ⟨"NightColander$Tape","number","()I"⟩ prog_10_method_12_code 1 (some .int) : Cond) ∈ zTB := List.mem_filter.mpr ⟨zm_3 (List.mem_of_getElem? (i := 214) rfl), rfl⟩
theorem tw_695 : (.methodLink "NightColander$Parser" 117 ⟨"NightColander$Text","add","(II)I"⟩ : Cond) ∈ zTB := List.mem_filter.mpr ⟨zm_3 (List.mem_of_getElem? (i := 215) rfl), rfl⟩
theorem tw_696 : (.instanceMethod ⟨"NightColander$Text","add","(II)I"⟩ : Cond) ∈ zTB := List.mem_filter.mpr ⟨zm_3 (List.mem_of_getElem? (i := 216) rfl), rfl⟩
theorem tw_697 : (.selects "NightColander$Text" ⟨"NightColander$Text","add","(II)I"⟩ ⟨"NightColander$Text","add","(II)I"⟩ : Cond) ∈ zTB := List.mem_filter.mpr ⟨zm_3 (List.mem_of_getElem? (i := 217) rfl), rfl⟩
theorem tw_698 : (.code ⟨"NightColander$Text","add","(II)I"⟩ prog_11_method_9_code 3 (some .int) : Cond) ∈ zTB := List.mem_filter.mpr ⟨zm_3 (List.mem_of_getElem? (i := 218) rfl), rfl⟩
theorem tw_701 : (.methodLink "NightColander$Parser" 159 ⟨"NightColander$Parser","readNumberOf","(I)Z"⟩ : Cond) ∈ zTB := List.mem_filter.mpr ⟨zm_3 (List.mem_of_getElem? (i := 221) rfl), rfl⟩
theorem tw_703 : (.instanceMethod ⟨"NightColander$Parser","readNumberOf","(I)Z"⟩ : Cond) ∈ zTB := List.mem_filter.mpr ⟨zm_3 (List.mem_of_getElem? (i := 223) rfl), rfl⟩
theorem tw_704 : (.code ⟨"NightColander$Parser","readNumberOf","(I)Z"⟩ prog_7_method_16_code 2 (some .boolean) : Cond) ∈ zTB := List.mem_filter.mpr ⟨zm_3 (List.mem_of_getElem? (i := 224) rfl), rfl⟩
theorem tw_705 : (.fieldLink "NightColander$Parser" 165 "NightColander$Parser" "MOST_BEHIND" "[I" : Cond) ∈ zTB := List.mem_filter.mpr ⟨zm_3 (List.mem_of_getElem? (i := 225) rfl), rfl⟩
theorem tw_708 : (.fieldLink "NightColander$Parser" 173 "NightColander$Parser" "FIRST_OF_WORD" "[I" : Cond) ∈ zTB := List.mem_filter.mpr ⟨zm_3 (List.mem_of_getElem? (i := 228) rfl), rfl⟩
theorem tw_710 : (.methodLink "NightColander$Parser" 162 ⟨"NightColander$Text","addWord","(I)V"⟩ : Cond) ∈ zTB := List.mem_filter.mpr ⟨zm_3 (List.mem_of_getElem? (i := 230) rfl), rfl⟩
theorem tw_711 : (.instanceMethod ⟨"NightColander$Text","addWord","(I)V"⟩ : Cond) ∈ zTB := List.mem_filter.mpr ⟨zm_3 (List.mem_of_getElem? (i := 231) rfl), rfl⟩
theorem tw_712 : (.selects "NightColander$Text" ⟨"NightColander$Text","addWord","(I)V"⟩ ⟨"NightColander$Text","addWord","(I)V"⟩ : Cond) ∈ zTB := List.mem_filter.mpr ⟨zm_3 (List.mem_of_getElem? (i := 232) rfl), rfl⟩
theorem tw_713 : (.code ⟨"NightColander$Text","addWord","(I)V"⟩ prog_11_method_10_code 2 (Option.none : Option FieldType) : Cond) ∈ zTB := List.mem_filter.mpr ⟨zm_3 (List.mem_of_getElem? (i := 233) rfl), rfl⟩
theorem tw_714 : (.methodLink "NightColander$Text" 51 ⟨"NightColander$Text","add","(II)I"⟩ : Cond) ∈ zTB := List.mem_filter.mpr ⟨zm_3 (List.mem_of_getElem? (i := 234) rfl), rfl⟩
theorem tw_716 : (.methodLink "NightColander$Parser" 139 ⟨"NightColander$Tape","signIn","(Ljava/lang/String;)I"⟩ : Cond) ∈ zTB := List.mem_filter.mpr ⟨zm_3 (List.mem_of_getElem? (i := 236) rfl), rfl⟩
theorem tw_717 : (.instanceMethod ⟨"NightColander$Tape","signIn","(Ljava/lang/String;)I"⟩ : Cond) ∈ zTB := List.mem_filter.mpr ⟨zm_3 (List.mem_of_getElem? (i := 237) rfl), rfl⟩
theorem tw_718 : (.selects "NightColander$Tape" ⟨"NightColander$Tape","signIn","(Ljava/lang/String;)I"⟩ ⟨"NightColander$Tape","signIn","(Ljava/lang/String;)I"⟩ : Cond) ∈ zTB := List.mem_filter.mpr ⟨zm_3 (List.mem_of_getElem? (i := 238) rfl), rfl⟩
theorem tw_719 : (.code ⟨"NightColander$Tape","signIn","(Ljava/lang/String;)I"⟩ prog_10_method_14_code 2 (some .int) : Cond) ∈ zTB := List.mem_filter.mpr ⟨zm_3 (List.mem_of_getElem? (i := 239) rfl), rfl⟩
theorem tw_720 : (.methodLink "NightColander$Tape" 68 ⟨"java/lang/String","indexOf","(I)I"⟩ : Cond) ∈ zTB := List.mem_filter.mpr ⟨zm_4 (List.mem_of_getElem? (i := 0) rfl), rfl⟩
theorem tw_721 : (.instanceMethod ⟨"java/lang/String","indexOf","(I)I"⟩ : Cond) ∈ zTB := List.mem_filter.mpr ⟨zm_4 (List.mem_of_getElem? (i := 1) rfl), rfl⟩
theorem tw_722 : (.selects "java/lang/String" ⟨"java/lang/String","indexOf","(I)I"⟩ ⟨"java/lang/String","indexOf","(I)I"⟩ : Cond) ∈ zTB := List.mem_filter.mpr ⟨zm_4 (List.mem_of_getElem? (i := 2) rfl), rfl⟩
theorem tw_723 : (.code ⟨"java/lang/String","indexOf","(I)I"⟩ prog_18_method_79_code 2 (some .int) : Cond) ∈ zTB := List.mem_filter.mpr ⟨zm_4 (List.mem_of_getElem? (i := 3) rfl), rfl⟩
theorem tw_724 : (.methodLink "java/lang/String" 633 ⟨"java/lang/String","indexOf","(II)I"⟩ : Cond) ∈ zTB := List.mem_filter.mpr ⟨zm_4 (List.mem_of_getElem? (i := 4) rfl), rfl⟩
theorem tw_725 : (.instanceMethod ⟨"java/lang/String","indexOf","(II)I"⟩ : Cond) ∈ zTB := List.mem_filter.mpr ⟨zm_4 (List.mem_of_getElem? (i := 5) rfl), rfl⟩
theorem tw_726 : (.selects "java/lang/String" ⟨"java/lang/String","indexOf","(II)I"⟩ ⟨"java/lang/String","indexOf","(II)I"⟩ : Cond) ∈ zTB := List.mem_filter.mpr ⟨zm_4 (List.mem_of_getElem? (i := 6) rfl), rfl⟩
theorem tw_727 : (.code ⟨"java/lang/String","indexOf","(II)I"⟩ prog_18_method_80_code 3 (some .int) : Cond) ∈ zTB := List.mem_filter.mpr ⟨zm_4 (List.mem_of_getElem? (i := 7) rfl), rfl⟩
theorem tw_728 : (.methodLink "java/lang/String" 505 ⟨"java/lang/String","length","()I"⟩ : Cond) ∈ zTB := List.mem_filter.mpr ⟨zm_4 (List.mem_of_getElem? (i := 8) rfl), rfl⟩
theorem tw_729 : (.methodLink "java/lang/String" 637 ⟨"java/lang/StringLatin1","indexOf","([BIII)I"⟩ : Cond) ∈ zTB := List.mem_filter.mpr ⟨zm_4 (List.mem_of_getElem? (i := 9) rfl), rfl⟩
theorem tw_730 : (.static ⟨"java/lang/StringLatin1","indexOf","([BIII)I"⟩ : Cond) ∈ zTB := List.mem_filter.mpr ⟨zm_4 (List.mem_of_getElem? (i := 10) rfl), rfl⟩
theorem tw_731 : (.code ⟨"java/lang/StringLatin1","indexOf","([BIII)I"⟩ prog_19_method_22_code 4 (some .int) : Cond) ∈ zTB := List.mem_filter.mpr ⟨zm_4 (List.mem_of_getElem? (i := 11) rfl), rfl⟩
theorem tw_732 : (.methodLink "java/lang/StringLatin1" 88 ⟨"java/lang/StringLatin1","canEncode","(I)Z"⟩ : Cond) ∈ zTB := List.mem_filter.mpr ⟨zm_4 (List.mem_of_getElem? (i := 12) rfl), rfl⟩
theorem tw_733 : (.static ⟨"java/lang/StringLatin1","canEncode","(I)Z"⟩ : Cond) ∈ zTB := List.mem_filter.mpr ⟨zm_4 (List.mem_of_getElem? (i := 13) rfl), rfl⟩
theorem tw_734 : (.code ⟨"java/lang/StringLatin1","canEncode","(I)Z"⟩ prog_19_method_4_code 1 (some .boolean) : Cond) ∈ zTB := List.mem_filter.mpr ⟨zm_4 (List.mem_of_getElem? (i := 14) rfl), rfl⟩
theorem tw_735 : (.methodLink "java/lang/StringLatin1" 92 ⟨"java/lang/Math","max","(II)I"⟩ : Cond) ∈ zTB := List.mem_filter.mpr ⟨zm_4 (List.mem_of_getElem? (i := 15) rfl), rfl⟩
theorem tw_736 : (.methodLink "java/lang/StringLatin1" 38 ⟨"java/lang/Math","min","(II)I"⟩ : Cond) ∈ zTB := List.mem_filter.mpr ⟨zm_4 (List.mem_of_getElem? (i := 16) rfl), rfl⟩
theorem tw_737 : (.methodLink "java/lang/StringLatin1" 95 ⟨"java/lang/StringLatin1","indexOfChar","([BIII)I"⟩ : Cond) ∈ zTB := List.mem_filter.mpr ⟨zm_4 (List.mem_of_getElem? (i := 17) rfl), rfl⟩
theorem tw_738 : (.static ⟨"java/lang/StringLatin1","indexOfChar","([BIII)I"⟩ : Cond) ∈ zTB := List.mem_filter.mpr ⟨zm_4 (List.mem_of_getElem? (i := 18) rfl), rfl⟩
theorem tw_739 : (.code ⟨"java/lang/StringLatin1","indexOfChar","([BIII)I"⟩ prog_19_method_23_code 6 (some .int) : Cond) ∈ zTB := List.mem_filter.mpr ⟨zm_4 (List.mem_of_getElem? (i := 19) rfl), rfl⟩
theorem tw_776 : (.methodLink "NightColander$Parser" 90 ⟨"NightColander$Text","mark","(I)V"⟩ : Cond) ∈ zTB := List.mem_filter.mpr ⟨zm_4 (List.mem_of_getElem? (i := 56) rfl), rfl⟩
theorem tw_777 : (.methodLink "NightColander$Parser" 77 ⟨"NightColander$Tape","atWord","(Ljava/lang/String;)Z"⟩ : Cond) ∈ zTB := List.mem_filter.mpr ⟨zm_4 (List.mem_of_getElem? (i := 57) rfl), rfl⟩
theorem tw_778 : (.instanceMethod ⟨"NightColander$Tape","atWord","(Ljava/lang/String;)Z"⟩ : Cond) ∈ zTB := List.mem_filter.mpr ⟨zm_4 (List.mem_of_getElem? (i := 58) rfl), rfl⟩
theorem tw_779 : (.selects "NightColander$Tape" ⟨"NightColander$Tape","atWord","(Ljava/lang/String;)Z"⟩ ⟨"NightColander$Tape","atWord","(Ljava/lang/String;)Z"⟩ : Cond) ∈ zTB := List.mem_filter.mpr ⟨zm_4 (List.mem_of_getElem? (i := 59) rfl), rfl⟩
theorem tw_780 : (.code ⟨"NightColander$Tape","atWord","(Ljava/lang/String;)Z"⟩ prog_10_method_10_code 2 (some .boolean) : Cond) ∈ zTB := List.mem_filter.mpr ⟨zm_4 (List.mem_of_getElem? (i := 60) rfl), rfl⟩
theorem tw_782 : (.methodLink "NightColander$Parser" 109 ⟨"NightColander$Text","setTimes","(I)V"⟩ : Cond) ∈ zTB := List.mem_filter.mpr ⟨zm_4 (List.mem_of_getElem? (i := 62) rfl), rfl⟩
theorem tw_783 : (.instanceMethod ⟨"NightColander$Text","setTimes","(I)V"⟩ : Cond) ∈ zTB := List.mem_filter.mpr ⟨zm_4 (List.mem_of_getElem? (i := 63) rfl), rfl⟩
theorem tw_784 : (.selects "NightColander$Text" ⟨"NightColander$Text","setTimes","(I)V"⟩ ⟨"NightColander$Text","setTimes","(I)V"⟩ : Cond) ∈ zTB := List.mem_filter.mpr ⟨zm_4 (List.mem_of_getElem? (i := 64) rfl), rfl⟩
theorem tw_785 : (.code ⟨"NightColander$Text","setTimes","(I)V"⟩ prog_11_method_7_code 2 (Option.none : Option FieldType) : Cond) ∈ zTB := List.mem_filter.mpr ⟨zm_4 (List.mem_of_getElem? (i := 65) rfl), rfl⟩
theorem tw_786 : (.methodLink "NightColander$Parser" 72 ⟨"NightColander$Parser","readLaw","(I)Z"⟩ : Cond) ∈ zTB := List.mem_filter.mpr ⟨zm_4 (List.mem_of_getElem? (i := 66) rfl), rfl⟩
theorem tw_788 : (.instanceMethod ⟨"NightColander$Parser","readLaw","(I)Z"⟩ : Cond) ∈ zTB := List.mem_filter.mpr ⟨zm_4 (List.mem_of_getElem? (i := 68) rfl), rfl⟩
theorem tw_789 : (.code ⟨"NightColander$Parser","readLaw","(I)Z"⟩ prog_7_method_4_code 2 (some .boolean) : Cond) ∈ zTB := List.mem_filter.mpr ⟨zm_4 (List.mem_of_getElem? (i := 69) rfl), rfl⟩
theorem tw_791 : (.methodLink "NightColander$Parser" 81 ⟨"NightColander$Parser","readTest","(I)Z"⟩ : Cond) ∈ zTB := List.mem_filter.mpr ⟨zm_4 (List.mem_of_getElem? (i := 71) rfl), rfl⟩
theorem tw_793 : (.instanceMethod ⟨"NightColander$Parser","readTest","(I)Z"⟩ : Cond) ∈ zTB := List.mem_filter.mpr ⟨zm_4 (List.mem_of_getElem? (i := 73) rfl), rfl⟩
theorem tw_794 : (.code ⟨"NightColander$Parser","readTest","(I)Z"⟩ prog_7_method_7_code 4 (some .boolean) : Cond) ∈ zTB := List.mem_filter.mpr ⟨zm_4 (List.mem_of_getElem? (i := 74) rfl), rfl⟩
theorem tw_795 : (.methodLink "NightColander$Parser" 112 ⟨"NightColander$Parser","readBoth","(I)Z"⟩ : Cond) ∈ zTB := List.mem_filter.mpr ⟨zm_4 (List.mem_of_getElem? (i := 75) rfl), rfl⟩
theorem tw_797 : (.instanceMethod ⟨"NightColander$Parser","readBoth","(I)Z"⟩ : Cond) ∈ zTB := List.mem_filter.mpr ⟨zm_4 (List.mem_of_getElem? (i := 77) rfl), rfl⟩
theorem tw_798 : (.code ⟨"NightColander$Parser","readBoth","(I)Z"⟩ prog_7_method_8_code 4 (some .boolean) : Cond) ∈ zTB := List.mem_filter.mpr ⟨zm_4 (List.mem_of_getElem? (i := 78) rfl), rfl⟩
theorem tw_799 : (.methodLink "NightColander$Parser" 124 ⟨"NightColander$Parser","readPlain","(I)Z"⟩ : Cond) ∈ zTB := List.mem_filter.mpr ⟨zm_4 (List.mem_of_getElem? (i := 79) rfl), rfl⟩
theorem tw_801 : (.instanceMethod ⟨"NightColander$Parser","readPlain","(I)Z"⟩ : Cond) ∈ zTB := List.mem_filter.mpr ⟨zm_4 (List.mem_of_getElem? (i := 81) rfl), rfl⟩
theorem tw_802 : (.code ⟨"NightColander$Parser","readPlain","(I)Z"⟩ prog_7_method_9_code 4 (some .boolean) : Cond) ∈ zTB := List.mem_filter.mpr ⟨zm_4 (List.mem_of_getElem? (i := 82) rfl), rfl⟩
theorem tw_804 : (.methodLink "NightColander$Parser" 131 ⟨"NightColander$Parser","readTestInBrackets","(I)Z"⟩ : Cond) ∈ zTB := List.mem_filter.mpr ⟨zm_4 (List.mem_of_getElem? (i := 84) rfl), rfl⟩
theorem tw_806 : (.instanceMethod ⟨"NightColander$Parser","readTestInBrackets","(I)Z"⟩ : Cond) ∈ zTB := List.mem_filter.mpr ⟨zm_4 (List.mem_of_getElem? (i := 86) rfl), rfl⟩
theorem tw_807 : (.code ⟨"NightColander$Parser","readTestInBrackets","(I)Z"⟩ prog_7_method_10_code 2 (some .boolean) : Cond) ∈ zTB := List.mem_filter.mpr ⟨zm_4 (List.mem_of_getElem? (i := 87) rfl), rfl⟩
theorem tw_808 : (.methodLink "NightColander$Parser" 134 ⟨"NightColander$Parser","readComparison","(I)Z"⟩ : Cond) ∈ zTB := List.mem_filter.mpr ⟨zm_4 (List.mem_of_getElem? (i := 88) rfl), rfl⟩
theorem tw_810 : (.instanceMethod ⟨"NightColander$Parser","readComparison","(I)Z"⟩ : Cond) ∈ zTB := List.mem_filter.mpr ⟨zm_4 (List.mem_of_getElem? (i := 90) rfl), rfl⟩
theorem tw_811 : (.code ⟨"NightColander$Parser","readComparison","(I)Z"⟩ prog_7_method_11_code 3 (some .boolean) : Cond) ∈ zTB := List.mem_filter.mpr ⟨zm_4 (List.mem_of_getElem? (i := 91) rfl), rfl⟩
theorem tw_814 : (.methodLink "NightColander$Parser" 121 ⟨"NightColander$Text","leapHere","(I)V"⟩ : Cond) ∈ zTB := List.mem_filter.mpr ⟨zm_4 (List.mem_of_getElem? (i := 94) rfl), rfl⟩
theorem tw_815 : (.instanceMethod ⟨"NightColander$Text","leapHere","(I)V"⟩ : Cond) ∈ zTB := List.mem_filter.mpr ⟨zm_4 (List.mem_of_getElem? (i := 95) rfl), rfl⟩
theorem tw_816 : (.selects "NightColander$Text" ⟨"NightColander$Text","leapHere","(I)V"⟩ ⟨"NightColander$Text","leapHere","(I)V"⟩ : Cond) ∈ zTB := List.mem_filter.mpr ⟨zm_4 (List.mem_of_getElem? (i := 96) rfl), rfl⟩
theorem tw_817 : (.code ⟨"NightColander$Text","leapHere","(I)V"⟩ prog_11_method_11_code 2 (Option.none : Option FieldType) : Cond) ∈ zTB := List.mem_filter.mpr ⟨zm_4 (List.mem_of_getElem? (i := 97) rfl), rfl⟩
theorem tw_820 : (.methodLink "NightColander$Parser" 84 ⟨"NightColander$Text","closeClause","()V"⟩ : Cond) ∈ zTB := List.mem_filter.mpr ⟨zm_4 (List.mem_of_getElem? (i := 100) rfl), rfl⟩
theorem tw_821 : (.instanceMethod ⟨"NightColander$Text","closeClause","()V"⟩ : Cond) ∈ zTB := List.mem_filter.mpr ⟨zm_4 (List.mem_of_getElem? (i := 101) rfl), rfl⟩
theorem tw_822 : (.selects "NightColander$Text" ⟨"NightColander$Text","closeClause","()V"⟩ ⟨"NightColander$Text","closeClause","()V"⟩ : Cond) ∈ zTB := List.mem_filter.mpr ⟨zm_4 (List.mem_of_getElem? (i := 102) rfl), rfl⟩
theorem tw_823 : (.code ⟨"NightColander$Text","closeClause","()V"⟩ prog_11_method_8_code 1 (Option.none : Option FieldType) : Cond) ∈ zTB := List.mem_filter.mpr ⟨zm_4 (List.mem_of_getElem? (i := 103) rfl), rfl⟩
theorem tw_824 : (.methodLink "NightColander$Parser" 42 ⟨"NightColander$Tape","place","()I"⟩ : Cond) ∈ zTB := List.mem_filter.mpr ⟨zm_4 (List.mem_of_getElem? (i := 104) rfl), rfl⟩
theorem tw_825 : (.instanceMethod ⟨"NightColander$Tape","place","()I"⟩ : Cond) ∈ zTB := List.mem_filter.mpr ⟨zm_4 (List.mem_of_getElem? (i := 105) rfl), rfl⟩
theorem tw_826 : (.selects "NightColander$Tape" ⟨"NightColander$Tape","place","()I"⟩ ⟨"NightColander$Tape","place","()I"⟩ : Cond) ∈ zTB := List.mem_filter.mpr ⟨zm_4 (List.mem_of_getElem? (i := 106) rfl), rfl⟩
theorem tw_827 : (.code ⟨"NightColander$Tape","place","()I"⟩ prog_10_method_7_code 1 (some .int) : Cond) ∈ zTB := List.mem_filter.mpr ⟨zm_4 (List.mem_of_getElem? (i := 107) rfl), rfl⟩
theorem tw_828 : (.methodLink "NightColander$Parser" 46 ⟨"NightColander$Tape","atEnd","()Z"⟩ : Cond) ∈ zTB := List.mem_filter.mpr ⟨zm_4 (List.mem_of_getElem? (i := 108) rfl), rfl⟩
theorem tw_829 : (.instanceMethod ⟨"NightColander$Tape","atEnd","()Z"⟩ : Cond) ∈ zTB := List.mem_filter.mpr ⟨zm_4 (List.mem_of_getElem? (i := 109) rfl), rfl⟩
theorem tw_830 : (.selects "NightColander$Tape" ⟨"NightColander$Tape","atEnd","()Z"⟩ ⟨"NightColander$Tape","atEnd","()Z"⟩ : Cond) ∈ zTB := List.mem_filter.mpr ⟨zm_4 (List.mem_of_getElem? (i := 110) rfl), rfl⟩
theorem tw_831 : (.code ⟨"NightColander$Tape","atEnd","()Z"⟩ prog_10_method_8_code 1 (some .boolean) : Cond) ∈ zTB := List.mem_filter.mpr ⟨zm_4 (List.mem_of_getElem? (i := 111) rfl), rfl⟩
theorem tw_832 : (.methodLink "NightColander" 219 ⟨"NightColander$Text","copy","()LNightColander$Text;"⟩ : Cond) ∈ zTB := List.mem_filter.mpr ⟨zm_4 (List.mem_of_getElem? (i := 112) rfl), rfl⟩
theorem tw_833 : (.instanceMethod ⟨"NightColander$Text","copy","()LNightColander$Text;"⟩ : Cond) ∈ zTB := List.mem_filter.mpr ⟨zm_4 (List.mem_of_getElem? (i := 113) rfl), rfl⟩
theorem tw_834 : (.selects "NightColander$Text" ⟨"NightColander$Text","copy","()LNightColander$Text;"⟩ ⟨"NightColander$Text","copy","()LNightColander$Text;"⟩ : Cond) ∈ zTB := List.mem_filter.mpr ⟨zm_4 (List.mem_of_getElem? (i := 114) rfl), rfl⟩
theorem tw_835 : (.code ⟨"NightColander$Text","copy","()LNightColander$Text;"⟩ prog_11_method_3_code 1 (some (.object "NightColander$Text")) : Cond) ∈ zTB := List.mem_filter.mpr ⟨zm_4 (List.mem_of_getElem? (i := 115) rfl), rfl⟩
theorem tw_836 : (.classLink "NightColander$Text" 8 "NightColander$Text" : Cond) ∈ zTB := List.mem_filter.mpr ⟨zm_4 (List.mem_of_getElem? (i := 116) rfl), rfl⟩
theorem tw_837 : (.methodLink "NightColander$Text" 44 ⟨"NightColander$Text","<init>","(LNightColander$Text;)V"⟩ : Cond) ∈ zTB := List.mem_filter.mpr ⟨zm_4 (List.mem_of_getElem? (i := 117) rfl), rfl⟩
theorem tw_838 : (.instanceMethod ⟨"NightColander$Text","<init>","(LNightColander$Text;)V"⟩ : Cond) ∈ zTB := List.mem_filter.mpr ⟨zm_4 (List.mem_of_getElem? (i := 118) rfl), rfl⟩
theorem tw_839 : (.code ⟨"NightColander$Text","<init>","(LNightColander$Text;)V"⟩ prog_11_method_2_code 2 (Option.none : Option FieldType) : Cond) ∈ zTB := List.mem_filter.mpr ⟨zm_4 (List.mem_of_getElem? (i := 119) rfl), rfl⟩
theorem tw_840 : (.methodLink "NightColander$Text" 38 ⟨"java/util/Arrays","copyOf","([II)[I"⟩ : Cond) ∈ zTB := List.mem_filter.mpr ⟨zm_4 (List.mem_of_getElem? (i := 120) rfl), rfl⟩
theorem tw_841 : (.static ⟨"java/util/Arrays","copyOf","([II)[I"⟩ : Cond) ∈ zTB := List.mem_filter.mpr ⟨zm_4 (List.mem_of_getElem? (i := 121) rfl), rfl⟩
theorem tw_842 : (.code ⟨"java/util/Arrays","copyOf","([II)[I"⟩ prog_22_method_123_code 3 (some (.array .int)) : Cond) ∈ zTB := List.mem_filter.mpr ⟨zm_4 (List.mem_of_getElem? (i := 122) rfl), rfl⟩
theorem tw_843 : (.methodLink "java/util/Arrays" 316 ⟨"[I","clone","()Ljava/lang/Object;"⟩ : Cond) ∈ zTB := List.mem_filter.mpr ⟨zm_4 (List.mem_of_getElem? (i := 123) rfl), rfl⟩
theorem tw_844 : (.sameMethod "[I" "java/lang/Object" "clone" "()Ljava/lang/Object;" : Cond) ∈ zTB := List.mem_filter.mpr ⟨zm_4 (List.mem_of_getElem? (i := 124) rfl), rfl⟩
theorem tw_845 : (.native ⟨"java/lang/Object","clone","()Ljava/lang/Object;"⟩ : Cond) ∈ zTB := List.mem_filter.mpr ⟨zm_4 (List.mem_of_getElem? (i := 125) rfl), rfl⟩
theorem tw_846 : (.instanceMethod ⟨"java/lang/Object","clone","()Ljava/lang/Object;"⟩ : Cond) ∈ zTB := List.mem_filter.mpr ⟨zm_4 (List.mem_of_getElem? (i := 126) rfl), rfl⟩
theorem tw_847 : (.selects "[I" ⟨"[I","clone","()Ljava/lang/Object;"⟩ ⟨"java/lang/Object","clone","()Ljava/lang/Object;"⟩ : Cond) ∈ zTB := List.mem_filter.mpr ⟨zm_4 (List.mem_of_getElem? (i := 127) rfl), rfl⟩
theorem tw_849 : (.classLink "java/util/Arrays" 317 "[I" : Cond) ∈ zTB := List.mem_filter.mpr ⟨zm_4 (List.mem_of_getElem? (i := 129) rfl), rfl⟩
theorem tw_850 : (.methodLink "java/util/Arrays" 304 ⟨"java/lang/Math","min","(II)I"⟩ : Cond) ∈ zTB := List.mem_filter.mpr ⟨zm_4 (List.mem_of_getElem? (i := 130) rfl), rfl⟩
theorem tw_851 : (.methodLink "java/util/Arrays" 150 ⟨"java/lang/System","arraycopy","(Ljava/lang/Object;ILjava/lang/Object;II)V"⟩ : Cond) ∈ zTB := List.mem_filter.mpr ⟨zm_4 (List.mem_of_getElem? (i := 131) rfl), rfl⟩
theorem tw_852 : (.static ⟨"java/lang/System","arraycopy","(Ljava/lang/Object;ILjava/lang/Object;II)V"⟩ : Cond) ∈ zTB := List.mem_filter.mpr ⟨zm_4 (List.mem_of_getElem? (i := 132) rfl), rfl⟩
theorem tw_853 : (.native ⟨"java/lang/System","arraycopy","(Ljava/lang/Object;ILjava/lang/Object;II)V"⟩ : Cond) ∈ zTB := List.mem_filter.mpr ⟨zm_4 (List.mem_of_getElem? (i := 133) rfl), rfl⟩
theorem tw_854 : (.methodLink "NightColander" 225 ⟨"NightColander$Night","addLaw","(LNightColander$Text;)I"⟩ : Cond) ∈ zTB := List.mem_filter.mpr ⟨zm_4 (List.mem_of_getElem? (i := 134) rfl), rfl⟩
theorem tw_855 : (.instanceMethod ⟨"NightColander$Night","addLaw","(LNightColander$Text;)I"⟩ : Cond) ∈ zTB := List.mem_filter.mpr ⟨zm_4 (List.mem_of_getElem? (i := 135) rfl), rfl⟩
theorem tw_856 : (.selects "NightColander$Night" ⟨"NightColander$Night","addLaw","(LNightColander$Text;)I"⟩ ⟨"NightColander$Night","addLaw","(LNightColander$Text;)I"⟩ : Cond) ∈ zTB := List.mem_filter.mpr ⟨zm_4 (List.mem_of_getElem? (i := 136) rfl), rfl⟩
theorem tw_857 : (.code ⟨"NightColander$Night","addLaw","(LNightColander$Text;)I"⟩ prog_5_method_11_code 2 (some .int) : Cond) ∈ zTB := List.mem_filter.mpr ⟨zm_4 (List.mem_of_getElem? (i := 137) rfl), rfl⟩
theorem tw_862 : (.methodLink "NightColander" 229 ⟨"NightColander$Night","copyFrom","(LNightColander$Night;)V"⟩ : Cond) ∈ zTB := List.mem_filter.mpr ⟨zm_4 (List.mem_of_getElem? (i := 142) rfl), rfl⟩
theorem tw_863 : (.instanceMethod ⟨"NightColander$Night","copyFrom","(LNightColander$Night;)V"⟩ : Cond) ∈ zTB := List.mem_filter.mpr ⟨zm_4 (List.mem_of_getElem? (i := 143) rfl), rfl⟩
theorem tw_864 : (.selects "NightColander$Night" ⟨"NightColander$Night","copyFrom","(LNightColander$Night;)V"⟩ ⟨"NightColander$Night","copyFrom","(LNightColander$Night;)V"⟩ : Cond) ∈ zTB := List.mem_filter.mpr ⟨zm_4 (List.mem_of_getElem? (i := 144) rfl), rfl⟩
theorem tw_865 : (.code ⟨"NightColander$Night","copyFrom","(LNightColander$Night;)V"⟩ prog_5_method_2_code 3 (Option.none : Option FieldType) : Cond) ∈ zTB := List.mem_filter.mpr ⟨zm_4 (List.mem_of_getElem? (i := 145) rfl), rfl⟩
theorem tw_866 : (.methodLink "NightColander$Night" 68 ⟨"java/lang/System","arraycopy","(Ljava/lang/Object;ILjava/lang/Object;II)V"⟩ : Cond) ∈ zTB := List.mem_filter.mpr ⟨zm_4 (List.mem_of_getElem? (i := 146) rfl), rfl⟩
theorem tw_867 : (.methodLink "NightColander" 233 ⟨"NightColander$Past","copyFrom","(LNightColander$Past;)V"⟩ : Cond) ∈ zTB := List.mem_filter.mpr ⟨zm_4 (List.mem_of_getElem? (i := 147) rfl), rfl⟩
theorem tw_868 : (.instanceMethod ⟨"NightColander$Past","copyFrom","(LNightColander$Past;)V"⟩ : Cond) ∈ zTB := List.mem_filter.mpr ⟨zm_4 (List.mem_of_getElem? (i := 148) rfl), rfl⟩
theorem tw_869 : (.selects "NightColander$Past" ⟨"NightColander$Past","copyFrom","(LNightColander$Past;)V"⟩ ⟨"NightColander$Past","copyFrom","(LNightColander$Past;)V"⟩ : Cond) ∈ zTB := List.mem_filter.mpr ⟨zm_4 (List.mem_of_getElem? (i := 149) rfl), rfl⟩
theorem tw_870 : (.code ⟨"NightColander$Past","copyFrom","(LNightColander$Past;)V"⟩ prog_8_method_3_code 2 (Option.none : Option FieldType) : Cond) ∈ zTB := List.mem_filter.mpr ⟨zm_4 (List.mem_of_getElem? (i := 150) rfl), rfl⟩
theorem tw_871 : (.methodLink "NightColander$Past" 19 ⟨"java/lang/System","arraycopy","(Ljava/lang/Object;ILjava/lang/Object;II)V"⟩ : Cond) ∈ zTB := List.mem_filter.mpr ⟨zm_4 (List.mem_of_getElem? (i := 151) rfl), rfl⟩
theorem tw_872 : (.methodLink "NightColander" 236 ⟨"NightColander$Runner","run","(LNightColander$Night;LNightColander$Past;LNightColander$Text;)I"⟩ : Cond) ∈ zTB := List.mem_filter.mpr ⟨zm_4 (List.mem_of_getElem? (i := 152) rfl), rfl⟩
theorem tw_873 : (.instanceMethod ⟨"NightColander$Runner","run","(LNightColander$Night;LNightColander$Past;LNightColander$Text;)I"⟩ : Cond) ∈ zTB := List.mem_filter.mpr ⟨zm_4 (List.mem_of_getElem? (i := 153) rfl), rfl⟩
theorem tw_874 : (.selects "NightColander$Runner" ⟨"NightColander$Runner","run","(LNightColander$Night;LNightColander$Past;LNightColander$Text;)I"⟩ ⟨"NightColander$Runner","run","(LNightColander$Night;LNightColander$Past;LNightColander$Text;)I"⟩ : Cond) ∈ zTB := List.mem_filter.mpr ⟨zm_4 (List.mem_of_getElem? (i := 154) rfl), rfl⟩
theorem tw_875 : (.code ⟨"NightColander$Runner","run","(LNightColander$Night;LNightColander$Past;LNightColander$Text;)I"⟩ prog_9_method_2_code 14 (some .int) : Cond) ∈ zTB := List.mem_filter.mpr ⟨zm_4 (List.mem_of_getElem? (i := 155) rfl), rfl⟩
theorem tw_876 : (.methodLink "NightColander$Runner" 42 ⟨"NightColander$Text","markOf","(II)I"⟩ : Cond) ∈ zTB := List.mem_filter.mpr ⟨zm_4 (List.mem_of_getElem? (i := 156) rfl), rfl⟩
theorem tw_877 : (.methodLink "NightColander$Runner" 50 ⟨"NightColander$Runner","findWords","(LNightColander$Night;I)V"⟩ : Cond) ∈ zTB := List.mem_filter.mpr ⟨zm_4 (List.mem_of_getElem? (i := 157) rfl), rfl⟩
theorem tw_879 : (.instanceMethod ⟨"NightColander$Runner","findWords","(LNightColander$Night;I)V"⟩ : Cond) ∈ zTB := List.mem_filter.mpr ⟨zm_4 (List.mem_of_getElem? (i := 159) rfl), rfl⟩
theorem tw_880 : (.code ⟨"NightColander$Runner","findWords","(LNightColander$Night;I)V"⟩ prog_9_method_3_code 4 (Option.none : Option FieldType) : Cond) ∈ zTB := List.mem_filter.mpr ⟨zm_4 (List.mem_of_getElem? (i := 160) rfl), rfl⟩
theorem tw_881 : (.methodLink "NightColander$Runner" 73 ⟨"NightColander$Night","allLevels","()I"⟩ : Cond) ∈ zTB := List.mem_filter.mpr ⟨zm_4 (List.mem_of_getElem? (i := 161) rfl), rfl⟩
theorem tw_882 : (.instanceMethod ⟨"NightColander$Night","allLevels","()I"⟩ : Cond) ∈ zTB := List.mem_filter.mpr ⟨zm_4 (List.mem_of_getElem? (i := 162) rfl), rfl⟩
theorem tw_883 : (.selects "NightColander$Night" ⟨"NightColander$Night","allLevels","()I"⟩ ⟨"NightColander$Night","allLevels","()I"⟩ : Cond) ∈ zTB := List.mem_filter.mpr ⟨zm_4 (List.mem_of_getElem? (i := 163) rfl), rfl⟩
theorem tw_884 : (.code ⟨"NightColander$Night","allLevels","()I"⟩ prog_5_method_12_code 3 (some .int) : Cond) ∈ zTB := List.mem_filter.mpr ⟨zm_4 (List.mem_of_getElem? (i := 164) rfl), rfl⟩
theorem tw_885 : (.methodLink "NightColander$Runner" 80 ⟨"NightColander$Night","hasBucket","(I)Z"⟩ : Cond) ∈ zTB := List.mem_filter.mpr ⟨zm_4 (List.mem_of_getElem? (i := 165) rfl), rfl⟩
theorem tw_886 : (.methodLink "NightColander$Runner" 87 ⟨"NightColander$Judge","threadsOn","(LNightColander$Night;I)I"⟩ : Cond) ∈ zTB := List.mem_filter.mpr ⟨zm_4 (List.mem_of_getElem? (i := 166) rfl), rfl⟩
theorem tw_887 : (.methodLink "NightColander$Runner" 54 ⟨"NightColander$Machine","work","(LNightColander$Text;II[I)I"⟩ : Cond) ∈ zTB := List.mem_filter.mpr ⟨zm_4 (List.mem_of_getElem? (i := 167) rfl), rfl⟩
theorem tw_888 : (.constant "NightColander$Runner" 61 (-2147483648) : Cond) ∈ zTB := List.mem_filter.mpr ⟨zm_4 (List.mem_of_getElem? (i := 168) rfl), rfl⟩
theorem tw_889 : (.methodLink "NightColander$Runner" 62 ⟨"NightColander$Deeds","perform","(LNightColander$Night;LNightColander$Past;III)I"⟩ : Cond) ∈ zTB := List.mem_filter.mpr ⟨zm_4 (List.mem_of_getElem? (i := 169) rfl), rfl⟩
theorem tw_890 : (.instanceMethod ⟨"NightColander$Deeds","perform","(LNightColander$Night;LNightColander$Past;III)I"⟩ : Cond) ∈ zTB := List.mem_filter.mpr ⟨zm_4 (List.mem_of_getElem? (i := 170) rfl), rfl⟩
theorem tw_891 : (.selects "NightColander$Deeds" ⟨"NightColander$Deeds","perform","(LNightColander$Night;LNightColander$Past;III)I"⟩ ⟨"NightColander$Deeds","perform","(LNightColander$Night;LNightColander$Past;III)I"⟩ : Cond) ∈ zTB := List.mem_filter.mpr ⟨zm_4 (List.mem_of_getElem? (i := 171) rfl), rfl⟩
theorem tw_892 : (.code ⟨"NightColander$Deeds","perform","(LNightColander$Night;LNightColander$Past;III)I"⟩ prog_2_method_2_code 8 (some .int) : Cond) ∈ zTB := List.mem_filter.mpr ⟨zm_4 (List.mem_of_getElem? (i := 172) rfl), rfl⟩
theorem tw_893 : (.methodLink "NightColander$Deeds" 24 ⟨"NightColander$Deeds","refusalOf","(LNightColander$Night;III)I"⟩ : Cond) ∈ zTB := List.mem_filter.mpr ⟨zm_4 (List.mem_of_getElem? (i := 173) rfl), rfl⟩
theorem tw_895 : (.instanceMethod ⟨"NightColander$Deeds","refusalOf","(LNightColander$Night;III)I"⟩ : Cond) ∈ zTB := List.mem_filter.mpr ⟨zm_4 (List.mem_of_getElem? (i := 175) rfl), rfl⟩
theorem tw_896 : (.code ⟨"NightColander$Deeds","refusalOf","(LNightColander$Night;III)I"⟩ prog_2_method_5_code 5 (some .int) : Cond) ∈ zTB := List.mem_filter.mpr ⟨zm_4 (List.mem_of_getElem? (i := 176) rfl), rfl⟩
theorem tw_900 : (.methodLink "NightColander$Deeds" 81 ⟨"NightColander$Night","hasBucket","(I)Z"⟩ : Cond) ∈ zTB := List.mem_filter.mpr ⟨zm_4 (List.mem_of_getElem? (i := 180) rfl), rfl⟩
theorem tw_901 : (.methodLink "NightColander$Deeds" 84 ⟨"NightColander$Night","bucketAt","(I)I"⟩ : Cond) ∈ zTB := List.mem_filter.mpr ⟨zm_4 (List.mem_of_getElem? (i := 181) rfl), rfl⟩
theorem tw_902 : (.methodLink "NightColander$Deeds" 88 ⟨"NightColander$Judge","isBarred","(LNightColander$Night;II)Z"⟩ : Cond) ∈ zTB := List.mem_filter.mpr ⟨zm_4 (List.mem_of_getElem? (i := 182) rfl), rfl⟩
theorem tw_903 : (.methodLink "NightColander$Deeds" 28 ⟨"NightColander$Past","add","(III[I)V"⟩ : Cond) ∈ zTB := List.mem_filter.mpr ⟨zm_4 (List.mem_of_getElem? (i := 183) rfl), rfl⟩
theorem tw_904 : (.instanceMethod ⟨"NightColander$Past","add","(III[I)V"⟩ : Cond) ∈ zTB := List.mem_filter.mpr ⟨zm_4 (List.mem_of_getElem? (i := 184) rfl), rfl⟩
theorem tw_905 : (.selects "NightColander$Past" ⟨"NightColander$Past","add","(III[I)V"⟩ ⟨"NightColander$Past","add","(III[I)V"⟩ : Cond) ∈ zTB := List.mem_filter.mpr ⟨zm_4 (List.mem_of_getElem? (i := 185) rfl), rfl⟩
theorem tw_906 : (.code ⟨"NightColander$Past","add","(III[I)V"⟩ prog_8_method_4_code 6 (Option.none : Option FieldType) : Cond) ∈ zTB := List.mem_filter.mpr ⟨zm_4 (List.mem_of_getElem? (i := 186) rfl), rfl⟩
theorem tw_907 : (.methodLink "NightColander$Deeds" 34 ⟨"NightColander$Deeds","changeBlock","(LNightColander$Night;I)I"⟩ : Cond) ∈ zTB := List.mem_filter.mpr ⟨zm_4 (List.mem_of_getElem? (i := 187) rfl), rfl⟩
theorem tw_908 : (.static ⟨"NightColander$Deeds","changeBlock","(LNightColander$Night;I)I"⟩ : Cond) ∈ zTB := List.mem_filter.mpr ⟨zm_4 (List.mem_of_getElem? (i := 188) rfl), rfl⟩
theorem tw_909 : (.code ⟨"NightColander$Deeds","changeBlock","(LNightColander$Night;I)I"⟩ prog_2_method_6_code 2 (some .int) : Cond) ∈ zTB := List.mem_filter.mpr ⟨zm_4 (List.mem_of_getElem? (i := 189) rfl), rfl⟩
theorem tw_910 : (.methodLink "NightColander$Deeds" 38 ⟨"NightColander$Deeds","widen","(LNightColander$Night;I)I"⟩ : Cond) ∈ zTB := List.mem_filter.mpr ⟨zm_4 (List.mem_of_getElem? (i := 190) rfl), rfl⟩
theorem tw_911 : (.static ⟨"NightColander$Deeds","widen","(LNightColander$Night;I)I"⟩ : Cond) ∈ zTB := List.mem_filter.mpr ⟨zm_4 (List.mem_of_getElem? (i := 191) rfl), rfl⟩
theorem tw_912 : (.code ⟨"NightColander$Deeds","widen","(LNightColander$Night;I)I"⟩ prog_2_method_7_code 2 (some .int) : Cond) ∈ zTB := List.mem_filter.mpr ⟨zm_4 (List.mem_of_getElem? (i := 192) rfl), rfl⟩
theorem tw_913 : (.methodLink "NightColander$Deeds" 41 ⟨"NightColander$Deeds","move","(LNightColander$Night;II)I"⟩ : Cond) ∈ zTB := List.mem_filter.mpr ⟨zm_4 (List.mem_of_getElem? (i := 193) rfl), rfl⟩
theorem tw_914 : (.static ⟨"NightColander$Deeds","move","(LNightColander$Night;II)I"⟩ : Cond) ∈ zTB := List.mem_filter.mpr ⟨zm_4 (List.mem_of_getElem? (i := 194) rfl), rfl⟩
theorem tw_915 : (.code ⟨"NightColander$Deeds","move","(LNightColander$Night;II)I"⟩ prog_2_method_8_code 4 (some .int) : Cond) ∈ zTB := List.mem_filter.mpr ⟨zm_4 (List.mem_of_getElem? (i := 195) rfl), rfl⟩
theorem tw_916 : (.methodLink "NightColander$Deeds" 45 ⟨"NightColander$Deeds","letHourPass","(LNightColander$Night;)I"⟩ : Cond) ∈ zTB := List.mem_filter.mpr ⟨zm_4 (List.mem_of_getElem? (i := 196) rfl), rfl⟩
theorem tw_918 : (.instanceMethod ⟨"NightColander$Deeds","letHourPass","(LNightColander$Night;)I"⟩ : Cond) ∈ zTB := List.mem_filter.mpr ⟨zm_4 (List.mem_of_getElem? (i := 198) rfl), rfl⟩
theorem tw_919 : (.code ⟨"NightColander$Deeds","letHourPass","(LNightColander$Night;)I"⟩ prog_2_method_9_code 6 (some .int) : Cond) ∈ zTB := List.mem_filter.mpr ⟨zm_4 (List.mem_of_getElem? (i := 199) rfl), rfl⟩
theorem tw_920 : (.methodLink "NightColander$Deeds" 105 ⟨"NightColander$Judge","threadsOn","(LNightColander$Night;I)I"⟩ : Cond) ∈ zTB := List.mem_filter.mpr ⟨zm_4 (List.mem_of_getElem? (i := 200) rfl), rfl⟩
theorem tw_921 : (.methodLink "NightColander$Deeds" 108 ⟨"java/lang/Math","min","(II)I"⟩ : Cond) ∈ zTB := List.mem_filter.mpr ⟨zm_4 (List.mem_of_getElem? (i := 201) rfl), rfl⟩
theorem tw_922 : (.methodLink "NightColander$Deeds" 114 ⟨"NightColander$Judge","leakOf","(LNightColander$Night;I)I"⟩ : Cond) ∈ zTB := List.mem_filter.mpr ⟨zm_4 (List.mem_of_getElem? (i := 202) rfl), rfl⟩
theorem tw_923 : (.methodLink "NightColander$Deeds" 117 ⟨"java/lang/Math","max","(II)I"⟩ : Cond) ∈ zTB := List.mem_filter.mpr ⟨zm_4 (List.mem_of_getElem? (i := 203) rfl), rfl⟩
theorem tw_924 : (.methodLink "NightColander$Deeds" 120 ⟨"NightColander$Night","turnAll","(I)V"⟩ : Cond) ∈ zTB := List.mem_filter.mpr ⟨zm_4 (List.mem_of_getElem? (i := 204) rfl), rfl⟩
theorem tw_925 : (.instanceMethod ⟨"NightColander$Night","turnAll","(I)V"⟩ : Cond) ∈ zTB := List.mem_filter.mpr ⟨zm_4 (List.mem_of_getElem? (i := 205) rfl), rfl⟩
theorem tw_926 : (.selects "NightColander$Night" ⟨"NightColander$Night","turnAll","(I)V"⟩ ⟨"NightColander$Night","turnAll","(I)V"⟩ : Cond) ∈ zTB := List.mem_filter.mpr ⟨zm_4 (List.mem_of_getElem? (i := 206) rfl), rfl⟩
theorem tw_927 : (.code ⟨"NightColander$Night","turnAll","(I)V"⟩ prog_5_method_15_code 3 (Option.none : Option FieldType) : Cond) ∈ zTB := List.mem_filter.mpr ⟨zm_4 (List.mem_of_getElem? (i := 207) rfl), rfl⟩
theorem tw_940 : (.methodLink "NightColander" 243 ⟨"NightColander$Night","hasLaw","(I)Z"⟩ : Cond) ∈ zTB := List.mem_filter.mpr ⟨zm_4 (List.mem_of_getElem? (i := 220) rfl), rfl⟩
theorem tw_941 : (.instanceMethod ⟨"NightColander$Night","hasLaw","(I)Z"⟩ : Cond) ∈ zTB := List.mem_filter.mpr ⟨zm_4 (List.mem_of_getElem? (i := 221) rfl), rfl⟩
theorem tw_942 : (.selects "NightColander$Night" ⟨"NightColander$Night","hasLaw","(I)Z"⟩ ⟨"NightColander$Night","hasLaw","(I)Z"⟩ : Cond) ∈ zTB := List.mem_filter.mpr ⟨zm_4 (List.mem_of_getElem? (i := 222) rfl), rfl⟩
theorem tw_943 : (.code ⟨"NightColander$Night","hasLaw","(I)Z"⟩ prog_5_method_4_code 2 (some .boolean) : Cond) ∈ zTB := List.mem_filter.mpr ⟨zm_4 (List.mem_of_getElem? (i := 223) rfl), rfl⟩
theorem tw_948 : (.methodLink "NightColander" 249 ⟨"NightColander$Deeds","perform","(LNightColander$Night;LNightColander$Past;III)I"⟩ : Cond) ∈ zTB := List.mem_filter.mpr ⟨zm_4 (List.mem_of_getElem? (i := 228) rfl), rfl⟩
theorem tw_949 : (.methodLink "NightColander" 253 ⟨"NightColander","answered","(I)I"⟩ : Cond) ∈ zTB := List.mem_filter.mpr ⟨zm_4 (List.mem_of_getElem? (i := 229) rfl), rfl⟩
theorem tw_951 : (.instanceMethod ⟨"NightColander","answered","(I)I"⟩ : Cond) ∈ zTB := List.mem_filter.mpr ⟨zm_4 (List.mem_of_getElem? (i := 231) rfl), rfl⟩
theorem tw_952 : (.code ⟨"NightColander","answered","(I)I"⟩ prog_1_method_49_code 2 (some .int) : Cond) ∈ zTB := List.mem_filter.mpr ⟨zm_4 (List.mem_of_getElem? (i := 232) rfl), rfl⟩
theorem tw_969 : (.methodLink "NightColander" 256 ⟨"NightColander$Past","takeBack","(LNightColander$Night;)I"⟩ : Cond) ∈ zTB := List.mem_filter.mpr ⟨zm_5 (List.mem_of_getElem? (i := 9) rfl), rfl⟩
theorem tw_970 : (.instanceMethod ⟨"NightColander$Past","takeBack","(LNightColander$Night;)I"⟩ : Cond) ∈ zTB := List.mem_filter.mpr ⟨zm_5 (List.mem_of_getElem? (i := 10) rfl), rfl⟩
theorem tw_971 : (.selects "NightColander$Past" ⟨"NightColander$Past","takeBack","(LNightColander$Night;)I"⟩ ⟨"NightColander$Past","takeBack","(LNightColander$Night;)I"⟩ : Cond) ∈ zTB := List.mem_filter.mpr ⟨zm_5 (List.mem_of_getElem? (i := 11) rfl), rfl⟩
theorem tw_972 : (.code ⟨"NightColander$Past","takeBack","(LNightColander$Night;)I"⟩ prog_8_method_5_code 5 (some .int) : Cond) ∈ zTB := List.mem_filter.mpr ⟨zm_5 (List.mem_of_getElem? (i := 12) rfl), rfl⟩
theorem tw_973 : (.methodLink "NightColander$Past" 40 ⟨"NightColander$Night","turnAll","(I)V"⟩ : Cond) ∈ zTB := List.mem_filter.mpr ⟨zm_5 (List.mem_of_getElem? (i := 13) rfl), rfl⟩
theorem tw_978 : (.methodLink "NightColander" 260 ⟨"NightColander$Paper","hoursUntil","(LNightColander$Night;II)I"⟩ : Cond) ∈ zTB := List.mem_filter.mpr ⟨zm_5 (List.mem_of_getElem? (i := 18) rfl), rfl⟩
theorem tw_979 : (.instanceMethod ⟨"NightColander$Paper","hoursUntil","(LNightColander$Night;II)I"⟩ : Cond) ∈ zTB := List.mem_filter.mpr ⟨zm_5 (List.mem_of_getElem? (i := 19) rfl), rfl⟩
theorem tw_980 : (.selects "NightColander$Paper" ⟨"NightColander$Paper","hoursUntil","(LNightColander$Night;II)I"⟩ ⟨"NightColander$Paper","hoursUntil","(LNightColander$Night;II)I"⟩ : Cond) ∈ zTB := List.mem_filter.mpr ⟨zm_5 (List.mem_of_getElem? (i := 20) rfl), rfl⟩
theorem tw_981 : (.code ⟨"NightColander$Paper","hoursUntil","(LNightColander$Night;II)I"⟩ prog_6_method_3_code 5 (some .int) : Cond) ∈ zTB := List.mem_filter.mpr ⟨zm_5 (List.mem_of_getElem? (i := 21) rfl), rfl⟩
theorem tw_982 : (.methodLink "NightColander$Paper" 53 ⟨"NightColander$Night","copyFrom","(LNightColander$Night;)V"⟩ : Cond) ∈ zTB := List.mem_filter.mpr ⟨zm_5 (List.mem_of_getElem? (i := 22) rfl), rfl⟩
theorem tw_983 : (.methodLink "NightColander$Paper" 57 ⟨"NightColander$Judge","threadsOn","(LNightColander$Night;I)I"⟩ : Cond) ∈ zTB := List.mem_filter.mpr ⟨zm_5 (List.mem_of_getElem? (i := 23) rfl), rfl⟩
theorem tw_984 : (.methodLink "NightColander$Paper" 63 ⟨"NightColander$Night","turnAll","(I)V"⟩ : Cond) ∈ zTB := List.mem_filter.mpr ⟨zm_5 (List.mem_of_getElem? (i := 24) rfl), rfl⟩
theorem tw_989 : (.methodLink "NightColander" 263 ⟨"NightColander$Paper","place","(LNightColander$Night;I)Z"⟩ : Cond) ∈ zTB := List.mem_filter.mpr ⟨zm_5 (List.mem_of_getElem? (i := 29) rfl), rfl⟩
theorem tw_990 : (.instanceMethod ⟨"NightColander$Paper","place","(LNightColander$Night;I)Z"⟩ : Cond) ∈ zTB := List.mem_filter.mpr ⟨zm_5 (List.mem_of_getElem? (i := 30) rfl), rfl⟩
theorem tw_991 : (.selects "NightColander$Paper" ⟨"NightColander$Paper","place","(LNightColander$Night;I)Z"⟩ ⟨"NightColander$Paper","place","(LNightColander$Night;I)Z"⟩ : Cond) ∈ zTB := List.mem_filter.mpr ⟨zm_5 (List.mem_of_getElem? (i := 31) rfl), rfl⟩
theorem tw_992 : (.code ⟨"NightColander$Paper","place","(LNightColander$Night;I)Z"⟩ prog_6_method_5_code 6 (some .boolean) : Cond) ∈ zTB := List.mem_filter.mpr ⟨zm_5 (List.mem_of_getElem? (i := 32) rfl), rfl⟩
theorem tw_993 : (.methodLink "NightColander$Paper" 73 ⟨"NightColander$Paper","findFalls","(LNightColander$Night;I)V"⟩ : Cond) ∈ zTB := List.mem_filter.mpr ⟨zm_5 (List.mem_of_getElem? (i := 33) rfl), rfl⟩
theorem tw_995 : (.instanceMethod ⟨"NightColander$Paper","findFalls","(LNightColander$Night;I)V"⟩ : Cond) ∈ zTB := List.mem_filter.mpr ⟨zm_5 (List.mem_of_getElem? (i := 35) rfl), rfl⟩
theorem tw_996 : (.code ⟨"NightColander$Paper","findFalls","(LNightColander$Night;I)V"⟩ prog_6_method_6_code 5 (Option.none : Option FieldType) : Cond) ∈ zTB := List.mem_filter.mpr ⟨zm_5 (List.mem_of_getElem? (i := 36) rfl), rfl⟩
theorem tw_997 : (.methodLink "NightColander$Paper" 80 ⟨"NightColander$Judge","isBarred","(LNightColander$Night;II)Z"⟩ : Cond) ∈ zTB := List.mem_filter.mpr ⟨zm_5 (List.mem_of_getElem? (i := 37) rfl), rfl⟩
theorem tw_998 : (.methodLink "NightColander$Paper" 84 ⟨"NightColander$Paper","catchOn","(LNightColander$Night;III)I"⟩ : Cond) ∈ zTB := List.mem_filter.mpr ⟨zm_5 (List.mem_of_getElem? (i := 38) rfl), rfl⟩
theorem tw_1000 : (.instanceMethod ⟨"NightColander$Paper","catchOn","(LNightColander$Night;III)I"⟩ : Cond) ∈ zTB := List.mem_filter.mpr ⟨zm_5 (List.mem_of_getElem? (i := 40) rfl), rfl⟩
theorem tw_1001 : (.code ⟨"NightColander$Paper","catchOn","(LNightColander$Night;III)I"⟩ prog_6_method_7_code 9 (some .int) : Cond) ∈ zTB := List.mem_filter.mpr ⟨zm_5 (List.mem_of_getElem? (i := 41) rfl), rfl⟩
theorem tw_1002 : (.methodLink "NightColander$Paper" 100 ⟨"java/lang/Math","min","(II)I"⟩ : Cond) ∈ zTB := List.mem_filter.mpr ⟨zm_5 (List.mem_of_getElem? (i := 42) rfl), rfl⟩
theorem tw_1003 : (.methodLink "NightColander$Paper" 103 ⟨"NightColander$Judge","leakOf","(LNightColander$Night;I)I"⟩ : Cond) ∈ zTB := List.mem_filter.mpr ⟨zm_5 (List.mem_of_getElem? (i := 43) rfl), rfl⟩
theorem tw_1004 : (.methodLink "NightColander$Paper" 67 ⟨"java/lang/Math","max","(II)I"⟩ : Cond) ∈ zTB := List.mem_filter.mpr ⟨zm_5 (List.mem_of_getElem? (i := 44) rfl), rfl⟩
theorem tw_1005 : (.methodLink "NightColander$Paper" 88 ⟨"NightColander$Paper","caughtByRow","(II)I"⟩ : Cond) ∈ zTB := List.mem_filter.mpr ⟨zm_5 (List.mem_of_getElem? (i := 45) rfl), rfl⟩
theorem tw_1007 : (.instanceMethod ⟨"NightColander$Paper","caughtByRow","(II)I"⟩ : Cond) ∈ zTB := List.mem_filter.mpr ⟨zm_5 (List.mem_of_getElem? (i := 47) rfl), rfl⟩
theorem tw_1008 : (.code ⟨"NightColander$Paper","caughtByRow","(II)I"⟩ prog_6_method_8_code 8 (some .int) : Cond) ∈ zTB := List.mem_filter.mpr ⟨zm_5 (List.mem_of_getElem? (i := 48) rfl), rfl⟩
theorem tw_1009 : (.methodLink "NightColander" 270 ⟨"NightColander$Paper","digitOfChoice","(I)I"⟩ : Cond) ∈ zTB := List.mem_filter.mpr ⟨zm_5 (List.mem_of_getElem? (i := 49) rfl), rfl⟩
theorem tw_1010 : (.instanceMethod ⟨"NightColander$Paper","digitOfChoice","(I)I"⟩ : Cond) ∈ zTB := List.mem_filter.mpr ⟨zm_5 (List.mem_of_getElem? (i := 50) rfl), rfl⟩
theorem tw_1011 : (.selects "NightColander$Paper" ⟨"NightColander$Paper","digitOfChoice","(I)I"⟩ ⟨"NightColander$Paper","digitOfChoice","(I)I"⟩ : Cond) ∈ zTB := List.mem_filter.mpr ⟨zm_5 (List.mem_of_getElem? (i := 51) rfl), rfl⟩
theorem tw_1012 : (.code ⟨"NightColander$Paper","digitOfChoice","(I)I"⟩ prog_6_method_2_code 2 (some .int) : Cond) ∈ zTB := List.mem_filter.mpr ⟨zm_5 (List.mem_of_getElem? (i := 52) rfl), rfl⟩
theorem tw_1018 : (.methodLink "NightColander" 276 ⟨"NightColander$Night","addSeen","(II)I"⟩ : Cond) ∈ zTB := List.mem_filter.mpr ⟨zm_5 (List.mem_of_getElem? (i := 58) rfl), rfl⟩
theorem tw_1019 : (.instanceMethod ⟨"NightColander$Night","addSeen","(II)I"⟩ : Cond) ∈ zTB := List.mem_filter.mpr ⟨zm_5 (List.mem_of_getElem? (i := 59) rfl), rfl⟩
theorem tw_1020 : (.selects "NightColander$Night" ⟨"NightColander$Night","addSeen","(II)I"⟩ ⟨"NightColander$Night","addSeen","(II)I"⟩ : Cond) ∈ zTB := List.mem_filter.mpr ⟨zm_5 (List.mem_of_getElem? (i := 60) rfl), rfl⟩
theorem tw_1021 : (.code ⟨"NightColander$Night","addSeen","(II)I"⟩ prog_5_method_10_code 3 (some .int) : Cond) ∈ zTB := List.mem_filter.mpr ⟨zm_5 (List.mem_of_getElem? (i := 61) rfl), rfl⟩
theorem tw_1030 : (.methodLink "NightColander" 279 ⟨"NightColander$Paper","settingAt","(LNightColander$Night;I)I"⟩ : Cond) ∈ zTB := List.mem_filter.mpr ⟨zm_5 (List.mem_of_getElem? (i := 70) rfl), rfl⟩
theorem tw_1031 : (.instanceMethod ⟨"NightColander$Paper","settingAt","(LNightColander$Night;I)I"⟩ : Cond) ∈ zTB := List.mem_filter.mpr ⟨zm_5 (List.mem_of_getElem? (i := 71) rfl), rfl⟩
theorem tw_1032 : (.selects "NightColander$Paper" ⟨"NightColander$Paper","settingAt","(LNightColander$Night;I)I"⟩ ⟨"NightColander$Paper","settingAt","(LNightColander$Night;I)I"⟩ : Cond) ∈ zTB := List.mem_filter.mpr ⟨zm_5 (List.mem_of_getElem? (i := 72) rfl), rfl⟩
theorem tw_1033 : (.code ⟨"NightColander$Paper","settingAt","(LNightColander$Night;I)I"⟩ prog_6_method_13_code 5 (some .int) : Cond) ∈ zTB := List.mem_filter.mpr ⟨zm_5 (List.mem_of_getElem? (i := 73) rfl), rfl⟩
theorem tw_1034 : (.methodLink "NightColander$Paper" 134 ⟨"NightColander$Paper","findShares","(LNightColander$Night;)V"⟩ : Cond) ∈ zTB := List.mem_filter.mpr ⟨zm_5 (List.mem_of_getElem? (i := 74) rfl), rfl⟩
theorem tw_1036 : (.instanceMethod ⟨"NightColander$Paper","findShares","(LNightColander$Night;)V"⟩ : Cond) ∈ zTB := List.mem_filter.mpr ⟨zm_5 (List.mem_of_getElem? (i := 76) rfl), rfl⟩
theorem tw_1037 : (.code ⟨"NightColander$Paper","findShares","(LNightColander$Night;)V"⟩ prog_6_method_9_code 5 (Option.none : Option FieldType) : Cond) ∈ zTB := List.mem_filter.mpr ⟨zm_5 (List.mem_of_getElem? (i := 77) rfl), rfl⟩
theorem tw_1038 : (.methodLink "NightColander$Paper" 109 ⟨"java/util/Arrays","fill","([II)V"⟩ : Cond) ∈ zTB := List.mem_filter.mpr ⟨zm_5 (List.mem_of_getElem? (i := 78) rfl), rfl⟩
theorem tw_1039 : (.methodLink "NightColander$Paper" 115 ⟨"NightColander$Judge","runsAbove","(LNightColander$Night;II)I"⟩ : Cond) ∈ zTB := List.mem_filter.mpr ⟨zm_5 (List.mem_of_getElem? (i := 79) rfl), rfl⟩
theorem tw_1040 : (.instanceMethod ⟨"NightColander$Judge","runsAbove","(LNightColander$Night;II)I"⟩ : Cond) ∈ zTB := List.mem_filter.mpr ⟨zm_5 (List.mem_of_getElem? (i := 80) rfl), rfl⟩
theorem tw_1041 : (.selects "NightColander$Judge" ⟨"NightColander$Judge","runsAbove","(LNightColander$Night;II)I"⟩ ⟨"NightColander$Judge","runsAbove","(LNightColander$Night;II)I"⟩ : Cond) ∈ zTB := List.mem_filter.mpr ⟨zm_5 (List.mem_of_getElem? (i := 81) rfl), rfl⟩
theorem tw_1042 : (.code ⟨"NightColander$Judge","runsAbove","(LNightColander$Night;II)I"⟩ prog_3_method_6_code 5 (some .int) : Cond) ∈ zTB := List.mem_filter.mpr ⟨zm_5 (List.mem_of_getElem? (i := 82) rfl), rfl⟩
theorem tw_1043 : (.methodLink "NightColander$Paper" 137 ⟨"NightColander$Paper","fitsSeen","(LNightColander$Night;I)Z"⟩ : Cond) ∈ zTB := List.mem_filter.mpr ⟨zm_5 (List.mem_of_getElem? (i := 83) rfl), rfl⟩
theorem tw_1045 : (.instanceMethod ⟨"NightColander$Paper","fitsSeen","(LNightColander$Night;I)Z"⟩ : Cond) ∈ zTB := List.mem_filter.mpr ⟨zm_5 (List.mem_of_getElem? (i := 85) rfl), rfl⟩
theorem tw_1046 : (.code ⟨"NightColander$Paper","fitsSeen","(LNightColander$Night;I)Z"⟩ prog_6_method_12_code 4 (some .boolean) : Cond) ∈ zTB := List.mem_filter.mpr ⟨zm_5 (List.mem_of_getElem? (i := 86) rfl), rfl⟩
theorem tw_1047 : (.methodLink "NightColander$Paper" 128 ⟨"NightColander$Paper","threadsBy","(II)I"⟩ : Cond) ∈ zTB := List.mem_filter.mpr ⟨zm_5 (List.mem_of_getElem? (i := 87) rfl), rfl⟩
theorem tw_1049 : (.instanceMethod ⟨"NightColander$Paper","threadsBy","(II)I"⟩ : Cond) ∈ zTB := List.mem_filter.mpr ⟨zm_5 (List.mem_of_getElem? (i := 89) rfl), rfl⟩
theorem tw_1050 : (.code ⟨"NightColander$Paper","threadsBy","(II)I"⟩ prog_6_method_10_code 3 (some .int) : Cond) ∈ zTB := List.mem_filter.mpr ⟨zm_5 (List.mem_of_getElem? (i := 90) rfl), rfl⟩
theorem tw_1051 : (.methodLink "NightColander$Paper" 119 ⟨"NightColander$Paper","threadsByThree","(II)I"⟩ : Cond) ∈ zTB := List.mem_filter.mpr ⟨zm_5 (List.mem_of_getElem? (i := 91) rfl), rfl⟩
theorem tw_1053 : (.instanceMethod ⟨"NightColander$Paper","threadsByThree","(II)I"⟩ : Cond) ∈ zTB := List.mem_filter.mpr ⟨zm_5 (List.mem_of_getElem? (i := 93) rfl), rfl⟩
theorem tw_1054 : (.code ⟨"NightColander$Paper","threadsByThree","(II)I"⟩ prog_6_method_11_code 3 (some .int) : Cond) ∈ zTB := List.mem_filter.mpr ⟨zm_5 (List.mem_of_getElem? (i := 94) rfl), rfl⟩
theorem tw_1055 : (.methodLink "NightColander$Paper" 141 ⟨"NightColander$Paper","asDecimal","(I)I"⟩ : Cond) ∈ zTB := List.mem_filter.mpr ⟨zm_5 (List.mem_of_getElem? (i := 95) rfl), rfl⟩
theorem tw_1056 : (.static ⟨"NightColander$Paper","asDecimal","(I)I"⟩ : Cond) ∈ zTB := List.mem_filter.mpr ⟨zm_5 (List.mem_of_getElem? (i := 96) rfl), rfl⟩
theorem tw_1057 : (.code ⟨"NightColander$Paper","asDecimal","(I)I"⟩ prog_6_method_14_code 1 (some .int) : Cond) ∈ zTB := List.mem_filter.mpr ⟨zm_5 (List.mem_of_getElem? (i := 97) rfl), rfl⟩
theorem tw_1062 : (.methodLink "NightColander" 282 ⟨"NightColander$Paper","findLook","(LNightColander$Night;)Z"⟩ : Cond) ∈ zTB := List.mem_filter.mpr ⟨zm_5 (List.mem_of_getElem? (i := 102) rfl), rfl⟩
theorem tw_1063 : (.instanceMethod ⟨"NightColander$Paper","findLook","(LNightColander$Night;)Z"⟩ : Cond) ∈ zTB := List.mem_filter.mpr ⟨zm_5 (List.mem_of_getElem? (i := 103) rfl), rfl⟩
theorem tw_1064 : (.selects "NightColander$Paper" ⟨"NightColander$Paper","findLook","(LNightColander$Night;)Z"⟩ ⟨"NightColander$Paper","findLook","(LNightColander$Night;)Z"⟩ : Cond) ∈ zTB := List.mem_filter.mpr ⟨zm_5 (List.mem_of_getElem? (i := 104) rfl), rfl⟩
theorem tw_1065 : (.code ⟨"NightColander$Paper","findLook","(LNightColander$Night;)Z"⟩ prog_6_method_15_code 4 (some .boolean) : Cond) ∈ zTB := List.mem_filter.mpr ⟨zm_5 (List.mem_of_getElem? (i := 105) rfl), rfl⟩
theorem tw_1066 : (.methodLink "NightColander$Paper" 145 ⟨"NightColander$Paper","findFitting","(LNightColander$Night;)Z"⟩ : Cond) ∈ zTB := List.mem_filter.mpr ⟨zm_5 (List.mem_of_getElem? (i := 106) rfl), rfl⟩
theorem tw_1068 : (.instanceMethod ⟨"NightColander$Paper","findFitting","(LNightColander$Night;)Z"⟩ : Cond) ∈ zTB := List.mem_filter.mpr ⟨zm_5 (List.mem_of_getElem? (i := 108) rfl), rfl⟩
theorem tw_1069 : (.code ⟨"NightColander$Paper","findFitting","(LNightColander$Night;)Z"⟩ prog_6_method_16_code 6 (some .boolean) : Cond) ∈ zTB := List.mem_filter.mpr ⟨zm_5 (List.mem_of_getElem? (i := 109) rfl), rfl⟩
theorem tw_1070 : (.methodLink "NightColander$Paper" 149 ⟨"NightColander$Paper","mostAlike","(I)I"⟩ : Cond) ∈ zTB := List.mem_filter.mpr ⟨zm_5 (List.mem_of_getElem? (i := 110) rfl), rfl⟩
theorem tw_1072 : (.instanceMethod ⟨"NightColander$Paper","mostAlike","(I)I"⟩ : Cond) ∈ zTB := List.mem_filter.mpr ⟨zm_5 (List.mem_of_getElem? (i := 112) rfl), rfl⟩
theorem tw_1073 : (.code ⟨"NightColander$Paper","mostAlike","(I)I"⟩ prog_6_method_17_code 7 (some .int) : Cond) ∈ zTB := List.mem_filter.mpr ⟨zm_5 (List.mem_of_getElem? (i := 113) rfl), rfl⟩
theorem tw_1078 : (.methodLink "NightColander" 289 ⟨"NightColander$Paper","findTurns","(LNightColander$Night;)Z"⟩ : Cond) ∈ zTB := List.mem_filter.mpr ⟨zm_5 (List.mem_of_getElem? (i := 118) rfl), rfl⟩
theorem tw_1079 : (.instanceMethod ⟨"NightColander$Paper","findTurns","(LNightColander$Night;)Z"⟩ : Cond) ∈ zTB := List.mem_filter.mpr ⟨zm_5 (List.mem_of_getElem? (i := 119) rfl), rfl⟩
theorem tw_1080 : (.selects "NightColander$Paper" ⟨"NightColander$Paper","findTurns","(LNightColander$Night;)Z"⟩ ⟨"NightColander$Paper","findTurns","(LNightColander$Night;)Z"⟩ : Cond) ∈ zTB := List.mem_filter.mpr ⟨zm_5 (List.mem_of_getElem? (i := 120) rfl), rfl⟩
theorem tw_1081 : (.code ⟨"NightColander$Paper","findTurns","(LNightColander$Night;)Z"⟩ prog_6_method_18_code 4 (some .boolean) : Cond) ∈ zTB := List.mem_filter.mpr ⟨zm_5 (List.mem_of_getElem? (i := 121) rfl), rfl⟩
theorem tw_1082 : (.methodLink "NightColander$Paper" 152 ⟨"NightColander$Paper","givesWanted","(LNightColander$Night;I)Z"⟩ : Cond) ∈ zTB := List.mem_filter.mpr ⟨zm_5 (List.mem_of_getElem? (i := 122) rfl), rfl⟩
theorem tw_1084 : (.instanceMethod ⟨"NightColander$Paper","givesWanted","(LNightColander$Night;I)Z"⟩ : Cond) ∈ zTB := List.mem_filter.mpr ⟨zm_5 (List.mem_of_getElem? (i := 124) rfl), rfl⟩
theorem tw_1085 : (.code ⟨"NightColander$Paper","givesWanted","(LNightColander$Night;I)Z"⟩ prog_6_method_20_code 4 (some .boolean) : Cond) ∈ zTB := List.mem_filter.mpr ⟨zm_5 (List.mem_of_getElem? (i := 125) rfl), rfl⟩
theorem tw_1086 : (.methodLink "NightColander$Paper" 155 ⟨"NightColander$Paper","stepsTo","(LNightColander$Night;I)I"⟩ : Cond) ∈ zTB := List.mem_filter.mpr ⟨zm_5 (List.mem_of_getElem? (i := 126) rfl), rfl⟩
theorem tw_1087 : (.static ⟨"NightColander$Paper","stepsTo","(LNightColander$Night;I)I"⟩ : Cond) ∈ zTB := List.mem_filter.mpr ⟨zm_5 (List.mem_of_getElem? (i := 127) rfl), rfl⟩
theorem tw_1088 : (.code ⟨"NightColander$Paper","stepsTo","(LNightColander$Night;I)I"⟩ prog_6_method_19_code 5 (some .int) : Cond) ∈ zTB := List.mem_filter.mpr ⟨zm_5 (List.mem_of_getElem? (i := 128) rfl), rfl⟩
theorem tw_1089 : (.methodLink "NightColander$Paper" 158 ⟨"java/lang/Math","floorMod","(II)I"⟩ : Cond) ∈ zTB := List.mem_filter.mpr ⟨zm_5 (List.mem_of_getElem? (i := 129) rfl), rfl⟩
theorem tw_1094 : (.methodLink "NightColander" 292 ⟨"NightColander$Paper","findCleared","(LNightColander$Night;II)Z"⟩ : Cond) ∈ zTB := List.mem_filter.mpr ⟨zm_5 (List.mem_of_getElem? (i := 134) rfl), rfl⟩
theorem tw_1095 : (.instanceMethod ⟨"NightColander$Paper","findCleared","(LNightColander$Night;II)Z"⟩ : Cond) ∈ zTB := List.mem_filter.mpr ⟨zm_5 (List.mem_of_getElem? (i := 135) rfl), rfl⟩
theorem tw_1096 : (.selects "NightColander$Paper" ⟨"NightColander$Paper","findCleared","(LNightColander$Night;II)Z"⟩ ⟨"NightColander$Paper","findCleared","(LNightColander$Night;II)Z"⟩ : Cond) ∈ zTB := List.mem_filter.mpr ⟨zm_5 (List.mem_of_getElem? (i := 136) rfl), rfl⟩
theorem tw_1097 : (.code ⟨"NightColander$Paper","findCleared","(LNightColander$Night;II)Z"⟩ prog_6_method_21_code 8 (some .boolean) : Cond) ∈ zTB := List.mem_filter.mpr ⟨zm_5 (List.mem_of_getElem? (i := 137) rfl), rfl⟩
theorem tw_1098 : (.methodLink "NightColander$Paper" 164 ⟨"NightColander$Night","holeAbove","(II)I"⟩ : Cond) ∈ zTB := List.mem_filter.mpr ⟨zm_5 (List.mem_of_getElem? (i := 138) rfl), rfl⟩
theorem tw_1099 : (.methodLink "NightColander$Paper" 167 ⟨"NightColander$Judge","runsOf","(LNightColander$Night;II)I"⟩ : Cond) ∈ zTB := List.mem_filter.mpr ⟨zm_5 (List.mem_of_getElem? (i := 139) rfl), rfl⟩
theorem tw_1100 : (.methodLink "NightColander$Paper" 174 ⟨"java/lang/Integer","bitCount","(I)I"⟩ : Cond) ∈ zTB := List.mem_filter.mpr ⟨zm_5 (List.mem_of_getElem? (i := 140) rfl), rfl⟩
theorem tw_1101 : (.static ⟨"java/lang/Integer","bitCount","(I)I"⟩ : Cond) ∈ zTB := List.mem_filter.mpr ⟨zm_5 (List.mem_of_getElem? (i := 141) rfl), rfl⟩
theorem tw_1102 : (.code ⟨"java/lang/Integer","bitCount","(I)I"⟩ prog_16_method_49_code 1 (some .int) : Cond) ∈ zTB := List.mem_filter.mpr ⟨zm_5 (List.mem_of_getElem? (i := 142) rfl), rfl⟩
theorem tw_1103 : (.constant "java/lang/Integer" 265 1431655765 : Cond) ∈ zTB := List.mem_filter.mpr ⟨zm_5 (List.mem_of_getElem? (i := 143) rfl), rfl⟩
theorem tw_1104 : (.constant "java/lang/Integer" 266 858993459 : Cond) ∈ zTB := List.mem_filter.mpr ⟨zm_5 (List.mem_of_getElem? (i := 144) rfl), rfl⟩
theorem tw_1105 : (.constant "java/lang/Integer" 267 252645135 : Cond) ∈ zTB := List.mem_filter.mpr ⟨zm_5 (List.mem_of_getElem? (i := 145) rfl), rfl⟩
theorem tw_1106 : (.methodLink "NightColander$Paper" 179 ⟨"NightColander$Paper","sharesOf","(I)I"⟩ : Cond) ∈ zTB := List.mem_filter.mpr ⟨zm_5 (List.mem_of_getElem? (i := 146) rfl), rfl⟩
theorem tw_1108 : (.instanceMethod ⟨"NightColander$Paper","sharesOf","(I)I"⟩ : Cond) ∈ zTB := List.mem_filter.mpr ⟨zm_5 (List.mem_of_getElem? (i := 148) rfl), rfl⟩
theorem tw_1109 : (.code ⟨"NightColander$Paper","sharesOf","(I)I"⟩ prog_6_method_22_code 4 (some .int) : Cond) ∈ zTB := List.mem_filter.mpr ⟨zm_5 (List.mem_of_getElem? (i := 149) rfl), rfl⟩
theorem tw_1114 : (.methodLink "NightColander" 296 ⟨"NightColander$Paper","longestDrought","(LNightColander$Night;I)I"⟩ : Cond) ∈ zTB := List.mem_filter.mpr ⟨zm_5 (List.mem_of_getElem? (i := 154) rfl), rfl⟩
theorem tw_1115 : (.instanceMethod ⟨"NightColander$Paper","longestDrought","(LNightColander$Night;I)I"⟩ : Cond) ∈ zTB := List.mem_filter.mpr ⟨zm_5 (List.mem_of_getElem? (i := 155) rfl), rfl⟩
theorem tw_1116 : (.selects "NightColander$Paper" ⟨"NightColander$Paper","longestDrought","(LNightColander$Night;I)I"⟩ ⟨"NightColander$Paper","longestDrought","(LNightColander$Night;I)I"⟩ : Cond) ∈ zTB := List.mem_filter.mpr ⟨zm_5 (List.mem_of_getElem? (i := 156) rfl), rfl⟩
theorem tw_1117 : (.code ⟨"NightColander$Paper","longestDrought","(LNightColander$Night;I)I"⟩ prog_6_method_4_code 6 (some .int) : Cond) ∈ zTB := List.mem_filter.mpr ⟨zm_5 (List.mem_of_getElem? (i := 157) rfl), rfl⟩
theorem tw_1126 : (.methodLink "NightColander" 299 ⟨"java/lang/Math","floorMod","(II)I"⟩ : Cond) ∈ zTB := List.mem_filter.mpr ⟨zm_5 (List.mem_of_getElem? (i := 166) rfl), rfl⟩
theorem tw_1135 : (.constantLong "NightColander" 304 (-1) : Cond) ∈ zTB := List.mem_filter.mpr ⟨zm_5 (List.mem_of_getElem? (i := 175) rfl), rfl⟩
theorem tw_1136 : (.methodLink "NightColander" 306 ⟨"NightColander$Paper","chanceOfFew","(III)J"⟩ : Cond) ∈ zTB := List.mem_filter.mpr ⟨zm_5 (List.mem_of_getElem? (i := 176) rfl), rfl⟩
theorem tw_1137 : (.instanceMethod ⟨"NightColander$Paper","chanceOfFew","(III)J"⟩ : Cond) ∈ zTB := List.mem_filter.mpr ⟨zm_5 (List.mem_of_getElem? (i := 177) rfl), rfl⟩
theorem tw_1138 : (.selects "NightColander$Paper" ⟨"NightColander$Paper","chanceOfFew","(III)J"⟩ ⟨"NightColander$Paper","chanceOfFew","(III)J"⟩ : Cond) ∈ zTB := List.mem_filter.mpr ⟨zm_5 (List.mem_of_getElem? (i := 178) rfl), rfl⟩
theorem tw_1139 : (.code ⟨"NightColander$Paper","chanceOfFew","(III)J"⟩ prog_6_method_23_code 8 (some .long) : Cond) ∈ zTB := List.mem_filter.mpr ⟨zm_5 (List.mem_of_getElem? (i := 179) rfl), rfl⟩
theorem tw_1140 : (.methodLink "NightColander$Paper" 182 ⟨"java/util/Arrays","fill","([JJ)V"⟩ : Cond) ∈ zTB := List.mem_filter.mpr ⟨zm_5 (List.mem_of_getElem? (i := 180) rfl), rfl⟩
theorem tw_1141 : (.static ⟨"java/util/Arrays","fill","([JJ)V"⟩ : Cond) ∈ zTB := List.mem_filter.mpr ⟨zm_5 (List.mem_of_getElem? (i := 181) rfl), rfl⟩
theorem tw_1142 : (.code ⟨"java/util/Arrays","fill","([JJ)V"⟩ prog_22_method_101_code 5 (Option.none : Option FieldType) : Cond) ∈ zTB := List.mem_filter.mpr ⟨zm_5 (List.mem_of_getElem? (i := 182) rfl), rfl⟩
theorem tw_1143 : (.constantLong "NightColander$Paper" 185 1000000000000 : Cond) ∈ zTB := List.mem_filter.mpr ⟨zm_5 (List.mem_of_getElem? (i := 183) rfl), rfl⟩
theorem tw_1144 : (.constantLong "NightColander$Paper" 187 10 : Cond) ∈ zTB := List.mem_filter.mpr ⟨zm_5 (List.mem_of_getElem? (i := 184) rfl), rfl⟩
theorem tw_1149 : (.methodLink "NightColander" 310 ⟨"NightColander$Paper","worthBy","(LNightColander$Night;I)I"⟩ : Cond) ∈ zTB := List.mem_filter.mpr ⟨zm_5 (List.mem_of_getElem? (i := 189) rfl), rfl⟩
theorem tw_1150 : (.instanceMethod ⟨"NightColander$Paper","worthBy","(LNightColander$Night;I)I"⟩ : Cond) ∈ zTB := List.mem_filter.mpr ⟨zm_5 (List.mem_of_getElem? (i := 190) rfl), rfl⟩
theorem tw_1151 : (.selects "NightColander$Paper" ⟨"NightColander$Paper","worthBy","(LNightColander$Night;I)I"⟩ ⟨"NightColander$Paper","worthBy","(LNightColander$Night;I)I"⟩ : Cond) ∈ zTB := List.mem_filter.mpr ⟨zm_5 (List.mem_of_getElem? (i := 191) rfl), rfl⟩
theorem tw_1152 : (.code ⟨"NightColander$Paper","worthBy","(LNightColander$Night;I)I"⟩ prog_6_method_24_code 5 (some .int) : Cond) ∈ zTB := List.mem_filter.mpr ⟨zm_5 (List.mem_of_getElem? (i := 192) rfl), rfl⟩
theorem tw_1153 : (.methodLink "NightColander$Paper" 192 ⟨"NightColander$Judge","payOf","(LNightColander$Night;II)I"⟩ : Cond) ∈ zTB := List.mem_filter.mpr ⟨zm_5 (List.mem_of_getElem? (i := 193) rfl), rfl⟩
theorem tw_1158 : (.constant "NightColander" 313 1000000 : Cond) ∈ zTB := List.mem_filter.mpr ⟨zm_5 (List.mem_of_getElem? (i := 198) rfl), rfl⟩
theorem tw_1159 : (.methodLink "NightColander" 314 ⟨"NightColander$Deeds","runYears","(LNightColander$Night;II)I"⟩ : Cond) ∈ zTB := List.mem_filter.mpr ⟨zm_5 (List.mem_of_getElem? (i := 199) rfl), rfl⟩
theorem tw_1160 : (.instanceMethod ⟨"NightColander$Deeds","runYears","(LNightColander$Night;II)I"⟩ : Cond) ∈ zTB := List.mem_filter.mpr ⟨zm_5 (List.mem_of_getElem? (i := 200) rfl), rfl⟩
theorem tw_1161 : (.selects "NightColander$Deeds" ⟨"NightColander$Deeds","runYears","(LNightColander$Night;II)I"⟩ ⟨"NightColander$Deeds","runYears","(LNightColander$Night;II)I"⟩ : Cond) ∈ zTB := List.mem_filter.mpr ⟨zm_5 (List.mem_of_getElem? (i := 201) rfl), rfl⟩
theorem tw_1162 : (.code ⟨"NightColander$Deeds","runYears","(LNightColander$Night;II)I"⟩ prog_2_method_3_code 11 (some .int) : Cond) ∈ zTB := List.mem_filter.mpr ⟨zm_5 (List.mem_of_getElem? (i := 202) rfl), rfl⟩
theorem tw_1163 : (.methodLink "NightColander$Deeds" 52 ⟨"NightColander$Deeds","nextDraw","(J)J"⟩ : Cond) ∈ zTB := List.mem_filter.mpr ⟨zm_5 (List.mem_of_getElem? (i := 203) rfl), rfl⟩
theorem tw_1164 : (.static ⟨"NightColander$Deeds","nextDraw","(J)J"⟩ : Cond) ∈ zTB := List.mem_filter.mpr ⟨zm_5 (List.mem_of_getElem? (i := 204) rfl), rfl⟩
theorem tw_1165 : (.code ⟨"NightColander$Deeds","nextDraw","(J)J"⟩ prog_2_method_4_code 2 (some .long) : Cond) ∈ zTB := List.mem_filter.mpr ⟨zm_5 (List.mem_of_getElem? (i := 205) rfl), rfl⟩
theorem tw_1166 : (.constantLong "NightColander$Deeds" 65 1103 : Cond) ∈ zTB := List.mem_filter.mpr ⟨zm_5 (List.mem_of_getElem? (i := 206) rfl), rfl⟩
theorem tw_1167 : (.constantLong "NightColander$Deeds" 67 12345 : Cond) ∈ zTB := List.mem_filter.mpr ⟨zm_5 (List.mem_of_getElem? (i := 207) rfl), rfl⟩
theorem tw_1168 : (.constantLong "NightColander$Deeds" 69 1000003 : Cond) ∈ zTB := List.mem_filter.mpr ⟨zm_5 (List.mem_of_getElem? (i := 208) rfl), rfl⟩
theorem tw_1169 : (.constantLong "NightColander$Deeds" 56 4 : Cond) ∈ zTB := List.mem_filter.mpr ⟨zm_5 (List.mem_of_getElem? (i := 209) rfl), rfl⟩
theorem tw_1170 : (.constantLong "NightColander$Deeds" 58 8 : Cond) ∈ zTB := List.mem_filter.mpr ⟨zm_5 (List.mem_of_getElem? (i := 210) rfl), rfl⟩
theorem tw_1171 : (.constantLong "NightColander$Deeds" 60 3 : Cond) ∈ zTB := List.mem_filter.mpr ⟨zm_5 (List.mem_of_getElem? (i := 211) rfl), rfl⟩
theorem tw_1176 : (.methodLink "NightColander" 317 ⟨"NightColander$Night","boresOfRing","(I)I"⟩ : Cond) ∈ zTB := List.mem_filter.mpr ⟨zm_5 (List.mem_of_getElem? (i := 216) rfl), rfl⟩
theorem tw_1177 : (.instanceMethod ⟨"NightColander$Night","boresOfRing","(I)I"⟩ : Cond) ∈ zTB := List.mem_filter.mpr ⟨zm_5 (List.mem_of_getElem? (i := 217) rfl), rfl⟩
theorem tw_1178 : (.selects "NightColander$Night" ⟨"NightColander$Night","boresOfRing","(I)I"⟩ ⟨"NightColander$Night","boresOfRing","(I)I"⟩ : Cond) ∈ zTB := List.mem_filter.mpr ⟨zm_5 (List.mem_of_getElem? (i := 218) rfl), rfl⟩
theorem tw_1179 : (.code ⟨"NightColander$Night","boresOfRing","(I)I"⟩ prog_5_method_14_code 4 (some .int) : Cond) ∈ zTB := List.mem_filter.mpr ⟨zm_5 (List.mem_of_getElem? (i := 219) rfl), rfl⟩
theorem tw_1192 : (.methodLink "NightColander" 320 ⟨"NightColander$Night","allLevels","()I"⟩ : Cond) ∈ zTB := List.mem_filter.mpr ⟨zm_5 (List.mem_of_getElem? (i := 232) rfl), rfl⟩
theorem tw_1193 : (.methodLink "NightColander" 324 ⟨"NightColander$Night","blockedHoles","()I"⟩ : Cond) ∈ zTB := List.mem_filter.mpr ⟨zm_5 (List.mem_of_getElem? (i := 233) rfl), rfl⟩
theorem tw_1194 : (.instanceMethod ⟨"NightColander$Night","blockedHoles","()I"⟩ : Cond) ∈ zTB := List.mem_filter.mpr ⟨zm_5 (List.mem_of_getElem? (i := 234) rfl), rfl⟩
theorem tw_1195 : (.selects "NightColander$Night" ⟨"NightColander$Night","blockedHoles","()I"⟩ ⟨"NightColander$Night","blockedHoles","()I"⟩ : Cond) ∈ zTB := List.mem_filter.mpr ⟨zm_5 (List.mem_of_getElem? (i := 235) rfl), rfl⟩
theorem tw_1196 : (.code ⟨"NightColander$Night","blockedHoles","()I"⟩ prog_5_method_13_code 6 (some .int) : Cond) ∈ zTB := List.mem_filter.mpr ⟨zm_5 (List.mem_of_getElem? (i := 236) rfl), rfl⟩
theorem tw_1206 : (.methodLink "NightColanderModel" 1 ⟨"java/lang/Object","<init>","()V"⟩ : Cond) ∈ zTB := List.mem_filter.mpr ⟨zm_6 (List.mem_of_getElem? (i := 6) rfl), rfl⟩
theorem tw_1207 : (.constantLong "NightColanderModel" 57 599495 : Cond) ∈ zTB := List.mem_filter.mpr ⟨zm_6 (List.mem_of_getElem? (i := 7) rfl), rfl⟩
theorem tw_1208 : (.constantLong "NightColanderModel" 59 277893 : Cond) ∈ zTB := List.mem_filter.mpr ⟨zm_6 (List.mem_of_getElem? (i := 8) rfl), rfl⟩
theorem tw_1209 : (.constantLong "NightColanderModel" 61 81477 : Cond) ∈ zTB := List.mem_filter.mpr ⟨zm_6 (List.mem_of_getElem? (i := 9) rfl), rfl⟩
theorem tw_1210 : (.constantLong "NightColanderModel" 63 6591876 : Cond) ∈ zTB := List.mem_filter.mpr ⟨zm_6 (List.mem_of_getElem? (i := 10) rfl), rfl⟩
theorem tw_1211 : (.constantLong "NightColanderModel" 65 89238708 : Cond) ∈ zTB := List.mem_filter.mpr ⟨zm_6 (List.mem_of_getElem? (i := 11) rfl), rfl⟩
theorem tw_1212 : (.constantLong "NightColanderModel" 67 12769452 : Cond) ∈ zTB := List.mem_filter.mpr ⟨zm_6 (List.mem_of_getElem? (i := 12) rfl), rfl⟩
theorem tw_1213 : (.constantLong "NightColanderModel" 69 278194 : Cond) ∈ zTB := List.mem_filter.mpr ⟨zm_6 (List.mem_of_getElem? (i := 13) rfl), rfl⟩
theorem tw_1214 : (.constantLong "NightColanderModel" 71 23732 : Cond) ∈ zTB := List.mem_filter.mpr ⟨zm_6 (List.mem_of_getElem? (i := 14) rfl), rfl⟩
theorem tw_1215 : (.constantLong "NightColanderModel" 73 441828 : Cond) ∈ zTB := List.mem_filter.mpr ⟨zm_6 (List.mem_of_getElem? (i := 15) rfl), rfl⟩
theorem tw_1216 : (.constantLong "NightColanderModel" 79 146885 : Cond) ∈ zTB := List.mem_filter.mpr ⟨zm_6 (List.mem_of_getElem? (i := 16) rfl), rfl⟩
theorem tw_1217 : (.constantLong "NightColanderModel" 81 404362868 : Cond) ∈ zTB := List.mem_filter.mpr ⟨zm_6 (List.mem_of_getElem? (i := 17) rfl), rfl⟩
theorem tw_1218 : (.constantLong "NightColanderModel" 83 102407444 : Cond) ∈ zTB := List.mem_filter.mpr ⟨zm_6 (List.mem_of_getElem? (i := 18) rfl), rfl⟩
theorem tw_1219 : (.constantLong "NightColanderModel" 85 677454 : Cond) ∈ zTB := List.mem_filter.mpr ⟨zm_6 (List.mem_of_getElem? (i := 19) rfl), rfl⟩
theorem tw_1220 : (.constantLong "NightColanderModel" 87 209399 : Cond) ∈ zTB := List.mem_filter.mpr ⟨zm_6 (List.mem_of_getElem? (i := 20) rfl), rfl⟩
theorem tw_1221 : (.constantLong "NightColanderModel" 92 611795 : Cond) ∈ zTB := List.mem_filter.mpr ⟨zm_6 (List.mem_of_getElem? (i := 21) rfl), rfl⟩
theorem tw_1222 : (.constantLong "NightColanderModel" 94 12748147 : Cond) ∈ zTB := List.mem_filter.mpr ⟨zm_6 (List.mem_of_getElem? (i := 22) rfl), rfl⟩
theorem tw_1223 : (.constantLong "NightColanderModel" 96 526131 : Cond) ∈ zTB := List.mem_filter.mpr ⟨zm_6 (List.mem_of_getElem? (i := 23) rfl), rfl⟩
theorem tw_1224 : (.constantLong "NightColanderModel" 98 67155 : Cond) ∈ zTB := List.mem_filter.mpr ⟨zm_6 (List.mem_of_getElem? (i := 24) rfl), rfl⟩
theorem tw_1225 : (.constantLong "NightColanderModel" 133 2505835 : Cond) ∈ zTB := List.mem_filter.mpr ⟨zm_6 (List.mem_of_getElem? (i := 25) rfl), rfl⟩
theorem tw_1226 : (.constantLong "NightColanderModel" 135 594989 : Cond) ∈ zTB := List.mem_filter.mpr ⟨zm_6 (List.mem_of_getElem? (i := 26) rfl), rfl⟩
theorem tw_1227 : (.constantLong "NightColanderModel" 137 19636 : Cond) ∈ zTB := List.mem_filter.mpr ⟨zm_6 (List.mem_of_getElem? (i := 27) rfl), rfl⟩
theorem tw_1228 : (.constantLong "NightColanderModel" 139 525939 : Cond) ∈ zTB := List.mem_filter.mpr ⟨zm_6 (List.mem_of_getElem? (i := 28) rfl), rfl⟩
theorem tw_1229 : (.fieldLink "NightColanderModel" 156 "NightColanderModel" "thrown" "I" : Cond) ∈ zTB := List.mem_filter.mpr ⟨zm_6 (List.mem_of_getElem? (i := 29) rfl), rfl⟩
theorem tw_1230 : (.fieldLink "NightColanderModel" 159 "NightColanderModel" "status" "I" : Cond) ∈ zTB := List.mem_filter.mpr ⟨zm_6 (List.mem_of_getElem? (i := 30) rfl), rfl⟩
theorem tw_1231 : (.fieldLink "NightColanderModel" 7 "NightColanderModel" "refusals" "[I" : Cond) ∈ zTB := List.mem_filter.mpr ⟨zm_6 (List.mem_of_getElem? (i := 31) rfl), rfl⟩
theorem tw_1232 : (.fieldLink "NightColanderModel" 13 "NightColanderModel" "row" "[I" : Cond) ∈ zTB := List.mem_filter.mpr ⟨zm_6 (List.mem_of_getElem? (i := 32) rfl), rfl⟩
theorem tw_1233 : (.fieldLink "NightColanderModel" 16 "NightColanderModel" "images" "[I" : Cond) ∈ zTB := List.mem_filter.mpr ⟨zm_6 (List.mem_of_getElem? (i := 33) rfl), rfl⟩
theorem tw_1234 : (.fieldLink "NightColanderModel" 19 "NightColanderModel" "isKept" "[Z" : Cond) ∈ zTB := List.mem_filter.mpr ⟨zm_6 (List.mem_of_getElem? (i := 34) rfl), rfl⟩
theorem tw_1235 : (.fieldLink "NightColanderModel" 23 "NightColanderModel" "undos" "[I" : Cond) ∈ zTB := List.mem_filter.mpr ⟨zm_6 (List.mem_of_getElem? (i := 35) rfl), rfl⟩
theorem tw_1236 : (.fieldLink "NightColanderModel" 26 "NightColanderModel" "sorts" "[I" : Cond) ∈ zTB := List.mem_filter.mpr ⟨zm_6 (List.mem_of_getElem? (i := 36) rfl), rfl⟩
theorem tw_1237 : (.fieldLink "NightColanderModel" 162 "NightColanderModel" "nUndo" "I" : Cond) ∈ zTB := List.mem_filter.mpr ⟨zm_6 (List.mem_of_getElem? (i := 37) rfl), rfl⟩
theorem tw_1238 : (.fieldLink "NightColanderModel" 29 "NightColanderModel" "undosBefore" "[I" : Cond) ∈ zTB := List.mem_filter.mpr ⟨zm_6 (List.mem_of_getElem? (i := 38) rfl), rfl⟩
theorem tw_1239 : (.fieldLink "NightColanderModel" 32 "NightColanderModel" "sortsBefore" "[I" : Cond) ∈ zTB := List.mem_filter.mpr ⟨zm_6 (List.mem_of_getElem? (i := 39) rfl), rfl⟩
theorem tw_1240 : (.fieldLink "NightColanderModel" 247 "NightColanderModel" "peas" "I" : Cond) ∈ zTB := List.mem_filter.mpr ⟨zm_6 (List.mem_of_getElem? (i := 40) rfl), rfl⟩
theorem tw_1241 : (.fieldLink "NightColanderModel" 35 "NightColanderModel" "tape" "[I" : Cond) ∈ zTB := List.mem_filter.mpr ⟨zm_6 (List.mem_of_getElem? (i := 41) rfl), rfl⟩
theorem tw_1242 : (.fieldLink "NightColanderModel" 244 "NightColanderModel" "taped" "I" : Cond) ∈ zTB := List.mem_filter.mpr ⟨zm_6 (List.mem_of_getElem? (i := 42) rfl), rfl⟩
theorem tw_1243 : (.fieldLink "NightColanderModel" 263 "NightColanderModel" "from" "I" : Cond) ∈ zTB := List.mem_filter.mpr ⟨zm_6 (List.mem_of_getElem? (i := 43) rfl), rfl⟩
theorem tw_1244 : (.fieldLink "NightColanderModel" 253 "NightColanderModel" "to" "I" : Cond) ∈ zTB := List.mem_filter.mpr ⟨zm_6 (List.mem_of_getElem? (i := 44) rfl), rfl⟩
theorem tw_1245 : (.fieldLink "NightColanderModel" 276 "NightColanderModel" "sort" "I" : Cond) ∈ zTB := List.mem_filter.mpr ⟨zm_6 (List.mem_of_getElem? (i := 45) rfl), rfl⟩
theorem tw_1246 : (.fieldLink "NightColanderModel" 266 "NightColanderModel" "worth" "J" : Cond) ∈ zTB := List.mem_filter.mpr ⟨zm_6 (List.mem_of_getElem? (i := 46) rfl), rfl⟩
theorem tw_1247 : (.fieldLink "NightColanderModel" 38 "NightColanderModel" "fault" "I" : Cond) ∈ zTB := List.mem_filter.mpr ⟨zm_6 (List.mem_of_getElem? (i := 47) rfl), rfl⟩
theorem tw_1248 : (.fieldLink "NightColanderModel" 256 "NightColanderModel" "bad" "Z" : Cond) ∈ zTB := List.mem_filter.mpr ⟨zm_6 (List.mem_of_getElem? (i := 48) rfl), rfl⟩
theorem tw_1249 : (.fieldLink "NightColanderModel" 331 "NightColanderModel" "ordered" "Z" : Cond) ∈ zTB := List.mem_filter.mpr ⟨zm_6 (List.mem_of_getElem? (i := 49) rfl), rfl⟩
theorem tw_1250 : (.fieldLink "NightColanderModel" 385 "NightColanderModel" "nClauses" "I" : Cond) ∈ zTB := List.mem_filter.mpr ⟨zm_6 (List.mem_of_getElem? (i := 50) rfl), rfl⟩
theorem tw_1251 : (.fieldLink "NightColanderModel" 42 "NightColanderModel" "nClause" "[I" : Cond) ∈ zTB := List.mem_filter.mpr ⟨zm_6 (List.mem_of_getElem? (i := 51) rfl), rfl⟩
theorem tw_1252 : (.fieldLink "NightColanderModel" 291 "NightColanderModel" "nCode" "I" : Cond) ∈ zTB := List.mem_filter.mpr ⟨zm_6 (List.mem_of_getElem? (i := 52) rfl), rfl⟩
theorem tw_1253 : (.fieldLink "NightColanderModel" 45 "NightColanderModel" "nOp" "[I" : Cond) ∈ zTB := List.mem_filter.mpr ⟨zm_6 (List.mem_of_getElem? (i := 53) rfl), rfl⟩
theorem tw_1254 : (.fieldLink "NightColanderModel" 48 "NightColanderModel" "nArg" "[I" : Cond) ∈ zTB := List.mem_filter.mpr ⟨zm_6 (List.mem_of_getElem? (i := 54) rfl), rfl⟩
theorem tw_1255 : (.fieldLink "NightColanderModel" 322 "NightColanderModel" "nLeaves" "I" : Cond) ∈ zTB := List.mem_filter.mpr ⟨zm_6 (List.mem_of_getElem? (i := 55) rfl), rfl⟩
theorem tw_1256 : (.fieldLink "NightColanderModel" 51 "NightColanderModel" "pile" "[I" : Cond) ∈ zTB := List.mem_filter.mpr ⟨zm_6 (List.mem_of_getElem? (i := 56) rfl), rfl⟩
theorem tw_1257 : (.fieldLink "NightColanderModel" 54 "NightColanderModel" "pileAt" "[I" : Cond) ∈ zTB := List.mem_filter.mpr ⟨zm_6 (List.mem_of_getElem? (i := 57) rfl), rfl⟩
theorem tw_1258 : (.fieldLink "NightColanderModel" 294 "NightColanderModel" "piled" "I" : Cond) ∈ zTB := List.mem_filter.mpr ⟨zm_6 (List.mem_of_getElem? (i := 58) rfl), rfl⟩
theorem tw_1259 : (.fieldLink "NightColanderModel" 316 "NightColanderModel" "opened" "I" : Cond) ∈ zTB := List.mem_filter.mpr ⟨zm_6 (List.mem_of_getElem? (i := 59) rfl), rfl⟩
theorem tw_1260 : (.fieldLink "NightColanderModel" 75 "NightColanderModel" "words" "[J" : Cond) ∈ zTB := List.mem_filter.mpr ⟨zm_6 (List.mem_of_getElem? (i := 60) rfl), rfl⟩
theorem tw_1261 : (.fieldLink "NightColanderModel" 89 "NightColanderModel" "orderWords" "[J" : Cond) ∈ zTB := List.mem_filter.mpr ⟨zm_6 (List.mem_of_getElem? (i := 61) rfl), rfl⟩
theorem tw_1262 : (.fieldLink "NightColanderModel" 100 "NightColanderModel" "heads" "[J" : Cond) ∈ zTB := List.mem_filter.mpr ⟨zm_6 (List.mem_of_getElem? (i := 62) rfl), rfl⟩
theorem tw_1263 : (.fieldLink "NightColanderModel" 408 "NightColanderModel" "law" "I" : Cond) ∈ zTB := List.mem_filter.mpr ⟨zm_6 (List.mem_of_getElem? (i := 63) rfl), rfl⟩
theorem tw_1264 : (.fieldLink "NightColanderModel" 103 "NightColanderModel" "set" "[J" : Cond) ∈ zTB := List.mem_filter.mpr ⟨zm_6 (List.mem_of_getElem? (i := 64) rfl), rfl⟩
theorem tw_1265 : (.fieldLink "NightColanderModel" 106 "NightColanderModel" "now" "[J" : Cond) ∈ zTB := List.mem_filter.mpr ⟨zm_6 (List.mem_of_getElem? (i := 65) rfl), rfl⟩
theorem tw_1266 : (.fieldLink "NightColanderModel" 109 "NightColanderModel" "rest" "[J" : Cond) ∈ zTB := List.mem_filter.mpr ⟨zm_6 (List.mem_of_getElem? (i := 66) rfl), rfl⟩
theorem tw_1267 : (.fieldLink "NightColanderModel" 405 "NightColanderModel" "broken" "Z" : Cond) ∈ zTB := List.mem_filter.mpr ⟨zm_6 (List.mem_of_getElem? (i := 67) rfl), rfl⟩
theorem tw_1268 : (.fieldLink "NightColanderModel" 419 "NightColanderModel" "value" "J" : Cond) ∈ zTB := List.mem_filter.mpr ⟨zm_6 (List.mem_of_getElem? (i := 68) rfl), rfl⟩
theorem tw_1269 : (.fieldLink "NightColanderModel" 425 "NightColanderModel" "sum" "J" : Cond) ∈ zTB := List.mem_filter.mpr ⟨zm_6 (List.mem_of_getElem? (i := 69) rfl), rfl⟩
theorem tw_1270 : (.fieldLink "NightColanderModel" 112 "NightColanderModel" "flowing" "[I" : Cond) ∈ zTB := List.mem_filter.mpr ⟨zm_6 (List.mem_of_getElem? (i := 70) rfl), rfl⟩
theorem tw_1271 : (.fieldLink "NightColanderModel" 115 "NightColanderModel" "caughtAt" "[I" : Cond) ∈ zTB := List.mem_filter.mpr ⟨zm_6 (List.mem_of_getElem? (i := 71) rfl), rfl⟩
theorem tw_1272 : (.fieldLink "NightColanderModel" 118 "NightColanderModel" "tried" "[I" : Cond) ∈ zTB := List.mem_filter.mpr ⟨zm_6 (List.mem_of_getElem? (i := 72) rfl), rfl⟩
theorem tw_1273 : (.fieldLink "NightColanderModel" 121 "NightColanderModel" "bestRow" "[I" : Cond) ∈ zTB := List.mem_filter.mpr ⟨zm_6 (List.mem_of_getElem? (i := 73) rfl), rfl⟩
theorem tw_1274 : (.fieldLink "NightColanderModel" 124 "NightColanderModel" "falls" "[I" : Cond) ∈ zTB := List.mem_filter.mpr ⟨zm_6 (List.mem_of_getElem? (i := 74) rfl), rfl⟩
theorem tw_1275 : (.fieldLink "NightColanderModel" 127 "NightColanderModel" "alike" "[I" : Cond) ∈ zTB := List.mem_filter.mpr ⟨zm_6 (List.mem_of_getElem? (i := 75) rfl), rfl⟩
theorem tw_1276 : (.fieldLink "NightColanderModel" 130 "NightColanderModel" "parts" "[J" : Cond) ∈ zTB := List.mem_filter.mpr ⟨zm_6 (List.mem_of_getElem? (i := 76) rfl), rfl⟩
theorem tw_1277 : (.fieldLink "NightColanderModel" 141 "NightColanderModel" "acts" "[J" : Cond) ∈ zTB := List.mem_filter.mpr ⟨zm_6 (List.mem_of_getElem? (i := 77) rfl), rfl⟩
theorem tw_1278 : (.fieldLink "NightColanderModel" 144 "NightColanderModel" "nOrder" "[I" : Cond) ∈ zTB := List.mem_filter.mpr ⟨zm_6 (List.mem_of_getElem? (i := 78) rfl), rfl⟩
theorem tw_1279 : (.fieldLink "NightColanderModel" 517 "NightColanderModel" "done" "I" : Cond) ∈ zTB := List.mem_filter.mpr ⟨zm_6 (List.mem_of_getElem? (i := 79) rfl), rfl⟩
theorem tw_1280 : (.fieldLink "NightColanderModel" 520 "NightColanderModel" "latest" "I" : Cond) ∈ zTB := List.mem_filter.mpr ⟨zm_6 (List.mem_of_getElem? (i := 80) rfl), rfl⟩
theorem tw_1281 : (.fieldLink "NightColanderModel" 147 "NightColanderModel" "stopped" "I" : Cond) ∈ zTB := List.mem_filter.mpr ⟨zm_6 (List.mem_of_getElem? (i := 81) rfl), rfl⟩
theorem tw_1282 : (.fieldLink "NightColanderModel" 514 "NightColanderModel" "off" "Z" : Cond) ∈ zTB := List.mem_filter.mpr ⟨zm_6 (List.mem_of_getElem? (i := 82) rfl), rfl⟩
theorem tw_1283 : (.fieldLink "NightColanderModel" 541 "NightColanderModel" "state" "J" : Cond) ∈ zTB := List.mem_filter.mpr ⟨zm_6 (List.mem_of_getElem? (i := 83) rfl), rfl⟩
theorem tw_1284 : (.fieldLink "NightColanderModel" 150 "NightColanderModel" "drawn" "[I" : Cond) ∈ zTB := List.mem_filter.mpr ⟨zm_6 (List.mem_of_getElem? (i := 84) rfl), rfl⟩
theorem tw_1285 : (.fieldLink "NightColanderModel" 153 "NightColanderModel" "drawnBuckets" "I" : Cond) ∈ zTB := List.mem_filter.mpr ⟨zm_6 (List.mem_of_getElem? (i := 85) rfl), rfl⟩
theorem tw_1405 : (.methodLink "NightColanderModel" 165 ⟨"NightColanderModel","tell","(I)I"⟩ : Cond) ∈ zTB := List.mem_filter.mpr ⟨zm_6 (List.mem_of_getElem? (i := 205) rfl), rfl⟩
theorem tw_1407 : (.instanceMethod ⟨"NightColanderModel","tell","(I)I"⟩ : Cond) ∈ zTB := List.mem_filter.mpr ⟨zm_6 (List.mem_of_getElem? (i := 207) rfl), rfl⟩
theorem tw_1408 : (.code ⟨"NightColanderModel","tell","(I)I"⟩ prog_13_method_7_code 2 (some .int) : Cond) ∈ zTB := List.mem_filter.mpr ⟨zm_6 (List.mem_of_getElem? (i := 208) rfl), rfl⟩
theorem tw_1409 : (.methodLink "NightColanderModel" 173 ⟨"NightColanderModel","putBack","(I)V"⟩ : Cond) ∈ zTB := List.mem_filter.mpr ⟨zm_6 (List.mem_of_getElem? (i := 209) rfl), rfl⟩
theorem tw_1411 : (.instanceMethod ⟨"NightColanderModel","putBack","(I)V"⟩ : Cond) ∈ zTB := List.mem_filter.mpr ⟨zm_6 (List.mem_of_getElem? (i := 211) rfl), rfl⟩
theorem tw_1412 : (.code ⟨"NightColanderModel","putBack","(I)V"⟩ prog_13_method_11_code 3 (Option.none : Option FieldType) : Cond) ∈ zTB := List.mem_filter.mpr ⟨zm_6 (List.mem_of_getElem? (i := 212) rfl), rfl⟩
theorem tw_1417 : (.methodLink "NightColanderModel" 176 ⟨"NightColanderModel","in","(JJJ)Z"⟩ : Cond) ∈ zTB := List.mem_filter.mpr ⟨zm_6 (List.mem_of_getElem? (i := 217) rfl), rfl⟩
theorem tw_1418 : (.static ⟨"NightColanderModel","in","(JJJ)Z"⟩ : Cond) ∈ zTB := List.mem_filter.mpr ⟨zm_6 (List.mem_of_getElem? (i := 218) rfl), rfl⟩
theorem tw_1419 : (.code ⟨"NightColanderModel","in","(JJJ)Z"⟩ prog_13_method_3_code 6 (some .boolean) : Cond) ∈ zTB := List.mem_filter.mpr ⟨zm_6 (List.mem_of_getElem? (i := 219) rfl), rfl⟩
theorem tw_1424 : (.methodLink "NightColanderModel" 180 ⟨"NightColanderModel","lasting","(I)I"⟩ : Cond) ∈ zTB := List.mem_filter.mpr ⟨zm_6 (List.mem_of_getElem? (i := 224) rfl), rfl⟩
theorem tw_1426 : (.instanceMethod ⟨"NightColanderModel","lasting","(I)I"⟩ : Cond) ∈ zTB := List.mem_filter.mpr ⟨zm_6 (List.mem_of_getElem? (i := 226) rfl), rfl⟩
theorem tw_1427 : (.code ⟨"NightColanderModel","lasting","(I)I"⟩ prog_13_method_9_code 2 (some .int) : Cond) ∈ zTB := List.mem_filter.mpr ⟨zm_6 (List.mem_of_getElem? (i := 227) rfl), rfl⟩
theorem tw_1432 : (.methodLink "NightColanderModel" 190 ⟨"NightColanderModel","isRing","(I)Z"⟩ : Cond) ∈ zTB := List.mem_filter.mpr ⟨zm_6 (List.mem_of_getElem? (i := 232) rfl), rfl⟩
theorem tw_1433 : (.static ⟨"NightColanderModel","isRing","(I)Z"⟩ : Cond) ∈ zTB := List.mem_filter.mpr ⟨zm_6 (List.mem_of_getElem? (i := 233) rfl), rfl⟩
theorem tw_1434 : (.code ⟨"NightColanderModel","isRing","(I)Z"⟩ prog_13_method_16_code 1 (some .boolean) : Cond) ∈ zTB := List.mem_filter.mpr ⟨zm_6 (List.mem_of_getElem? (i := 234) rfl), rfl⟩
theorem tw_1435 : (.constantLong "NightColanderModel" 183 3 : Cond) ∈ zTB := List.mem_filter.mpr ⟨zm_6 (List.mem_of_getElem? (i := 235) rfl), rfl⟩
theorem tw_1436 : (.methodLink "NightColanderModel" 194 ⟨"NightColanderModel","isField","(I)Z"⟩ : Cond) ∈ zTB := List.mem_filter.mpr ⟨zm_6 (List.mem_of_getElem? (i := 236) rfl), rfl⟩
theorem tw_1437 : (.static ⟨"NightColanderModel","isField","(I)Z"⟩ : Cond) ∈ zTB := List.mem_filter.mpr ⟨zm_6 (List.mem_of_getElem? (i := 237) rfl), rfl⟩
theorem tw_1438 : (.code ⟨"NightColanderModel","isField","(I)Z"⟩ prog_13_method_17_code 1 (some .boolean) : Cond) ∈ zTB := List.mem_filter.mpr ⟨zm_6 (List.mem_of_getElem? (i := 238) rfl), rfl⟩
theorem tw_1439 : (.constantLong "NightColanderModel" 185 7 : Cond) ∈ zTB := List.mem_filter.mpr ⟨zm_6 (List.mem_of_getElem? (i := 239) rfl), rfl⟩
theorem tw_1440 : (.methodLink "NightColanderModel" 197 ⟨"NightColanderModel","is","(II)Z"⟩ : Cond) ∈ zTB := List.mem_filter.mpr ⟨zm_7 (List.mem_of_getElem? (i := 0) rfl), rfl⟩
theorem tw_1441 : (.static ⟨"NightColanderModel","is","(II)Z"⟩ : Cond) ∈ zTB := List.mem_filter.mpr ⟨zm_7 (List.mem_of_getElem? (i := 1) rfl), rfl⟩
theorem tw_1442 : (.code ⟨"NightColanderModel","is","(II)Z"⟩ prog_13_method_4_code 2 (some .boolean) : Cond) ∈ zTB := List.mem_filter.mpr ⟨zm_7 (List.mem_of_getElem? (i := 2) rfl), rfl⟩
theorem tw_1443 : (.methodLink "NightColanderModel" 201 ⟨"NightColanderModel","runsOf","(III)I"⟩ : Cond) ∈ zTB := List.mem_filter.mpr ⟨zm_7 (List.mem_of_getElem? (i := 3) rfl), rfl⟩
theorem tw_1445 : (.instanceMethod ⟨"NightColanderModel","runsOf","(III)I"⟩ : Cond) ∈ zTB := List.mem_filter.mpr ⟨zm_7 (List.mem_of_getElem? (i := 5) rfl), rfl⟩
theorem tw_1446 : (.code ⟨"NightColanderModel","runsOf","(III)I"⟩ prog_13_method_69_code 5 (some .int) : Cond) ∈ zTB := List.mem_filter.mpr ⟨zm_7 (List.mem_of_getElem? (i := 6) rfl), rfl⟩
theorem tw_1447 : (.constantLong "NightColanderModel" 228 (-1) : Cond) ∈ zTB := List.mem_filter.mpr ⟨zm_7 (List.mem_of_getElem? (i := 7) rfl), rfl⟩
theorem tw_1448 : (.methodLink "NightColanderModel" 431 ⟨"NightColanderModel","tells","(IIJ)J"⟩ : Cond) ∈ zTB := List.mem_filter.mpr ⟨zm_7 (List.mem_of_getElem? (i := 8) rfl), rfl⟩
theorem tw_1450 : (.instanceMethod ⟨"NightColanderModel","tells","(IIJ)J"⟩ : Cond) ∈ zTB := List.mem_filter.mpr ⟨zm_7 (List.mem_of_getElem? (i := 10) rfl), rfl⟩
theorem tw_1451 : (.code ⟨"NightColanderModel","tells","(IIJ)J"⟩ prog_13_method_68_code 9 (some .long) : Cond) ∈ zTB := List.mem_filter.mpr ⟨zm_7 (List.mem_of_getElem? (i := 11) rfl), rfl⟩
theorem tw_1452 : (.methodLink "NightColanderModel" 428 ⟨"NightColanderModel","isSo","(I)Z"⟩ : Cond) ∈ zTB := List.mem_filter.mpr ⟨zm_7 (List.mem_of_getElem? (i := 12) rfl), rfl⟩
theorem tw_1454 : (.instanceMethod ⟨"NightColanderModel","isSo","(I)Z"⟩ : Cond) ∈ zTB := List.mem_filter.mpr ⟨zm_7 (List.mem_of_getElem? (i := 14) rfl), rfl⟩
theorem tw_1455 : (.code ⟨"NightColanderModel","isSo","(I)Z"⟩ prog_13_method_67_code 2 (some .boolean) : Cond) ∈ zTB := List.mem_filter.mpr ⟨zm_7 (List.mem_of_getElem? (i := 15) rfl), rfl⟩
theorem tw_1456 : (.methodLink "NightColanderModel" 422 ⟨"NightColanderModel","reckonAll","(II)V"⟩ : Cond) ∈ zTB := List.mem_filter.mpr ⟨zm_7 (List.mem_of_getElem? (i := 16) rfl), rfl⟩
theorem tw_1458 : (.instanceMethod ⟨"NightColanderModel","reckonAll","(II)V"⟩ : Cond) ∈ zTB := List.mem_filter.mpr ⟨zm_7 (List.mem_of_getElem? (i := 18) rfl), rfl⟩
theorem tw_1459 : (.code ⟨"NightColanderModel","reckonAll","(II)V"⟩ prog_13_method_66_code 7 (Option.none : Option FieldType) : Cond) ∈ zTB := List.mem_filter.mpr ⟨zm_7 (List.mem_of_getElem? (i := 19) rfl), rfl⟩
theorem tw_1460 : (.methodLink "NightColanderModel" 214 ⟨"NightColanderModel","isBucket","(I)Z"⟩ : Cond) ∈ zTB := List.mem_filter.mpr ⟨zm_7 (List.mem_of_getElem? (i := 20) rfl), rfl⟩
theorem tw_1462 : (.instanceMethod ⟨"NightColanderModel","isBucket","(I)Z"⟩ : Cond) ∈ zTB := List.mem_filter.mpr ⟨zm_7 (List.mem_of_getElem? (i := 22) rfl), rfl⟩
theorem tw_1463 : (.code ⟨"NightColanderModel","isBucket","(I)Z"⟩ prog_13_method_18_code 2 (some .boolean) : Cond) ∈ zTB := List.mem_filter.mpr ⟨zm_7 (List.mem_of_getElem? (i := 23) rfl), rfl⟩
theorem tw_1464 : (.methodLink "NightColanderModel" 411 ⟨"NightColanderModel","reckon","(IJJ)J"⟩ : Cond) ∈ zTB := List.mem_filter.mpr ⟨zm_7 (List.mem_of_getElem? (i := 24) rfl), rfl⟩
theorem tw_1466 : (.instanceMethod ⟨"NightColanderModel","reckon","(IJJ)J"⟩ : Cond) ∈ zTB := List.mem_filter.mpr ⟨zm_7 (List.mem_of_getElem? (i := 26) rfl), rfl⟩
theorem tw_1467 : (.code ⟨"NightColanderModel","reckon","(IJJ)J"⟩ prog_13_method_65_code 6 (some .long) : Cond) ∈ zTB := List.mem_filter.mpr ⟨zm_7 (List.mem_of_getElem? (i := 27) rfl), rfl⟩
theorem tw_1468 : (.constantLong "NightColanderModel" 415 (-1000000000) : Cond) ∈ zTB := List.mem_filter.mpr ⟨zm_7 (List.mem_of_getElem? (i := 28) rfl), rfl⟩
theorem tw_1469 : (.constantLong "NightColanderModel" 417 1000000000 : Cond) ∈ zTB := List.mem_filter.mpr ⟨zm_7 (List.mem_of_getElem? (i := 29) rfl), rfl⟩
theorem tw_1470 : (.methodLink "NightColanderModel" 435 ⟨"NightColanderModel","within","(JII)I"⟩ : Cond) ∈ zTB := List.mem_filter.mpr ⟨zm_7 (List.mem_of_getElem? (i := 30) rfl), rfl⟩
theorem tw_1471 : (.static ⟨"NightColanderModel","within","(JII)I"⟩ : Cond) ∈ zTB := List.mem_filter.mpr ⟨zm_7 (List.mem_of_getElem? (i := 31) rfl), rfl⟩
theorem tw_1472 : (.code ⟨"NightColanderModel","within","(JII)I"⟩ prog_13_method_6_code 4 (some .int) : Cond) ∈ zTB := List.mem_filter.mpr ⟨zm_7 (List.mem_of_getElem? (i := 32) rfl), rfl⟩
theorem tw_1477 : (.methodLink "NightColanderModel" 205 ⟨"NightColanderModel","change","(II)I"⟩ : Cond) ∈ zTB := List.mem_filter.mpr ⟨zm_7 (List.mem_of_getElem? (i := 37) rfl), rfl⟩
theorem tw_1479 : (.instanceMethod ⟨"NightColanderModel","change","(II)I"⟩ : Cond) ∈ zTB := List.mem_filter.mpr ⟨zm_7 (List.mem_of_getElem? (i := 39) rfl), rfl⟩
theorem tw_1480 : (.code ⟨"NightColanderModel","change","(II)I"⟩ prog_13_method_8_code 4 (some .int) : Cond) ∈ zTB := List.mem_filter.mpr ⟨zm_7 (List.mem_of_getElem? (i := 40) rfl), rfl⟩
theorem tw_1485 : (.constantLong "NightColanderModel" 209 99 : Cond) ∈ zTB := List.mem_filter.mpr ⟨zm_7 (List.mem_of_getElem? (i := 45) rfl), rfl⟩
theorem tw_1486 : (.methodLink "NightColanderModel" 211 ⟨"NightColanderModel","bucketAt","(I)I"⟩ : Cond) ∈ zTB := List.mem_filter.mpr ⟨zm_7 (List.mem_of_getElem? (i := 46) rfl), rfl⟩
theorem tw_1488 : (.instanceMethod ⟨"NightColanderModel","bucketAt","(I)I"⟩ : Cond) ∈ zTB := List.mem_filter.mpr ⟨zm_7 (List.mem_of_getElem? (i := 48) rfl), rfl⟩
theorem tw_1489 : (.code ⟨"NightColanderModel","bucketAt","(I)I"⟩ prog_13_method_19_code 4 (some .int) : Cond) ∈ zTB := List.mem_filter.mpr ⟨zm_7 (List.mem_of_getElem? (i := 49) rfl), rfl⟩
theorem tw_1494 : (.constantLong "NightColanderModel" 217 12 : Cond) ∈ zTB := List.mem_filter.mpr ⟨zm_7 (List.mem_of_getElem? (i := 54) rfl), rfl⟩
theorem tw_1495 : (.methodLink "NightColanderModel" 219 ⟨"NightColanderModel","leaksOf","(I)I"⟩ : Cond) ∈ zTB := List.mem_filter.mpr ⟨zm_7 (List.mem_of_getElem? (i := 55) rfl), rfl⟩
theorem tw_1497 : (.instanceMethod ⟨"NightColanderModel","leaksOf","(I)I"⟩ : Cond) ∈ zTB := List.mem_filter.mpr ⟨zm_7 (List.mem_of_getElem? (i := 57) rfl), rfl⟩
theorem tw_1498 : (.code ⟨"NightColanderModel","leaksOf","(I)I"⟩ prog_13_method_71_code 2 (some .int) : Cond) ∈ zTB := List.mem_filter.mpr ⟨zm_7 (List.mem_of_getElem? (i := 58) rfl), rfl⟩
theorem tw_1499 : (.methodLink "NightColanderModel" 439 ⟨"NightColanderModel","setBucket","(I)V"⟩ : Cond) ∈ zTB := List.mem_filter.mpr ⟨zm_7 (List.mem_of_getElem? (i := 59) rfl), rfl⟩
theorem tw_1501 : (.instanceMethod ⟨"NightColanderModel","setBucket","(I)V"⟩ : Cond) ∈ zTB := List.mem_filter.mpr ⟨zm_7 (List.mem_of_getElem? (i := 61) rfl), rfl⟩
theorem tw_1502 : (.code ⟨"NightColanderModel","setBucket","(I)V"⟩ prog_13_method_70_code 3 (Option.none : Option FieldType) : Cond) ∈ zTB := List.mem_filter.mpr ⟨zm_7 (List.mem_of_getElem? (i := 62) rfl), rfl⟩
theorem tw_1503 : (.methodLink "NightColanderModel" 222 ⟨"NightColanderModel","paysOf","(II)I"⟩ : Cond) ∈ zTB := List.mem_filter.mpr ⟨zm_7 (List.mem_of_getElem? (i := 63) rfl), rfl⟩
theorem tw_1505 : (.instanceMethod ⟨"NightColanderModel","paysOf","(II)I"⟩ : Cond) ∈ zTB := List.mem_filter.mpr ⟨zm_7 (List.mem_of_getElem? (i := 65) rfl), rfl⟩
theorem tw_1506 : (.code ⟨"NightColanderModel","paysOf","(II)I"⟩ prog_13_method_72_code 3 (some .int) : Cond) ∈ zTB := List.mem_filter.mpr ⟨zm_7 (List.mem_of_getElem? (i := 66) rfl), rfl⟩
theorem tw_1507 : (.methodLink "NightColanderModel" 225 ⟨"NightColanderModel","isBarred","(II)Z"⟩ : Cond) ∈ zTB := List.mem_filter.mpr ⟨zm_7 (List.mem_of_getElem? (i := 67) rfl), rfl⟩
theorem tw_1509 : (.instanceMethod ⟨"NightColanderModel","isBarred","(II)Z"⟩ : Cond) ∈ zTB := List.mem_filter.mpr ⟨zm_7 (List.mem_of_getElem? (i := 69) rfl), rfl⟩
theorem tw_1510 : (.code ⟨"NightColanderModel","isBarred","(II)Z"⟩ prog_13_method_73_code 3 (some .boolean) : Cond) ∈ zTB := List.mem_filter.mpr ⟨zm_7 (List.mem_of_getElem? (i := 70) rfl), rfl⟩
theorem tw_1515 : (.constantLong "NightColanderModel" 230 400 : Cond) ∈ zTB := List.mem_filter.mpr ⟨zm_7 (List.mem_of_getElem? (i := 75) rfl), rfl⟩
theorem tw_1520 : (.methodLink "NightColanderModel" 232 ⟨"NightColanderModel","flowOn","(I)I"⟩ : Cond) ∈ zTB := List.mem_filter.mpr ⟨zm_7 (List.mem_of_getElem? (i := 80) rfl), rfl⟩
theorem tw_1522 : (.instanceMethod ⟨"NightColanderModel","flowOn","(I)I"⟩ : Cond) ∈ zTB := List.mem_filter.mpr ⟨zm_7 (List.mem_of_getElem? (i := 82) rfl), rfl⟩
theorem tw_1523 : (.code ⟨"NightColanderModel","flowOn","(I)I"⟩ prog_13_method_75_code 5 (some .int) : Cond) ∈ zTB := List.mem_filter.mpr ⟨zm_7 (List.mem_of_getElem? (i := 83) rfl), rfl⟩
theorem tw_1524 : (.methodLink "NightColanderModel" 442 ⟨"NightColanderModel","holeAbove","(III)I"⟩ : Cond) ∈ zTB := List.mem_filter.mpr ⟨zm_7 (List.mem_of_getElem? (i := 84) rfl), rfl⟩
theorem tw_1526 : (.instanceMethod ⟨"NightColanderModel","holeAbove","(III)I"⟩ : Cond) ∈ zTB := List.mem_filter.mpr ⟨zm_7 (List.mem_of_getElem? (i := 86) rfl), rfl⟩
theorem tw_1527 : (.code ⟨"NightColanderModel","holeAbove","(III)I"⟩ prog_13_method_74_code 4 (some .int) : Cond) ∈ zTB := List.mem_filter.mpr ⟨zm_7 (List.mem_of_getElem? (i := 87) rfl), rfl⟩
theorem tw_1532 : (.methodLink "NightColanderModel" 241 ⟨"NightColanderModel","isTerm","(II)Z"⟩ : Cond) ∈ zTB := List.mem_filter.mpr ⟨zm_7 (List.mem_of_getElem? (i := 92) rfl), rfl⟩
theorem tw_1533 : (.static ⟨"NightColanderModel","isTerm","(II)Z"⟩ : Cond) ∈ zTB := List.mem_filter.mpr ⟨zm_7 (List.mem_of_getElem? (i := 93) rfl), rfl⟩
theorem tw_1534 : (.code ⟨"NightColanderModel","isTerm","(II)Z"⟩ prog_13_method_28_code 2 (some .boolean) : Cond) ∈ zTB := List.mem_filter.mpr ⟨zm_7 (List.mem_of_getElem? (i := 94) rfl), rfl⟩
theorem tw_1535 : (.constantLong "NightColanderModel" 235 999 : Cond) ∈ zTB := List.mem_filter.mpr ⟨zm_7 (List.mem_of_getElem? (i := 95) rfl), rfl⟩
theorem tw_1536 : (.constantLong "NightColanderModel" 237 9 : Cond) ∈ zTB := List.mem_filter.mpr ⟨zm_7 (List.mem_of_getElem? (i := 96) rfl), rfl⟩
theorem tw_1537 : (.constantLong "NightColanderModel" 239 10 : Cond) ∈ zTB := List.mem_filter.mpr ⟨zm_7 (List.mem_of_getElem? (i := 97) rfl), rfl⟩
theorem tw_1550 : (.methodLink "NightColanderModel" 250 ⟨"NightColanderModel","four","(I)V"⟩ : Cond) ∈ zTB := List.mem_filter.mpr ⟨zm_7 (List.mem_of_getElem? (i := 110) rfl), rfl⟩
theorem tw_1552 : (.instanceMethod ⟨"NightColanderModel","four","(I)V"⟩ : Cond) ∈ zTB := List.mem_filter.mpr ⟨zm_7 (List.mem_of_getElem? (i := 112) rfl), rfl⟩
theorem tw_1553 : (.code ⟨"NightColanderModel","four","(I)V"⟩ prog_13_method_32_code 3 (Option.none : Option FieldType) : Cond) ∈ zTB := List.mem_filter.mpr ⟨zm_7 (List.mem_of_getElem? (i := 113) rfl), rfl⟩
theorem tw_1566 : (.methodLink "NightColanderModel" 393 ⟨"NightColanderModel","beginText","(Z)V"⟩ : Cond) ∈ zTB := List.mem_filter.mpr ⟨zm_7 (List.mem_of_getElem? (i := 126) rfl), rfl⟩
theorem tw_1568 : (.instanceMethod ⟨"NightColanderModel","beginText","(Z)V"⟩ : Cond) ∈ zTB := List.mem_filter.mpr ⟨zm_7 (List.mem_of_getElem? (i := 128) rfl), rfl⟩
theorem tw_1569 : (.code ⟨"NightColanderModel","beginText","(Z)V"⟩ prog_13_method_59_code 2 (Option.none : Option FieldType) : Cond) ∈ zTB := List.mem_filter.mpr ⟨zm_7 (List.mem_of_getElem? (i := 129) rfl), rfl⟩
theorem tw_1570 : (.methodLink "NightColanderModel" 382 ⟨"NightColanderModel","begin","()V"⟩ : Cond) ∈ zTB := List.mem_filter.mpr ⟨zm_7 (List.mem_of_getElem? (i := 130) rfl), rfl⟩
theorem tw_1572 : (.instanceMethod ⟨"NightColanderModel","begin","()V"⟩ : Cond) ∈ zTB := List.mem_filter.mpr ⟨zm_7 (List.mem_of_getElem? (i := 132) rfl), rfl⟩
theorem tw_1573 : (.code ⟨"NightColanderModel","begin","()V"⟩ prog_13_method_37_code 1 (Option.none : Option FieldType) : Cond) ∈ zTB := List.mem_filter.mpr ⟨zm_7 (List.mem_of_getElem? (i := 133) rfl), rfl⟩
theorem tw_1574 : (.methodLink "NightColanderModel" 260 ⟨"NightColanderModel","next","()V"⟩ : Cond) ∈ zTB := List.mem_filter.mpr ⟨zm_7 (List.mem_of_getElem? (i := 134) rfl), rfl⟩
theorem tw_1576 : (.instanceMethod ⟨"NightColanderModel","next","()V"⟩ : Cond) ∈ zTB := List.mem_filter.mpr ⟨zm_7 (List.mem_of_getElem? (i := 136) rfl), rfl⟩
theorem tw_1577 : (.code ⟨"NightColanderModel","next","()V"⟩ prog_13_method_38_code 1 (Option.none : Option FieldType) : Cond) ∈ zTB := List.mem_filter.mpr ⟨zm_7 (List.mem_of_getElem? (i := 137) rfl), rfl⟩
theorem tw_1578 : (.methodLink "NightColanderModel" 270 ⟨"NightColanderModel","isSmall","(I)Z"⟩ : Cond) ∈ zTB := List.mem_filter.mpr ⟨zm_7 (List.mem_of_getElem? (i := 138) rfl), rfl⟩
theorem tw_1579 : (.static ⟨"NightColanderModel","isSmall","(I)Z"⟩ : Cond) ∈ zTB := List.mem_filter.mpr ⟨zm_7 (List.mem_of_getElem? (i := 139) rfl), rfl⟩
theorem tw_1580 : (.code ⟨"NightColanderModel","isSmall","(I)Z"⟩ prog_13_method_35_code 1 (some .boolean) : Cond) ∈ zTB := List.mem_filter.mpr ⟨zm_7 (List.mem_of_getElem? (i := 140) rfl), rfl⟩
theorem tw_1581 : (.methodLink "NightColanderModel" 273 ⟨"NightColanderModel","isDigit","(I)Z"⟩ : Cond) ∈ zTB := List.mem_filter.mpr ⟨zm_7 (List.mem_of_getElem? (i := 141) rfl), rfl⟩
theorem tw_1582 : (.static ⟨"NightColanderModel","isDigit","(I)Z"⟩ : Cond) ∈ zTB := List.mem_filter.mpr ⟨zm_7 (List.mem_of_getElem? (i := 142) rfl), rfl⟩
theorem tw_1583 : (.code ⟨"NightColanderModel","isDigit","(I)Z"⟩ prog_13_method_36_code 1 (some .boolean) : Cond) ∈ zTB := List.mem_filter.mpr ⟨zm_7 (List.mem_of_getElem? (i := 143) rfl), rfl⟩
theorem tw_1584 : (.constantLong "NightColanderModel" 279 32 : Cond) ∈ zTB := List.mem_filter.mpr ⟨zm_7 (List.mem_of_getElem? (i := 144) rfl), rfl⟩
theorem tw_1585 : (.constantLong "NightColanderModel" 281 96 : Cond) ∈ zTB := List.mem_filter.mpr ⟨zm_7 (List.mem_of_getElem? (i := 145) rfl), rfl⟩
theorem tw_1586 : (.constantLong "NightColanderModel" 283 1000000 : Cond) ∈ zTB := List.mem_filter.mpr ⟨zm_7 (List.mem_of_getElem? (i := 146) rfl), rfl⟩
theorem tw_1587 : (.constantLong "NightColanderModel" 285 48 : Cond) ∈ zTB := List.mem_filter.mpr ⟨zm_7 (List.mem_of_getElem? (i := 147) rfl), rfl⟩
theorem tw_1588 : (.methodLink "NightColanderModel" 396 ⟨"NightColanderModel","readLaw","()V"⟩ : Cond) ∈ zTB := List.mem_filter.mpr ⟨zm_7 (List.mem_of_getElem? (i := 148) rfl), rfl⟩
theorem tw_1590 : (.instanceMethod ⟨"NightColanderModel","readLaw","()V"⟩ : Cond) ∈ zTB := List.mem_filter.mpr ⟨zm_7 (List.mem_of_getElem? (i := 150) rfl), rfl⟩
theorem tw_1591 : (.code ⟨"NightColanderModel","readLaw","()V"⟩ prog_13_method_61_code 4 (Option.none : Option FieldType) : Cond) ∈ zTB := List.mem_filter.mpr ⟨zm_7 (List.mem_of_getElem? (i := 151) rfl), rfl⟩
theorem tw_1592 : (.methodLink "NightColanderModel" 312 ⟨"NightColanderModel","isWord","(J)Z"⟩ : Cond) ∈ zTB := List.mem_filter.mpr ⟨zm_7 (List.mem_of_getElem? (i := 152) rfl), rfl⟩
theorem tw_1594 : (.instanceMethod ⟨"NightColanderModel","isWord","(J)Z"⟩ : Cond) ∈ zTB := List.mem_filter.mpr ⟨zm_7 (List.mem_of_getElem? (i := 154) rfl), rfl⟩
theorem tw_1595 : (.code ⟨"NightColanderModel","isWord","(J)Z"⟩ prog_13_method_39_code 3 (some .boolean) : Cond) ∈ zTB := List.mem_filter.mpr ⟨zm_7 (List.mem_of_getElem? (i := 155) rfl), rfl⟩
theorem tw_1596 : (.methodLink "NightColanderModel" 287 ⟨"NightColanderModel","must","(Z)V"⟩ : Cond) ∈ zTB := List.mem_filter.mpr ⟨zm_7 (List.mem_of_getElem? (i := 156) rfl), rfl⟩
theorem tw_1598 : (.instanceMethod ⟨"NightColanderModel","must","(Z)V"⟩ : Cond) ∈ zTB := List.mem_filter.mpr ⟨zm_7 (List.mem_of_getElem? (i := 158) rfl), rfl⟩
theorem tw_1599 : (.code ⟨"NightColanderModel","must","(Z)V"⟩ prog_13_method_41_code 2 (Option.none : Option FieldType) : Cond) ∈ zTB := List.mem_filter.mpr ⟨zm_7 (List.mem_of_getElem? (i := 159) rfl), rfl⟩
theorem tw_1600 : (.methodLink "NightColanderModel" 388 ⟨"NightColanderModel","readExpression","(Z)V"⟩ : Cond) ∈ zTB := List.mem_filter.mpr ⟨zm_7 (List.mem_of_getElem? (i := 160) rfl), rfl⟩
theorem tw_1602 : (.instanceMethod ⟨"NightColanderModel","readExpression","(Z)V"⟩ : Cond) ∈ zTB := List.mem_filter.mpr ⟨zm_7 (List.mem_of_getElem? (i := 162) rfl), rfl⟩
theorem tw_1603 : (.code ⟨"NightColanderModel","readExpression","(Z)V"⟩ prog_13_method_58_code 3 (Option.none : Option FieldType) : Cond) ∈ zTB := List.mem_filter.mpr ⟨zm_7 (List.mem_of_getElem? (i := 163) rfl), rfl⟩
theorem tw_1604 : (.methodLink "NightColanderModel" 372 ⟨"NightColanderModel","readPlain","()I"⟩ : Cond) ∈ zTB := List.mem_filter.mpr ⟨zm_7 (List.mem_of_getElem? (i := 164) rfl), rfl⟩
theorem tw_1606 : (.instanceMethod ⟨"NightColanderModel","readPlain","()I"⟩ : Cond) ∈ zTB := List.mem_filter.mpr ⟨zm_7 (List.mem_of_getElem? (i := 166) rfl), rfl⟩
theorem tw_1607 : (.code ⟨"NightColanderModel","readPlain","()I"⟩ prog_13_method_55_code 1 (some .int) : Cond) ∈ zTB := List.mem_filter.mpr ⟨zm_7 (List.mem_of_getElem? (i := 167) rfl), rfl⟩
theorem tw_1608 : (.constantLong "NightColanderModel" 353 14836 : Cond) ∈ zTB := List.mem_filter.mpr ⟨zm_7 (List.mem_of_getElem? (i := 168) rfl), rfl⟩
theorem tw_1609 : (.methodLink "NightColanderModel" 319 ⟨"NightColanderModel","push","(II)V"⟩ : Cond) ∈ zTB := List.mem_filter.mpr ⟨zm_7 (List.mem_of_getElem? (i := 169) rfl), rfl⟩
theorem tw_1611 : (.instanceMethod ⟨"NightColanderModel","push","(II)V"⟩ : Cond) ∈ zTB := List.mem_filter.mpr ⟨zm_7 (List.mem_of_getElem? (i := 171) rfl), rfl⟩
theorem tw_1612 : (.code ⟨"NightColanderModel","push","(II)V"⟩ prog_13_method_45_code 3 (Option.none : Option FieldType) : Cond) ∈ zTB := List.mem_filter.mpr ⟨zm_7 (List.mem_of_getElem? (i := 172) rfl), rfl⟩
theorem tw_1613 : (.methodLink "NightColanderModel" 325 ⟨"NightColanderModel","isSign","(I)Z"⟩ : Cond) ∈ zTB := List.mem_filter.mpr ⟨zm_7 (List.mem_of_getElem? (i := 173) rfl), rfl⟩
theorem tw_1615 : (.instanceMethod ⟨"NightColanderModel","isSign","(I)Z"⟩ : Cond) ∈ zTB := List.mem_filter.mpr ⟨zm_7 (List.mem_of_getElem? (i := 175) rfl), rfl⟩
theorem tw_1616 : (.code ⟨"NightColanderModel","isSign","(I)Z"⟩ prog_13_method_40_code 2 (some .boolean) : Cond) ∈ zTB := List.mem_filter.mpr ⟨zm_7 (List.mem_of_getElem? (i := 176) rfl), rfl⟩
theorem tw_1617 : (.methodLink "NightColanderModel" 328 ⟨"NightColanderModel","openBracket","(I)V"⟩ : Cond) ∈ zTB := List.mem_filter.mpr ⟨zm_7 (List.mem_of_getElem? (i := 177) rfl), rfl⟩
theorem tw_1619 : (.instanceMethod ⟨"NightColanderModel","openBracket","(I)V"⟩ : Cond) ∈ zTB := List.mem_filter.mpr ⟨zm_7 (List.mem_of_getElem? (i := 179) rfl), rfl⟩
theorem tw_1620 : (.code ⟨"NightColanderModel","openBracket","(I)V"⟩ prog_13_method_52_code 2 (Option.none : Option FieldType) : Cond) ∈ zTB := List.mem_filter.mpr ⟨zm_7 (List.mem_of_getElem? (i := 180) rfl), rfl⟩
theorem tw_1621 : (.methodLink "NightColanderModel" 355 ⟨"NightColanderModel","readPart","()I"⟩ : Cond) ∈ zTB := List.mem_filter.mpr ⟨zm_7 (List.mem_of_getElem? (i := 181) rfl), rfl⟩
theorem tw_1623 : (.instanceMethod ⟨"NightColanderModel","readPart","()I"⟩ : Cond) ∈ zTB := List.mem_filter.mpr ⟨zm_7 (List.mem_of_getElem? (i := 183) rfl), rfl⟩
theorem tw_1624 : (.code ⟨"NightColanderModel","readPart","()I"⟩ prog_13_method_54_code 4 (some .int) : Cond) ∈ zTB := List.mem_filter.mpr ⟨zm_7 (List.mem_of_getElem? (i := 184) rfl), rfl⟩
theorem tw_1625 : (.methodLink "NightColanderModel" 334 ⟨"NightColanderModel","orderPartAt","()I"⟩ : Cond) ∈ zTB := List.mem_filter.mpr ⟨zm_7 (List.mem_of_getElem? (i := 185) rfl), rfl⟩
theorem tw_1627 : (.instanceMethod ⟨"NightColanderModel","orderPartAt","()I"⟩ : Cond) ∈ zTB := List.mem_filter.mpr ⟨zm_7 (List.mem_of_getElem? (i := 187) rfl), rfl⟩
theorem tw_1628 : (.code ⟨"NightColanderModel","orderPartAt","()I"⟩ prog_13_method_51_code 3 (some .int) : Cond) ∈ zTB := List.mem_filter.mpr ⟨zm_7 (List.mem_of_getElem? (i := 188) rfl), rfl⟩
theorem tw_1629 : (.methodLink "NightColanderModel" 338 ⟨"NightColanderModel","partAt","()I"⟩ : Cond) ∈ zTB := List.mem_filter.mpr ⟨zm_7 (List.mem_of_getElem? (i := 189) rfl), rfl⟩
theorem tw_1631 : (.instanceMethod ⟨"NightColanderModel","partAt","()I"⟩ : Cond) ∈ zTB := List.mem_filter.mpr ⟨zm_7 (List.mem_of_getElem? (i := 191) rfl), rfl⟩
theorem tw_1632 : (.code ⟨"NightColanderModel","partAt","()I"⟩ prog_13_method_50_code 3 (some .int) : Cond) ∈ zTB := List.mem_filter.mpr ⟨zm_7 (List.mem_of_getElem? (i := 192) rfl), rfl⟩
theorem tw_1633 : (.constantLong "NightColanderModel" 341 1000 : Cond) ∈ zTB := List.mem_filter.mpr ⟨zm_7 (List.mem_of_getElem? (i := 193) rfl), rfl⟩
theorem tw_1634 : (.methodLink "NightColanderModel" 343 ⟨"NightColanderModel","leaf","(ZII)V"⟩ : Cond) ∈ zTB := List.mem_filter.mpr ⟨zm_7 (List.mem_of_getElem? (i := 194) rfl), rfl⟩
theorem tw_1636 : (.instanceMethod ⟨"NightColanderModel","leaf","(ZII)V"⟩ : Cond) ∈ zTB := List.mem_filter.mpr ⟨zm_7 (List.mem_of_getElem? (i := 196) rfl), rfl⟩
theorem tw_1637 : (.code ⟨"NightColanderModel","leaf","(ZII)V"⟩ prog_13_method_53_code 4 (Option.none : Option FieldType) : Cond) ∈ zTB := List.mem_filter.mpr ⟨zm_7 (List.mem_of_getElem? (i := 197) rfl), rfl⟩
theorem tw_1638 : (.methodLink "NightColanderModel" 300 ⟨"NightColanderModel","emit","(II)V"⟩ : Cond) ∈ zTB := List.mem_filter.mpr ⟨zm_7 (List.mem_of_getElem? (i := 198) rfl), rfl⟩
theorem tw_1640 : (.instanceMethod ⟨"NightColanderModel","emit","(II)V"⟩ : Cond) ∈ zTB := List.mem_filter.mpr ⟨zm_7 (List.mem_of_getElem? (i := 200) rfl), rfl⟩
theorem tw_1641 : (.code ⟨"NightColanderModel","emit","(II)V"⟩ prog_13_method_44_code 3 (Option.none : Option FieldType) : Cond) ∈ zTB := List.mem_filter.mpr ⟨zm_7 (List.mem_of_getElem? (i := 201) rfl), rfl⟩
theorem tw_1642 : (.constantLong "NightColanderModel" 347 2 : Cond) ∈ zTB := List.mem_filter.mpr ⟨zm_7 (List.mem_of_getElem? (i := 202) rfl), rfl⟩
theorem tw_1643 : (.methodLink "NightColanderModel" 349 ⟨"NightColanderModel","number","(JJ)I"⟩ : Cond) ∈ zTB := List.mem_filter.mpr ⟨zm_7 (List.mem_of_getElem? (i := 203) rfl), rfl⟩
theorem tw_1645 : (.instanceMethod ⟨"NightColanderModel","number","(JJ)I"⟩ : Cond) ∈ zTB := List.mem_filter.mpr ⟨zm_7 (List.mem_of_getElem? (i := 205) rfl), rfl⟩
theorem tw_1646 : (.code ⟨"NightColanderModel","number","(JJ)I"⟩ prog_13_method_42_code 6 (some .int) : Cond) ∈ zTB := List.mem_filter.mpr ⟨zm_7 (List.mem_of_getElem? (i := 206) rfl), rfl⟩
theorem tw_1647 : (.methodLink "NightColanderModel" 375 ⟨"NightColanderModel","behindSum","(Z)I"⟩ : Cond) ∈ zTB := List.mem_filter.mpr ⟨zm_7 (List.mem_of_getElem? (i := 207) rfl), rfl⟩
theorem tw_1649 : (.instanceMethod ⟨"NightColanderModel","behindSum","(Z)I"⟩ : Cond) ∈ zTB := List.mem_filter.mpr ⟨zm_7 (List.mem_of_getElem? (i := 209) rfl), rfl⟩
theorem tw_1650 : (.code ⟨"NightColanderModel","behindSum","(Z)I"⟩ prog_13_method_56_code 4 (some .int) : Cond) ∈ zTB := List.mem_filter.mpr ⟨zm_7 (List.mem_of_getElem? (i := 210) rfl), rfl⟩
theorem tw_1651 : (.methodLink "NightColanderModel" 297 ⟨"NightColanderModel","binds","(I)I"⟩ : Cond) ∈ zTB := List.mem_filter.mpr ⟨zm_7 (List.mem_of_getElem? (i := 211) rfl), rfl⟩
theorem tw_1652 : (.static ⟨"NightColanderModel","binds","(I)I"⟩ : Cond) ∈ zTB := List.mem_filter.mpr ⟨zm_7 (List.mem_of_getElem? (i := 212) rfl), rfl⟩
theorem tw_1653 : (.code ⟨"NightColanderModel","binds","(I)I"⟩ prog_13_method_46_code 1 (some .int) : Cond) ∈ zTB := List.mem_filter.mpr ⟨zm_7 (List.mem_of_getElem? (i := 213) rfl), rfl⟩
theorem tw_1654 : (.methodLink "NightColanderModel" 358 ⟨"NightColanderModel","settle","(I)V"⟩ : Cond) ∈ zTB := List.mem_filter.mpr ⟨zm_7 (List.mem_of_getElem? (i := 214) rfl), rfl⟩
theorem tw_1656 : (.instanceMethod ⟨"NightColanderModel","settle","(I)V"⟩ : Cond) ∈ zTB := List.mem_filter.mpr ⟨zm_7 (List.mem_of_getElem? (i := 216) rfl), rfl⟩
theorem tw_1657 : (.code ⟨"NightColanderModel","settle","(I)V"⟩ prog_13_method_47_code 2 (Option.none : Option FieldType) : Cond) ∈ zTB := List.mem_filter.mpr ⟨zm_7 (List.mem_of_getElem? (i := 217) rfl), rfl⟩
theorem tw_1658 : (.methodLink "NightColanderModel" 361 ⟨"NightColanderModel","inner","()I"⟩ : Cond) ∈ zTB := List.mem_filter.mpr ⟨zm_7 (List.mem_of_getElem? (i := 218) rfl), rfl⟩
theorem tw_1660 : (.instanceMethod ⟨"NightColanderModel","inner","()I"⟩ : Cond) ∈ zTB := List.mem_filter.mpr ⟨zm_7 (List.mem_of_getElem? (i := 220) rfl), rfl⟩
theorem tw_1661 : (.code ⟨"NightColanderModel","inner","()I"⟩ prog_13_method_48_code 3 (some .int) : Cond) ∈ zTB := List.mem_filter.mpr ⟨zm_7 (List.mem_of_getElem? (i := 221) rfl), rfl⟩
theorem tw_1662 : (.methodLink "NightColanderModel" 364 ⟨"NightColanderModel","isCompared","()Z"⟩ : Cond) ∈ zTB := List.mem_filter.mpr ⟨zm_7 (List.mem_of_getElem? (i := 222) rfl), rfl⟩
theorem tw_1664 : (.instanceMethod ⟨"NightColanderModel","isCompared","()Z"⟩ : Cond) ∈ zTB := List.mem_filter.mpr ⟨zm_7 (List.mem_of_getElem? (i := 224) rfl), rfl⟩
theorem tw_1665 : (.code ⟨"NightColanderModel","isCompared","()Z"⟩ prog_13_method_49_code 2 (some .boolean) : Cond) ∈ zTB := List.mem_filter.mpr ⟨zm_7 (List.mem_of_getElem? (i := 225) rfl), rfl⟩
theorem tw_1666 : (.constantLong "NightColanderModel" 304 20 : Cond) ∈ zTB := List.mem_filter.mpr ⟨zm_7 (List.mem_of_getElem? (i := 226) rfl), rfl⟩
theorem tw_1667 : (.constantLong "NightColanderModel" 306 24 : Cond) ∈ zTB := List.mem_filter.mpr ⟨zm_7 (List.mem_of_getElem? (i := 227) rfl), rfl⟩
theorem tw_1668 : (.constantLong "NightColanderModel" 308 25 : Cond) ∈ zTB := List.mem_filter.mpr ⟨zm_7 (List.mem_of_getElem? (i := 228) rfl), rfl⟩
theorem tw_1669 : (.constantLong "NightColanderModel" 310 27 : Cond) ∈ zTB := List.mem_filter.mpr ⟨zm_7 (List.mem_of_getElem? (i := 229) rfl), rfl⟩
theorem tw_1670 : (.methodLink "NightColanderModel" 379 ⟨"NightColanderModel","behindTest","()I"⟩ : Cond) ∈ zTB := List.mem_filter.mpr ⟨zm_7 (List.mem_of_getElem? (i := 230) rfl), rfl⟩
theorem tw_1672 : (.instanceMethod ⟨"NightColanderModel","behindTest","()I"⟩ : Cond) ∈ zTB := List.mem_filter.mpr ⟨zm_7 (List.mem_of_getElem? (i := 232) rfl), rfl⟩
theorem tw_1673 : (.code ⟨"NightColanderModel","behindTest","()I"⟩ prog_13_method_57_code 2 (some .int) : Cond) ∈ zTB := List.mem_filter.mpr ⟨zm_7 (List.mem_of_getElem? (i := 233) rfl), rfl⟩
theorem tw_1674 : (.constantLong "NightColanderModel" 368 1476 : Cond) ∈ zTB := List.mem_filter.mpr ⟨zm_7 (List.mem_of_getElem? (i := 234) rfl), rfl⟩
theorem tw_1675 : (.constantLong "NightColanderModel" 370 498 : Cond) ∈ zTB := List.mem_filter.mpr ⟨zm_7 (List.mem_of_getElem? (i := 235) rfl), rfl⟩
theorem tw_1676 : (.constantLong "NightColanderModel" 391 294 : Cond) ∈ zTB := List.mem_filter.mpr ⟨zm_7 (List.mem_of_getElem? (i := 236) rfl), rfl⟩
theorem tw_1677 : (.methodLink "NightColanderModel" 399 ⟨"NightColanderModel","endText","()V"⟩ : Cond) ∈ zTB := List.mem_filter.mpr ⟨zm_7 (List.mem_of_getElem? (i := 237) rfl), rfl⟩
theorem tw_1679 : (.instanceMethod ⟨"NightColanderModel","endText","()V"⟩ : Cond) ∈ zTB := List.mem_filter.mpr ⟨zm_7 (List.mem_of_getElem? (i := 239) rfl), rfl⟩
theorem tw_1680 : (.code ⟨"NightColanderModel","endText","()V"⟩ prog_13_method_60_code 1 (Option.none : Option FieldType) : Cond) ∈ zTB := List.mem_filter.mpr ⟨zm_8 (List.mem_of_getElem? (i := 0) rfl), rfl⟩
theorem tw_1685 : (.methodLink "NightColanderModel" 402 ⟨"NightColanderModel","isLaw","(I)Z"⟩ : Cond) ∈ zTB := List.mem_filter.mpr ⟨zm_8 (List.mem_of_getElem? (i := 5) rfl), rfl⟩
theorem tw_1687 : (.instanceMethod ⟨"NightColanderModel","isLaw","(I)Z"⟩ : Cond) ∈ zTB := List.mem_filter.mpr ⟨zm_8 (List.mem_of_getElem? (i := 7) rfl), rfl⟩
theorem tw_1688 : (.code ⟨"NightColanderModel","isLaw","(I)Z"⟩ prog_13_method_63_code 2 (some .boolean) : Cond) ∈ zTB := List.mem_filter.mpr ⟨zm_8 (List.mem_of_getElem? (i := 8) rfl), rfl⟩
theorem tw_1693 : (.methodLink "NightColanderModel" 448 ⟨"NightColanderModel","blockNow","(II)I"⟩ : Cond) ∈ zTB := List.mem_filter.mpr ⟨zm_8 (List.mem_of_getElem? (i := 13) rfl), rfl⟩
theorem tw_1695 : (.instanceMethod ⟨"NightColanderModel","blockNow","(II)I"⟩ : Cond) ∈ zTB := List.mem_filter.mpr ⟨zm_8 (List.mem_of_getElem? (i := 15) rfl), rfl⟩
theorem tw_1696 : (.code ⟨"NightColanderModel","blockNow","(II)I"⟩ prog_13_method_76_code 3 (some .int) : Cond) ∈ zTB := List.mem_filter.mpr ⟨zm_8 (List.mem_of_getElem? (i := 16) rfl), rfl⟩
theorem tw_1697 : (.methodLink "NightColanderModel" 445 ⟨"NightColanderModel","remember","(I)V"⟩ : Cond) ∈ zTB := List.mem_filter.mpr ⟨zm_8 (List.mem_of_getElem? (i := 17) rfl), rfl⟩
theorem tw_1699 : (.instanceMethod ⟨"NightColanderModel","remember","(I)V"⟩ : Cond) ∈ zTB := List.mem_filter.mpr ⟨zm_8 (List.mem_of_getElem? (i := 19) rfl), rfl⟩
theorem tw_1700 : (.code ⟨"NightColanderModel","remember","(I)V"⟩ prog_13_method_12_code 3 (Option.none : Option FieldType) : Cond) ∈ zTB := List.mem_filter.mpr ⟨zm_8 (List.mem_of_getElem? (i := 20) rfl), rfl⟩
theorem tw_1701 : (.methodLink "NightColanderModel" 169 ⟨"NightColanderModel","keepAll","(I)V"⟩ : Cond) ∈ zTB := List.mem_filter.mpr ⟨zm_8 (List.mem_of_getElem? (i := 21) rfl), rfl⟩
theorem tw_1703 : (.instanceMethod ⟨"NightColanderModel","keepAll","(I)V"⟩ : Cond) ∈ zTB := List.mem_filter.mpr ⟨zm_8 (List.mem_of_getElem? (i := 23) rfl), rfl⟩
theorem tw_1704 : (.code ⟨"NightColanderModel","keepAll","(I)V"⟩ prog_13_method_10_code 3 (Option.none : Option FieldType) : Cond) ∈ zTB := List.mem_filter.mpr ⟨zm_8 (List.mem_of_getElem? (i := 24) rfl), rfl⟩
theorem tw_1709 : (.methodLink "NightColanderModel" 451 ⟨"NightColanderModel","reamNow","(II)I"⟩ : Cond) ∈ zTB := List.mem_filter.mpr ⟨zm_8 (List.mem_of_getElem? (i := 29) rfl), rfl⟩
theorem tw_1711 : (.instanceMethod ⟨"NightColanderModel","reamNow","(II)I"⟩ : Cond) ∈ zTB := List.mem_filter.mpr ⟨zm_8 (List.mem_of_getElem? (i := 31) rfl), rfl⟩
theorem tw_1712 : (.code ⟨"NightColanderModel","reamNow","(II)I"⟩ prog_13_method_78_code 3 (some .int) : Cond) ∈ zTB := List.mem_filter.mpr ⟨zm_8 (List.mem_of_getElem? (i := 32) rfl), rfl⟩
theorem tw_1717 : (.methodLink "NightColanderModel" 454 ⟨"NightColanderModel","setNow","(II)I"⟩ : Cond) ∈ zTB := List.mem_filter.mpr ⟨zm_8 (List.mem_of_getElem? (i := 37) rfl), rfl⟩
theorem tw_1719 : (.instanceMethod ⟨"NightColanderModel","setNow","(II)I"⟩ : Cond) ∈ zTB := List.mem_filter.mpr ⟨zm_8 (List.mem_of_getElem? (i := 39) rfl), rfl⟩
theorem tw_1720 : (.code ⟨"NightColanderModel","setNow","(II)I"⟩ prog_13_method_80_code 4 (some .int) : Cond) ∈ zTB := List.mem_filter.mpr ⟨zm_8 (List.mem_of_getElem? (i := 40) rfl), rfl⟩
theorem tw_1725 : (.methodLink "NightColanderModel" 469 ⟨"NightColanderModel","passNow","()I"⟩ : Cond) ∈ zTB := List.mem_filter.mpr ⟨zm_8 (List.mem_of_getElem? (i := 45) rfl), rfl⟩
theorem tw_1727 : (.instanceMethod ⟨"NightColanderModel","passNow","()I"⟩ : Cond) ∈ zTB := List.mem_filter.mpr ⟨zm_8 (List.mem_of_getElem? (i := 47) rfl), rfl⟩
theorem tw_1728 : (.code ⟨"NightColanderModel","passNow","()I"⟩ prog_13_method_86_code 1 (some .int) : Cond) ∈ zTB := List.mem_filter.mpr ⟨zm_8 (List.mem_of_getElem? (i := 48) rfl), rfl⟩
theorem tw_1729 : (.methodLink "NightColanderModel" 466 ⟨"NightColanderModel","passIt","()I"⟩ : Cond) ∈ zTB := List.mem_filter.mpr ⟨zm_8 (List.mem_of_getElem? (i := 49) rfl), rfl⟩
theorem tw_1731 : (.instanceMethod ⟨"NightColanderModel","passIt","()I"⟩ : Cond) ∈ zTB := List.mem_filter.mpr ⟨zm_8 (List.mem_of_getElem? (i := 51) rfl), rfl⟩
theorem tw_1732 : (.code ⟨"NightColanderModel","passIt","()I"⟩ prog_13_method_85_code 3 (some .int) : Cond) ∈ zTB := List.mem_filter.mpr ⟨zm_8 (List.mem_of_getElem? (i := 52) rfl), rfl⟩
theorem tw_1733 : (.methodLink "NightColanderModel" 457 ⟨"NightColanderModel","layFlow","()V"⟩ : Cond) ∈ zTB := List.mem_filter.mpr ⟨zm_8 (List.mem_of_getElem? (i := 53) rfl), rfl⟩
theorem tw_1735 : (.instanceMethod ⟨"NightColanderModel","layFlow","()V"⟩ : Cond) ∈ zTB := List.mem_filter.mpr ⟨zm_8 (List.mem_of_getElem? (i := 55) rfl), rfl⟩
theorem tw_1736 : (.code ⟨"NightColanderModel","layFlow","()V"⟩ prog_13_method_82_code 2 (Option.none : Option FieldType) : Cond) ∈ zTB := List.mem_filter.mpr ⟨zm_8 (List.mem_of_getElem? (i := 56) rfl), rfl⟩
theorem tw_1737 : (.methodLink "NightColanderModel" 460 ⟨"NightColanderModel","catchIn","(II)I"⟩ : Cond) ∈ zTB := List.mem_filter.mpr ⟨zm_8 (List.mem_of_getElem? (i := 57) rfl), rfl⟩
theorem tw_1739 : (.instanceMethod ⟨"NightColanderModel","catchIn","(II)I"⟩ : Cond) ∈ zTB := List.mem_filter.mpr ⟨zm_8 (List.mem_of_getElem? (i := 59) rfl), rfl⟩
theorem tw_1740 : (.code ⟨"NightColanderModel","catchIn","(II)I"⟩ prog_13_method_84_code 5 (some .int) : Cond) ∈ zTB := List.mem_filter.mpr ⟨zm_8 (List.mem_of_getElem? (i := 60) rfl), rfl⟩
theorem tw_1741 : (.methodLink "NightColanderModel" 463 ⟨"NightColanderModel","turnAll","()V"⟩ : Cond) ∈ zTB := List.mem_filter.mpr ⟨zm_8 (List.mem_of_getElem? (i := 61) rfl), rfl⟩
theorem tw_1743 : (.instanceMethod ⟨"NightColanderModel","turnAll","()V"⟩ : Cond) ∈ zTB := List.mem_filter.mpr ⟨zm_8 (List.mem_of_getElem? (i := 63) rfl), rfl⟩
theorem tw_1744 : (.code ⟨"NightColanderModel","turnAll","()V"⟩ prog_13_method_83_code 2 (Option.none : Option FieldType) : Cond) ∈ zTB := List.mem_filter.mpr ⟨zm_8 (List.mem_of_getElem? (i := 64) rfl), rfl⟩
theorem tw_1753 : (.methodLink "NightColanderModel" 475 ⟨"NightColanderModel","layCaught","(I)V"⟩ : Cond) ∈ zTB := List.mem_filter.mpr ⟨zm_8 (List.mem_of_getElem? (i := 73) rfl), rfl⟩
theorem tw_1755 : (.instanceMethod ⟨"NightColanderModel","layCaught","(I)V"⟩ : Cond) ∈ zTB := List.mem_filter.mpr ⟨zm_8 (List.mem_of_getElem? (i := 75) rfl), rfl⟩
theorem tw_1756 : (.code ⟨"NightColanderModel","layCaught","(I)V"⟩ prog_13_method_89_code 6 (Option.none : Option FieldType) : Cond) ∈ zTB := List.mem_filter.mpr ⟨zm_8 (List.mem_of_getElem? (i := 76) rfl), rfl⟩
theorem tw_1757 : (.methodLink "NightColanderModel" 478 ⟨"NightColanderModel","findPlaced","()I"⟩ : Cond) ∈ zTB := List.mem_filter.mpr ⟨zm_8 (List.mem_of_getElem? (i := 77) rfl), rfl⟩
theorem tw_1759 : (.instanceMethod ⟨"NightColanderModel","findPlaced","()I"⟩ : Cond) ∈ zTB := List.mem_filter.mpr ⟨zm_8 (List.mem_of_getElem? (i := 79) rfl), rfl⟩
theorem tw_1760 : (.code ⟨"NightColanderModel","findPlaced","()I"⟩ prog_13_method_91_code 7 (some .int) : Cond) ∈ zTB := List.mem_filter.mpr ⟨zm_8 (List.mem_of_getElem? (i := 80) rfl), rfl⟩
theorem tw_1761 : (.methodLink "NightColanderModel" 472 ⟨"NightColanderModel","isNew","(I)Z"⟩ : Cond) ∈ zTB := List.mem_filter.mpr ⟨zm_8 (List.mem_of_getElem? (i := 81) rfl), rfl⟩
theorem tw_1763 : (.instanceMethod ⟨"NightColanderModel","isNew","(I)Z"⟩ : Cond) ∈ zTB := List.mem_filter.mpr ⟨zm_8 (List.mem_of_getElem? (i := 83) rfl), rfl⟩
theorem tw_1764 : (.code ⟨"NightColanderModel","isNew","(I)Z"⟩ prog_13_method_90_code 4 (some .boolean) : Cond) ∈ zTB := List.mem_filter.mpr ⟨zm_8 (List.mem_of_getElem? (i := 84) rfl), rfl⟩
theorem tw_1777 : (.methodLink "NightColanderModel" 487 ⟨"NightColanderModel","layFalls","()V"⟩ : Cond) ∈ zTB := List.mem_filter.mpr ⟨zm_8 (List.mem_of_getElem? (i := 97) rfl), rfl⟩
theorem tw_1779 : (.instanceMethod ⟨"NightColanderModel","layFalls","()V"⟩ : Cond) ∈ zTB := List.mem_filter.mpr ⟨zm_8 (List.mem_of_getElem? (i := 99) rfl), rfl⟩
theorem tw_1780 : (.code ⟨"NightColanderModel","layFalls","()V"⟩ prog_13_method_93_code 5 (Option.none : Option FieldType) : Cond) ∈ zTB := List.mem_filter.mpr ⟨zm_8 (List.mem_of_getElem? (i := 100) rfl), rfl⟩
theorem tw_1781 : (.methodLink "NightColanderModel" 490 ⟨"NightColanderModel","canBe","(I)Z"⟩ : Cond) ∈ zTB := List.mem_filter.mpr ⟨zm_8 (List.mem_of_getElem? (i := 101) rfl), rfl⟩
theorem tw_1783 : (.instanceMethod ⟨"NightColanderModel","canBe","(I)Z"⟩ : Cond) ∈ zTB := List.mem_filter.mpr ⟨zm_8 (List.mem_of_getElem? (i := 103) rfl), rfl⟩
theorem tw_1784 : (.code ⟨"NightColanderModel","canBe","(I)Z"⟩ prog_13_method_98_code 4 (some .boolean) : Cond) ∈ zTB := List.mem_filter.mpr ⟨zm_8 (List.mem_of_getElem? (i := 104) rfl), rfl⟩
theorem tw_1785 : (.methodLink "NightColanderModel" 484 ⟨"NightColanderModel","fallsOn","(II)I"⟩ : Cond) ∈ zTB := List.mem_filter.mpr ⟨zm_8 (List.mem_of_getElem? (i := 105) rfl), rfl⟩
theorem tw_1787 : (.instanceMethod ⟨"NightColanderModel","fallsOn","(II)I"⟩ : Cond) ∈ zTB := List.mem_filter.mpr ⟨zm_8 (List.mem_of_getElem? (i := 107) rfl), rfl⟩
theorem tw_1788 : (.code ⟨"NightColanderModel","fallsOn","(II)I"⟩ prog_13_method_95_code 5 (some .int) : Cond) ∈ zTB := List.mem_filter.mpr ⟨zm_8 (List.mem_of_getElem? (i := 108) rfl), rfl⟩
theorem tw_1789 : (.methodLink "NightColanderModel" 481 ⟨"NightColanderModel","turnOf","(II)I"⟩ : Cond) ∈ zTB := List.mem_filter.mpr ⟨zm_8 (List.mem_of_getElem? (i := 109) rfl), rfl⟩
theorem tw_1790 : (.static ⟨"NightColanderModel","turnOf","(II)I"⟩ : Cond) ∈ zTB := List.mem_filter.mpr ⟨zm_8 (List.mem_of_getElem? (i := 110) rfl), rfl⟩
theorem tw_1791 : (.code ⟨"NightColanderModel","turnOf","(II)I"⟩ prog_13_method_94_code 2 (some .int) : Cond) ∈ zTB := List.mem_filter.mpr ⟨zm_8 (List.mem_of_getElem? (i := 111) rfl), rfl⟩
theorem tw_1792 : (.methodLink "NightColanderModel" 493 ⟨"NightColanderModel","inDigits","(I)I"⟩ : Cond) ∈ zTB := List.mem_filter.mpr ⟨zm_8 (List.mem_of_getElem? (i := 112) rfl), rfl⟩
theorem tw_1793 : (.static ⟨"NightColanderModel","inDigits","(I)I"⟩ : Cond) ∈ zTB := List.mem_filter.mpr ⟨zm_8 (List.mem_of_getElem? (i := 113) rfl), rfl⟩
theorem tw_1794 : (.code ⟨"NightColanderModel","inDigits","(I)I"⟩ prog_13_method_99_code 1 (some .int) : Cond) ∈ zTB := List.mem_filter.mpr ⟨zm_8 (List.mem_of_getElem? (i := 114) rfl), rfl⟩
theorem tw_1799 : (.constant "NightColanderModel" 496 100000000 : Cond) ∈ zTB := List.mem_filter.mpr ⟨zm_8 (List.mem_of_getElem? (i := 119) rfl), rfl⟩
theorem tw_1804 : (.methodLink "NightColanderModel" 497 ⟨"NightColanderModel","stepsTo","(I)I"⟩ : Cond) ∈ zTB := List.mem_filter.mpr ⟨zm_8 (List.mem_of_getElem? (i := 124) rfl), rfl⟩
theorem tw_1806 : (.instanceMethod ⟨"NightColanderModel","stepsTo","(I)I"⟩ : Cond) ∈ zTB := List.mem_filter.mpr ⟨zm_8 (List.mem_of_getElem? (i := 126) rfl), rfl⟩
theorem tw_1807 : (.code ⟨"NightColanderModel","stepsTo","(I)I"⟩ prog_13_method_102_code 5 (some .int) : Cond) ∈ zTB := List.mem_filter.mpr ⟨zm_8 (List.mem_of_getElem? (i := 127) rfl), rfl⟩
theorem tw_1808 : (.methodLink "NightColanderModel" 500 ⟨"NightColanderModel","isWanted","(I)Z"⟩ : Cond) ∈ zTB := List.mem_filter.mpr ⟨zm_8 (List.mem_of_getElem? (i := 128) rfl), rfl⟩
theorem tw_1810 : (.instanceMethod ⟨"NightColanderModel","isWanted","(I)Z"⟩ : Cond) ∈ zTB := List.mem_filter.mpr ⟨zm_8 (List.mem_of_getElem? (i := 130) rfl), rfl⟩
theorem tw_1811 : (.code ⟨"NightColanderModel","isWanted","(I)Z"⟩ prog_13_method_103_code 4 (some .boolean) : Cond) ∈ zTB := List.mem_filter.mpr ⟨zm_8 (List.mem_of_getElem? (i := 131) rfl), rfl⟩
theorem tw_1816 : (.methodLink "NightColanderModel" 187 ⟨"NightColanderModel","ones","(I)I"⟩ : Cond) ∈ zTB := List.mem_filter.mpr ⟨zm_8 (List.mem_of_getElem? (i := 136) rfl), rfl⟩
theorem tw_1817 : (.static ⟨"NightColanderModel","ones","(I)I"⟩ : Cond) ∈ zTB := List.mem_filter.mpr ⟨zm_8 (List.mem_of_getElem? (i := 137) rfl), rfl⟩
theorem tw_1818 : (.code ⟨"NightColanderModel","ones","(I)I"⟩ prog_13_method_5_code 3 (some .int) : Cond) ∈ zTB := List.mem_filter.mpr ⟨zm_8 (List.mem_of_getElem? (i := 138) rfl), rfl⟩
theorem tw_1839 : (.constantLong "NightColanderModel" 503 1000000000000 : Cond) ∈ zTB := List.mem_filter.mpr ⟨zm_8 (List.mem_of_getElem? (i := 159) rfl), rfl⟩
theorem tw_1848 : (.methodLink "NightColanderModel" 532 ⟨"NightColanderModel","readOrder","()V"⟩ : Cond) ∈ zTB := List.mem_filter.mpr ⟨zm_8 (List.mem_of_getElem? (i := 168) rfl), rfl⟩
theorem tw_1850 : (.instanceMethod ⟨"NightColanderModel","readOrder","()V"⟩ : Cond) ∈ zTB := List.mem_filter.mpr ⟨zm_8 (List.mem_of_getElem? (i := 170) rfl), rfl⟩
theorem tw_1851 : (.code ⟨"NightColanderModel","readOrder","()V"⟩ prog_13_method_113_code 4 (Option.none : Option FieldType) : Cond) ∈ zTB := List.mem_filter.mpr ⟨zm_8 (List.mem_of_getElem? (i := 171) rfl), rfl⟩
theorem tw_1852 : (.methodLink "NightColanderModel" 505 ⟨"NightColanderModel","readSum","(I)V"⟩ : Cond) ∈ zTB := List.mem_filter.mpr ⟨zm_8 (List.mem_of_getElem? (i := 172) rfl), rfl⟩
theorem tw_1854 : (.instanceMethod ⟨"NightColanderModel","readSum","(I)V"⟩ : Cond) ∈ zTB := List.mem_filter.mpr ⟨zm_8 (List.mem_of_getElem? (i := 174) rfl), rfl⟩
theorem tw_1855 : (.code ⟨"NightColanderModel","readSum","(I)V"⟩ prog_13_method_112_code 2 (Option.none : Option FieldType) : Cond) ∈ zTB := List.mem_filter.mpr ⟨zm_8 (List.mem_of_getElem? (i := 175) rfl), rfl⟩
theorem tw_1856 : (.constantLong "NightColanderModel" 508 52 : Cond) ∈ zTB := List.mem_filter.mpr ⟨zm_8 (List.mem_of_getElem? (i := 176) rfl), rfl⟩
theorem tw_1857 : (.constantLong "NightColanderModel" 510 486 : Cond) ∈ zTB := List.mem_filter.mpr ⟨zm_8 (List.mem_of_getElem? (i := 177) rfl), rfl⟩
theorem tw_1858 : (.constantLong "NightColanderModel" 512 21279923 : Cond) ∈ zTB := List.mem_filter.mpr ⟨zm_8 (List.mem_of_getElem? (i := 178) rfl), rfl⟩
theorem tw_1859 : (.methodLink "NightColanderModel" 535 ⟨"NightColanderModel","run","(I)I"⟩ : Cond) ∈ zTB := List.mem_filter.mpr ⟨zm_8 (List.mem_of_getElem? (i := 179) rfl), rfl⟩
theorem tw_1861 : (.instanceMethod ⟨"NightColanderModel","run","(I)I"⟩ : Cond) ∈ zTB := List.mem_filter.mpr ⟨zm_8 (List.mem_of_getElem? (i := 181) rfl), rfl⟩
theorem tw_1862 : (.code ⟨"NightColanderModel","run","(I)I"⟩ prog_13_method_116_code 5 (some .int) : Cond) ∈ zTB := List.mem_filter.mpr ⟨zm_8 (List.mem_of_getElem? (i := 182) rfl), rfl⟩
theorem tw_1863 : (.methodLink "NightColanderModel" 523 ⟨"NightColanderModel","levels","()I"⟩ : Cond) ∈ zTB := List.mem_filter.mpr ⟨zm_8 (List.mem_of_getElem? (i := 183) rfl), rfl⟩
theorem tw_1865 : (.instanceMethod ⟨"NightColanderModel","levels","()I"⟩ : Cond) ∈ zTB := List.mem_filter.mpr ⟨zm_8 (List.mem_of_getElem? (i := 185) rfl), rfl⟩
theorem tw_1866 : (.code ⟨"NightColanderModel","levels","()I"⟩ prog_13_method_20_code 3 (some .int) : Cond) ∈ zTB := List.mem_filter.mpr ⟨zm_8 (List.mem_of_getElem? (i := 186) rfl), rfl⟩
theorem tw_1867 : (.methodLink "NightColanderModel" 526 ⟨"NightColanderModel","sumOf","(I)I"⟩ : Cond) ∈ zTB := List.mem_filter.mpr ⟨zm_8 (List.mem_of_getElem? (i := 187) rfl), rfl⟩
theorem tw_1869 : (.instanceMethod ⟨"NightColanderModel","sumOf","(I)I"⟩ : Cond) ∈ zTB := List.mem_filter.mpr ⟨zm_8 (List.mem_of_getElem? (i := 189) rfl), rfl⟩
theorem tw_1870 : (.code ⟨"NightColanderModel","sumOf","(I)I"⟩ prog_13_method_114_code 2 (some .int) : Cond) ∈ zTB := List.mem_filter.mpr ⟨zm_8 (List.mem_of_getElem? (i := 190) rfl), rfl⟩
theorem tw_1871 : (.methodLink "NightColanderModel" 529 ⟨"NightColanderModel","act","(III)I"⟩ : Cond) ∈ zTB := List.mem_filter.mpr ⟨zm_8 (List.mem_of_getElem? (i := 191) rfl), rfl⟩
theorem tw_1873 : (.instanceMethod ⟨"NightColanderModel","act","(III)I"⟩ : Cond) ∈ zTB := List.mem_filter.mpr ⟨zm_8 (List.mem_of_getElem? (i := 193) rfl), rfl⟩
theorem tw_1874 : (.code ⟨"NightColanderModel","act","(III)I"⟩ prog_13_method_115_code 4 (some .int) : Cond) ∈ zTB := List.mem_filter.mpr ⟨zm_8 (List.mem_of_getElem? (i := 194) rfl), rfl⟩
theorem tw_1875 : (.methodLink "NightColanderModel" 538 ⟨"NightColanderModel","giveBack","(I)V"⟩ : Cond) ∈ zTB := List.mem_filter.mpr ⟨zm_8 (List.mem_of_getElem? (i := 195) rfl), rfl⟩
theorem tw_1877 : (.instanceMethod ⟨"NightColanderModel","giveBack","(I)V"⟩ : Cond) ∈ zTB := List.mem_filter.mpr ⟨zm_8 (List.mem_of_getElem? (i := 197) rfl), rfl⟩
theorem tw_1878 : (.code ⟨"NightColanderModel","giveBack","(I)V"⟩ prog_13_method_118_code 3 (Option.none : Option FieldType) : Cond) ∈ zTB := List.mem_filter.mpr ⟨zm_8 (List.mem_of_getElem? (i := 198) rfl), rfl⟩
theorem tw_1887 : (.constantLong "NightColanderModel" 550 60 : Cond) ∈ zTB := List.mem_filter.mpr ⟨zm_8 (List.mem_of_getElem? (i := 207) rfl), rfl⟩
theorem tw_1888 : (.methodLink "NightColanderModel" 552 ⟨"NightColanderModel","draw","(I)I"⟩ : Cond) ∈ zTB := List.mem_filter.mpr ⟨zm_8 (List.mem_of_getElem? (i := 208) rfl), rfl⟩
theorem tw_1890 : (.instanceMethod ⟨"NightColanderModel","draw","(I)I"⟩ : Cond) ∈ zTB := List.mem_filter.mpr ⟨zm_8 (List.mem_of_getElem? (i := 210) rfl), rfl⟩
theorem tw_1891 : (.code ⟨"NightColanderModel","draw","(I)I"⟩ prog_13_method_120_code 2 (some .int) : Cond) ∈ zTB := List.mem_filter.mpr ⟨zm_8 (List.mem_of_getElem? (i := 211) rfl), rfl⟩
theorem tw_1892 : (.constantLong "NightColanderModel" 544 1103 : Cond) ∈ zTB := List.mem_filter.mpr ⟨zm_8 (List.mem_of_getElem? (i := 212) rfl), rfl⟩
theorem tw_1893 : (.constantLong "NightColanderModel" 546 12345 : Cond) ∈ zTB := List.mem_filter.mpr ⟨zm_8 (List.mem_of_getElem? (i := 213) rfl), rfl⟩
theorem tw_1894 : (.constantLong "NightColanderModel" 548 1000003 : Cond) ∈ zTB := List.mem_filter.mpr ⟨zm_8 (List.mem_of_getElem? (i := 214) rfl), rfl⟩
theorem tw_1903 : (.methodLink "NightColanderModel" 555 ⟨"NightColanderModel","blockedOnes","()I"⟩ : Cond) ∈ zTB := List.mem_filter.mpr ⟨zm_8 (List.mem_of_getElem? (i := 223) rfl), rfl⟩
theorem tw_1905 : (.instanceMethod ⟨"NightColanderModel","blockedOnes","()I"⟩ : Cond) ∈ zTB := List.mem_filter.mpr ⟨zm_8 (List.mem_of_getElem? (i := 225) rfl), rfl⟩
theorem tw_1906 : (.code ⟨"NightColanderModel","blockedOnes","()I"⟩ prog_13_method_21_code 3 (some .int) : Cond) ∈ zTB := List.mem_filter.mpr ⟨zm_8 (List.mem_of_getElem? (i := 226) rfl), rfl⟩
theorem tw_1907 : (.constantLong "NightColanderModel" 558 13 : Cond) ∈ zTB := List.mem_filter.mpr ⟨zm_8 (List.mem_of_getElem? (i := 227) rfl), rfl⟩
theorem tw_1908 : (.constantLong "NightColanderModel" 560 16 : Cond) ∈ zTB := List.mem_filter.mpr ⟨zm_8 (List.mem_of_getElem? (i := 228) rfl), rfl⟩
theorem tw_1913 : (.fieldLink "java/lang/String" 9 "java/lang/String" "value" "[B" : Cond) ∈ zTB := List.mem_filter.mpr ⟨zm_8 (List.mem_of_getElem? (i := 233) rfl), rfl⟩
theorem tw_1914 : (.fieldLink "java/lang/String" 15 "java/lang/String" "coder" "B" : Cond) ∈ zTB := List.mem_filter.mpr ⟨zm_8 (List.mem_of_getElem? (i := 234) rfl), rfl⟩
theorem ts_0 : (.selects "NightColander$Judge" ⟨"NightColander$Judge","told","(LNightColander$Night;LNightColander$Text;III)I"⟩ ⟨"NightColander$Judge","told","(LNightColander$Night;LNightColander$Text;III)I"⟩ : Cond) ∈ zTB := List.mem_filter.mpr ⟨List.mem_append_left _ (List.mem_map.mpr ⟨(⟨"NightColander$Judge","told","(LNightColander$Night;LNightColander$Text;III)I"⟩, 2), List.mem_of_getElem? (i := 0) (by decide +kernel), rfl⟩), rfl⟩
theorem ts_1 : (.selects "NightColander" ⟨"NightColander","refuse","(I)I"⟩ ⟨"NightColander","refuse","(I)I"⟩ : Cond) ∈ zTB := List.mem_filter.mpr ⟨List.mem_append_left _ (List.mem_map.mpr ⟨(⟨"NightColander","refuse","(I)I"⟩, 19), List.mem_of_getElem? (i := 1) (by decide +kernel), rfl⟩), rfl⟩
theorem ts_2 : (.selects "NightColander" ⟨"NightColander","accept","(I)I"⟩ ⟨"NightColander","accept","(I)I"⟩ : Cond) ∈ zTB := List.mem_filter.mpr ⟨List.mem_append_left _ (List.mem_map.mpr ⟨(⟨"NightColander","accept","(I)I"⟩, 19), List.mem_of_getElem? (i := 2) (by decide +kernel), rfl⟩), rfl⟩
theorem ts_3 : (.selects "NightColander$Judge" ⟨"NightColander$Judge","askOfBucket","(LNightColander$Night;III)I"⟩ ⟨"NightColander$Judge","askOfBucket","(LNightColander$Night;III)I"⟩ : Cond) ∈ zTB := List.mem_filter.mpr ⟨List.mem_append_left _ (List.mem_map.mpr ⟨(⟨"NightColander$Judge","askOfBucket","(LNightColander$Night;III)I"⟩, 2), List.mem_of_getElem? (i := 3) (by decide +kernel), rfl⟩), rfl⟩
theorem ts_4 : (.selects "NightColander" ⟨"NightColander","barredAsNumber","(II)I"⟩ ⟨"NightColander","barredAsNumber","(II)I"⟩ : Cond) ∈ zTB := List.mem_filter.mpr ⟨List.mem_append_left _ (List.mem_map.mpr ⟨(⟨"NightColander","barredAsNumber","(II)I"⟩, 19), List.mem_of_getElem? (i := 4) (by decide +kernel), rfl⟩), rfl⟩
theorem ts_5 : (.selects "NightColander" ⟨"NightColander","tellHole","(I)Z"⟩ ⟨"NightColander","tellHole","(I)Z"⟩ : Cond) ∈ zTB := List.mem_filter.mpr ⟨List.mem_append_left _ (List.mem_map.mpr ⟨(⟨"NightColander","tellHole","(I)Z"⟩, 19), List.mem_of_getElem? (i := 5) (by decide +kernel), rfl⟩), rfl⟩
theorem ts_6 : (.selects "NightColander$Parser" ⟨"NightColander$Parser","readClause","()Z"⟩ ⟨"NightColander$Parser","readClause","()Z"⟩ : Cond) ∈ zTB := List.mem_filter.mpr ⟨List.mem_append_left _ (List.mem_map.mpr ⟨(⟨"NightColander$Parser","readClause","()Z"⟩, 4), List.mem_of_getElem? (i := 6) (by decide +kernel), rfl⟩), rfl⟩
theorem ts_7 : (.selects "NightColander$Tape" ⟨"NightColander$Tape","isSame","(Ljava/lang/String;II)Z"⟩ ⟨"NightColander$Tape","isSame","(Ljava/lang/String;II)Z"⟩ : Cond) ∈ zTB := List.mem_filter.mpr ⟨List.mem_append_left _ (List.mem_map.mpr ⟨(⟨"NightColander$Tape","isSame","(Ljava/lang/String;II)Z"⟩, 6), List.mem_of_getElem? (i := 7) (by decide +kernel), rfl⟩), rfl⟩
theorem ts_8 : (.selects "NightColander$Parser" ⟨"NightColander$Parser","readOrder","(I)Z"⟩ ⟨"NightColander$Parser","readOrder","(I)Z"⟩ : Cond) ∈ zTB := List.mem_filter.mpr ⟨List.mem_append_left _ (List.mem_map.mpr ⟨(⟨"NightColander$Parser","readOrder","(I)Z"⟩, 4), List.mem_of_getElem? (i := 8) (by decide +kernel), rfl⟩), rfl⟩
theorem ts_9 : (.selects "NightColander$Parser" ⟨"NightColander$Parser","readTwoSums","(Ljava/lang/String;)Z"⟩ ⟨"NightColander$Parser","readTwoSums","(Ljava/lang/String;)Z"⟩ : Cond) ∈ zTB := List.mem_filter.mpr ⟨List.mem_append_left _ (List.mem_map.mpr ⟨(⟨"NightColander$Parser","readTwoSums","(Ljava/lang/String;)Z"⟩, 4), List.mem_of_getElem? (i := 9) (by decide +kernel), rfl⟩), rfl⟩
theorem ts_10 : (.selects "NightColander$Parser" ⟨"NightColander$Parser","readSum","(I)Z"⟩ ⟨"NightColander$Parser","readSum","(I)Z"⟩ : Cond) ∈ zTB := List.mem_filter.mpr ⟨List.mem_append_left _ (List.mem_map.mpr ⟨(⟨"NightColander$Parser","readSum","(I)Z"⟩, 4), List.mem_of_getElem? (i := 10) (by decide +kernel), rfl⟩), rfl⟩
theorem ts_11 : (.selects "NightColander$Parser" ⟨"NightColander$Parser","readTerm","(I)Z"⟩ ⟨"NightColander$Parser","readTerm","(I)Z"⟩ : Cond) ∈ zTB := List.mem_filter.mpr ⟨List.mem_append_left _ (List.mem_map.mpr ⟨(⟨"NightColander$Parser","readTerm","(I)Z"⟩, 4), List.mem_of_getElem? (i := 11) (by decide +kernel), rfl⟩), rfl⟩
theorem ts_12 : (.selects "NightColander$Parser" ⟨"NightColander$Parser","readPart","(I)Z"⟩ ⟨"NightColander$Parser","readPart","(I)Z"⟩ : Cond) ∈ zTB := List.mem_filter.mpr ⟨List.mem_append_left _ (List.mem_map.mpr ⟨(⟨"NightColander$Parser","readPart","(I)Z"⟩, 4), List.mem_of_getElem? (i := 12) (by decide +kernel), rfl⟩), rfl⟩
theorem ts_13 : (.selects "NightColander$Parser" ⟨"NightColander$Parser","readSumInBrackets","(I)Z"⟩ ⟨"NightColander$Parser","readSumInBrackets","(I)Z"⟩ : Cond) ∈ zTB := List.mem_filter.mpr ⟨List.mem_append_left _ (List.mem_map.mpr ⟨(⟨"NightColander$Parser","readSumInBrackets","(I)Z"⟩, 4), List.mem_of_getElem? (i := 13) (by decide +kernel), rfl⟩), rfl⟩
theorem ts_14 : (.selects "NightColander$Parser" ⟨"NightColander$Parser","readNumberOf","(I)Z"⟩ ⟨"NightColander$Parser","readNumberOf","(I)Z"⟩ : Cond) ∈ zTB := List.mem_filter.mpr ⟨List.mem_append_left _ (List.mem_map.mpr ⟨(⟨"NightColander$Parser","readNumberOf","(I)Z"⟩, 4), List.mem_of_getElem? (i := 14) (by decide +kernel), rfl⟩), rfl⟩
theorem ts_15 : (.selects "NightColander$Parser" ⟨"NightColander$Parser","readLaw","(I)Z"⟩ ⟨"NightColander$Parser","readLaw","(I)Z"⟩ : Cond) ∈ zTB := List.mem_filter.mpr ⟨List.mem_append_left _ (List.mem_map.mpr ⟨(⟨"NightColander$Parser","readLaw","(I)Z"⟩, 4), List.mem_of_getElem? (i := 15) (by decide +kernel), rfl⟩), rfl⟩
theorem ts_16 : (.selects "NightColander$Parser" ⟨"NightColander$Parser","readTest","(I)Z"⟩ ⟨"NightColander$Parser","readTest","(I)Z"⟩ : Cond) ∈ zTB := List.mem_filter.mpr ⟨List.mem_append_left _ (List.mem_map.mpr ⟨(⟨"NightColander$Parser","readTest","(I)Z"⟩, 4), List.mem_of_getElem? (i := 16) (by decide +kernel), rfl⟩), rfl⟩
theorem ts_17 : (.selects "NightColander$Parser" ⟨"NightColander$Parser","readBoth","(I)Z"⟩ ⟨"NightColander$Parser","readBoth","(I)Z"⟩ : Cond) ∈ zTB := List.mem_filter.mpr ⟨List.mem_append_left _ (List.mem_map.mpr ⟨(⟨"NightColander$Parser","readBoth","(I)Z"⟩, 4), List.mem_of_getElem? (i := 17) (by decide +kernel), rfl⟩), rfl⟩
theorem ts_18 : (.selects "NightColander$Parser" ⟨"NightColander$Parser","readPlain","(I)Z"⟩ ⟨"NightColander$Parser","readPlain","(I)Z"⟩ : Cond) ∈ zTB := List.mem_filter.mpr ⟨List.mem_append_left _ (List.mem_map.mpr ⟨(⟨"NightColander$Parser","readPlain","(I)Z"⟩, 4), List.mem_of_getElem? (i := 18) (by decide +kernel), rfl⟩), rfl⟩
theorem ts_19 : (.selects "NightColander$Parser" ⟨"NightColander$Parser","readTestInBrackets","(I)Z"⟩ ⟨"NightColander$Parser","readTestInBrackets","(I)Z"⟩ : Cond) ∈ zTB := List.mem_filter.mpr ⟨List.mem_append_left _ (List.mem_map.mpr ⟨(⟨"NightColander$Parser","readTestInBrackets","(I)Z"⟩, 4), List.mem_of_getElem? (i := 19) (by decide +kernel), rfl⟩), rfl⟩
theorem ts_20 : (.selects "NightColander$Parser" ⟨"NightColander$Parser","readComparison","(I)Z"⟩ ⟨"NightColander$Parser","readComparison","(I)Z"⟩ : Cond) ∈ zTB := List.mem_filter.mpr ⟨List.mem_append_left _ (List.mem_map.mpr ⟨(⟨"NightColander$Parser","readComparison","(I)Z"⟩, 4), List.mem_of_getElem? (i := 20) (by decide +kernel), rfl⟩), rfl⟩
theorem ts_21 : (.selects "NightColander$Runner" ⟨"NightColander$Runner","findWords","(LNightColander$Night;I)V"⟩ ⟨"NightColander$Runner","findWords","(LNightColander$Night;I)V"⟩ : Cond) ∈ zTB := List.mem_filter.mpr ⟨List.mem_append_left _ (List.mem_map.mpr ⟨(⟨"NightColander$Runner","findWords","(LNightColander$Night;I)V"⟩, 6), List.mem_of_getElem? (i := 21) (by decide +kernel), rfl⟩), rfl⟩
theorem ts_22 : (.selects "NightColander$Deeds" ⟨"NightColander$Deeds","refusalOf","(LNightColander$Night;III)I"⟩ ⟨"NightColander$Deeds","refusalOf","(LNightColander$Night;III)I"⟩ : Cond) ∈ zTB := List.mem_filter.mpr ⟨List.mem_append_left _ (List.mem_map.mpr ⟨(⟨"NightColander$Deeds","refusalOf","(LNightColander$Night;III)I"⟩, 1), List.mem_of_getElem? (i := 22) (by decide +kernel), rfl⟩), rfl⟩
theorem ts_23 : (.selects "NightColander$Deeds" ⟨"NightColander$Deeds","letHourPass","(LNightColander$Night;)I"⟩ ⟨"NightColander$Deeds","letHourPass","(LNightColander$Night;)I"⟩ : Cond) ∈ zTB := List.mem_filter.mpr ⟨List.mem_append_left _ (List.mem_map.mpr ⟨(⟨"NightColander$Deeds","letHourPass","(LNightColander$Night;)I"⟩, 1), List.mem_of_getElem? (i := 23) (by decide +kernel), rfl⟩), rfl⟩
theorem ts_24 : (.selects "NightColander" ⟨"NightColander","answered","(I)I"⟩ ⟨"NightColander","answered","(I)I"⟩ : Cond) ∈ zTB := List.mem_filter.mpr ⟨List.mem_append_left _ (List.mem_map.mpr ⟨(⟨"NightColander","answered","(I)I"⟩, 19), List.mem_of_getElem? (i := 24) (by decide +kernel), rfl⟩), rfl⟩
theorem ts_25 : (.selects "NightColander$Paper" ⟨"NightColander$Paper","findFalls","(LNightColander$Night;I)V"⟩ ⟨"NightColander$Paper","findFalls","(LNightColander$Night;I)V"⟩ : Cond) ∈ zTB := List.mem_filter.mpr ⟨List.mem_append_left _ (List.mem_map.mpr ⟨(⟨"NightColander$Paper","findFalls","(LNightColander$Night;I)V"⟩, 10), List.mem_of_getElem? (i := 25) (by decide +kernel), rfl⟩), rfl⟩
theorem ts_26 : (.selects "NightColander$Paper" ⟨"NightColander$Paper","catchOn","(LNightColander$Night;III)I"⟩ ⟨"NightColander$Paper","catchOn","(LNightColander$Night;III)I"⟩ : Cond) ∈ zTB := List.mem_filter.mpr ⟨List.mem_append_left _ (List.mem_map.mpr ⟨(⟨"NightColander$Paper","catchOn","(LNightColander$Night;III)I"⟩, 10), List.mem_of_getElem? (i := 26) (by decide +kernel), rfl⟩), rfl⟩
theorem ts_27 : (.selects "NightColander$Paper" ⟨"NightColander$Paper","caughtByRow","(II)I"⟩ ⟨"NightColander$Paper","caughtByRow","(II)I"⟩ : Cond) ∈ zTB := List.mem_filter.mpr ⟨List.mem_append_left _ (List.mem_map.mpr ⟨(⟨"NightColander$Paper","caughtByRow","(II)I"⟩, 10), List.mem_of_getElem? (i := 27) (by decide +kernel), rfl⟩), rfl⟩
theorem ts_28 : (.selects "NightColander$Paper" ⟨"NightColander$Paper","findShares","(LNightColander$Night;)V"⟩ ⟨"NightColander$Paper","findShares","(LNightColander$Night;)V"⟩ : Cond) ∈ zTB := List.mem_filter.mpr ⟨List.mem_append_left _ (List.mem_map.mpr ⟨(⟨"NightColander$Paper","findShares","(LNightColander$Night;)V"⟩, 10), List.mem_of_getElem? (i := 28) (by decide +kernel), rfl⟩), rfl⟩
theorem ts_29 : (.selects "NightColander$Paper" ⟨"NightColander$Paper","fitsSeen","(LNightColander$Night;I)Z"⟩ ⟨"NightColander$Paper","fitsSeen","(LNightColander$Night;I)Z"⟩ : Cond) ∈ zTB := List.mem_filter.mpr ⟨List.mem_append_left _ (List.mem_map.mpr ⟨(⟨"NightColander$Paper","fitsSeen","(LNightColander$Night;I)Z"⟩, 10), List.mem_of_getElem? (i := 29) (by decide +kernel), rfl⟩), rfl⟩
theorem ts_30 : (.selects "NightColander$Paper" ⟨"NightColander$Paper","threadsBy","(II)I"⟩ ⟨"NightColander$Paper","threadsBy","(II)I"⟩ : Cond) ∈ zTB := List.mem_filter.mpr ⟨List.mem_append_left _ (List.mem_map.mpr ⟨(⟨"NightColander$Paper","threadsBy","(II)I"⟩, 10), List.mem_of_getElem? (i := 30) (by decide +kernel), rfl⟩), rfl⟩
theorem ts_31 : (.selects "NightColander$Paper" ⟨"NightColander$Paper","threadsByThree","(II)I"⟩ ⟨"NightColander$Paper","threadsByThree","(II)I"⟩ : Cond) ∈ zTB := List.mem_filter.mpr ⟨List.mem_append_left _ (List.mem_map.mpr ⟨(⟨"NightColander$Paper","threadsByThree","(II)I"⟩, 10), List.mem_of_getElem? (i := 31) (by decide +kernel), rfl⟩), rfl⟩
theorem ts_32 : (.selects "NightColander$Paper" ⟨"NightColander$Paper","findFitting","(LNightColander$Night;)Z"⟩ ⟨"NightColander$Paper","findFitting","(LNightColander$Night;)Z"⟩ : Cond) ∈ zTB := List.mem_filter.mpr ⟨List.mem_append_left _ (List.mem_map.mpr ⟨(⟨"NightColander$Paper","findFitting","(LNightColander$Night;)Z"⟩, 10), List.mem_of_getElem? (i := 32) (by decide +kernel), rfl⟩), rfl⟩
theorem ts_33 : (.selects "NightColander$Paper" ⟨"NightColander$Paper","mostAlike","(I)I"⟩ ⟨"NightColander$Paper","mostAlike","(I)I"⟩ : Cond) ∈ zTB := List.mem_filter.mpr ⟨List.mem_append_left _ (List.mem_map.mpr ⟨(⟨"NightColander$Paper","mostAlike","(I)I"⟩, 10), List.mem_of_getElem? (i := 33) (by decide +kernel), rfl⟩), rfl⟩
theorem ts_34 : (.selects "NightColander$Paper" ⟨"NightColander$Paper","givesWanted","(LNightColander$Night;I)Z"⟩ ⟨"NightColander$Paper","givesWanted","(LNightColander$Night;I)Z"⟩ : Cond) ∈ zTB := List.mem_filter.mpr ⟨List.mem_append_left _ (List.mem_map.mpr ⟨(⟨"NightColander$Paper","givesWanted","(LNightColander$Night;I)Z"⟩, 10), List.mem_of_getElem? (i := 34) (by decide +kernel), rfl⟩), rfl⟩
theorem ts_35 : (.selects "NightColander$Paper" ⟨"NightColander$Paper","sharesOf","(I)I"⟩ ⟨"NightColander$Paper","sharesOf","(I)I"⟩ : Cond) ∈ zTB := List.mem_filter.mpr ⟨List.mem_append_left _ (List.mem_map.mpr ⟨(⟨"NightColander$Paper","sharesOf","(I)I"⟩, 10), List.mem_of_getElem? (i := 35) (by decide +kernel), rfl⟩), rfl⟩
theorem ts_36 : (.selects "NightColanderModel" ⟨"NightColanderModel","tell","(I)I"⟩ ⟨"NightColanderModel","tell","(I)I"⟩ : Cond) ∈ zTB := List.mem_filter.mpr ⟨List.mem_append_left _ (List.mem_map.mpr ⟨(⟨"NightColanderModel","tell","(I)I"⟩, 57), List.mem_of_getElem? (i := 36) (by decide +kernel), rfl⟩), rfl⟩
theorem ts_37 : (.selects "NightColanderModel" ⟨"NightColanderModel","putBack","(I)V"⟩ ⟨"NightColanderModel","putBack","(I)V"⟩ : Cond) ∈ zTB := List.mem_filter.mpr ⟨List.mem_append_left _ (List.mem_map.mpr ⟨(⟨"NightColanderModel","putBack","(I)V"⟩, 57), List.mem_of_getElem? (i := 37) (by decide +kernel), rfl⟩), rfl⟩
theorem ts_38 : (.selects "NightColanderModel" ⟨"NightColanderModel","lasting","(I)I"⟩ ⟨"NightColanderModel","lasting","(I)I"⟩ : Cond) ∈ zTB := List.mem_filter.mpr ⟨List.mem_append_left _ (List.mem_map.mpr ⟨(⟨"NightColanderModel","lasting","(I)I"⟩, 57), List.mem_of_getElem? (i := 38) (by decide +kernel), rfl⟩), rfl⟩
theorem ts_39 : (.selects "NightColanderModel" ⟨"NightColanderModel","runsOf","(III)I"⟩ ⟨"NightColanderModel","runsOf","(III)I"⟩ : Cond) ∈ zTB := List.mem_filter.mpr ⟨List.mem_append_left _ (List.mem_map.mpr ⟨(⟨"NightColanderModel","runsOf","(III)I"⟩, 57), List.mem_of_getElem? (i := 39) (by decide +kernel), rfl⟩), rfl⟩
theorem ts_40 : (.selects "NightColanderModel" ⟨"NightColanderModel","tells","(IIJ)J"⟩ ⟨"NightColanderModel","tells","(IIJ)J"⟩ : Cond) ∈ zTB := List.mem_filter.mpr ⟨List.mem_append_left _ (List.mem_map.mpr ⟨(⟨"NightColanderModel","tells","(IIJ)J"⟩, 57), List.mem_of_getElem? (i := 40) (by decide +kernel), rfl⟩), rfl⟩
theorem ts_41 : (.selects "NightColanderModel" ⟨"NightColanderModel","isSo","(I)Z"⟩ ⟨"NightColanderModel","isSo","(I)Z"⟩ : Cond) ∈ zTB := List.mem_filter.mpr ⟨List.mem_append_left _ (List.mem_map.mpr ⟨(⟨"NightColanderModel","isSo","(I)Z"⟩, 57), List.mem_of_getElem? (i := 41) (by decide +kernel), rfl⟩), rfl⟩
theorem ts_42 : (.selects "NightColanderModel" ⟨"NightColanderModel","reckonAll","(II)V"⟩ ⟨"NightColanderModel","reckonAll","(II)V"⟩ : Cond) ∈ zTB := List.mem_filter.mpr ⟨List.mem_append_left _ (List.mem_map.mpr ⟨(⟨"NightColanderModel","reckonAll","(II)V"⟩, 57), List.mem_of_getElem? (i := 42) (by decide +kernel), rfl⟩), rfl⟩
theorem ts_43 : (.selects "NightColanderModel" ⟨"NightColanderModel","isBucket","(I)Z"⟩ ⟨"NightColanderModel","isBucket","(I)Z"⟩ : Cond) ∈ zTB := List.mem_filter.mpr ⟨List.mem_append_left _ (List.mem_map.mpr ⟨(⟨"NightColanderModel","isBucket","(I)Z"⟩, 57), List.mem_of_getElem? (i := 43) (by decide +kernel), rfl⟩), rfl⟩
theorem ts_44 : (.selects "NightColanderModel" ⟨"NightColanderModel","reckon","(IJJ)J"⟩ ⟨"NightColanderModel","reckon","(IJJ)J"⟩ : Cond) ∈ zTB := List.mem_filter.mpr ⟨List.mem_append_left _ (List.mem_map.mpr ⟨(⟨"NightColanderModel","reckon","(IJJ)J"⟩, 57), List.mem_of_getElem? (i := 44) (by decide +kernel), rfl⟩), rfl⟩
theorem ts_45 : (.selects "NightColanderModel" ⟨"NightColanderModel","change","(II)I"⟩ ⟨"NightColanderModel","change","(II)I"⟩ : Cond) ∈ zTB := List.mem_filter.mpr ⟨List.mem_append_left _ (List.mem_map.mpr ⟨(⟨"NightColanderModel","change","(II)I"⟩, 57), List.mem_of_getElem? (i := 45) (by decide +kernel), rfl⟩), rfl⟩
theorem ts_46 : (.selects "NightColanderModel" ⟨"NightColanderModel","bucketAt","(I)I"⟩ ⟨"NightColanderModel","bucketAt","(I)I"⟩ : Cond) ∈ zTB := List.mem_filter.mpr ⟨List.mem_append_left _ (List.mem_map.mpr ⟨(⟨"NightColanderModel","bucketAt","(I)I"⟩, 57), List.mem_of_getElem? (i := 46) (by decide +kernel), rfl⟩), rfl⟩
theorem ts_47 : (.selects "NightColanderModel" ⟨"NightColanderModel","leaksOf","(I)I"⟩ ⟨"NightColanderModel","leaksOf","(I)I"⟩ : Cond) ∈ zTB := List.mem_filter.mpr ⟨List.mem_append_left _ (List.mem_map.mpr ⟨(⟨"NightColanderModel","leaksOf","(I)I"⟩, 57), List.mem_of_getElem? (i := 47) (by decide +kernel), rfl⟩), rfl⟩
theorem ts_48 : (.selects "NightColanderModel" ⟨"NightColanderModel","setBucket","(I)V"⟩ ⟨"NightColanderModel","setBucket","(I)V"⟩ : Cond) ∈ zTB := List.mem_filter.mpr ⟨List.mem_append_left _ (List.mem_map.mpr ⟨(⟨"NightColanderModel","setBucket","(I)V"⟩, 57), List.mem_of_getElem? (i := 48) (by decide +kernel), rfl⟩), rfl⟩
theorem ts_49 : (.selects "NightColanderModel" ⟨"NightColanderModel","paysOf","(II)I"⟩ ⟨"NightColanderModel","paysOf","(II)I"⟩ : Cond) ∈ zTB := List.mem_filter.mpr ⟨List.mem_append_left _ (List.mem_map.mpr ⟨(⟨"NightColanderModel","paysOf","(II)I"⟩, 57), List.mem_of_getElem? (i := 49) (by decide +kernel), rfl⟩), rfl⟩
theorem ts_50 : (.selects "NightColanderModel" ⟨"NightColanderModel","isBarred","(II)Z"⟩ ⟨"NightColanderModel","isBarred","(II)Z"⟩ : Cond) ∈ zTB := List.mem_filter.mpr ⟨List.mem_append_left _ (List.mem_map.mpr ⟨(⟨"NightColanderModel","isBarred","(II)Z"⟩, 57), List.mem_of_getElem? (i := 50) (by decide +kernel), rfl⟩), rfl⟩
theorem ts_51 : (.selects "NightColanderModel" ⟨"NightColanderModel","flowOn","(I)I"⟩ ⟨"NightColanderModel","flowOn","(I)I"⟩ : Cond) ∈ zTB := List.mem_filter.mpr ⟨List.mem_append_left _ (List.mem_map.mpr ⟨(⟨"NightColanderModel","flowOn","(I)I"⟩, 57), List.mem_of_getElem? (i := 51) (by decide +kernel), rfl⟩), rfl⟩
theorem ts_52 : (.selects "NightColanderModel" ⟨"NightColanderModel","holeAbove","(III)I"⟩ ⟨"NightColanderModel","holeAbove","(III)I"⟩ : Cond) ∈ zTB := List.mem_filter.mpr ⟨List.mem_append_left _ (List.mem_map.mpr ⟨(⟨"NightColanderModel","holeAbove","(III)I"⟩, 57), List.mem_of_getElem? (i := 52) (by decide +kernel), rfl⟩), rfl⟩
theorem ts_53 : (.selects "NightColanderModel" ⟨"NightColanderModel","four","(I)V"⟩ ⟨"NightColanderModel","four","(I)V"⟩ : Cond) ∈ zTB := List.mem_filter.mpr ⟨List.mem_append_left _ (List.mem_map.mpr ⟨(⟨"NightColanderModel","four","(I)V"⟩, 57), List.mem_of_getElem? (i := 53) (by decide +kernel), rfl⟩), rfl⟩
theorem ts_54 : (.selects "NightColanderModel" ⟨"NightColanderModel","beginText","(Z)V"⟩ ⟨"NightColanderModel","beginText","(Z)V"⟩ : Cond) ∈ zTB := List.mem_filter.mpr ⟨List.mem_append_left _ (List.mem_map.mpr ⟨(⟨"NightColanderModel","beginText","(Z)V"⟩, 57), List.mem_of_getElem? (i := 54) (by decide +kernel), rfl⟩), rfl⟩
theorem ts_55 : (.selects "NightColanderModel" ⟨"NightColanderModel","begin","()V"⟩ ⟨"NightColanderModel","begin","()V"⟩ : Cond) ∈ zTB := List.mem_filter.mpr ⟨List.mem_append_left _ (List.mem_map.mpr ⟨(⟨"NightColanderModel","begin","()V"⟩, 57), List.mem_of_getElem? (i := 55) (by decide +kernel), rfl⟩), rfl⟩
theorem ts_56 : (.selects "NightColanderModel" ⟨"NightColanderModel","next","()V"⟩ ⟨"NightColanderModel","next","()V"⟩ : Cond) ∈ zTB := List.mem_filter.mpr ⟨List.mem_append_left _ (List.mem_map.mpr ⟨(⟨"NightColanderModel","next","()V"⟩, 57), List.mem_of_getElem? (i := 56) (by decide +kernel), rfl⟩), rfl⟩
theorem ts_57 : (.selects "NightColanderModel" ⟨"NightColanderModel","readLaw","()V"⟩ ⟨"NightColanderModel","readLaw","()V"⟩ : Cond) ∈ zTB := List.mem_filter.mpr ⟨List.mem_append_left _ (List.mem_map.mpr ⟨(⟨"NightColanderModel","readLaw","()V"⟩, 57), List.mem_of_getElem? (i := 57) (by decide +kernel), rfl⟩), rfl⟩
theorem ts_58 : (.selects "NightColanderModel" ⟨"NightColanderModel","isWord","(J)Z"⟩ ⟨"NightColanderModel","isWord","(J)Z"⟩ : Cond) ∈ zTB := List.mem_filter.mpr ⟨List.mem_append_left _ (List.mem_map.mpr ⟨(⟨"NightColanderModel","isWord","(J)Z"⟩, 57), List.mem_of_getElem? (i := 58) (by decide +kernel), rfl⟩), rfl⟩
theorem ts_59 : (.selects "NightColanderModel" ⟨"NightColanderModel","must","(Z)V"⟩ ⟨"NightColanderModel","must","(Z)V"⟩ : Cond) ∈ zTB := List.mem_filter.mpr ⟨List.mem_append_left _ (List.mem_map.mpr ⟨(⟨"NightColanderModel","must","(Z)V"⟩, 57), List.mem_of_getElem? (i := 59) (by decide +kernel), rfl⟩), rfl⟩
theorem ts_60 : (.selects "NightColanderModel" ⟨"NightColanderModel","readExpression","(Z)V"⟩ ⟨"NightColanderModel","readExpression","(Z)V"⟩ : Cond) ∈ zTB := List.mem_filter.mpr ⟨List.mem_append_left _ (List.mem_map.mpr ⟨(⟨"NightColanderModel","readExpression","(Z)V"⟩, 57), List.mem_of_getElem? (i := 60) (by decide +kernel), rfl⟩), rfl⟩
theorem ts_61 : (.selects "NightColanderModel" ⟨"NightColanderModel","readPlain","()I"⟩ ⟨"NightColanderModel","readPlain","()I"⟩ : Cond) ∈ zTB := List.mem_filter.mpr ⟨List.mem_append_left _ (List.mem_map.mpr ⟨(⟨"NightColanderModel","readPlain","()I"⟩, 57), List.mem_of_getElem? (i := 61) (by decide +kernel), rfl⟩), rfl⟩
theorem ts_62 : (.selects "NightColanderModel" ⟨"NightColanderModel","push","(II)V"⟩ ⟨"NightColanderModel","push","(II)V"⟩ : Cond) ∈ zTB := List.mem_filter.mpr ⟨List.mem_append_left _ (List.mem_map.mpr ⟨(⟨"NightColanderModel","push","(II)V"⟩, 57), List.mem_of_getElem? (i := 62) (by decide +kernel), rfl⟩), rfl⟩
theorem ts_63 : (.selects "NightColanderModel" ⟨"NightColanderModel","isSign","(I)Z"⟩ ⟨"NightColanderModel","isSign","(I)Z"⟩ : Cond) ∈ zTB := List.mem_filter.mpr ⟨List.mem_append_left _ (List.mem_map.mpr ⟨(⟨"NightColanderModel","isSign","(I)Z"⟩, 57), List.mem_of_getElem? (i := 63) (by decide +kernel), rfl⟩), rfl⟩
theorem ts_64 : (.selects "NightColanderModel" ⟨"NightColanderModel","openBracket","(I)V"⟩ ⟨"NightColanderModel","openBracket","(I)V"⟩ : Cond) ∈ zTB := List.mem_filter.mpr ⟨List.mem_append_left _ (List.mem_map.mpr ⟨(⟨"NightColanderModel","openBracket","(I)V"⟩, 57), List.mem_of_getElem? (i := 64) (by decide +kernel), rfl⟩), rfl⟩
theorem ts_65 : (.selects "NightColanderModel" ⟨"NightColanderModel","readPart","()I"⟩ ⟨"NightColanderModel","readPart","()I"⟩ : Cond) ∈ zTB := List.mem_filter.mpr ⟨List.mem_append_left _ (List.mem_map.mpr ⟨(⟨"NightColanderModel","readPart","()I"⟩, 57), List.mem_of_getElem? (i := 65) (by decide +kernel), rfl⟩), rfl⟩
theorem ts_66 : (.selects "NightColanderModel" ⟨"NightColanderModel","orderPartAt","()I"⟩ ⟨"NightColanderModel","orderPartAt","()I"⟩ : Cond) ∈ zTB := List.mem_filter.mpr ⟨List.mem_append_left _ (List.mem_map.mpr ⟨(⟨"NightColanderModel","orderPartAt","()I"⟩, 57), List.mem_of_getElem? (i := 66) (by decide +kernel), rfl⟩), rfl⟩
theorem ts_67 : (.selects "NightColanderModel" ⟨"NightColanderModel","partAt","()I"⟩ ⟨"NightColanderModel","partAt","()I"⟩ : Cond) ∈ zTB := List.mem_filter.mpr ⟨List.mem_append_left _ (List.mem_map.mpr ⟨(⟨"NightColanderModel","partAt","()I"⟩, 57), List.mem_of_getElem? (i := 67) (by decide +kernel), rfl⟩), rfl⟩
theorem ts_68 : (.selects "NightColanderModel" ⟨"NightColanderModel","leaf","(ZII)V"⟩ ⟨"NightColanderModel","leaf","(ZII)V"⟩ : Cond) ∈ zTB := List.mem_filter.mpr ⟨List.mem_append_left _ (List.mem_map.mpr ⟨(⟨"NightColanderModel","leaf","(ZII)V"⟩, 57), List.mem_of_getElem? (i := 68) (by decide +kernel), rfl⟩), rfl⟩
theorem ts_69 : (.selects "NightColanderModel" ⟨"NightColanderModel","emit","(II)V"⟩ ⟨"NightColanderModel","emit","(II)V"⟩ : Cond) ∈ zTB := List.mem_filter.mpr ⟨List.mem_append_left _ (List.mem_map.mpr ⟨(⟨"NightColanderModel","emit","(II)V"⟩, 57), List.mem_of_getElem? (i := 69) (by decide +kernel), rfl⟩), rfl⟩
theorem ts_70 : (.selects "NightColanderModel" ⟨"NightColanderModel","number","(JJ)I"⟩ ⟨"NightColanderModel","number","(JJ)I"⟩ : Cond) ∈ zTB := List.mem_filter.mpr ⟨List.mem_append_left _ (List.mem_map.mpr ⟨(⟨"NightColanderModel","number","(JJ)I"⟩, 57), List.mem_of_getElem? (i := 70) (by decide +kernel), rfl⟩), rfl⟩
theorem ts_71 : (.selects "NightColanderModel" ⟨"NightColanderModel","behindSum","(Z)I"⟩ ⟨"NightColanderModel","behindSum","(Z)I"⟩ : Cond) ∈ zTB := List.mem_filter.mpr ⟨List.mem_append_left _ (List.mem_map.mpr ⟨(⟨"NightColanderModel","behindSum","(Z)I"⟩, 57), List.mem_of_getElem? (i := 71) (by decide +kernel), rfl⟩), rfl⟩
theorem ts_72 : (.selects "NightColanderModel" ⟨"NightColanderModel","settle","(I)V"⟩ ⟨"NightColanderModel","settle","(I)V"⟩ : Cond) ∈ zTB := List.mem_filter.mpr ⟨List.mem_append_left _ (List.mem_map.mpr ⟨(⟨"NightColanderModel","settle","(I)V"⟩, 57), List.mem_of_getElem? (i := 72) (by decide +kernel), rfl⟩), rfl⟩
theorem ts_73 : (.selects "NightColanderModel" ⟨"NightColanderModel","inner","()I"⟩ ⟨"NightColanderModel","inner","()I"⟩ : Cond) ∈ zTB := List.mem_filter.mpr ⟨List.mem_append_left _ (List.mem_map.mpr ⟨(⟨"NightColanderModel","inner","()I"⟩, 57), List.mem_of_getElem? (i := 73) (by decide +kernel), rfl⟩), rfl⟩
theorem ts_74 : (.selects "NightColanderModel" ⟨"NightColanderModel","isCompared","()Z"⟩ ⟨"NightColanderModel","isCompared","()Z"⟩ : Cond) ∈ zTB := List.mem_filter.mpr ⟨List.mem_append_left _ (List.mem_map.mpr ⟨(⟨"NightColanderModel","isCompared","()Z"⟩, 57), List.mem_of_getElem? (i := 74) (by decide +kernel), rfl⟩), rfl⟩
theorem ts_75 : (.selects "NightColanderModel" ⟨"NightColanderModel","behindTest","()I"⟩ ⟨"NightColanderModel","behindTest","()I"⟩ : Cond) ∈ zTB := List.mem_filter.mpr ⟨List.mem_append_left _ (List.mem_map.mpr ⟨(⟨"NightColanderModel","behindTest","()I"⟩, 57), List.mem_of_getElem? (i := 75) (by decide +kernel), rfl⟩), rfl⟩
theorem ts_76 : (.selects "NightColanderModel" ⟨"NightColanderModel","endText","()V"⟩ ⟨"NightColanderModel","endText","()V"⟩ : Cond) ∈ zTB := List.mem_filter.mpr ⟨List.mem_append_left _ (List.mem_map.mpr ⟨(⟨"NightColanderModel","endText","()V"⟩, 57), List.mem_of_getElem? (i := 76) (by decide +kernel), rfl⟩), rfl⟩
theorem ts_77 : (.selects "NightColanderModel" ⟨"NightColanderModel","isLaw","(I)Z"⟩ ⟨"NightColanderModel","isLaw","(I)Z"⟩ : Cond) ∈ zTB := List.mem_filter.mpr ⟨List.mem_append_left _ (List.mem_map.mpr ⟨(⟨"NightColanderModel","isLaw","(I)Z"⟩, 57), List.mem_of_getElem? (i := 77) (by decide +kernel), rfl⟩), rfl⟩
theorem ts_78 : (.selects "NightColanderModel" ⟨"NightColanderModel","blockNow","(II)I"⟩ ⟨"NightColanderModel","blockNow","(II)I"⟩ : Cond) ∈ zTB := List.mem_filter.mpr ⟨List.mem_append_left _ (List.mem_map.mpr ⟨(⟨"NightColanderModel","blockNow","(II)I"⟩, 57), List.mem_of_getElem? (i := 78) (by decide +kernel), rfl⟩), rfl⟩
theorem ts_79 : (.selects "NightColanderModel" ⟨"NightColanderModel","remember","(I)V"⟩ ⟨"NightColanderModel","remember","(I)V"⟩ : Cond) ∈ zTB := List.mem_filter.mpr ⟨List.mem_append_left _ (List.mem_map.mpr ⟨(⟨"NightColanderModel","remember","(I)V"⟩, 57), List.mem_of_getElem? (i := 79) (by decide +kernel), rfl⟩), rfl⟩
theorem ts_80 : (.selects "NightColanderModel" ⟨"NightColanderModel","keepAll","(I)V"⟩ ⟨"NightColanderModel","keepAll","(I)V"⟩ : Cond) ∈ zTB := List.mem_filter.mpr ⟨List.mem_append_left _ (List.mem_map.mpr ⟨(⟨"NightColanderModel","keepAll","(I)V"⟩, 57), List.mem_of_getElem? (i := 80) (by decide +kernel), rfl⟩), rfl⟩
theorem ts_81 : (.selects "NightColanderModel" ⟨"NightColanderModel","reamNow","(II)I"⟩ ⟨"NightColanderModel","reamNow","(II)I"⟩ : Cond) ∈ zTB := List.mem_filter.mpr ⟨List.mem_append_left _ (List.mem_map.mpr ⟨(⟨"NightColanderModel","reamNow","(II)I"⟩, 57), List.mem_of_getElem? (i := 81) (by decide +kernel), rfl⟩), rfl⟩
theorem ts_82 : (.selects "NightColanderModel" ⟨"NightColanderModel","setNow","(II)I"⟩ ⟨"NightColanderModel","setNow","(II)I"⟩ : Cond) ∈ zTB := List.mem_filter.mpr ⟨List.mem_append_left _ (List.mem_map.mpr ⟨(⟨"NightColanderModel","setNow","(II)I"⟩, 57), List.mem_of_getElem? (i := 82) (by decide +kernel), rfl⟩), rfl⟩
theorem ts_83 : (.selects "NightColanderModel" ⟨"NightColanderModel","passNow","()I"⟩ ⟨"NightColanderModel","passNow","()I"⟩ : Cond) ∈ zTB := List.mem_filter.mpr ⟨List.mem_append_left _ (List.mem_map.mpr ⟨(⟨"NightColanderModel","passNow","()I"⟩, 57), List.mem_of_getElem? (i := 83) (by decide +kernel), rfl⟩), rfl⟩
theorem ts_84 : (.selects "NightColanderModel" ⟨"NightColanderModel","passIt","()I"⟩ ⟨"NightColanderModel","passIt","()I"⟩ : Cond) ∈ zTB := List.mem_filter.mpr ⟨List.mem_append_left _ (List.mem_map.mpr ⟨(⟨"NightColanderModel","passIt","()I"⟩, 57), List.mem_of_getElem? (i := 84) (by decide +kernel), rfl⟩), rfl⟩
theorem ts_85 : (.selects "NightColanderModel" ⟨"NightColanderModel","layFlow","()V"⟩ ⟨"NightColanderModel","layFlow","()V"⟩ : Cond) ∈ zTB := List.mem_filter.mpr ⟨List.mem_append_left _ (List.mem_map.mpr ⟨(⟨"NightColanderModel","layFlow","()V"⟩, 57), List.mem_of_getElem? (i := 85) (by decide +kernel), rfl⟩), rfl⟩
theorem ts_86 : (.selects "NightColanderModel" ⟨"NightColanderModel","catchIn","(II)I"⟩ ⟨"NightColanderModel","catchIn","(II)I"⟩ : Cond) ∈ zTB := List.mem_filter.mpr ⟨List.mem_append_left _ (List.mem_map.mpr ⟨(⟨"NightColanderModel","catchIn","(II)I"⟩, 57), List.mem_of_getElem? (i := 86) (by decide +kernel), rfl⟩), rfl⟩
theorem ts_87 : (.selects "NightColanderModel" ⟨"NightColanderModel","turnAll","()V"⟩ ⟨"NightColanderModel","turnAll","()V"⟩ : Cond) ∈ zTB := List.mem_filter.mpr ⟨List.mem_append_left _ (List.mem_map.mpr ⟨(⟨"NightColanderModel","turnAll","()V"⟩, 57), List.mem_of_getElem? (i := 87) (by decide +kernel), rfl⟩), rfl⟩
theorem ts_88 : (.selects "NightColanderModel" ⟨"NightColanderModel","layCaught","(I)V"⟩ ⟨"NightColanderModel","layCaught","(I)V"⟩ : Cond) ∈ zTB := List.mem_filter.mpr ⟨List.mem_append_left _ (List.mem_map.mpr ⟨(⟨"NightColanderModel","layCaught","(I)V"⟩, 57), List.mem_of_getElem? (i := 88) (by decide +kernel), rfl⟩), rfl⟩
theorem ts_89 : (.selects "NightColanderModel" ⟨"NightColanderModel","findPlaced","()I"⟩ ⟨"NightColanderModel","findPlaced","()I"⟩ : Cond) ∈ zTB := List.mem_filter.mpr ⟨List.mem_append_left _ (List.mem_map.mpr ⟨(⟨"NightColanderModel","findPlaced","()I"⟩, 57), List.mem_of_getElem? (i := 89) (by decide +kernel), rfl⟩), rfl⟩
theorem ts_90 : (.selects "NightColanderModel" ⟨"NightColanderModel","isNew","(I)Z"⟩ ⟨"NightColanderModel","isNew","(I)Z"⟩ : Cond) ∈ zTB := List.mem_filter.mpr ⟨List.mem_append_left _ (List.mem_map.mpr ⟨(⟨"NightColanderModel","isNew","(I)Z"⟩, 57), List.mem_of_getElem? (i := 90) (by decide +kernel), rfl⟩), rfl⟩
theorem ts_91 : (.selects "NightColanderModel" ⟨"NightColanderModel","layFalls","()V"⟩ ⟨"NightColanderModel","layFalls","()V"⟩ : Cond) ∈ zTB := List.mem_filter.mpr ⟨List.mem_append_left _ (List.mem_map.mpr ⟨(⟨"NightColanderModel","layFalls","()V"⟩, 57), List.mem_of_getElem? (i := 91) (by decide +kernel), rfl⟩), rfl⟩
theorem ts_92 : (.selects "NightColanderModel" ⟨"NightColanderModel","canBe","(I)Z"⟩ ⟨"NightColanderModel","canBe","(I)Z"⟩ : Cond) ∈ zTB := List.mem_filter.mpr ⟨List.mem_append_left _ (List.mem_map.mpr ⟨(⟨"NightColanderModel","canBe","(I)Z"⟩, 57), List.mem_of_getElem? (i := 92) (by decide +kernel), rfl⟩), rfl⟩
theorem ts_93 : (.selects "NightColanderModel" ⟨"NightColanderModel","fallsOn","(II)I"⟩ ⟨"NightColanderModel","fallsOn","(II)I"⟩ : Cond) ∈ zTB := List.mem_filter.mpr ⟨List.mem_append_left _ (List.mem_map.mpr ⟨(⟨"NightColanderModel","fallsOn","(II)I"⟩, 57), List.mem_of_getElem? (i := 93) (by decide +kernel), rfl⟩), rfl⟩
theorem ts_94 : (.selects "NightColanderModel" ⟨"NightColanderModel","stepsTo","(I)I"⟩ ⟨"NightColanderModel","stepsTo","(I)I"⟩ : Cond) ∈ zTB := List.mem_filter.mpr ⟨List.mem_append_left _ (List.mem_map.mpr ⟨(⟨"NightColanderModel","stepsTo","(I)I"⟩, 57), List.mem_of_getElem? (i := 94) (by decide +kernel), rfl⟩), rfl⟩
theorem ts_95 : (.selects "NightColanderModel" ⟨"NightColanderModel","isWanted","(I)Z"⟩ ⟨"NightColanderModel","isWanted","(I)Z"⟩ : Cond) ∈ zTB := List.mem_filter.mpr ⟨List.mem_append_left _ (List.mem_map.mpr ⟨(⟨"NightColanderModel","isWanted","(I)Z"⟩, 57), List.mem_of_getElem? (i := 95) (by decide +kernel), rfl⟩), rfl⟩
theorem ts_96 : (.selects "NightColanderModel" ⟨"NightColanderModel","readOrder","()V"⟩ ⟨"NightColanderModel","readOrder","()V"⟩ : Cond) ∈ zTB := List.mem_filter.mpr ⟨List.mem_append_left _ (List.mem_map.mpr ⟨(⟨"NightColanderModel","readOrder","()V"⟩, 57), List.mem_of_getElem? (i := 96) (by decide +kernel), rfl⟩), rfl⟩
theorem ts_97 : (.selects "NightColanderModel" ⟨"NightColanderModel","readSum","(I)V"⟩ ⟨"NightColanderModel","readSum","(I)V"⟩ : Cond) ∈ zTB := List.mem_filter.mpr ⟨List.mem_append_left _ (List.mem_map.mpr ⟨(⟨"NightColanderModel","readSum","(I)V"⟩, 57), List.mem_of_getElem? (i := 97) (by decide +kernel), rfl⟩), rfl⟩
theorem ts_98 : (.selects "NightColanderModel" ⟨"NightColanderModel","run","(I)I"⟩ ⟨"NightColanderModel","run","(I)I"⟩ : Cond) ∈ zTB := List.mem_filter.mpr ⟨List.mem_append_left _ (List.mem_map.mpr ⟨(⟨"NightColanderModel","run","(I)I"⟩, 57), List.mem_of_getElem? (i := 98) (by decide +kernel), rfl⟩), rfl⟩
theorem ts_99 : (.selects "NightColanderModel" ⟨"NightColanderModel","levels","()I"⟩ ⟨"NightColanderModel","levels","()I"⟩ : Cond) ∈ zTB := List.mem_filter.mpr ⟨List.mem_append_left _ (List.mem_map.mpr ⟨(⟨"NightColanderModel","levels","()I"⟩, 57), List.mem_of_getElem? (i := 99) (by decide +kernel), rfl⟩), rfl⟩
theorem ts_100 : (.selects "NightColanderModel" ⟨"NightColanderModel","sumOf","(I)I"⟩ ⟨"NightColanderModel","sumOf","(I)I"⟩ : Cond) ∈ zTB := List.mem_filter.mpr ⟨List.mem_append_left _ (List.mem_map.mpr ⟨(⟨"NightColanderModel","sumOf","(I)I"⟩, 57), List.mem_of_getElem? (i := 100) (by decide +kernel), rfl⟩), rfl⟩
theorem ts_101 : (.selects "NightColanderModel" ⟨"NightColanderModel","act","(III)I"⟩ ⟨"NightColanderModel","act","(III)I"⟩ : Cond) ∈ zTB := List.mem_filter.mpr ⟨List.mem_append_left _ (List.mem_map.mpr ⟨(⟨"NightColanderModel","act","(III)I"⟩, 57), List.mem_of_getElem? (i := 101) (by decide +kernel), rfl⟩), rfl⟩
theorem ts_102 : (.selects "NightColanderModel" ⟨"NightColanderModel","giveBack","(I)V"⟩ ⟨"NightColanderModel","giveBack","(I)V"⟩ : Cond) ∈ zTB := List.mem_filter.mpr ⟨List.mem_append_left _ (List.mem_map.mpr ⟨(⟨"NightColanderModel","giveBack","(I)V"⟩, 57), List.mem_of_getElem? (i := 102) (by decide +kernel), rfl⟩), rfl⟩
theorem ts_103 : (.selects "NightColanderModel" ⟨"NightColanderModel","draw","(I)I"⟩ ⟨"NightColanderModel","draw","(I)I"⟩ : Cond) ∈ zTB := List.mem_filter.mpr ⟨List.mem_append_left _ (List.mem_map.mpr ⟨(⟨"NightColanderModel","draw","(I)I"⟩, 57), List.mem_of_getElem? (i := 103) (by decide +kernel), rfl⟩), rfl⟩
theorem ts_104 : (.selects "NightColanderModel" ⟨"NightColanderModel","blockedOnes","()I"⟩ ⟨"NightColanderModel","blockedOnes","()I"⟩ : Cond) ∈ zTB := List.mem_filter.mpr ⟨List.mem_append_left _ (List.mem_map.mpr ⟨(⟨"NightColanderModel","blockedOnes","()I"⟩, 57), List.mem_of_getElem? (i := 104) (by decide +kernel), rfl⟩), rfl⟩
theorem zobj : (Cond.code Lib.objectInit ⟨#[0xb1]⟩ 1 none) ∈ zTB := tw_29
theorem zcpw : Cond.native arraycopyName ∈ zTB ∧ Cond.static arraycopyName ∈ zTB ∧ Cond.initialized "java/lang/System" ∈ zTB := ⟨tw_853, tw_852, tw_20⟩
theorem zlit_0 (E : zE) : ("NightColander$Parser", 56, "block ream set pass ", eK E 0) ∈ eRR E := List.mem_of_getElem? (i := 0) rfl
theorem zlit_1 (E : zE) : ("NightColander$Parser", 58, "runs leaks pays bars ", eK E 1) ∈ eRR E := List.mem_of_getElem? (i := 1) rfl
theorem zlit_2 (E : zE) : ("NightColander$Parser", 93, "at", eK E 2) ∈ eRR E := List.mem_of_getElem? (i := 2) rfl
theorem zlit_3 (E : zE) : ("NightColander$Parser", 95, "of", eK E 3) ∈ eRR E := List.mem_of_getElem? (i := 3) rfl
theorem zlit_4 (E : zE) : ("NightColander$Parser", 155, "hour done latest caught turn level flow ", eK E 4) ∈ eRR E := List.mem_of_getElem? (i := 4) rfl
theorem zlit_5 (E : zE) : ("NightColander$Parser", 157, "ring hole bore field bucket level hour wet mood ", eK E 5) ∈ eRR E := List.mem_of_getElem? (i := 5) rfl
theorem zlit_6 (E : zE) : ("NightColander$Parser", 150, "*/%", eK E 6) ∈ eRR E := List.mem_of_getElem? (i := 6) rfl
theorem zlit_7 (E : zE) : ("NightColander$Parser", 145, "+-", eK E 7) ∈ eRR E := List.mem_of_getElem? (i := 7) rfl
theorem zlit_8 (E : zE) : ("NightColander$Parser", 100, "times", eK E 8) ∈ eRR E := List.mem_of_getElem? (i := 8) rfl
theorem zlit_9 (E : zE) : ("NightColander$Parser", 75, "if", eK E 9) ∈ eRR E := List.mem_of_getElem? (i := 9) rfl
theorem zlit_10 (E : zE) : ("NightColander$Parser", 129, "not", eK E 10) ∈ eRR E := List.mem_of_getElem? (i := 10) rfl
theorem zlit_11 (E : zE) : ("NightColander$Parser", 137, "<>=", eK E 11) ∈ eRR E := List.mem_of_getElem? (i := 11) rfl
theorem zlit_12 (E : zE) : ("NightColander$Parser", 127, "and", eK E 12) ∈ eRR E := List.mem_of_getElem? (i := 12) rfl
theorem zlit_13 (E : zE) : ("NightColander$Parser", 115, "or", eK E 13) ∈ eRR E := List.mem_of_getElem? (i := 13) rfl
theorem zsta_0 (E : zE) : ("NightColander", "MOST_TERM", "[I", .ref (eU E 0)) ∈ eRZ E := List.mem_of_getElem? (i := 0) rfl
theorem zsta_1 (E : zE) : ("NightColander$Parser", "MOST_BEHIND", "[I", .ref (eU E 1)) ∈ eRZ E := List.mem_of_getElem? (i := 1) rfl
theorem zsta_2 (E : zE) : ("NightColander$Parser", "FIRST_OF_WORD", "[I", .ref (eU E 2)) ∈ eRZ E := List.mem_of_getElem? (i := 2) rfl
theorem zstc (E : zE) : ("java/lang/String", "COMPACT_STRINGS", "Z", .int 1) ∈ eRZ E := List.mem_of_getElem? (i := 3) rfl
theorem zstw (E : zE) : ("jdk/internal/util/Preconditions", "SIOOBE_FORMATTER", "Ljava/util/function/BiFunction;", va_rf (eW E)) ∈ eRZ E := List.mem_of_getElem? (i := 4) rfl
/-- a switch: none of its numbers b0 .. b0 + m - 1 -/
theorem zo_tabP {E : zE} {Y : zY} {t : zTau} {pc : Nat} {lo : List (Nat × Value)} {sk : List Value} {S : zS} {M : zH} {k n : Nat} {dflt b0' b1 : Int} {offs : Array Int} {len : Nat} {x : Int32} (b0 m : Nat) {tgt : Nat} (hd : decode (yB Y) pc = .ok (.tableswitch dflt b0' b1 offs, len)) (ha : b0' = (b0 : Int)) (hb : b1 + 1 = ((b0 + m : Nat) : Int)) (hx : ∀ j : Nat, j < m → ¬ x = Int32.ofNat (b0 + j)) (ht : (pc : Int) + dflt = (tgt : Int)) (kk : zG E Y t tgt lo sk S M k n) : zG E Y t pc lo (.int x :: sk) S M k n := by
  refine zi_tabOut hd ?_ ht kk
  by_cases h0 : x.toInt < b0'
  · exact Or.inl h0
  · by_cases h1 : b1 < x.toInt
    · exact Or.inr h1
    · exfalso
      refine hx (x.toInt.toNat - b0) (by omega) ?_
      apply Int32.toInt_inj.mp
      have h2 := x.toInt_lt
      rw [show b0 + (x.toInt.toNat - b0) = x.toInt.toNat by omega, Int32.toInt_ofNat_of_lt (by omega)]
      omega
