/-! the law: words -/
theorem tw_22 : (.classLink "NightColanderLaw" 7 "NightColander" : Cond) ∈ zTB := List.mem_filter.mpr ⟨zm_1 (List.mem_of_getElem? (i := 22) rfl), rfl⟩
theorem tw_23 : (.instantiable "NightColander" 19 : Cond) ∈ zTB := List.mem_filter.mpr ⟨zm_1 (List.mem_of_getElem? (i := 23) rfl), rfl⟩
theorem tw_24 : (.methodLink "NightColanderLaw" 9 ⟨"NightColander","<init>","()V"⟩ : Cond) ∈ zTB := List.mem_filter.mpr ⟨zm_1 (List.mem_of_getElem? (i := 24) rfl), rfl⟩
theorem tw_25 : (.instanceMethod ⟨"NightColander","<init>","()V"⟩ : Cond) ∈ zTB := List.mem_filter.mpr ⟨zm_1 (List.mem_of_getElem? (i := 25) rfl), rfl⟩
theorem tw_26 : (.code ⟨"NightColander","<init>","()V"⟩ prog_1_method_1_code 1 (Option.none : Option FieldType) : Cond) ∈ zTB := List.mem_filter.mpr ⟨zm_1 (List.mem_of_getElem? (i := 26) rfl), rfl⟩
theorem tw_390 : (.methodLink "NightColanderLaw" 13 ⟨"NightColander","hole","(III)I"⟩ : Cond) ∈ zTB := List.mem_filter.mpr ⟨zm_2 (List.mem_of_getElem? (i := 150) rfl), rfl⟩
theorem tw_391 : (.instanceMethod ⟨"NightColander","hole","(III)I"⟩ : Cond) ∈ zTB := List.mem_filter.mpr ⟨zm_2 (List.mem_of_getElem? (i := 151) rfl), rfl⟩
theorem tw_392 : (.selects "NightColander" ⟨"NightColander","hole","(III)I"⟩ ⟨"NightColander","hole","(III)I"⟩ : Cond) ∈ zTB := List.mem_filter.mpr ⟨zm_2 (List.mem_of_getElem? (i := 152) rfl), rfl⟩
theorem tw_393 : (.code ⟨"NightColander","hole","(III)I"⟩ prog_1_method_2_code 4 (some .int) : Cond) ∈ zTB := List.mem_filter.mpr ⟨zm_2 (List.mem_of_getElem? (i := 153) rfl), rfl⟩
theorem tw_441 : (.methodLink "NightColanderLaw" 18 ⟨"NightColander","turn","(II)I"⟩ : Cond) ∈ zTB := List.mem_filter.mpr ⟨zm_2 (List.mem_of_getElem? (i := 201) rfl), rfl⟩
theorem tw_442 : (.instanceMethod ⟨"NightColander","turn","(II)I"⟩ : Cond) ∈ zTB := List.mem_filter.mpr ⟨zm_2 (List.mem_of_getElem? (i := 202) rfl), rfl⟩
theorem tw_443 : (.selects "NightColander" ⟨"NightColander","turn","(II)I"⟩ ⟨"NightColander","turn","(II)I"⟩ : Cond) ∈ zTB := List.mem_filter.mpr ⟨zm_2 (List.mem_of_getElem? (i := 203) rfl), rfl⟩
theorem tw_444 : (.code ⟨"NightColander","turn","(II)I"⟩ prog_1_method_3_code 4 (some .int) : Cond) ∈ zTB := List.mem_filter.mpr ⟨zm_2 (List.mem_of_getElem? (i := 204) rfl), rfl⟩
theorem tw_457 : (.methodLink "NightColanderLaw" 23 ⟨"NightColander","bucket","(II)I"⟩ : Cond) ∈ zTB := List.mem_filter.mpr ⟨zm_2 (List.mem_of_getElem? (i := 217) rfl), rfl⟩
theorem tw_458 : (.instanceMethod ⟨"NightColander","bucket","(II)I"⟩ : Cond) ∈ zTB := List.mem_filter.mpr ⟨zm_2 (List.mem_of_getElem? (i := 218) rfl), rfl⟩
theorem tw_459 : (.selects "NightColander" ⟨"NightColander","bucket","(II)I"⟩ ⟨"NightColander","bucket","(II)I"⟩ : Cond) ∈ zTB := List.mem_filter.mpr ⟨zm_2 (List.mem_of_getElem? (i := 219) rfl), rfl⟩
theorem tw_460 : (.code ⟨"NightColander","bucket","(II)I"⟩ prog_1_method_4_code 3 (some .int) : Cond) ∈ zTB := List.mem_filter.mpr ⟨zm_2 (List.mem_of_getElem? (i := 220) rfl), rfl⟩
theorem tw_472 : (.methodLink "NightColanderLaw" 27 ⟨"NightColander","of","(II)I"⟩ : Cond) ∈ zTB := List.mem_filter.mpr ⟨zm_2 (List.mem_of_getElem? (i := 232) rfl), rfl⟩
theorem tw_473 : (.instanceMethod ⟨"NightColander","of","(II)I"⟩ : Cond) ∈ zTB := List.mem_filter.mpr ⟨zm_2 (List.mem_of_getElem? (i := 233) rfl), rfl⟩
theorem tw_474 : (.selects "NightColander" ⟨"NightColander","of","(II)I"⟩ ⟨"NightColander","of","(II)I"⟩ : Cond) ∈ zTB := List.mem_filter.mpr ⟨zm_2 (List.mem_of_getElem? (i := 234) rfl), rfl⟩
theorem tw_475 : (.code ⟨"NightColander","of","(II)I"⟩ prog_1_method_5_code 3 (some .int) : Cond) ∈ zTB := List.mem_filter.mpr ⟨zm_2 (List.mem_of_getElem? (i := 235) rfl), rfl⟩
theorem tw_501 : (.methodLink "NightColanderLaw" 31 ⟨"NightColander","wanted","(II)I"⟩ : Cond) ∈ zTB := List.mem_filter.mpr ⟨zm_3 (List.mem_of_getElem? (i := 21) rfl), rfl⟩
theorem tw_502 : (.instanceMethod ⟨"NightColander","wanted","(II)I"⟩ : Cond) ∈ zTB := List.mem_filter.mpr ⟨zm_3 (List.mem_of_getElem? (i := 22) rfl), rfl⟩
theorem tw_503 : (.selects "NightColander" ⟨"NightColander","wanted","(II)I"⟩ ⟨"NightColander","wanted","(II)I"⟩ : Cond) ∈ zTB := List.mem_filter.mpr ⟨zm_3 (List.mem_of_getElem? (i := 23) rfl), rfl⟩
theorem tw_504 : (.code ⟨"NightColander","wanted","(II)I"⟩ prog_1_method_6_code 4 (some .int) : Cond) ∈ zTB := List.mem_filter.mpr ⟨zm_3 (List.mem_of_getElem? (i := 24) rfl), rfl⟩
theorem tw_505 : (.methodLink "NightColanderLaw" 35 ⟨"NightColander","flow","(I)I"⟩ : Cond) ∈ zTB := List.mem_filter.mpr ⟨zm_3 (List.mem_of_getElem? (i := 25) rfl), rfl⟩
theorem tw_506 : (.instanceMethod ⟨"NightColander","flow","(I)I"⟩ : Cond) ∈ zTB := List.mem_filter.mpr ⟨zm_3 (List.mem_of_getElem? (i := 26) rfl), rfl⟩
theorem tw_507 : (.selects "NightColander" ⟨"NightColander","flow","(I)I"⟩ ⟨"NightColander","flow","(I)I"⟩ : Cond) ∈ zTB := List.mem_filter.mpr ⟨zm_3 (List.mem_of_getElem? (i := 27) rfl), rfl⟩
theorem tw_508 : (.code ⟨"NightColander","flow","(I)I"⟩ prog_1_method_7_code 2 (some .int) : Cond) ∈ zTB := List.mem_filter.mpr ⟨zm_3 (List.mem_of_getElem? (i := 28) rfl), rfl⟩
theorem tw_518 : (.methodLink "NightColanderLaw" 40 ⟨"NightColander","terms","(II)I"⟩ : Cond) ∈ zTB := List.mem_filter.mpr ⟨zm_3 (List.mem_of_getElem? (i := 38) rfl), rfl⟩
theorem tw_519 : (.instanceMethod ⟨"NightColander","terms","(II)I"⟩ : Cond) ∈ zTB := List.mem_filter.mpr ⟨zm_3 (List.mem_of_getElem? (i := 39) rfl), rfl⟩
theorem tw_520 : (.selects "NightColander" ⟨"NightColander","terms","(II)I"⟩ ⟨"NightColander","terms","(II)I"⟩ : Cond) ∈ zTB := List.mem_filter.mpr ⟨zm_3 (List.mem_of_getElem? (i := 40) rfl), rfl⟩
theorem tw_521 : (.code ⟨"NightColander","terms","(II)I"⟩ prog_1_method_8_code 4 (some .int) : Cond) ∈ zTB := List.mem_filter.mpr ⟨zm_3 (List.mem_of_getElem? (i := 41) rfl), rfl⟩
theorem tw_524 : (.methodLink "NightColanderLaw" 44 ⟨"NightColander","feed","(IIIII)I"⟩ : Cond) ∈ zTB := List.mem_filter.mpr ⟨zm_3 (List.mem_of_getElem? (i := 44) rfl), rfl⟩
theorem tw_525 : (.instanceMethod ⟨"NightColander","feed","(IIIII)I"⟩ : Cond) ∈ zTB := List.mem_filter.mpr ⟨zm_3 (List.mem_of_getElem? (i := 45) rfl), rfl⟩
theorem tw_526 : (.selects "NightColander" ⟨"NightColander","feed","(IIIII)I"⟩ ⟨"NightColander","feed","(IIIII)I"⟩ : Cond) ∈ zTB := List.mem_filter.mpr ⟨zm_3 (List.mem_of_getElem? (i := 46) rfl), rfl⟩
theorem tw_527 : (.code ⟨"NightColander","feed","(IIIII)I"⟩ prog_1_method_9_code 6 (some .int) : Cond) ∈ zTB := List.mem_filter.mpr ⟨zm_3 (List.mem_of_getElem? (i := 47) rfl), rfl⟩
theorem tw_536 : (.methodLink "NightColanderLaw" 49 ⟨"NightColander","end","(I)I"⟩ : Cond) ∈ zTB := List.mem_filter.mpr ⟨zm_3 (List.mem_of_getElem? (i := 56) rfl), rfl⟩
theorem tw_537 : (.instanceMethod ⟨"NightColander","end","(I)I"⟩ : Cond) ∈ zTB := List.mem_filter.mpr ⟨zm_3 (List.mem_of_getElem? (i := 57) rfl), rfl⟩
theorem tw_538 : (.selects "NightColander" ⟨"NightColander","end","(I)I"⟩ ⟨"NightColander","end","(I)I"⟩ : Cond) ∈ zTB := List.mem_filter.mpr ⟨zm_3 (List.mem_of_getElem? (i := 58) rfl), rfl⟩
theorem tw_539 : (.code ⟨"NightColander","end","(I)I"⟩ prog_1_method_10_code 2 (some .int) : Cond) ∈ zTB := List.mem_filter.mpr ⟨zm_3 (List.mem_of_getElem? (i := 59) rfl), rfl⟩
theorem tw_540 : (.methodLink "NightColanderLaw" 53 ⟨"NightColander","row","()I"⟩ : Cond) ∈ zTB := List.mem_filter.mpr ⟨zm_3 (List.mem_of_getElem? (i := 60) rfl), rfl⟩
theorem tw_541 : (.instanceMethod ⟨"NightColander","row","()I"⟩ : Cond) ∈ zTB := List.mem_filter.mpr ⟨zm_3 (List.mem_of_getElem? (i := 61) rfl), rfl⟩
theorem tw_542 : (.selects "NightColander" ⟨"NightColander","row","()I"⟩ ⟨"NightColander","row","()I"⟩ : Cond) ∈ zTB := List.mem_filter.mpr ⟨zm_3 (List.mem_of_getElem? (i := 62) rfl), rfl⟩
theorem tw_543 : (.code ⟨"NightColander","row","()I"⟩ prog_1_method_11_code 4 (some .int) : Cond) ∈ zTB := List.mem_filter.mpr ⟨zm_3 (List.mem_of_getElem? (i := 63) rfl), rfl⟩
theorem tw_552 : (.methodLink "NightColanderLaw" 58 ⟨"NightColander","peas","()I"⟩ : Cond) ∈ zTB := List.mem_filter.mpr ⟨zm_3 (List.mem_of_getElem? (i := 72) rfl), rfl⟩
theorem tw_553 : (.instanceMethod ⟨"NightColander","peas","()I"⟩ : Cond) ∈ zTB := List.mem_filter.mpr ⟨zm_3 (List.mem_of_getElem? (i := 73) rfl), rfl⟩
theorem tw_554 : (.selects "NightColander" ⟨"NightColander","peas","()I"⟩ ⟨"NightColander","peas","()I"⟩ : Cond) ∈ zTB := List.mem_filter.mpr ⟨zm_3 (List.mem_of_getElem? (i := 74) rfl), rfl⟩
theorem tw_555 : (.code ⟨"NightColander","peas","()I"⟩ prog_1_method_12_code 1 (some .int) : Cond) ∈ zTB := List.mem_filter.mpr ⟨zm_3 (List.mem_of_getElem? (i := 75) rfl), rfl⟩
theorem tw_556 : (.methodLink "NightColanderLaw" 62 ⟨"NightColander","law","()I"⟩ : Cond) ∈ zTB := List.mem_filter.mpr ⟨zm_3 (List.mem_of_getElem? (i := 76) rfl), rfl⟩
theorem tw_557 : (.instanceMethod ⟨"NightColander","law","()I"⟩ : Cond) ∈ zTB := List.mem_filter.mpr ⟨zm_3 (List.mem_of_getElem? (i := 77) rfl), rfl⟩
theorem tw_558 : (.selects "NightColander" ⟨"NightColander","law","()I"⟩ ⟨"NightColander","law","()I"⟩ : Cond) ∈ zTB := List.mem_filter.mpr ⟨zm_3 (List.mem_of_getElem? (i := 78) rfl), rfl⟩
theorem tw_559 : (.code ⟨"NightColander","law","()I"⟩ prog_1_method_13_code 1 (some .int) : Cond) ∈ zTB := List.mem_filter.mpr ⟨zm_3 (List.mem_of_getElem? (i := 79) rfl), rfl⟩
theorem tw_858 : (.methodLink "NightColanderLaw" 66 ⟨"NightColander","orders","()I"⟩ : Cond) ∈ zTB := List.mem_filter.mpr ⟨zm_4 (List.mem_of_getElem? (i := 138) rfl), rfl⟩
theorem tw_859 : (.instanceMethod ⟨"NightColander","orders","()I"⟩ : Cond) ∈ zTB := List.mem_filter.mpr ⟨zm_4 (List.mem_of_getElem? (i := 139) rfl), rfl⟩
theorem tw_860 : (.selects "NightColander" ⟨"NightColander","orders","()I"⟩ ⟨"NightColander","orders","()I"⟩ : Cond) ∈ zTB := List.mem_filter.mpr ⟨zm_4 (List.mem_of_getElem? (i := 140) rfl), rfl⟩
theorem tw_861 : (.code ⟨"NightColander","orders","()I"⟩ prog_1_method_14_code 1 (some .int) : Cond) ∈ zTB := List.mem_filter.mpr ⟨zm_4 (List.mem_of_getElem? (i := 141) rfl), rfl⟩
theorem tw_928 : (.methodLink "NightColanderLaw" 70 ⟨"NightColander","fault","()I"⟩ : Cond) ∈ zTB := List.mem_filter.mpr ⟨zm_4 (List.mem_of_getElem? (i := 208) rfl), rfl⟩
theorem tw_929 : (.instanceMethod ⟨"NightColander","fault","()I"⟩ : Cond) ∈ zTB := List.mem_filter.mpr ⟨zm_4 (List.mem_of_getElem? (i := 209) rfl), rfl⟩
theorem tw_930 : (.selects "NightColander" ⟨"NightColander","fault","()I"⟩ ⟨"NightColander","fault","()I"⟩ : Cond) ∈ zTB := List.mem_filter.mpr ⟨zm_4 (List.mem_of_getElem? (i := 210) rfl), rfl⟩
theorem tw_931 : (.code ⟨"NightColander","fault","()I"⟩ prog_1_method_15_code 1 (some .int) : Cond) ∈ zTB := List.mem_filter.mpr ⟨zm_4 (List.mem_of_getElem? (i := 211) rfl), rfl⟩
theorem tw_932 : (.methodLink "NightColanderLaw" 74 ⟨"NightColander","stopped","()I"⟩ : Cond) ∈ zTB := List.mem_filter.mpr ⟨zm_4 (List.mem_of_getElem? (i := 212) rfl), rfl⟩
theorem tw_933 : (.instanceMethod ⟨"NightColander","stopped","()I"⟩ : Cond) ∈ zTB := List.mem_filter.mpr ⟨zm_4 (List.mem_of_getElem? (i := 213) rfl), rfl⟩
theorem tw_934 : (.selects "NightColander" ⟨"NightColander","stopped","()I"⟩ ⟨"NightColander","stopped","()I"⟩ : Cond) ∈ zTB := List.mem_filter.mpr ⟨zm_4 (List.mem_of_getElem? (i := 214) rfl), rfl⟩
theorem tw_935 : (.code ⟨"NightColander","stopped","()I"⟩ prog_1_method_16_code 1 (some .int) : Cond) ∈ zTB := List.mem_filter.mpr ⟨zm_4 (List.mem_of_getElem? (i := 215) rfl), rfl⟩
theorem tw_936 : (.methodLink "NightColanderLaw" 78 ⟨"NightColander","force","(I)I"⟩ : Cond) ∈ zTB := List.mem_filter.mpr ⟨zm_4 (List.mem_of_getElem? (i := 216) rfl), rfl⟩
theorem tw_937 : (.instanceMethod ⟨"NightColander","force","(I)I"⟩ : Cond) ∈ zTB := List.mem_filter.mpr ⟨zm_4 (List.mem_of_getElem? (i := 217) rfl), rfl⟩
theorem tw_938 : (.selects "NightColander" ⟨"NightColander","force","(I)I"⟩ ⟨"NightColander","force","(I)I"⟩ : Cond) ∈ zTB := List.mem_filter.mpr ⟨zm_4 (List.mem_of_getElem? (i := 218) rfl), rfl⟩
theorem tw_939 : (.code ⟨"NightColander","force","(I)I"⟩ prog_1_method_17_code 3 (some .int) : Cond) ∈ zTB := List.mem_filter.mpr ⟨zm_4 (List.mem_of_getElem? (i := 219) rfl), rfl⟩
theorem tw_944 : (.methodLink "NightColanderLaw" 82 ⟨"NightColander","block","(II)I"⟩ : Cond) ∈ zTB := List.mem_filter.mpr ⟨zm_4 (List.mem_of_getElem? (i := 224) rfl), rfl⟩
theorem tw_945 : (.instanceMethod ⟨"NightColander","block","(II)I"⟩ : Cond) ∈ zTB := List.mem_filter.mpr ⟨zm_4 (List.mem_of_getElem? (i := 225) rfl), rfl⟩
theorem tw_946 : (.selects "NightColander" ⟨"NightColander","block","(II)I"⟩ ⟨"NightColander","block","(II)I"⟩ : Cond) ∈ zTB := List.mem_filter.mpr ⟨zm_4 (List.mem_of_getElem? (i := 226) rfl), rfl⟩
theorem tw_947 : (.code ⟨"NightColander","block","(II)I"⟩ prog_1_method_18_code 3 (some .int) : Cond) ∈ zTB := List.mem_filter.mpr ⟨zm_4 (List.mem_of_getElem? (i := 227) rfl), rfl⟩
theorem tw_953 : (.methodLink "NightColanderLaw" 86 ⟨"NightColander","ream","(II)I"⟩ : Cond) ∈ zTB := List.mem_filter.mpr ⟨zm_4 (List.mem_of_getElem? (i := 233) rfl), rfl⟩
theorem tw_954 : (.instanceMethod ⟨"NightColander","ream","(II)I"⟩ : Cond) ∈ zTB := List.mem_filter.mpr ⟨zm_4 (List.mem_of_getElem? (i := 234) rfl), rfl⟩
theorem tw_955 : (.selects "NightColander" ⟨"NightColander","ream","(II)I"⟩ ⟨"NightColander","ream","(II)I"⟩ : Cond) ∈ zTB := List.mem_filter.mpr ⟨zm_4 (List.mem_of_getElem? (i := 235) rfl), rfl⟩
theorem tw_956 : (.code ⟨"NightColander","ream","(II)I"⟩ prog_1_method_19_code 3 (some .int) : Cond) ∈ zTB := List.mem_filter.mpr ⟨zm_4 (List.mem_of_getElem? (i := 236) rfl), rfl⟩
theorem tw_957 : (.methodLink "NightColanderLaw" 90 ⟨"NightColander","set","(II)I"⟩ : Cond) ∈ zTB := List.mem_filter.mpr ⟨zm_4 (List.mem_of_getElem? (i := 237) rfl), rfl⟩
theorem tw_958 : (.instanceMethod ⟨"NightColander","set","(II)I"⟩ : Cond) ∈ zTB := List.mem_filter.mpr ⟨zm_4 (List.mem_of_getElem? (i := 238) rfl), rfl⟩
theorem tw_959 : (.selects "NightColander" ⟨"NightColander","set","(II)I"⟩ ⟨"NightColander","set","(II)I"⟩ : Cond) ∈ zTB := List.mem_filter.mpr ⟨zm_4 (List.mem_of_getElem? (i := 239) rfl), rfl⟩
theorem tw_960 : (.code ⟨"NightColander","set","(II)I"⟩ prog_1_method_20_code 3 (some .int) : Cond) ∈ zTB := List.mem_filter.mpr ⟨zm_5 (List.mem_of_getElem? (i := 0) rfl), rfl⟩
theorem tw_961 : (.methodLink "NightColanderLaw" 94 ⟨"NightColander","pass","()I"⟩ : Cond) ∈ zTB := List.mem_filter.mpr ⟨zm_5 (List.mem_of_getElem? (i := 1) rfl), rfl⟩
theorem tw_962 : (.instanceMethod ⟨"NightColander","pass","()I"⟩ : Cond) ∈ zTB := List.mem_filter.mpr ⟨zm_5 (List.mem_of_getElem? (i := 2) rfl), rfl⟩
theorem tw_963 : (.selects "NightColander" ⟨"NightColander","pass","()I"⟩ ⟨"NightColander","pass","()I"⟩ : Cond) ∈ zTB := List.mem_filter.mpr ⟨zm_5 (List.mem_of_getElem? (i := 3) rfl), rfl⟩
theorem tw_964 : (.code ⟨"NightColander","pass","()I"⟩ prog_1_method_21_code 1 (some .int) : Cond) ∈ zTB := List.mem_filter.mpr ⟨zm_5 (List.mem_of_getElem? (i := 4) rfl), rfl⟩
theorem tw_965 : (.methodLink "NightColanderLaw" 98 ⟨"NightColander","undo","()I"⟩ : Cond) ∈ zTB := List.mem_filter.mpr ⟨zm_5 (List.mem_of_getElem? (i := 5) rfl), rfl⟩
theorem tw_966 : (.instanceMethod ⟨"NightColander","undo","()I"⟩ : Cond) ∈ zTB := List.mem_filter.mpr ⟨zm_5 (List.mem_of_getElem? (i := 6) rfl), rfl⟩
theorem tw_967 : (.selects "NightColander" ⟨"NightColander","undo","()I"⟩ ⟨"NightColander","undo","()I"⟩ : Cond) ∈ zTB := List.mem_filter.mpr ⟨zm_5 (List.mem_of_getElem? (i := 7) rfl), rfl⟩
theorem tw_968 : (.code ⟨"NightColander","undo","()I"⟩ prog_1_method_22_code 1 (some .int) : Cond) ∈ zTB := List.mem_filter.mpr ⟨zm_5 (List.mem_of_getElem? (i := 8) rfl), rfl⟩
theorem tw_974 : (.methodLink "NightColanderLaw" 102 ⟨"NightColander","when","(II)I"⟩ : Cond) ∈ zTB := List.mem_filter.mpr ⟨zm_5 (List.mem_of_getElem? (i := 14) rfl), rfl⟩
theorem tw_975 : (.instanceMethod ⟨"NightColander","when","(II)I"⟩ : Cond) ∈ zTB := List.mem_filter.mpr ⟨zm_5 (List.mem_of_getElem? (i := 15) rfl), rfl⟩
theorem tw_976 : (.selects "NightColander" ⟨"NightColander","when","(II)I"⟩ ⟨"NightColander","when","(II)I"⟩ : Cond) ∈ zTB := List.mem_filter.mpr ⟨zm_5 (List.mem_of_getElem? (i := 16) rfl), rfl⟩
theorem tw_977 : (.code ⟨"NightColander","when","(II)I"⟩ prog_1_method_23_code 3 (some .int) : Cond) ∈ zTB := List.mem_filter.mpr ⟨zm_5 (List.mem_of_getElem? (i := 17) rfl), rfl⟩
theorem tw_985 : (.methodLink "NightColanderLaw" 106 ⟨"NightColander","placed","(II)I"⟩ : Cond) ∈ zTB := List.mem_filter.mpr ⟨zm_5 (List.mem_of_getElem? (i := 25) rfl), rfl⟩
theorem tw_986 : (.instanceMethod ⟨"NightColander","placed","(II)I"⟩ : Cond) ∈ zTB := List.mem_filter.mpr ⟨zm_5 (List.mem_of_getElem? (i := 26) rfl), rfl⟩
theorem tw_987 : (.selects "NightColander" ⟨"NightColander","placed","(II)I"⟩ ⟨"NightColander","placed","(II)I"⟩ : Cond) ∈ zTB := List.mem_filter.mpr ⟨zm_5 (List.mem_of_getElem? (i := 27) rfl), rfl⟩
theorem tw_988 : (.code ⟨"NightColander","placed","(II)I"⟩ prog_1_method_24_code 3 (some .int) : Cond) ∈ zTB := List.mem_filter.mpr ⟨zm_5 (List.mem_of_getElem? (i := 28) rfl), rfl⟩
theorem tw_1014 : (.methodLink "NightColanderLaw" 110 ⟨"NightColander","seen","(II)I"⟩ : Cond) ∈ zTB := List.mem_filter.mpr ⟨zm_5 (List.mem_of_getElem? (i := 54) rfl), rfl⟩
theorem tw_1015 : (.instanceMethod ⟨"NightColander","seen","(II)I"⟩ : Cond) ∈ zTB := List.mem_filter.mpr ⟨zm_5 (List.mem_of_getElem? (i := 55) rfl), rfl⟩
theorem tw_1016 : (.selects "NightColander" ⟨"NightColander","seen","(II)I"⟩ ⟨"NightColander","seen","(II)I"⟩ : Cond) ∈ zTB := List.mem_filter.mpr ⟨zm_5 (List.mem_of_getElem? (i := 56) rfl), rfl⟩
theorem tw_1017 : (.code ⟨"NightColander","seen","(II)I"⟩ prog_1_method_25_code 3 (some .int) : Cond) ∈ zTB := List.mem_filter.mpr ⟨zm_5 (List.mem_of_getElem? (i := 57) rfl), rfl⟩
theorem tw_1022 : (.methodLink "NightColanderLaw" 114 ⟨"NightColander","forget","()I"⟩ : Cond) ∈ zTB := List.mem_filter.mpr ⟨zm_5 (List.mem_of_getElem? (i := 62) rfl), rfl⟩
theorem tw_1023 : (.instanceMethod ⟨"NightColander","forget","()I"⟩ : Cond) ∈ zTB := List.mem_filter.mpr ⟨zm_5 (List.mem_of_getElem? (i := 63) rfl), rfl⟩
theorem tw_1024 : (.selects "NightColander" ⟨"NightColander","forget","()I"⟩ ⟨"NightColander","forget","()I"⟩ : Cond) ∈ zTB := List.mem_filter.mpr ⟨zm_5 (List.mem_of_getElem? (i := 64) rfl), rfl⟩
theorem tw_1025 : (.code ⟨"NightColander","forget","()I"⟩ prog_1_method_26_code 2 (some .int) : Cond) ∈ zTB := List.mem_filter.mpr ⟨zm_5 (List.mem_of_getElem? (i := 65) rfl), rfl⟩
theorem tw_1026 : (.methodLink "NightColanderLaw" 118 ⟨"NightColander","settings","(I)I"⟩ : Cond) ∈ zTB := List.mem_filter.mpr ⟨zm_5 (List.mem_of_getElem? (i := 66) rfl), rfl⟩
theorem tw_1027 : (.instanceMethod ⟨"NightColander","settings","(I)I"⟩ : Cond) ∈ zTB := List.mem_filter.mpr ⟨zm_5 (List.mem_of_getElem? (i := 67) rfl), rfl⟩
theorem tw_1028 : (.selects "NightColander" ⟨"NightColander","settings","(I)I"⟩ ⟨"NightColander","settings","(I)I"⟩ : Cond) ∈ zTB := List.mem_filter.mpr ⟨zm_5 (List.mem_of_getElem? (i := 68) rfl), rfl⟩
theorem tw_1029 : (.code ⟨"NightColander","settings","(I)I"⟩ prog_1_method_27_code 2 (some .int) : Cond) ∈ zTB := List.mem_filter.mpr ⟨zm_5 (List.mem_of_getElem? (i := 69) rfl), rfl⟩
theorem tw_1058 : (.methodLink "NightColanderLaw" 122 ⟨"NightColander","look","(I)I"⟩ : Cond) ∈ zTB := List.mem_filter.mpr ⟨zm_5 (List.mem_of_getElem? (i := 98) rfl), rfl⟩
theorem tw_1059 : (.instanceMethod ⟨"NightColander","look","(I)I"⟩ : Cond) ∈ zTB := List.mem_filter.mpr ⟨zm_5 (List.mem_of_getElem? (i := 99) rfl), rfl⟩
theorem tw_1060 : (.selects "NightColander" ⟨"NightColander","look","(I)I"⟩ ⟨"NightColander","look","(I)I"⟩ : Cond) ∈ zTB := List.mem_filter.mpr ⟨zm_5 (List.mem_of_getElem? (i := 100) rfl), rfl⟩
theorem tw_1061 : (.code ⟨"NightColander","look","(I)I"⟩ prog_1_method_28_code 2 (some .int) : Cond) ∈ zTB := List.mem_filter.mpr ⟨zm_5 (List.mem_of_getElem? (i := 101) rfl), rfl⟩
theorem tw_1074 : (.methodLink "NightColanderLaw" 126 ⟨"NightColander","turned","(I)I"⟩ : Cond) ∈ zTB := List.mem_filter.mpr ⟨zm_5 (List.mem_of_getElem? (i := 114) rfl), rfl⟩
theorem tw_1075 : (.instanceMethod ⟨"NightColander","turned","(I)I"⟩ : Cond) ∈ zTB := List.mem_filter.mpr ⟨zm_5 (List.mem_of_getElem? (i := 115) rfl), rfl⟩
theorem tw_1076 : (.selects "NightColander" ⟨"NightColander","turned","(I)I"⟩ ⟨"NightColander","turned","(I)I"⟩ : Cond) ∈ zTB := List.mem_filter.mpr ⟨zm_5 (List.mem_of_getElem? (i := 116) rfl), rfl⟩
theorem tw_1077 : (.code ⟨"NightColander","turned","(I)I"⟩ prog_1_method_29_code 2 (some .int) : Cond) ∈ zTB := List.mem_filter.mpr ⟨zm_5 (List.mem_of_getElem? (i := 117) rfl), rfl⟩
theorem tw_1090 : (.methodLink "NightColanderLaw" 130 ⟨"NightColander","cleared","(III)I"⟩ : Cond) ∈ zTB := List.mem_filter.mpr ⟨zm_5 (List.mem_of_getElem? (i := 130) rfl), rfl⟩
theorem tw_1091 : (.instanceMethod ⟨"NightColander","cleared","(III)I"⟩ : Cond) ∈ zTB := List.mem_filter.mpr ⟨zm_5 (List.mem_of_getElem? (i := 131) rfl), rfl⟩
theorem tw_1092 : (.selects "NightColander" ⟨"NightColander","cleared","(III)I"⟩ ⟨"NightColander","cleared","(III)I"⟩ : Cond) ∈ zTB := List.mem_filter.mpr ⟨zm_5 (List.mem_of_getElem? (i := 132) rfl), rfl⟩
theorem tw_1093 : (.code ⟨"NightColander","cleared","(III)I"⟩ prog_1_method_30_code 4 (some .int) : Cond) ∈ zTB := List.mem_filter.mpr ⟨zm_5 (List.mem_of_getElem? (i := 133) rfl), rfl⟩
theorem tw_1110 : (.methodLink "NightColanderLaw" 134 ⟨"NightColander","drought","(I)I"⟩ : Cond) ∈ zTB := List.mem_filter.mpr ⟨zm_5 (List.mem_of_getElem? (i := 150) rfl), rfl⟩
theorem tw_1111 : (.instanceMethod ⟨"NightColander","drought","(I)I"⟩ : Cond) ∈ zTB := List.mem_filter.mpr ⟨zm_5 (List.mem_of_getElem? (i := 151) rfl), rfl⟩
theorem tw_1112 : (.selects "NightColander" ⟨"NightColander","drought","(I)I"⟩ ⟨"NightColander","drought","(I)I"⟩ : Cond) ∈ zTB := List.mem_filter.mpr ⟨zm_5 (List.mem_of_getElem? (i := 152) rfl), rfl⟩
theorem tw_1113 : (.code ⟨"NightColander","drought","(I)I"⟩ prog_1_method_31_code 2 (some .int) : Cond) ∈ zTB := List.mem_filter.mpr ⟨zm_5 (List.mem_of_getElem? (i := 153) rfl), rfl⟩
theorem tw_1118 : (.methodLink "NightColanderLaw" 138 ⟨"NightColander","luck","(I)I"⟩ : Cond) ∈ zTB := List.mem_filter.mpr ⟨zm_5 (List.mem_of_getElem? (i := 158) rfl), rfl⟩
theorem tw_1119 : (.instanceMethod ⟨"NightColander","luck","(I)I"⟩ : Cond) ∈ zTB := List.mem_filter.mpr ⟨zm_5 (List.mem_of_getElem? (i := 159) rfl), rfl⟩
theorem tw_1120 : (.selects "NightColander" ⟨"NightColander","luck","(I)I"⟩ ⟨"NightColander","luck","(I)I"⟩ : Cond) ∈ zTB := List.mem_filter.mpr ⟨zm_5 (List.mem_of_getElem? (i := 160) rfl), rfl⟩
theorem tw_1121 : (.code ⟨"NightColander","luck","(I)I"⟩ prog_1_method_32_code 5 (some .int) : Cond) ∈ zTB := List.mem_filter.mpr ⟨zm_5 (List.mem_of_getElem? (i := 161) rfl), rfl⟩
theorem tw_1122 : (.methodLink "NightColanderLaw" 142 ⟨"NightColander","together","(II)I"⟩ : Cond) ∈ zTB := List.mem_filter.mpr ⟨zm_5 (List.mem_of_getElem? (i := 162) rfl), rfl⟩
theorem tw_1123 : (.instanceMethod ⟨"NightColander","together","(II)I"⟩ : Cond) ∈ zTB := List.mem_filter.mpr ⟨zm_5 (List.mem_of_getElem? (i := 163) rfl), rfl⟩
theorem tw_1124 : (.selects "NightColander" ⟨"NightColander","together","(II)I"⟩ ⟨"NightColander","together","(II)I"⟩ : Cond) ∈ zTB := List.mem_filter.mpr ⟨zm_5 (List.mem_of_getElem? (i := 164) rfl), rfl⟩
theorem tw_1125 : (.code ⟨"NightColander","together","(II)I"⟩ prog_1_method_33_code 4 (some .int) : Cond) ∈ zTB := List.mem_filter.mpr ⟨zm_5 (List.mem_of_getElem? (i := 165) rfl), rfl⟩
theorem tw_1127 : (.methodLink "NightColanderLaw" 146 ⟨"NightColander","settled","(I)I"⟩ : Cond) ∈ zTB := List.mem_filter.mpr ⟨zm_5 (List.mem_of_getElem? (i := 167) rfl), rfl⟩
theorem tw_1128 : (.instanceMethod ⟨"NightColander","settled","(I)I"⟩ : Cond) ∈ zTB := List.mem_filter.mpr ⟨zm_5 (List.mem_of_getElem? (i := 168) rfl), rfl⟩
theorem tw_1129 : (.selects "NightColander" ⟨"NightColander","settled","(I)I"⟩ ⟨"NightColander","settled","(I)I"⟩ : Cond) ∈ zTB := List.mem_filter.mpr ⟨zm_5 (List.mem_of_getElem? (i := 169) rfl), rfl⟩
theorem tw_1130 : (.code ⟨"NightColander","settled","(I)I"⟩ prog_1_method_34_code 3 (some .int) : Cond) ∈ zTB := List.mem_filter.mpr ⟨zm_5 (List.mem_of_getElem? (i := 170) rfl), rfl⟩
theorem tw_1131 : (.methodLink "NightColanderLaw" 150 ⟨"NightColander","few","(II)J"⟩ : Cond) ∈ zTB := List.mem_filter.mpr ⟨zm_5 (List.mem_of_getElem? (i := 171) rfl), rfl⟩
theorem tw_1132 : (.instanceMethod ⟨"NightColander","few","(II)J"⟩ : Cond) ∈ zTB := List.mem_filter.mpr ⟨zm_5 (List.mem_of_getElem? (i := 172) rfl), rfl⟩
theorem tw_1133 : (.selects "NightColander" ⟨"NightColander","few","(II)J"⟩ ⟨"NightColander","few","(II)J"⟩ : Cond) ∈ zTB := List.mem_filter.mpr ⟨zm_5 (List.mem_of_getElem? (i := 173) rfl), rfl⟩
theorem tw_1134 : (.code ⟨"NightColander","few","(II)J"⟩ prog_1_method_35_code 3 (some .long) : Cond) ∈ zTB := List.mem_filter.mpr ⟨zm_5 (List.mem_of_getElem? (i := 174) rfl), rfl⟩
theorem tw_1145 : (.methodLink "NightColanderLaw" 155 ⟨"NightColander","worth","(I)I"⟩ : Cond) ∈ zTB := List.mem_filter.mpr ⟨zm_5 (List.mem_of_getElem? (i := 185) rfl), rfl⟩
theorem tw_1146 : (.instanceMethod ⟨"NightColander","worth","(I)I"⟩ : Cond) ∈ zTB := List.mem_filter.mpr ⟨zm_5 (List.mem_of_getElem? (i := 186) rfl), rfl⟩
theorem tw_1147 : (.selects "NightColander" ⟨"NightColander","worth","(I)I"⟩ ⟨"NightColander","worth","(I)I"⟩ : Cond) ∈ zTB := List.mem_filter.mpr ⟨zm_5 (List.mem_of_getElem? (i := 187) rfl), rfl⟩
theorem tw_1148 : (.code ⟨"NightColander","worth","(I)I"⟩ prog_1_method_36_code 2 (some .int) : Cond) ∈ zTB := List.mem_filter.mpr ⟨zm_5 (List.mem_of_getElem? (i := 188) rfl), rfl⟩
theorem tw_1154 : (.methodLink "NightColanderLaw" 159 ⟨"NightColander","years","(II)I"⟩ : Cond) ∈ zTB := List.mem_filter.mpr ⟨zm_5 (List.mem_of_getElem? (i := 194) rfl), rfl⟩
theorem tw_1155 : (.instanceMethod ⟨"NightColander","years","(II)I"⟩ : Cond) ∈ zTB := List.mem_filter.mpr ⟨zm_5 (List.mem_of_getElem? (i := 195) rfl), rfl⟩
theorem tw_1156 : (.selects "NightColander" ⟨"NightColander","years","(II)I"⟩ ⟨"NightColander","years","(II)I"⟩ : Cond) ∈ zTB := List.mem_filter.mpr ⟨zm_5 (List.mem_of_getElem? (i := 196) rfl), rfl⟩
theorem tw_1157 : (.code ⟨"NightColander","years","(II)I"⟩ prog_1_method_37_code 3 (some .int) : Cond) ∈ zTB := List.mem_filter.mpr ⟨zm_5 (List.mem_of_getElem? (i := 197) rfl), rfl⟩
theorem tw_1172 : (.methodLink "NightColanderLaw" 163 ⟨"NightColander","drawn","(II)I"⟩ : Cond) ∈ zTB := List.mem_filter.mpr ⟨zm_5 (List.mem_of_getElem? (i := 212) rfl), rfl⟩
theorem tw_1173 : (.instanceMethod ⟨"NightColander","drawn","(II)I"⟩ : Cond) ∈ zTB := List.mem_filter.mpr ⟨zm_5 (List.mem_of_getElem? (i := 213) rfl), rfl⟩
theorem tw_1174 : (.selects "NightColander" ⟨"NightColander","drawn","(II)I"⟩ ⟨"NightColander","drawn","(II)I"⟩ : Cond) ∈ zTB := List.mem_filter.mpr ⟨zm_5 (List.mem_of_getElem? (i := 214) rfl), rfl⟩
theorem tw_1175 : (.code ⟨"NightColander","drawn","(II)I"⟩ prog_1_method_38_code 3 (some .int) : Cond) ∈ zTB := List.mem_filter.mpr ⟨zm_5 (List.mem_of_getElem? (i := 215) rfl), rfl⟩
theorem tw_1180 : (.methodLink "NightColanderLaw" 167 ⟨"NightColander","image","(I)I"⟩ : Cond) ∈ zTB := List.mem_filter.mpr ⟨zm_5 (List.mem_of_getElem? (i := 220) rfl), rfl⟩
theorem tw_1181 : (.instanceMethod ⟨"NightColander","image","(I)I"⟩ : Cond) ∈ zTB := List.mem_filter.mpr ⟨zm_5 (List.mem_of_getElem? (i := 221) rfl), rfl⟩
theorem tw_1182 : (.selects "NightColander" ⟨"NightColander","image","(I)I"⟩ ⟨"NightColander","image","(I)I"⟩ : Cond) ∈ zTB := List.mem_filter.mpr ⟨zm_5 (List.mem_of_getElem? (i := 222) rfl), rfl⟩
theorem tw_1183 : (.code ⟨"NightColander","image","(I)I"⟩ prog_1_method_39_code 2 (some .int) : Cond) ∈ zTB := List.mem_filter.mpr ⟨zm_5 (List.mem_of_getElem? (i := 223) rfl), rfl⟩
theorem tw_1184 : (.methodLink "NightColanderLaw" 171 ⟨"NightColander","back","(I)I"⟩ : Cond) ∈ zTB := List.mem_filter.mpr ⟨zm_5 (List.mem_of_getElem? (i := 224) rfl), rfl⟩
theorem tw_1185 : (.instanceMethod ⟨"NightColander","back","(I)I"⟩ : Cond) ∈ zTB := List.mem_filter.mpr ⟨zm_5 (List.mem_of_getElem? (i := 225) rfl), rfl⟩
theorem tw_1186 : (.selects "NightColander" ⟨"NightColander","back","(I)I"⟩ ⟨"NightColander","back","(I)I"⟩ : Cond) ∈ zTB := List.mem_filter.mpr ⟨zm_5 (List.mem_of_getElem? (i := 226) rfl), rfl⟩
theorem tw_1187 : (.code ⟨"NightColander","back","(I)I"⟩ prog_1_method_40_code 2 (some .int) : Cond) ∈ zTB := List.mem_filter.mpr ⟨zm_5 (List.mem_of_getElem? (i := 227) rfl), rfl⟩
theorem tw_1188 : (.methodLink "NightColanderLaw" 175 ⟨"NightColander","count","(I)I"⟩ : Cond) ∈ zTB := List.mem_filter.mpr ⟨zm_5 (List.mem_of_getElem? (i := 228) rfl), rfl⟩
theorem tw_1189 : (.instanceMethod ⟨"NightColander","count","(I)I"⟩ : Cond) ∈ zTB := List.mem_filter.mpr ⟨zm_5 (List.mem_of_getElem? (i := 229) rfl), rfl⟩
theorem tw_1190 : (.selects "NightColander" ⟨"NightColander","count","(I)I"⟩ ⟨"NightColander","count","(I)I"⟩ : Cond) ∈ zTB := List.mem_filter.mpr ⟨zm_5 (List.mem_of_getElem? (i := 230) rfl), rfl⟩
theorem tw_1191 : (.code ⟨"NightColander","count","(I)I"⟩ prog_1_method_41_code 2 (some .int) : Cond) ∈ zTB := List.mem_filter.mpr ⟨zm_5 (List.mem_of_getElem? (i := 231) rfl), rfl⟩
theorem tw_1197 : (.methodLink "NightColanderLaw" 179 ⟨"NightColander","status","()I"⟩ : Cond) ∈ zTB := List.mem_filter.mpr ⟨zm_5 (List.mem_of_getElem? (i := 237) rfl), rfl⟩
theorem tw_1198 : (.instanceMethod ⟨"NightColander","status","()I"⟩ : Cond) ∈ zTB := List.mem_filter.mpr ⟨zm_5 (List.mem_of_getElem? (i := 238) rfl), rfl⟩
theorem tw_1199 : (.selects "NightColander" ⟨"NightColander","status","()I"⟩ ⟨"NightColander","status","()I"⟩ : Cond) ∈ zTB := List.mem_filter.mpr ⟨zm_5 (List.mem_of_getElem? (i := 239) rfl), rfl⟩
theorem tw_1200 : (.code ⟨"NightColander","status","()I"⟩ prog_1_method_42_code 1 (some .int) : Cond) ∈ zTB := List.mem_filter.mpr ⟨zm_6 (List.mem_of_getElem? (i := 0) rfl), rfl⟩
theorem tw_1201 : (.classLink "NightColanderLaw" 10 "NightColanderModel" : Cond) ∈ zTB := List.mem_filter.mpr ⟨zm_6 (List.mem_of_getElem? (i := 1) rfl), rfl⟩
theorem tw_1202 : (.instantiable "NightColanderModel" 57 : Cond) ∈ zTB := List.mem_filter.mpr ⟨zm_6 (List.mem_of_getElem? (i := 2) rfl), rfl⟩
theorem tw_1203 : (.methodLink "NightColanderLaw" 12 ⟨"NightColanderModel","<init>","()V"⟩ : Cond) ∈ zTB := List.mem_filter.mpr ⟨zm_6 (List.mem_of_getElem? (i := 3) rfl), rfl⟩
theorem tw_1204 : (.instanceMethod ⟨"NightColanderModel","<init>","()V"⟩ : Cond) ∈ zTB := List.mem_filter.mpr ⟨zm_6 (List.mem_of_getElem? (i := 4) rfl), rfl⟩
theorem tw_1205 : (.code ⟨"NightColanderModel","<init>","()V"⟩ prog_13_method_1_code 2 (Option.none : Option FieldType) : Cond) ∈ zTB := List.mem_filter.mpr ⟨zm_6 (List.mem_of_getElem? (i := 5) rfl), rfl⟩
theorem tw_1401 : (.methodLink "NightColanderLaw" 101 ⟨"NightColanderModel","undo","()I"⟩ : Cond) ∈ zTB := List.mem_filter.mpr ⟨zm_6 (List.mem_of_getElem? (i := 201) rfl), rfl⟩
theorem tw_1402 : (.instanceMethod ⟨"NightColanderModel","undo","()I"⟩ : Cond) ∈ zTB := List.mem_filter.mpr ⟨zm_6 (List.mem_of_getElem? (i := 202) rfl), rfl⟩
theorem tw_1403 : (.selects "NightColanderModel" ⟨"NightColanderModel","undo","()I"⟩ ⟨"NightColanderModel","undo","()I"⟩ : Cond) ∈ zTB := List.mem_filter.mpr ⟨zm_6 (List.mem_of_getElem? (i := 203) rfl), rfl⟩
theorem tw_1404 : (.code ⟨"NightColanderModel","undo","()I"⟩ prog_13_method_13_code 1 (some .int) : Cond) ∈ zTB := List.mem_filter.mpr ⟨zm_6 (List.mem_of_getElem? (i := 204) rfl), rfl⟩
theorem tw_1413 : (.methodLink "NightColanderLaw" 170 ⟨"NightColanderModel","image","(I)I"⟩ : Cond) ∈ zTB := List.mem_filter.mpr ⟨zm_6 (List.mem_of_getElem? (i := 213) rfl), rfl⟩
theorem tw_1414 : (.instanceMethod ⟨"NightColanderModel","image","(I)I"⟩ : Cond) ∈ zTB := List.mem_filter.mpr ⟨zm_6 (List.mem_of_getElem? (i := 214) rfl), rfl⟩
theorem tw_1415 : (.selects "NightColanderModel" ⟨"NightColanderModel","image","(I)I"⟩ ⟨"NightColanderModel","image","(I)I"⟩ : Cond) ∈ zTB := List.mem_filter.mpr ⟨zm_6 (List.mem_of_getElem? (i := 215) rfl), rfl⟩
theorem tw_1416 : (.code ⟨"NightColanderModel","image","(I)I"⟩ prog_13_method_14_code 3 (some .int) : Cond) ∈ zTB := List.mem_filter.mpr ⟨zm_6 (List.mem_of_getElem? (i := 216) rfl), rfl⟩
theorem tw_1420 : (.methodLink "NightColanderLaw" 174 ⟨"NightColanderModel","back","(I)I"⟩ : Cond) ∈ zTB := List.mem_filter.mpr ⟨zm_6 (List.mem_of_getElem? (i := 220) rfl), rfl⟩
theorem tw_1421 : (.instanceMethod ⟨"NightColanderModel","back","(I)I"⟩ : Cond) ∈ zTB := List.mem_filter.mpr ⟨zm_6 (List.mem_of_getElem? (i := 221) rfl), rfl⟩
theorem tw_1422 : (.selects "NightColanderModel" ⟨"NightColanderModel","back","(I)I"⟩ ⟨"NightColanderModel","back","(I)I"⟩ : Cond) ∈ zTB := List.mem_filter.mpr ⟨zm_6 (List.mem_of_getElem? (i := 222) rfl), rfl⟩
theorem tw_1423 : (.code ⟨"NightColanderModel","back","(I)I"⟩ prog_13_method_15_code 3 (some .int) : Cond) ∈ zTB := List.mem_filter.mpr ⟨zm_6 (List.mem_of_getElem? (i := 223) rfl), rfl⟩
theorem tw_1428 : (.methodLink "NightColanderLaw" 17 ⟨"NightColanderModel","hole","(III)I"⟩ : Cond) ∈ zTB := List.mem_filter.mpr ⟨zm_6 (List.mem_of_getElem? (i := 228) rfl), rfl⟩
theorem tw_1429 : (.instanceMethod ⟨"NightColanderModel","hole","(III)I"⟩ : Cond) ∈ zTB := List.mem_filter.mpr ⟨zm_6 (List.mem_of_getElem? (i := 229) rfl), rfl⟩
theorem tw_1430 : (.selects "NightColanderModel" ⟨"NightColanderModel","hole","(III)I"⟩ ⟨"NightColanderModel","hole","(III)I"⟩ : Cond) ∈ zTB := List.mem_filter.mpr ⟨zm_6 (List.mem_of_getElem? (i := 230) rfl), rfl⟩
theorem tw_1431 : (.code ⟨"NightColanderModel","hole","(III)I"⟩ prog_13_method_22_code 6 (some .int) : Cond) ∈ zTB := List.mem_filter.mpr ⟨zm_6 (List.mem_of_getElem? (i := 231) rfl), rfl⟩
theorem tw_1473 : (.methodLink "NightColanderLaw" 22 ⟨"NightColanderModel","turn","(II)I"⟩ : Cond) ∈ zTB := List.mem_filter.mpr ⟨zm_7 (List.mem_of_getElem? (i := 33) rfl), rfl⟩
theorem tw_1474 : (.instanceMethod ⟨"NightColanderModel","turn","(II)I"⟩ : Cond) ∈ zTB := List.mem_filter.mpr ⟨zm_7 (List.mem_of_getElem? (i := 34) rfl), rfl⟩
theorem tw_1475 : (.selects "NightColanderModel" ⟨"NightColanderModel","turn","(II)I"⟩ ⟨"NightColanderModel","turn","(II)I"⟩ : Cond) ∈ zTB := List.mem_filter.mpr ⟨zm_7 (List.mem_of_getElem? (i := 35) rfl), rfl⟩
theorem tw_1476 : (.code ⟨"NightColanderModel","turn","(II)I"⟩ prog_13_method_23_code 3 (some .int) : Cond) ∈ zTB := List.mem_filter.mpr ⟨zm_7 (List.mem_of_getElem? (i := 36) rfl), rfl⟩
theorem tw_1481 : (.methodLink "NightColanderLaw" 26 ⟨"NightColanderModel","bucket","(II)I"⟩ : Cond) ∈ zTB := List.mem_filter.mpr ⟨zm_7 (List.mem_of_getElem? (i := 41) rfl), rfl⟩
theorem tw_1482 : (.instanceMethod ⟨"NightColanderModel","bucket","(II)I"⟩ : Cond) ∈ zTB := List.mem_filter.mpr ⟨zm_7 (List.mem_of_getElem? (i := 42) rfl), rfl⟩
theorem tw_1483 : (.selects "NightColanderModel" ⟨"NightColanderModel","bucket","(II)I"⟩ ⟨"NightColanderModel","bucket","(II)I"⟩ : Cond) ∈ zTB := List.mem_filter.mpr ⟨zm_7 (List.mem_of_getElem? (i := 43) rfl), rfl⟩
theorem tw_1484 : (.code ⟨"NightColanderModel","bucket","(II)I"⟩ prog_13_method_24_code 4 (some .int) : Cond) ∈ zTB := List.mem_filter.mpr ⟨zm_7 (List.mem_of_getElem? (i := 44) rfl), rfl⟩
theorem tw_1490 : (.methodLink "NightColanderLaw" 30 ⟨"NightColanderModel","of","(II)I"⟩ : Cond) ∈ zTB := List.mem_filter.mpr ⟨zm_7 (List.mem_of_getElem? (i := 50) rfl), rfl⟩
theorem tw_1491 : (.instanceMethod ⟨"NightColanderModel","of","(II)I"⟩ : Cond) ∈ zTB := List.mem_filter.mpr ⟨zm_7 (List.mem_of_getElem? (i := 51) rfl), rfl⟩
theorem tw_1492 : (.selects "NightColanderModel" ⟨"NightColanderModel","of","(II)I"⟩ ⟨"NightColanderModel","of","(II)I"⟩ : Cond) ∈ zTB := List.mem_filter.mpr ⟨zm_7 (List.mem_of_getElem? (i := 52) rfl), rfl⟩
theorem tw_1493 : (.code ⟨"NightColanderModel","of","(II)I"⟩ prog_13_method_25_code 3 (some .int) : Cond) ∈ zTB := List.mem_filter.mpr ⟨zm_7 (List.mem_of_getElem? (i := 53) rfl), rfl⟩
theorem tw_1511 : (.methodLink "NightColanderLaw" 34 ⟨"NightColanderModel","wanted","(II)I"⟩ : Cond) ∈ zTB := List.mem_filter.mpr ⟨zm_7 (List.mem_of_getElem? (i := 71) rfl), rfl⟩
theorem tw_1512 : (.instanceMethod ⟨"NightColanderModel","wanted","(II)I"⟩ : Cond) ∈ zTB := List.mem_filter.mpr ⟨zm_7 (List.mem_of_getElem? (i := 72) rfl), rfl⟩
theorem tw_1513 : (.selects "NightColanderModel" ⟨"NightColanderModel","wanted","(II)I"⟩ ⟨"NightColanderModel","wanted","(II)I"⟩ : Cond) ∈ zTB := List.mem_filter.mpr ⟨zm_7 (List.mem_of_getElem? (i := 73) rfl), rfl⟩
theorem tw_1514 : (.code ⟨"NightColanderModel","wanted","(II)I"⟩ prog_13_method_26_code 3 (some .int) : Cond) ∈ zTB := List.mem_filter.mpr ⟨zm_7 (List.mem_of_getElem? (i := 74) rfl), rfl⟩
theorem tw_1516 : (.methodLink "NightColanderLaw" 39 ⟨"NightColanderModel","flow","(I)I"⟩ : Cond) ∈ zTB := List.mem_filter.mpr ⟨zm_7 (List.mem_of_getElem? (i := 76) rfl), rfl⟩
theorem tw_1517 : (.instanceMethod ⟨"NightColanderModel","flow","(I)I"⟩ : Cond) ∈ zTB := List.mem_filter.mpr ⟨zm_7 (List.mem_of_getElem? (i := 77) rfl), rfl⟩
theorem tw_1518 : (.selects "NightColanderModel" ⟨"NightColanderModel","flow","(I)I"⟩ ⟨"NightColanderModel","flow","(I)I"⟩ : Cond) ∈ zTB := List.mem_filter.mpr ⟨zm_7 (List.mem_of_getElem? (i := 78) rfl), rfl⟩
theorem tw_1519 : (.code ⟨"NightColanderModel","flow","(I)I"⟩ prog_13_method_27_code 2 (some .int) : Cond) ∈ zTB := List.mem_filter.mpr ⟨zm_7 (List.mem_of_getElem? (i := 79) rfl), rfl⟩
theorem tw_1528 : (.methodLink "NightColanderLaw" 43 ⟨"NightColanderModel","terms","(II)I"⟩ : Cond) ∈ zTB := List.mem_filter.mpr ⟨zm_7 (List.mem_of_getElem? (i := 88) rfl), rfl⟩
theorem tw_1529 : (.instanceMethod ⟨"NightColanderModel","terms","(II)I"⟩ : Cond) ∈ zTB := List.mem_filter.mpr ⟨zm_7 (List.mem_of_getElem? (i := 89) rfl), rfl⟩
theorem tw_1530 : (.selects "NightColanderModel" ⟨"NightColanderModel","terms","(II)I"⟩ ⟨"NightColanderModel","terms","(II)I"⟩ : Cond) ∈ zTB := List.mem_filter.mpr ⟨zm_7 (List.mem_of_getElem? (i := 90) rfl), rfl⟩
theorem tw_1531 : (.code ⟨"NightColanderModel","terms","(II)I"⟩ prog_13_method_29_code 3 (some .int) : Cond) ∈ zTB := List.mem_filter.mpr ⟨zm_7 (List.mem_of_getElem? (i := 91) rfl), rfl⟩
theorem tw_1538 : (.methodLink "NightColanderLaw" 57 ⟨"NightColanderModel","row","()I"⟩ : Cond) ∈ zTB := List.mem_filter.mpr ⟨zm_7 (List.mem_of_getElem? (i := 98) rfl), rfl⟩
theorem tw_1539 : (.instanceMethod ⟨"NightColanderModel","row","()I"⟩ : Cond) ∈ zTB := List.mem_filter.mpr ⟨zm_7 (List.mem_of_getElem? (i := 99) rfl), rfl⟩
theorem tw_1540 : (.selects "NightColanderModel" ⟨"NightColanderModel","row","()I"⟩ ⟨"NightColanderModel","row","()I"⟩ : Cond) ∈ zTB := List.mem_filter.mpr ⟨zm_7 (List.mem_of_getElem? (i := 100) rfl), rfl⟩
theorem tw_1541 : (.code ⟨"NightColanderModel","row","()I"⟩ prog_13_method_30_code 4 (some .int) : Cond) ∈ zTB := List.mem_filter.mpr ⟨zm_7 (List.mem_of_getElem? (i := 101) rfl), rfl⟩
theorem tw_1542 : (.methodLink "NightColanderLaw" 61 ⟨"NightColanderModel","peas","()I"⟩ : Cond) ∈ zTB := List.mem_filter.mpr ⟨zm_7 (List.mem_of_getElem? (i := 102) rfl), rfl⟩
theorem tw_1543 : (.instanceMethod ⟨"NightColanderModel","peas","()I"⟩ : Cond) ∈ zTB := List.mem_filter.mpr ⟨zm_7 (List.mem_of_getElem? (i := 103) rfl), rfl⟩
theorem tw_1544 : (.selects "NightColanderModel" ⟨"NightColanderModel","peas","()I"⟩ ⟨"NightColanderModel","peas","()I"⟩ : Cond) ∈ zTB := List.mem_filter.mpr ⟨zm_7 (List.mem_of_getElem? (i := 104) rfl), rfl⟩
theorem tw_1545 : (.code ⟨"NightColanderModel","peas","()I"⟩ prog_13_method_31_code 1 (some .int) : Cond) ∈ zTB := List.mem_filter.mpr ⟨zm_7 (List.mem_of_getElem? (i := 105) rfl), rfl⟩
theorem tw_1546 : (.methodLink "NightColanderLaw" 48 ⟨"NightColanderModel","feed","(IIIII)I"⟩ : Cond) ∈ zTB := List.mem_filter.mpr ⟨zm_7 (List.mem_of_getElem? (i := 106) rfl), rfl⟩
theorem tw_1547 : (.instanceMethod ⟨"NightColanderModel","feed","(IIIII)I"⟩ : Cond) ∈ zTB := List.mem_filter.mpr ⟨zm_7 (List.mem_of_getElem? (i := 107) rfl), rfl⟩
theorem tw_1548 : (.selects "NightColanderModel" ⟨"NightColanderModel","feed","(IIIII)I"⟩ ⟨"NightColanderModel","feed","(IIIII)I"⟩ : Cond) ∈ zTB := List.mem_filter.mpr ⟨zm_7 (List.mem_of_getElem? (i := 108) rfl), rfl⟩
theorem tw_1549 : (.code ⟨"NightColanderModel","feed","(IIIII)I"⟩ prog_13_method_33_code 6 (some .int) : Cond) ∈ zTB := List.mem_filter.mpr ⟨zm_7 (List.mem_of_getElem? (i := 109) rfl), rfl⟩
theorem tw_1554 : (.methodLink "NightColanderLaw" 52 ⟨"NightColanderModel","end","(I)I"⟩ : Cond) ∈ zTB := List.mem_filter.mpr ⟨zm_7 (List.mem_of_getElem? (i := 114) rfl), rfl⟩
theorem tw_1555 : (.instanceMethod ⟨"NightColanderModel","end","(I)I"⟩ : Cond) ∈ zTB := List.mem_filter.mpr ⟨zm_7 (List.mem_of_getElem? (i := 115) rfl), rfl⟩
theorem tw_1556 : (.selects "NightColanderModel" ⟨"NightColanderModel","end","(I)I"⟩ ⟨"NightColanderModel","end","(I)I"⟩ : Cond) ∈ zTB := List.mem_filter.mpr ⟨zm_7 (List.mem_of_getElem? (i := 116) rfl), rfl⟩
theorem tw_1557 : (.code ⟨"NightColanderModel","end","(I)I"⟩ prog_13_method_34_code 2 (some .int) : Cond) ∈ zTB := List.mem_filter.mpr ⟨zm_7 (List.mem_of_getElem? (i := 117) rfl), rfl⟩
theorem tw_1558 : (.methodLink "NightColanderLaw" 73 ⟨"NightColanderModel","fault","()I"⟩ : Cond) ∈ zTB := List.mem_filter.mpr ⟨zm_7 (List.mem_of_getElem? (i := 118) rfl), rfl⟩
theorem tw_1559 : (.instanceMethod ⟨"NightColanderModel","fault","()I"⟩ : Cond) ∈ zTB := List.mem_filter.mpr ⟨zm_7 (List.mem_of_getElem? (i := 119) rfl), rfl⟩
theorem tw_1560 : (.selects "NightColanderModel" ⟨"NightColanderModel","fault","()I"⟩ ⟨"NightColanderModel","fault","()I"⟩ : Cond) ∈ zTB := List.mem_filter.mpr ⟨zm_7 (List.mem_of_getElem? (i := 120) rfl), rfl⟩
theorem tw_1561 : (.code ⟨"NightColanderModel","fault","()I"⟩ prog_13_method_43_code 1 (some .int) : Cond) ∈ zTB := List.mem_filter.mpr ⟨zm_7 (List.mem_of_getElem? (i := 121) rfl), rfl⟩
theorem tw_1562 : (.methodLink "NightColanderLaw" 65 ⟨"NightColanderModel","law","()I"⟩ : Cond) ∈ zTB := List.mem_filter.mpr ⟨zm_7 (List.mem_of_getElem? (i := 122) rfl), rfl⟩
theorem tw_1563 : (.instanceMethod ⟨"NightColanderModel","law","()I"⟩ : Cond) ∈ zTB := List.mem_filter.mpr ⟨zm_7 (List.mem_of_getElem? (i := 123) rfl), rfl⟩
theorem tw_1564 : (.selects "NightColanderModel" ⟨"NightColanderModel","law","()I"⟩ ⟨"NightColanderModel","law","()I"⟩ : Cond) ∈ zTB := List.mem_filter.mpr ⟨zm_7 (List.mem_of_getElem? (i := 124) rfl), rfl⟩
theorem tw_1565 : (.code ⟨"NightColanderModel","law","()I"⟩ prog_13_method_62_code 3 (some .int) : Cond) ∈ zTB := List.mem_filter.mpr ⟨zm_7 (List.mem_of_getElem? (i := 125) rfl), rfl⟩
theorem tw_1681 : (.methodLink "NightColanderLaw" 81 ⟨"NightColanderModel","force","(I)I"⟩ : Cond) ∈ zTB := List.mem_filter.mpr ⟨zm_8 (List.mem_of_getElem? (i := 1) rfl), rfl⟩
theorem tw_1682 : (.instanceMethod ⟨"NightColanderModel","force","(I)I"⟩ : Cond) ∈ zTB := List.mem_filter.mpr ⟨zm_8 (List.mem_of_getElem? (i := 2) rfl), rfl⟩
theorem tw_1683 : (.selects "NightColanderModel" ⟨"NightColanderModel","force","(I)I"⟩ ⟨"NightColanderModel","force","(I)I"⟩ : Cond) ∈ zTB := List.mem_filter.mpr ⟨zm_8 (List.mem_of_getElem? (i := 3) rfl), rfl⟩
theorem tw_1684 : (.code ⟨"NightColanderModel","force","(I)I"⟩ prog_13_method_64_code 2 (some .int) : Cond) ∈ zTB := List.mem_filter.mpr ⟨zm_8 (List.mem_of_getElem? (i := 4) rfl), rfl⟩
theorem tw_1689 : (.methodLink "NightColanderLaw" 85 ⟨"NightColanderModel","block","(II)I"⟩ : Cond) ∈ zTB := List.mem_filter.mpr ⟨zm_8 (List.mem_of_getElem? (i := 9) rfl), rfl⟩
theorem tw_1690 : (.instanceMethod ⟨"NightColanderModel","block","(II)I"⟩ : Cond) ∈ zTB := List.mem_filter.mpr ⟨zm_8 (List.mem_of_getElem? (i := 10) rfl), rfl⟩
theorem tw_1691 : (.selects "NightColanderModel" ⟨"NightColanderModel","block","(II)I"⟩ ⟨"NightColanderModel","block","(II)I"⟩ : Cond) ∈ zTB := List.mem_filter.mpr ⟨zm_8 (List.mem_of_getElem? (i := 11) rfl), rfl⟩
theorem tw_1692 : (.code ⟨"NightColanderModel","block","(II)I"⟩ prog_13_method_77_code 3 (some .int) : Cond) ∈ zTB := List.mem_filter.mpr ⟨zm_8 (List.mem_of_getElem? (i := 12) rfl), rfl⟩
theorem tw_1705 : (.methodLink "NightColanderLaw" 89 ⟨"NightColanderModel","ream","(II)I"⟩ : Cond) ∈ zTB := List.mem_filter.mpr ⟨zm_8 (List.mem_of_getElem? (i := 25) rfl), rfl⟩
theorem tw_1706 : (.instanceMethod ⟨"NightColanderModel","ream","(II)I"⟩ : Cond) ∈ zTB := List.mem_filter.mpr ⟨zm_8 (List.mem_of_getElem? (i := 26) rfl), rfl⟩
theorem tw_1707 : (.selects "NightColanderModel" ⟨"NightColanderModel","ream","(II)I"⟩ ⟨"NightColanderModel","ream","(II)I"⟩ : Cond) ∈ zTB := List.mem_filter.mpr ⟨zm_8 (List.mem_of_getElem? (i := 27) rfl), rfl⟩
theorem tw_1708 : (.code ⟨"NightColanderModel","ream","(II)I"⟩ prog_13_method_79_code 3 (some .int) : Cond) ∈ zTB := List.mem_filter.mpr ⟨zm_8 (List.mem_of_getElem? (i := 28) rfl), rfl⟩
theorem tw_1713 : (.methodLink "NightColanderLaw" 93 ⟨"NightColanderModel","set","(II)I"⟩ : Cond) ∈ zTB := List.mem_filter.mpr ⟨zm_8 (List.mem_of_getElem? (i := 33) rfl), rfl⟩
theorem tw_1714 : (.instanceMethod ⟨"NightColanderModel","set","(II)I"⟩ : Cond) ∈ zTB := List.mem_filter.mpr ⟨zm_8 (List.mem_of_getElem? (i := 34) rfl), rfl⟩
theorem tw_1715 : (.selects "NightColanderModel" ⟨"NightColanderModel","set","(II)I"⟩ ⟨"NightColanderModel","set","(II)I"⟩ : Cond) ∈ zTB := List.mem_filter.mpr ⟨zm_8 (List.mem_of_getElem? (i := 35) rfl), rfl⟩
theorem tw_1716 : (.code ⟨"NightColanderModel","set","(II)I"⟩ prog_13_method_81_code 3 (some .int) : Cond) ∈ zTB := List.mem_filter.mpr ⟨zm_8 (List.mem_of_getElem? (i := 36) rfl), rfl⟩
theorem tw_1721 : (.methodLink "NightColanderLaw" 97 ⟨"NightColanderModel","pass","()I"⟩ : Cond) ∈ zTB := List.mem_filter.mpr ⟨zm_8 (List.mem_of_getElem? (i := 41) rfl), rfl⟩
theorem tw_1722 : (.instanceMethod ⟨"NightColanderModel","pass","()I"⟩ : Cond) ∈ zTB := List.mem_filter.mpr ⟨zm_8 (List.mem_of_getElem? (i := 42) rfl), rfl⟩
theorem tw_1723 : (.selects "NightColanderModel" ⟨"NightColanderModel","pass","()I"⟩ ⟨"NightColanderModel","pass","()I"⟩ : Cond) ∈ zTB := List.mem_filter.mpr ⟨zm_8 (List.mem_of_getElem? (i := 43) rfl), rfl⟩
theorem tw_1724 : (.code ⟨"NightColanderModel","pass","()I"⟩ prog_13_method_87_code 1 (some .int) : Cond) ∈ zTB := List.mem_filter.mpr ⟨zm_8 (List.mem_of_getElem? (i := 44) rfl), rfl⟩
theorem tw_1745 : (.methodLink "NightColanderLaw" 105 ⟨"NightColanderModel","when","(II)I"⟩ : Cond) ∈ zTB := List.mem_filter.mpr ⟨zm_8 (List.mem_of_getElem? (i := 65) rfl), rfl⟩
theorem tw_1746 : (.instanceMethod ⟨"NightColanderModel","when","(II)I"⟩ : Cond) ∈ zTB := List.mem_filter.mpr ⟨zm_8 (List.mem_of_getElem? (i := 66) rfl), rfl⟩
theorem tw_1747 : (.selects "NightColanderModel" ⟨"NightColanderModel","when","(II)I"⟩ ⟨"NightColanderModel","when","(II)I"⟩ : Cond) ∈ zTB := List.mem_filter.mpr ⟨zm_8 (List.mem_of_getElem? (i := 67) rfl), rfl⟩
theorem tw_1748 : (.code ⟨"NightColanderModel","when","(II)I"⟩ prog_13_method_88_code 4 (some .int) : Cond) ∈ zTB := List.mem_filter.mpr ⟨zm_8 (List.mem_of_getElem? (i := 68) rfl), rfl⟩
theorem tw_1749 : (.methodLink "NightColanderLaw" 109 ⟨"NightColanderModel","placed","(II)I"⟩ : Cond) ∈ zTB := List.mem_filter.mpr ⟨zm_8 (List.mem_of_getElem? (i := 69) rfl), rfl⟩
theorem tw_1750 : (.instanceMethod ⟨"NightColanderModel","placed","(II)I"⟩ : Cond) ∈ zTB := List.mem_filter.mpr ⟨zm_8 (List.mem_of_getElem? (i := 70) rfl), rfl⟩
theorem tw_1751 : (.selects "NightColanderModel" ⟨"NightColanderModel","placed","(II)I"⟩ ⟨"NightColanderModel","placed","(II)I"⟩ : Cond) ∈ zTB := List.mem_filter.mpr ⟨zm_8 (List.mem_of_getElem? (i := 71) rfl), rfl⟩
theorem tw_1752 : (.code ⟨"NightColanderModel","placed","(II)I"⟩ prog_13_method_92_code 4 (some .int) : Cond) ∈ zTB := List.mem_filter.mpr ⟨zm_8 (List.mem_of_getElem? (i := 72) rfl), rfl⟩
theorem tw_1765 : (.methodLink "NightColanderLaw" 113 ⟨"NightColanderModel","seen","(II)I"⟩ : Cond) ∈ zTB := List.mem_filter.mpr ⟨zm_8 (List.mem_of_getElem? (i := 85) rfl), rfl⟩
theorem tw_1766 : (.instanceMethod ⟨"NightColanderModel","seen","(II)I"⟩ : Cond) ∈ zTB := List.mem_filter.mpr ⟨zm_8 (List.mem_of_getElem? (i := 86) rfl), rfl⟩
theorem tw_1767 : (.selects "NightColanderModel" ⟨"NightColanderModel","seen","(II)I"⟩ ⟨"NightColanderModel","seen","(II)I"⟩ : Cond) ∈ zTB := List.mem_filter.mpr ⟨zm_8 (List.mem_of_getElem? (i := 87) rfl), rfl⟩
theorem tw_1768 : (.code ⟨"NightColanderModel","seen","(II)I"⟩ prog_13_method_96_code 4 (some .int) : Cond) ∈ zTB := List.mem_filter.mpr ⟨zm_8 (List.mem_of_getElem? (i := 88) rfl), rfl⟩
theorem tw_1769 : (.methodLink "NightColanderLaw" 117 ⟨"NightColanderModel","forget","()I"⟩ : Cond) ∈ zTB := List.mem_filter.mpr ⟨zm_8 (List.mem_of_getElem? (i := 89) rfl), rfl⟩
theorem tw_1770 : (.instanceMethod ⟨"NightColanderModel","forget","()I"⟩ : Cond) ∈ zTB := List.mem_filter.mpr ⟨zm_8 (List.mem_of_getElem? (i := 90) rfl), rfl⟩
theorem tw_1771 : (.selects "NightColanderModel" ⟨"NightColanderModel","forget","()I"⟩ ⟨"NightColanderModel","forget","()I"⟩ : Cond) ∈ zTB := List.mem_filter.mpr ⟨zm_8 (List.mem_of_getElem? (i := 91) rfl), rfl⟩
theorem tw_1772 : (.code ⟨"NightColanderModel","forget","()I"⟩ prog_13_method_97_code 2 (some .int) : Cond) ∈ zTB := List.mem_filter.mpr ⟨zm_8 (List.mem_of_getElem? (i := 92) rfl), rfl⟩
theorem tw_1773 : (.methodLink "NightColanderLaw" 121 ⟨"NightColanderModel","settings","(I)I"⟩ : Cond) ∈ zTB := List.mem_filter.mpr ⟨zm_8 (List.mem_of_getElem? (i := 93) rfl), rfl⟩
theorem tw_1774 : (.instanceMethod ⟨"NightColanderModel","settings","(I)I"⟩ : Cond) ∈ zTB := List.mem_filter.mpr ⟨zm_8 (List.mem_of_getElem? (i := 94) rfl), rfl⟩
theorem tw_1775 : (.selects "NightColanderModel" ⟨"NightColanderModel","settings","(I)I"⟩ ⟨"NightColanderModel","settings","(I)I"⟩ : Cond) ∈ zTB := List.mem_filter.mpr ⟨zm_8 (List.mem_of_getElem? (i := 95) rfl), rfl⟩
theorem tw_1776 : (.code ⟨"NightColanderModel","settings","(I)I"⟩ prog_13_method_100_code 5 (some .int) : Cond) ∈ zTB := List.mem_filter.mpr ⟨zm_8 (List.mem_of_getElem? (i := 96) rfl), rfl⟩
theorem tw_1795 : (.methodLink "NightColanderLaw" 125 ⟨"NightColanderModel","look","(I)I"⟩ : Cond) ∈ zTB := List.mem_filter.mpr ⟨zm_8 (List.mem_of_getElem? (i := 115) rfl), rfl⟩
theorem tw_1796 : (.instanceMethod ⟨"NightColanderModel","look","(I)I"⟩ : Cond) ∈ zTB := List.mem_filter.mpr ⟨zm_8 (List.mem_of_getElem? (i := 116) rfl), rfl⟩
theorem tw_1797 : (.selects "NightColanderModel" ⟨"NightColanderModel","look","(I)I"⟩ ⟨"NightColanderModel","look","(I)I"⟩ : Cond) ∈ zTB := List.mem_filter.mpr ⟨zm_8 (List.mem_of_getElem? (i := 117) rfl), rfl⟩
theorem tw_1798 : (.code ⟨"NightColanderModel","look","(I)I"⟩ prog_13_method_101_code 8 (some .int) : Cond) ∈ zTB := List.mem_filter.mpr ⟨zm_8 (List.mem_of_getElem? (i := 118) rfl), rfl⟩
theorem tw_1800 : (.methodLink "NightColanderLaw" 129 ⟨"NightColanderModel","turned","(I)I"⟩ : Cond) ∈ zTB := List.mem_filter.mpr ⟨zm_8 (List.mem_of_getElem? (i := 120) rfl), rfl⟩
theorem tw_1801 : (.instanceMethod ⟨"NightColanderModel","turned","(I)I"⟩ : Cond) ∈ zTB := List.mem_filter.mpr ⟨zm_8 (List.mem_of_getElem? (i := 121) rfl), rfl⟩
theorem tw_1802 : (.selects "NightColanderModel" ⟨"NightColanderModel","turned","(I)I"⟩ ⟨"NightColanderModel","turned","(I)I"⟩ : Cond) ∈ zTB := List.mem_filter.mpr ⟨zm_8 (List.mem_of_getElem? (i := 122) rfl), rfl⟩
theorem tw_1803 : (.code ⟨"NightColanderModel","turned","(I)I"⟩ prog_13_method_104_code 6 (some .int) : Cond) ∈ zTB := List.mem_filter.mpr ⟨zm_8 (List.mem_of_getElem? (i := 123) rfl), rfl⟩
theorem tw_1812 : (.methodLink "NightColanderLaw" 133 ⟨"NightColanderModel","cleared","(III)I"⟩ : Cond) ∈ zTB := List.mem_filter.mpr ⟨zm_8 (List.mem_of_getElem? (i := 132) rfl), rfl⟩
theorem tw_1813 : (.instanceMethod ⟨"NightColanderModel","cleared","(III)I"⟩ : Cond) ∈ zTB := List.mem_filter.mpr ⟨zm_8 (List.mem_of_getElem? (i := 133) rfl), rfl⟩
theorem tw_1814 : (.selects "NightColanderModel" ⟨"NightColanderModel","cleared","(III)I"⟩ ⟨"NightColanderModel","cleared","(III)I"⟩ : Cond) ∈ zTB := List.mem_filter.mpr ⟨zm_8 (List.mem_of_getElem? (i := 134) rfl), rfl⟩
theorem tw_1815 : (.code ⟨"NightColanderModel","cleared","(III)I"⟩ prog_13_method_105_code 12 (some .int) : Cond) ∈ zTB := List.mem_filter.mpr ⟨zm_8 (List.mem_of_getElem? (i := 135) rfl), rfl⟩
theorem tw_1819 : (.methodLink "NightColanderLaw" 137 ⟨"NightColanderModel","drought","(I)I"⟩ : Cond) ∈ zTB := List.mem_filter.mpr ⟨zm_8 (List.mem_of_getElem? (i := 139) rfl), rfl⟩
theorem tw_1820 : (.instanceMethod ⟨"NightColanderModel","drought","(I)I"⟩ : Cond) ∈ zTB := List.mem_filter.mpr ⟨zm_8 (List.mem_of_getElem? (i := 140) rfl), rfl⟩
theorem tw_1821 : (.selects "NightColanderModel" ⟨"NightColanderModel","drought","(I)I"⟩ ⟨"NightColanderModel","drought","(I)I"⟩ : Cond) ∈ zTB := List.mem_filter.mpr ⟨zm_8 (List.mem_of_getElem? (i := 141) rfl), rfl⟩
theorem tw_1822 : (.code ⟨"NightColanderModel","drought","(I)I"⟩ prog_13_method_106_code 5 (some .int) : Cond) ∈ zTB := List.mem_filter.mpr ⟨zm_8 (List.mem_of_getElem? (i := 142) rfl), rfl⟩
theorem tw_1823 : (.methodLink "NightColanderLaw" 141 ⟨"NightColanderModel","luck","(I)I"⟩ : Cond) ∈ zTB := List.mem_filter.mpr ⟨zm_8 (List.mem_of_getElem? (i := 143) rfl), rfl⟩
theorem tw_1824 : (.instanceMethod ⟨"NightColanderModel","luck","(I)I"⟩ : Cond) ∈ zTB := List.mem_filter.mpr ⟨zm_8 (List.mem_of_getElem? (i := 144) rfl), rfl⟩
theorem tw_1825 : (.selects "NightColanderModel" ⟨"NightColanderModel","luck","(I)I"⟩ ⟨"NightColanderModel","luck","(I)I"⟩ : Cond) ∈ zTB := List.mem_filter.mpr ⟨zm_8 (List.mem_of_getElem? (i := 145) rfl), rfl⟩
theorem tw_1826 : (.code ⟨"NightColanderModel","luck","(I)I"⟩ prog_13_method_107_code 4 (some .int) : Cond) ∈ zTB := List.mem_filter.mpr ⟨zm_8 (List.mem_of_getElem? (i := 146) rfl), rfl⟩
theorem tw_1827 : (.methodLink "NightColanderLaw" 145 ⟨"NightColanderModel","together","(II)I"⟩ : Cond) ∈ zTB := List.mem_filter.mpr ⟨zm_8 (List.mem_of_getElem? (i := 147) rfl), rfl⟩
theorem tw_1828 : (.instanceMethod ⟨"NightColanderModel","together","(II)I"⟩ : Cond) ∈ zTB := List.mem_filter.mpr ⟨zm_8 (List.mem_of_getElem? (i := 148) rfl), rfl⟩
theorem tw_1829 : (.selects "NightColanderModel" ⟨"NightColanderModel","together","(II)I"⟩ ⟨"NightColanderModel","together","(II)I"⟩ : Cond) ∈ zTB := List.mem_filter.mpr ⟨zm_8 (List.mem_of_getElem? (i := 149) rfl), rfl⟩
theorem tw_1830 : (.code ⟨"NightColanderModel","together","(II)I"⟩ prog_13_method_108_code 4 (some .int) : Cond) ∈ zTB := List.mem_filter.mpr ⟨zm_8 (List.mem_of_getElem? (i := 150) rfl), rfl⟩
theorem tw_1831 : (.methodLink "NightColanderLaw" 149 ⟨"NightColanderModel","settled","(I)I"⟩ : Cond) ∈ zTB := List.mem_filter.mpr ⟨zm_8 (List.mem_of_getElem? (i := 151) rfl), rfl⟩
theorem tw_1832 : (.instanceMethod ⟨"NightColanderModel","settled","(I)I"⟩ : Cond) ∈ zTB := List.mem_filter.mpr ⟨zm_8 (List.mem_of_getElem? (i := 152) rfl), rfl⟩
theorem tw_1833 : (.selects "NightColanderModel" ⟨"NightColanderModel","settled","(I)I"⟩ ⟨"NightColanderModel","settled","(I)I"⟩ : Cond) ∈ zTB := List.mem_filter.mpr ⟨zm_8 (List.mem_of_getElem? (i := 153) rfl), rfl⟩
theorem tw_1834 : (.code ⟨"NightColanderModel","settled","(I)I"⟩ prog_13_method_109_code 3 (some .int) : Cond) ∈ zTB := List.mem_filter.mpr ⟨zm_8 (List.mem_of_getElem? (i := 154) rfl), rfl⟩
theorem tw_1835 : (.methodLink "NightColanderLaw" 154 ⟨"NightColanderModel","few","(II)J"⟩ : Cond) ∈ zTB := List.mem_filter.mpr ⟨zm_8 (List.mem_of_getElem? (i := 155) rfl), rfl⟩
theorem tw_1836 : (.instanceMethod ⟨"NightColanderModel","few","(II)J"⟩ : Cond) ∈ zTB := List.mem_filter.mpr ⟨zm_8 (List.mem_of_getElem? (i := 156) rfl), rfl⟩
theorem tw_1837 : (.selects "NightColanderModel" ⟨"NightColanderModel","few","(II)J"⟩ ⟨"NightColanderModel","few","(II)J"⟩ : Cond) ∈ zTB := List.mem_filter.mpr ⟨zm_8 (List.mem_of_getElem? (i := 157) rfl), rfl⟩
theorem tw_1838 : (.code ⟨"NightColanderModel","few","(II)J"⟩ prog_13_method_110_code 8 (some .long) : Cond) ∈ zTB := List.mem_filter.mpr ⟨zm_8 (List.mem_of_getElem? (i := 158) rfl), rfl⟩
theorem tw_1840 : (.methodLink "NightColanderLaw" 158 ⟨"NightColanderModel","worth","(I)I"⟩ : Cond) ∈ zTB := List.mem_filter.mpr ⟨zm_8 (List.mem_of_getElem? (i := 160) rfl), rfl⟩
theorem tw_1841 : (.instanceMethod ⟨"NightColanderModel","worth","(I)I"⟩ : Cond) ∈ zTB := List.mem_filter.mpr ⟨zm_8 (List.mem_of_getElem? (i := 161) rfl), rfl⟩
theorem tw_1842 : (.selects "NightColanderModel" ⟨"NightColanderModel","worth","(I)I"⟩ ⟨"NightColanderModel","worth","(I)I"⟩ : Cond) ∈ zTB := List.mem_filter.mpr ⟨zm_8 (List.mem_of_getElem? (i := 162) rfl), rfl⟩
theorem tw_1843 : (.code ⟨"NightColanderModel","worth","(I)I"⟩ prog_13_method_111_code 5 (some .int) : Cond) ∈ zTB := List.mem_filter.mpr ⟨zm_8 (List.mem_of_getElem? (i := 163) rfl), rfl⟩
theorem tw_1844 : (.methodLink "NightColanderLaw" 69 ⟨"NightColanderModel","orders","()I"⟩ : Cond) ∈ zTB := List.mem_filter.mpr ⟨zm_8 (List.mem_of_getElem? (i := 164) rfl), rfl⟩
theorem tw_1845 : (.instanceMethod ⟨"NightColanderModel","orders","()I"⟩ : Cond) ∈ zTB := List.mem_filter.mpr ⟨zm_8 (List.mem_of_getElem? (i := 165) rfl), rfl⟩
theorem tw_1846 : (.selects "NightColanderModel" ⟨"NightColanderModel","orders","()I"⟩ ⟨"NightColanderModel","orders","()I"⟩ : Cond) ∈ zTB := List.mem_filter.mpr ⟨zm_8 (List.mem_of_getElem? (i := 166) rfl), rfl⟩
theorem tw_1847 : (.code ⟨"NightColanderModel","orders","()I"⟩ prog_13_method_117_code 4 (some .int) : Cond) ∈ zTB := List.mem_filter.mpr ⟨zm_8 (List.mem_of_getElem? (i := 167) rfl), rfl⟩
theorem tw_1879 : (.methodLink "NightColanderLaw" 77 ⟨"NightColanderModel","stopped","()I"⟩ : Cond) ∈ zTB := List.mem_filter.mpr ⟨zm_8 (List.mem_of_getElem? (i := 199) rfl), rfl⟩
theorem tw_1880 : (.instanceMethod ⟨"NightColanderModel","stopped","()I"⟩ : Cond) ∈ zTB := List.mem_filter.mpr ⟨zm_8 (List.mem_of_getElem? (i := 200) rfl), rfl⟩
theorem tw_1881 : (.selects "NightColanderModel" ⟨"NightColanderModel","stopped","()I"⟩ ⟨"NightColanderModel","stopped","()I"⟩ : Cond) ∈ zTB := List.mem_filter.mpr ⟨zm_8 (List.mem_of_getElem? (i := 201) rfl), rfl⟩
theorem tw_1882 : (.code ⟨"NightColanderModel","stopped","()I"⟩ prog_13_method_119_code 1 (some .int) : Cond) ∈ zTB := List.mem_filter.mpr ⟨zm_8 (List.mem_of_getElem? (i := 202) rfl), rfl⟩
theorem tw_1883 : (.methodLink "NightColanderLaw" 162 ⟨"NightColanderModel","years","(II)I"⟩ : Cond) ∈ zTB := List.mem_filter.mpr ⟨zm_8 (List.mem_of_getElem? (i := 203) rfl), rfl⟩
theorem tw_1884 : (.instanceMethod ⟨"NightColanderModel","years","(II)I"⟩ : Cond) ∈ zTB := List.mem_filter.mpr ⟨zm_8 (List.mem_of_getElem? (i := 204) rfl), rfl⟩
theorem tw_1885 : (.selects "NightColanderModel" ⟨"NightColanderModel","years","(II)I"⟩ ⟨"NightColanderModel","years","(II)I"⟩ : Cond) ∈ zTB := List.mem_filter.mpr ⟨zm_8 (List.mem_of_getElem? (i := 205) rfl), rfl⟩
theorem tw_1886 : (.code ⟨"NightColanderModel","years","(II)I"⟩ prog_13_method_121_code 8 (some .int) : Cond) ∈ zTB := List.mem_filter.mpr ⟨zm_8 (List.mem_of_getElem? (i := 206) rfl), rfl⟩
theorem tw_1895 : (.methodLink "NightColanderLaw" 166 ⟨"NightColanderModel","drawn","(II)I"⟩ : Cond) ∈ zTB := List.mem_filter.mpr ⟨zm_8 (List.mem_of_getElem? (i := 215) rfl), rfl⟩
theorem tw_1896 : (.instanceMethod ⟨"NightColanderModel","drawn","(II)I"⟩ : Cond) ∈ zTB := List.mem_filter.mpr ⟨zm_8 (List.mem_of_getElem? (i := 216) rfl), rfl⟩
theorem tw_1897 : (.selects "NightColanderModel" ⟨"NightColanderModel","drawn","(II)I"⟩ ⟨"NightColanderModel","drawn","(II)I"⟩ : Cond) ∈ zTB := List.mem_filter.mpr ⟨zm_8 (List.mem_of_getElem? (i := 217) rfl), rfl⟩
theorem tw_1898 : (.code ⟨"NightColanderModel","drawn","(II)I"⟩ prog_13_method_122_code 3 (some .int) : Cond) ∈ zTB := List.mem_filter.mpr ⟨zm_8 (List.mem_of_getElem? (i := 218) rfl), rfl⟩
theorem tw_1899 : (.methodLink "NightColanderLaw" 178 ⟨"NightColanderModel","count","(I)I"⟩ : Cond) ∈ zTB := List.mem_filter.mpr ⟨zm_8 (List.mem_of_getElem? (i := 219) rfl), rfl⟩
theorem tw_1900 : (.instanceMethod ⟨"NightColanderModel","count","(I)I"⟩ : Cond) ∈ zTB := List.mem_filter.mpr ⟨zm_8 (List.mem_of_getElem? (i := 220) rfl), rfl⟩
theorem tw_1901 : (.selects "NightColanderModel" ⟨"NightColanderModel","count","(I)I"⟩ ⟨"NightColanderModel","count","(I)I"⟩ : Cond) ∈ zTB := List.mem_filter.mpr ⟨zm_8 (List.mem_of_getElem? (i := 221) rfl), rfl⟩
theorem tw_1902 : (.code ⟨"NightColanderModel","count","(I)I"⟩ prog_13_method_123_code 2 (some .int) : Cond) ∈ zTB := List.mem_filter.mpr ⟨zm_8 (List.mem_of_getElem? (i := 222) rfl), rfl⟩
theorem tw_1909 : (.methodLink "NightColanderLaw" 182 ⟨"NightColanderModel","status","()I"⟩ : Cond) ∈ zTB := List.mem_filter.mpr ⟨zm_8 (List.mem_of_getElem? (i := 229) rfl), rfl⟩
theorem tw_1910 : (.instanceMethod ⟨"NightColanderModel","status","()I"⟩ : Cond) ∈ zTB := List.mem_filter.mpr ⟨zm_8 (List.mem_of_getElem? (i := 230) rfl), rfl⟩
theorem tw_1911 : (.selects "NightColanderModel" ⟨"NightColanderModel","status","()I"⟩ ⟨"NightColanderModel","status","()I"⟩ : Cond) ∈ zTB := List.mem_filter.mpr ⟨zm_8 (List.mem_of_getElem? (i := 231) rfl), rfl⟩
theorem tw_1912 : (.code ⟨"NightColanderModel","status","()I"⟩ prog_13_method_124_code 1 (some .int) : Cond) ∈ zTB := List.mem_filter.mpr ⟨zm_8 (List.mem_of_getElem? (i := 232) rfl), rfl⟩
