theorem tw_0 : (Cond.selects "PloughCall$Tape" ⟨"PloughCall$Tape", "readWord", "()V"⟩ ⟨"PloughCall$Tape", "readWord", "()V"⟩) ∈ lwg := lm2 (ltb_0 (List.mem_of_getElem? (i := 0) (by decide +kernel))) rfl
theorem tw_1 : (Cond.selects "PloughCall$Tape" ⟨"PloughCall$Tape", "readNumber", "()V"⟩ ⟨"PloughCall$Tape", "readNumber", "()V"⟩) ∈ lwg := lm2 (ltb_0 (List.mem_of_getElem? (i := 1) (by decide +kernel))) rfl
theorem tw_2 : (Cond.selects "PloughCall$Reader" ⟨"PloughCall$Reader", "cityLine", "()Z"⟩ ⟨"PloughCall$Reader", "cityLine", "()Z"⟩) ∈ lwg := lm2 (ltb_0 (List.mem_of_getElem? (i := 2) (by decide +kernel))) rfl
theorem tw_3 : (Cond.selects "PloughCall$Reader" ⟨"PloughCall$Reader", "wrong", "(I)Z"⟩ ⟨"PloughCall$Reader", "wrong", "(I)Z"⟩) ∈ lwg := lm2 (ltb_0 (List.mem_of_getElem? (i := 3) (by decide +kernel))) rfl
theorem tw_4 : (Cond.selects "PloughCall$Reader" ⟨"PloughCall$Reader", "manLine", "()Z"⟩ ⟨"PloughCall$Reader", "manLine", "()Z"⟩) ∈ lwg := lm2 (ltb_0 (List.mem_of_getElem? (i := 4) (by decide +kernel))) rfl
theorem tw_5 : (Cond.selects "PloughCall$Reader" ⟨"PloughCall$Reader", "freshName", "()Z"⟩ ⟨"PloughCall$Reader", "freshName", "()Z"⟩) ∈ lwg := lm2 (ltb_0 (List.mem_of_getElem? (i := 5) (by decide +kernel))) rfl
theorem tw_6 : (Cond.selects "PloughCall$Reader" ⟨"PloughCall$Reader", "kindSpelt", "()I"⟩ ⟨"PloughCall$Reader", "kindSpelt", "()I"⟩) ∈ lwg := lm2 (ltb_0 (List.mem_of_getElem? (i := 6) (by decide +kernel))) rfl
theorem tw_7 : (Cond.selects "PloughCall$Reader" ⟨"PloughCall$Reader", "labelled", "(LPloughCall$Word;II)I"⟩ ⟨"PloughCall$Reader", "labelled", "(LPloughCall$Word;II)I"⟩) ∈ lwg := lm2 (ltb_0 (List.mem_of_getElem? (i := 7) (by decide +kernel))) rfl
theorem tw_8 : (Cond.selects "PloughCall$Reader" ⟨"PloughCall$Reader", "lineEnds", "()Z"⟩ ⟨"PloughCall$Reader", "lineEnds", "()Z"⟩) ∈ lwg := lm2 (ltb_0 (List.mem_of_getElem? (i := 8) (by decide +kernel))) rfl
theorem tw_9 : (Cond.selects "PloughCall$Reader" ⟨"PloughCall$Reader", "consulLine", "()Z"⟩ ⟨"PloughCall$Reader", "consulLine", "()Z"⟩) ∈ lwg := lm2 (ltb_0 (List.mem_of_getElem? (i := 9) (by decide +kernel))) rfl
theorem tw_10 : (Cond.selects "PloughCall$Reader" ⟨"PloughCall$Reader", "toldOne", "(Z)I"⟩ ⟨"PloughCall$Reader", "toldOne", "(Z)I"⟩) ∈ lwg := lm2 (ltb_0 (List.mem_of_getElem? (i := 10) (by decide +kernel))) rfl
theorem tw_11 : (Cond.selects "PloughCall$Reader" ⟨"PloughCall$Reader", "hatesLine", "()Z"⟩ ⟨"PloughCall$Reader", "hatesLine", "()Z"⟩) ∈ lwg := lm2 (ltb_0 (List.mem_of_getElem? (i := 11) (by decide +kernel))) rfl
theorem tw_12 : (Cond.selects "PloughCall$Reader" ⟨"PloughCall$Reader", "dangerLine", "()Z"⟩ ⟨"PloughCall$Reader", "dangerLine", "()Z"⟩) ∈ lwg := lm2 (ltb_0 (List.mem_of_getElem? (i := 12) (by decide +kernel))) rfl
theorem tw_13 : (Cond.selects "PloughCall$Reader" ⟨"PloughCall$Reader", "decreeLine", "()Z"⟩ ⟨"PloughCall$Reader", "decreeLine", "()Z"⟩) ∈ lwg := lm2 (ltb_0 (List.mem_of_getElem? (i := 13) (by decide +kernel))) rfl
theorem tw_14 : (Cond.selects "PloughCall$Reader" ⟨"PloughCall$Reader", "groundsTold", "()I"⟩ ⟨"PloughCall$Reader", "groundsTold", "()I"⟩) ∈ lwg := lm2 (ltb_0 (List.mem_of_getElem? (i := 14) (by decide +kernel))) rfl
theorem tw_15 : (Cond.selects "PloughCall$Reader" ⟨"PloughCall$Reader", "termLine", "()Z"⟩ ⟨"PloughCall$Reader", "termLine", "()Z"⟩) ∈ lwg := lm2 (ltb_0 (List.mem_of_getElem? (i := 15) (by decide +kernel))) rfl
theorem tw_16 : (Cond.selects "PloughCall$Reader" ⟨"PloughCall$Reader", "lawLine", "(Z)Z"⟩ ⟨"PloughCall$Reader", "lawLine", "(Z)Z"⟩) ∈ lwg := lm2 (ltb_0 (List.mem_of_getElem? (i := 16) (by decide +kernel))) rfl
theorem tw_17 : (Cond.selects "PloughCall$Reader" ⟨"PloughCall$Reader", "expression", "(ZI)Z"⟩ ⟨"PloughCall$Reader", "expression", "(ZI)Z"⟩) ∈ lwg := lm2 (ltb_0 (List.mem_of_getElem? (i := 17) (by decide +kernel))) rfl
theorem tw_18 : (Cond.selects "PloughCall$Reader" ⟨"PloughCall$Reader", "comparison", "(ZI)Z"⟩ ⟨"PloughCall$Reader", "comparison", "(ZI)Z"⟩) ∈ lwg := lm2 (ltb_0 (List.mem_of_getElem? (i := 18) (by decide +kernel))) rfl
theorem tw_19 : (Cond.selects "PloughCall$Reader" ⟨"PloughCall$Reader", "total", "(ZI)Z"⟩ ⟨"PloughCall$Reader", "total", "(ZI)Z"⟩) ∈ lwg := lm2 (ltb_0 (List.mem_of_getElem? (i := 19) (by decide +kernel))) rfl
theorem tw_20 : (Cond.selects "PloughCall$Reader" ⟨"PloughCall$Reader", "product", "(ZI)Z"⟩ ⟨"PloughCall$Reader", "product", "(ZI)Z"⟩) ∈ lwg := lm2 (ltb_0 (List.mem_of_getElem? (i := 20) (by decide +kernel))) rfl
theorem tw_21 : (Cond.selects "PloughCall$Reader" ⟨"PloughCall$Reader", "part", "(ZI)Z"⟩ ⟨"PloughCall$Reader", "part", "(ZI)Z"⟩) ∈ lwg := lm2 (ltb_0 (List.mem_of_getElem? (i := 21) (by decide +kernel))) rfl
theorem tw_22 : (Cond.selects "PloughCall$Reader" ⟨"PloughCall$Reader", "factSpelt", "(Z)I"⟩ ⟨"PloughCall$Reader", "factSpelt", "(Z)I"⟩) ∈ lwg := lm2 (ltb_0 (List.mem_of_getElem? (i := 22) (by decide +kernel))) rfl
theorem tw_23 : (Cond.selects "PloughCall$Standing" ⟨"PloughCall$Standing", "release", "()V"⟩ ⟨"PloughCall$Standing", "release", "()V"⟩) ∈ lwg := lm2 (ltb_0 (List.mem_of_getElem? (i := 23) (by decide +kernel))) rfl
theorem tw_24 : (Cond.selects "PloughCall" ⟨"PloughCall", "markAt", "(I)LPloughCall$Mark;"⟩ ⟨"PloughCall", "markAt", "(I)LPloughCall$Mark;"⟩) ∈ lwg := lm2 (ltb_0 (List.mem_of_getElem? (i := 24) (by decide +kernel))) rfl
theorem tw_25 : (Cond.selects "PloughCall$Reader" ⟨"PloughCall$Reader", "monthsLine", "()Z"⟩ ⟨"PloughCall$Reader", "monthsLine", "()Z"⟩) ∈ lwg := lm2 (ltb_0 (List.mem_of_getElem? (i := 25) (by decide +kernel))) rfl
theorem tw_26 : (Cond.selects "PloughCall$Reader" ⟨"PloughCall$Reader", "lineSpelt", "()I"⟩ ⟨"PloughCall$Reader", "lineSpelt", "()I"⟩) ∈ lwg := lm2 (ltb_0 (List.mem_of_getElem? (i := 26) (by decide +kernel))) rfl
theorem tw_27 : (Cond.selects "PloughCall$Past" ⟨"PloughCall$Past", "beforeAt", "(I)LPloughCall$Standing;"⟩ ⟨"PloughCall$Past", "beforeAt", "(I)LPloughCall$Standing;"⟩) ∈ lwg := lm2 (ltb_0 (List.mem_of_getElem? (i := 27) (by decide +kernel))) rfl
theorem tw_28 : (Cond.selects "PloughCall$Standing" ⟨"PloughCall$Standing", "grow", "(LPloughCall$City;II)V"⟩ ⟨"PloughCall$Standing", "grow", "(LPloughCall$City;II)V"⟩) ∈ lwg := lm2 (ltb_0 (List.mem_of_getElem? (i := 28) (by decide +kernel))) rfl
theorem tw_29 : (Cond.selects "PloughCall$Standing" ⟨"PloughCall$Standing", "grown", "(LPloughCall$City;II)I"⟩ ⟨"PloughCall$Standing", "grown", "(LPloughCall$City;II)I"⟩) ∈ lwg := lm2 (ltb_0 (List.mem_of_getElem? (i := 29) (by decide +kernel))) rfl
theorem tw_30 : (Cond.selects "PloughCall$Standing" ⟨"PloughCall$Standing", "turn", "(LPloughCall$City;II)I"⟩ ⟨"PloughCall$Standing", "turn", "(LPloughCall$City;II)I"⟩) ∈ lwg := lm2 (ltb_0 (List.mem_of_getElem? (i := 30) (by decide +kernel))) rfl
theorem tw_31 : (Cond.selects "PloughCall$Standing" ⟨"PloughCall$Standing", "lessen", "(II)I"⟩ ⟨"PloughCall$Standing", "lessen", "(II)I"⟩) ∈ lwg := lm2 (ltb_0 (List.mem_of_getElem? (i := 31) (by decide +kernel))) rfl
theorem tw_32 : (Cond.selects "PloughCall$Standing" ⟨"PloughCall$Standing", "like", "(II)V"⟩ ⟨"PloughCall$Standing", "like", "(II)V"⟩) ∈ lwg := lm2 (ltb_0 (List.mem_of_getElem? (i := 32) (by decide +kernel))) rfl
theorem tw_33 : (Cond.selects "PloughCall$Standing" ⟨"PloughCall$Standing", "closeMonth", "(LPloughCall$City;I)V"⟩ ⟨"PloughCall$Standing", "closeMonth", "(LPloughCall$City;I)V"⟩) ∈ lwg := lm2 (ltb_0 (List.mem_of_getElem? (i := 33) (by decide +kernel))) rfl
theorem tw_34 : (Cond.selects "PloughCall" ⟨"PloughCall", "judge", "()V"⟩ ⟨"PloughCall", "judge", "()V"⟩) ∈ lwg := lm2 (ltb_0 (List.mem_of_getElem? (i := 34) (by decide +kernel))) rfl
theorem tw_35 : (Cond.selects "PloughCall$Counsel" ⟨"PloughCall$Counsel", "wouldKeepThen", "(LPloughCall$City;LPloughCall$Standing;III)Z"⟩ ⟨"PloughCall$Counsel", "wouldKeepThen", "(LPloughCall$City;LPloughCall$Standing;III)Z"⟩) ∈ lwg := lm2 (ltb_0 (List.mem_of_getElem? (i := 35) (by decide +kernel))) rfl
theorem tw_36 : (Cond.selects "PloughCall$Counsel" ⟨"PloughCall$Counsel", "pathAt", "(I)LPloughCall$Standing;"⟩ ⟨"PloughCall$Counsel", "pathAt", "(I)LPloughCall$Standing;"⟩) ∈ lwg := lm2 (ltb_0 (List.mem_of_getElem? (i := 36) (by decide +kernel))) rfl
theorem tw_37 : (Cond.selects "PloughCall$Counsel" ⟨"PloughCall$Counsel", "headFrom", "(LPloughCall$City;II)V"⟩ ⟨"PloughCall$Counsel", "headFrom", "(LPloughCall$City;II)V"⟩) ∈ lwg := lm2 (ltb_0 (List.mem_of_getElem? (i := 37) (by decide +kernel))) rfl
theorem tw_38 : (Cond.selects "PloughCall$Counsel" ⟨"PloughCall$Counsel", "keepIfLess", "(I)V"⟩ ⟨"PloughCall$Counsel", "keepIfLess", "(I)V"⟩) ∈ lwg := lm2 (ltb_0 (List.mem_of_getElem? (i := 38) (by decide +kernel))) rfl
theorem tw_39 : (Cond.selects "PloughCall$Counsel" ⟨"PloughCall$Counsel", "shareFrom", "(LPloughCall$City;LPloughCall$Standing;III)V"⟩ ⟨"PloughCall$Counsel", "shareFrom", "(LPloughCall$City;LPloughCall$Standing;III)V"⟩) ∈ lwg := lm2 (ltb_0 (List.mem_of_getElem? (i := 39) (by decide +kernel))) rfl
theorem tw_40 : (Cond.selects "PloughCall$Reports" ⟨"PloughCall$Reports", "fits", "(LPloughCall$City;I)Z"⟩ ⟨"PloughCall$Reports", "fits", "(LPloughCall$City;I)Z"⟩) ∈ lwg := lm2 (ltb_0 (List.mem_of_getElem? (i := 40) (by decide +kernel))) rfl
theorem tw_41 : (Cond.selects "PloughCall$Counsel" ⟨"PloughCall$Counsel", "mostAlike", "(LPloughCall$City;III)I"⟩ ⟨"PloughCall$Counsel", "mostAlike", "(LPloughCall$City;III)I"⟩) ∈ lwg := lm2 (ltb_0 (List.mem_of_getElem? (i := 41) (by decide +kernel))) rfl
theorem tw_42 : (Cond.selects "java/lang/Throwable" ⟨"java/lang/Throwable", "fillInStackTrace", "(I)Ljava/lang/Throwable;"⟩ ⟨"java/lang/Throwable", "fillInStackTrace", "(I)Ljava/lang/Throwable;"⟩) ∈ lwg := lm2 (ltb_0 (List.mem_of_getElem? (i := 42) (by decide +kernel))) rfl
theorem tw_43 : (Cond.selects "PloughCall$Counsel" ⟨"PloughCall$Counsel", "spread", "(LPloughCall$City;IIII)V"⟩ ⟨"PloughCall$Counsel", "spread", "(LPloughCall$City;IIII)V"⟩) ∈ lwg := lm2 (ltb_0 (List.mem_of_getElem? (i := 43) (by decide +kernel))) rfl
theorem tw_44 : (Cond.selects "PloughCall$Counsel" ⟨"PloughCall$Counsel", "addWays", "(IJ)V"⟩ ⟨"PloughCall$Counsel", "addWays", "(IJ)V"⟩) ∈ lwg := lm2 (ltb_0 (List.mem_of_getElem? (i := 44) (by decide +kernel))) rfl
theorem tw_45 : (Cond.selects "PloughCallModel" ⟨"PloughCallModel", "fresh", "()V"⟩ ⟨"PloughCallModel", "fresh", "()V"⟩) ∈ lwg := lm2 (ltb_0 (List.mem_of_getElem? (i := 45) (by decide +kernel))) rfl
theorem tw_46 : (Cond.selects "PloughCallModel" ⟨"PloughCallModel", "readsAll", "()Z"⟩ ⟨"PloughCallModel", "readsAll", "()Z"⟩) ∈ lwg := lm2 (ltb_0 (List.mem_of_getElem? (i := 46) (by decide +kernel))) rfl
theorem tw_47 : (Cond.selects "PloughCallModel" ⟨"PloughCallModel", "begins", "()V"⟩ ⟨"PloughCallModel", "begins", "()V"⟩) ∈ lwg := lm2 (ltb_0 (List.mem_of_getElem? (i := 47) (by decide +kernel))) rfl
theorem tw_48 : (Cond.selects "PloughCallModel" ⟨"PloughCallModel", "nextToken", "()V"⟩ ⟨"PloughCallModel", "nextToken", "()V"⟩) ∈ lwg := lm2 (ltb_0 (List.mem_of_getElem? (i := 48) (by decide +kernel))) rfl
theorem tw_49 : (Cond.selects "PloughCallModel" ⟨"PloughCallModel", "signAt", "(I)I"⟩ ⟨"PloughCallModel", "signAt", "(I)I"⟩) ∈ lwg := lm2 (ltb_0 (List.mem_of_getElem? (i := 49) (by decide +kernel))) rfl
theorem tw_50 : (Cond.selects "PloughCallModel" ⟨"PloughCallModel", "isWord", "(J)Z"⟩ ⟨"PloughCallModel", "isWord", "(J)Z"⟩) ∈ lwg := lm2 (ltb_0 (List.mem_of_getElem? (i := 50) (by decide +kernel))) rfl
theorem tw_51 : (Cond.selects "PloughCallModel" ⟨"PloughCallModel", "readsMan", "()Z"⟩ ⟨"PloughCallModel", "readsMan", "()Z"⟩) ∈ lwg := lm2 (ltb_0 (List.mem_of_getElem? (i := 51) (by decide +kernel))) rfl
theorem tw_52 : (Cond.selects "PloughCallModel" ⟨"PloughCallModel", "fails", "(I)Z"⟩ ⟨"PloughCallModel", "fails", "(I)Z"⟩) ∈ lwg := lm2 (ltb_0 (List.mem_of_getElem? (i := 52) (by decide +kernel))) rfl
theorem tw_53 : (Cond.selects "PloughCallModel" ⟨"PloughCallModel", "needsNew", "()Z"⟩ ⟨"PloughCallModel", "needsNew", "()Z"⟩) ∈ lwg := lm2 (ltb_0 (List.mem_of_getElem? (i := 53) (by decide +kernel))) rfl
theorem tw_54 : (Cond.selects "PloughCallModel" ⟨"PloughCallModel", "isKeptWord", "()Z"⟩ ⟨"PloughCallModel", "isKeptWord", "()Z"⟩) ∈ lwg := lm2 (ltb_0 (List.mem_of_getElem? (i := 54) (by decide +kernel))) rfl
theorem tw_55 : (Cond.selects "PloughCallModel" ⟨"PloughCallModel", "manNamed", "(I)I"⟩ ⟨"PloughCallModel", "manNamed", "(I)I"⟩) ∈ lwg := lm2 (ltb_0 (List.mem_of_getElem? (i := 55) (by decide +kernel))) rfl
theorem tw_56 : (Cond.selects "PloughCallModel" ⟨"PloughCallModel", "dangerNamed", "(I)I"⟩ ⟨"PloughCallModel", "dangerNamed", "(I)I"⟩) ∈ lwg := lm2 (ltb_0 (List.mem_of_getElem? (i := 56) (by decide +kernel))) rfl
theorem tw_57 : (Cond.selects "PloughCallModel" ⟨"PloughCallModel", "decreeNamed", "()I"⟩ ⟨"PloughCallModel", "decreeNamed", "()I"⟩) ∈ lwg := lm2 (ltb_0 (List.mem_of_getElem? (i := 57) (by decide +kernel))) rfl
theorem tw_58 : (Cond.selects "PloughCallModel" ⟨"PloughCallModel", "needsBoth", "(JII)Z"⟩ ⟨"PloughCallModel", "needsBoth", "(JII)Z"⟩) ∈ lwg := lm2 (ltb_0 (List.mem_of_getElem? (i := 58) (by decide +kernel))) rfl
theorem tw_59 : (Cond.selects "PloughCallModel" ⟨"PloughCallModel", "needsNumber", "(II)Z"⟩ ⟨"PloughCallModel", "needsNumber", "(II)Z"⟩) ∈ lwg := lm2 (ltb_0 (List.mem_of_getElem? (i := 59) (by decide +kernel))) rfl
theorem tw_60 : (Cond.selects "PloughCallModel" ⟨"PloughCallModel", "closes", "()Z"⟩ ⟨"PloughCallModel", "closes", "()Z"⟩) ∈ lwg := lm2 (ltb_0 (List.mem_of_getElem? (i := 60) (by decide +kernel))) rfl
theorem tw_61 : (Cond.selects "PloughCallModel" ⟨"PloughCallModel", "isSign", "(I)Z"⟩ ⟨"PloughCallModel", "isSign", "(I)Z"⟩) ∈ lwg := lm2 (ltb_0 (List.mem_of_getElem? (i := 61) (by decide +kernel))) rfl
theorem tw_62 : (Cond.selects "PloughCallModel" ⟨"PloughCallModel", "readsConsul", "()Z"⟩ ⟨"PloughCallModel", "readsConsul", "()Z"⟩) ∈ lwg := lm2 (ltb_0 (List.mem_of_getElem? (i := 62) (by decide +kernel))) rfl
theorem tw_63 : (Cond.selects "PloughCallModel" ⟨"PloughCallModel", "needsMan", "(I)Z"⟩ ⟨"PloughCallModel", "needsMan", "(I)Z"⟩) ∈ lwg := lm2 (ltb_0 (List.mem_of_getElem? (i := 63) (by decide +kernel))) rfl
theorem tw_64 : (Cond.selects "PloughCallModel" ⟨"PloughCallModel", "readsHates", "()Z"⟩ ⟨"PloughCallModel", "readsHates", "()Z"⟩) ∈ lwg := lm2 (ltb_0 (List.mem_of_getElem? (i := 64) (by decide +kernel))) rfl
theorem tw_65 : (Cond.selects "PloughCallModel" ⟨"PloughCallModel", "readsDanger", "()Z"⟩ ⟨"PloughCallModel", "readsDanger", "()Z"⟩) ∈ lwg := lm2 (ltb_0 (List.mem_of_getElem? (i := 65) (by decide +kernel))) rfl
theorem tw_66 : (Cond.selects "PloughCallModel" ⟨"PloughCallModel", "readsDecree", "()Z"⟩ ⟨"PloughCallModel", "readsDecree", "()Z"⟩) ∈ lwg := lm2 (ltb_0 (List.mem_of_getElem? (i := 66) (by decide +kernel))) rfl
theorem tw_67 : (Cond.selects "PloughCallModel" ⟨"PloughCallModel", "readsTerm", "()Z"⟩ ⟨"PloughCallModel", "readsTerm", "()Z"⟩) ∈ lwg := lm2 (ltb_0 (List.mem_of_getElem? (i := 67) (by decide +kernel))) rfl
theorem tw_68 : (Cond.selects "PloughCallModel" ⟨"PloughCallModel", "isTwice", "(I)Z"⟩ ⟨"PloughCallModel", "isTwice", "(I)Z"⟩) ∈ lwg := lm2 (ltb_0 (List.mem_of_getElem? (i := 68) (by decide +kernel))) rfl
theorem tw_69 : (Cond.selects "PloughCallModel" ⟨"PloughCallModel", "readsLaw", "(I)Z"⟩ ⟨"PloughCallModel", "readsLaw", "(I)Z"⟩) ∈ lwg := lm2 (ltb_0 (List.mem_of_getElem? (i := 69) (by decide +kernel))) rfl
theorem tw_70 : (Cond.selects "PloughCallModel" ⟨"PloughCallModel", "reads", "()Z"⟩ ⟨"PloughCallModel", "reads", "()Z"⟩) ∈ lwg := lm2 (ltb_0 (List.mem_of_getElem? (i := 70) (by decide +kernel))) rfl
theorem tw_71 : (Cond.selects "PloughCallModel" ⟨"PloughCallModel", "fact", "()I"⟩ ⟨"PloughCallModel", "fact", "()I"⟩) ∈ lwg := lm2 (ltb_0 (List.mem_of_getElem? (i := 71) (by decide +kernel))) rfl
theorem tw_72 : (Cond.selects "PloughCallModel" ⟨"PloughCallModel", "puts", "(I)V"⟩ ⟨"PloughCallModel", "puts", "(I)V"⟩) ∈ lwg := lm2 (ltb_0 (List.mem_of_getElem? (i := 72) (by decide +kernel))) rfl
theorem tw_73 : (Cond.selects "PloughCallModel" ⟨"PloughCallModel", "lays", "()V"⟩ ⟨"PloughCallModel", "lays", "()V"⟩) ∈ lwg := lm2 (ltb_0 (List.mem_of_getElem? (i := 73) (by decide +kernel))) rfl
theorem tw_74 : (Cond.selects "PloughCallModel" ⟨"PloughCallModel", "readsLine", "()Z"⟩ ⟨"PloughCallModel", "readsLine", "()Z"⟩) ∈ lwg := lm2 (ltb_0 (List.mem_of_getElem? (i := 74) (by decide +kernel))) rfl
theorem tw_75 : (Cond.selects "PloughCallModel" ⟨"PloughCallModel", "readsTwo", "(IZ)Z"⟩ ⟨"PloughCallModel", "readsTwo", "(IZ)Z"⟩) ∈ lwg := lm2 (ltb_0 (List.mem_of_getElem? (i := 75) (by decide +kernel))) rfl
theorem tw_76 : (Cond.selects "PloughCallModel" ⟨"PloughCallModel", "needsDanger", "()Z"⟩ ⟨"PloughCallModel", "needsDanger", "()Z"⟩) ∈ lwg := lm2 (ltb_0 (List.mem_of_getElem? (i := 76) (by decide +kernel))) rfl
theorem tw_77 : (Cond.selects "PloughCallModel" ⟨"PloughCallModel", "laysLines", "(II)V"⟩ ⟨"PloughCallModel", "laysLines", "(II)V"⟩) ∈ lwg := lm2 (ltb_0 (List.mem_of_getElem? (i := 77) (by decide +kernel))) rfl
theorem tw_78 : (Cond.selects "PloughCallModel" ⟨"PloughCallModel", "isMan", "(I)Z"⟩ ⟨"PloughCallModel", "isMan", "(I)Z"⟩) ∈ lwg := lm2 (ltb_0 (List.mem_of_getElem? (i := 78) (by decide +kernel))) rfl
theorem tw_79 : (Cond.selects "PloughCallModel" ⟨"PloughCallModel", "isConsul", "(I)Z"⟩ ⟨"PloughCallModel", "isConsul", "(I)Z"⟩) ∈ lwg := lm2 (ltb_0 (List.mem_of_getElem? (i := 79) (by decide +kernel))) rfl
theorem tw_80 : (Cond.selects "PloughCallModel" ⟨"PloughCallModel", "isDanger", "(I)Z"⟩ ⟨"PloughCallModel", "isDanger", "(I)Z"⟩) ∈ lwg := lm2 (ltb_0 (List.mem_of_getElem? (i := 80) (by decide +kernel))) rfl
theorem tw_81 : (Cond.selects "PloughCallModel" ⟨"PloughCallModel", "couldName", "(II)Z"⟩ ⟨"PloughCallModel", "couldName", "(II)Z"⟩) ∈ lwg := lm2 (ltb_0 (List.mem_of_getElem? (i := 81) (by decide +kernel))) rfl
theorem tw_82 : (Cond.selects "PloughCallModel" ⟨"PloughCallModel", "holds", "()V"⟩ ⟨"PloughCallModel", "holds", "()V"⟩) ∈ lwg := lm2 (ltb_0 (List.mem_of_getElem? (i := 82) (by decide +kernel))) rfl
theorem tw_83 : (Cond.selects "PloughCallModel" ⟨"PloughCallModel", "laysPower", "(I)V"⟩ ⟨"PloughCallModel", "laysPower", "(I)V"⟩) ∈ lwg := lm2 (ltb_0 (List.mem_of_getElem? (i := 83) (by decide +kernel))) rfl
theorem tw_84 : (Cond.selects "PloughCallModel" ⟨"PloughCallModel", "goesHome", "()V"⟩ ⟨"PloughCallModel", "goesHome", "()V"⟩) ∈ lwg := lm2 (ltb_0 (List.mem_of_getElem? (i := 84) (by decide +kernel))) rfl
theorem tw_85 : (Cond.selects "PloughCallModel" ⟨"PloughCallModel", "canBeMaster", "(I)Z"⟩ ⟨"PloughCallModel", "canBeMaster", "(I)Z"⟩) ∈ lwg := lm2 (ltb_0 (List.mem_of_getElem? (i := 85) (by decide +kernel))) rfl
theorem tw_86 : (Cond.selects "PloughCallModel" ⟨"PloughCallModel", "passes", "(II)I"⟩ ⟨"PloughCallModel", "passes", "(II)I"⟩) ∈ lwg := lm2 (ltb_0 (List.mem_of_getElem? (i := 86) (by decide +kernel))) rfl
theorem tw_87 : (Cond.selects "PloughCallModel" ⟨"PloughCallModel", "worksBy", "(III)I"⟩ ⟨"PloughCallModel", "worksBy", "(III)I"⟩) ∈ lwg := lm2 (ltb_0 (List.mem_of_getElem? (i := 87) (by decide +kernel))) rfl
theorem tw_88 : (Cond.selects "PloughCallModel" ⟨"PloughCallModel", "worked", "(I)I"⟩ ⟨"PloughCallModel", "worked", "(I)I"⟩) ∈ lwg := lm2 (ltb_0 (List.mem_of_getElem? (i := 88) (by decide +kernel))) rfl
theorem tw_89 : (Cond.selects "PloughCallModel" ⟨"PloughCallModel", "opens", "(I)V"⟩ ⟨"PloughCallModel", "opens", "(I)V"⟩) ∈ lwg := lm2 (ltb_0 (List.mem_of_getElem? (i := 89) (by decide +kernel))) rfl
theorem tw_90 : (Cond.selects "PloughCallModel" ⟨"PloughCallModel", "sums", "(I)V"⟩ ⟨"PloughCallModel", "sums", "(I)V"⟩) ∈ lwg := lm2 (ltb_0 (List.mem_of_getElem? (i := 90) (by decide +kernel))) rfl
theorem tw_91 : (Cond.selects "PloughCallModel" ⟨"PloughCallModel", "tests", "(I)V"⟩ ⟨"PloughCallModel", "tests", "(I)V"⟩) ∈ lwg := lm2 (ltb_0 (List.mem_of_getElem? (i := 91) (by decide +kernel))) rfl
theorem tw_92 : (Cond.selects "PloughCallModel" ⟨"PloughCallModel", "lessens", "(II)V"⟩ ⟨"PloughCallModel", "lessens", "(II)V"⟩) ∈ lwg := lm2 (ltb_0 (List.mem_of_getElem? (i := 92) (by decide +kernel))) rfl
theorem tw_93 : (Cond.selects "PloughCallModel" ⟨"PloughCallModel", "likes", "(II)V"⟩ ⟨"PloughCallModel", "likes", "(II)V"⟩) ∈ lwg := lm2 (ltb_0 (List.mem_of_getElem? (i := 93) (by decide +kernel))) rfl
theorem tw_94 : (Cond.selects "PloughCallModel" ⟨"PloughCallModel", "endsMonth", "(II)V"⟩ ⟨"PloughCallModel", "endsMonth", "(II)V"⟩) ∈ lwg := lm2 (ltb_0 (List.mem_of_getElem? (i := 94) (by decide +kernel))) rfl
theorem tw_95 : (Cond.selects "PloughCallModel" ⟨"PloughCallModel", "together", "()I"⟩ ⟨"PloughCallModel", "together", "()I"⟩) ∈ lwg := lm2 (ltb_0 (List.mem_of_getElem? (i := 95) (by decide +kernel))) rfl
theorem tw_96 : (Cond.selects "PloughCallModel" ⟨"PloughCallModel", "keepsBy", "(III)Z"⟩ ⟨"PloughCallModel", "keepsBy", "(III)Z"⟩) ∈ lwg := lm2 (ltb_0 (List.mem_of_getElem? (i := 96) (by decide +kernel))) rfl
theorem tw_97 : (Cond.selects "PloughCallModel" ⟨"PloughCallModel", "canDisobey", "()Z"⟩ ⟨"PloughCallModel", "canDisobey", "()Z"⟩) ∈ lwg := lm2 (ltb_0 (List.mem_of_getElem? (i := 97) (by decide +kernel))) rfl
theorem tw_98 : (Cond.selects "PloughCallModel" ⟨"PloughCallModel", "canLay", "()Z"⟩ ⟨"PloughCallModel", "canLay", "()Z"⟩) ∈ lwg := lm2 (ltb_0 (List.mem_of_getElem? (i := 98) (by decide +kernel))) rfl
theorem tw_99 : (Cond.selects "PloughCallModel" ⟨"PloughCallModel", "laysDown", "()I"⟩ ⟨"PloughCallModel", "laysDown", "()I"⟩) ∈ lwg := lm2 (ltb_0 (List.mem_of_getElem? (i := 99) (by decide +kernel))) rfl
theorem tw_100 : (Cond.selects "PloughCallModel" ⟨"PloughCallModel", "goes", "(I)Z"⟩ ⟨"PloughCallModel", "goes", "(I)Z"⟩) ∈ lwg := lm2 (ltb_0 (List.mem_of_getElem? (i := 100) (by decide +kernel))) rfl
theorem tw_101 : (Cond.selects "PloughCallModel" ⟨"PloughCallModel", "soonOf", "(II)I"⟩ ⟨"PloughCallModel", "soonOf", "(II)I"⟩) ∈ lwg := lm2 (ltb_0 (List.mem_of_getElem? (i := 101) (by decide +kernel))) rfl
theorem tw_102 : (Cond.selects "PloughCallModel" ⟨"PloughCallModel", "whomFor", "(II)I"⟩ ⟨"PloughCallModel", "whomFor", "(II)I"⟩) ∈ lwg := lm2 (ltb_0 (List.mem_of_getElem? (i := 102) (by decide +kernel))) rfl
theorem tw_103 : (Cond.selects "PloughCallModel" ⟨"PloughCallModel", "isNamedBySome", "(I)Z"⟩ ⟨"PloughCallModel", "isNamedBySome", "(I)Z"⟩) ∈ lwg := lm2 (ltb_0 (List.mem_of_getElem? (i := 103) (by decide +kernel))) rfl
theorem tw_104 : (Cond.selects "PloughCallModel" ⟨"PloughCallModel", "wouldKeep", "(III)Z"⟩ ⟨"PloughCallModel", "wouldKeep", "(III)Z"⟩) ∈ lwg := lm2 (ltb_0 (List.mem_of_getElem? (i := 104) (by decide +kernel))) rfl
theorem tw_105 : (Cond.selects "PloughCallModel" ⟨"PloughCallModel", "grownBy", "(II)I"⟩ ⟨"PloughCallModel", "grownBy", "(II)I"⟩) ∈ lwg := lm2 (ltb_0 (List.mem_of_getElem? (i := 105) (by decide +kernel))) rfl
theorem tw_106 : (Cond.selects "PloughCallModel" ⟨"PloughCallModel", "heads", "(II)V"⟩ ⟨"PloughCallModel", "heads", "(II)V"⟩) ∈ lwg := lm2 (ltb_0 (List.mem_of_getElem? (i := 106) (by decide +kernel))) rfl
theorem tw_107 : (Cond.selects "PloughCallModel" ⟨"PloughCallModel", "gives", "(III)V"⟩ ⟨"PloughCallModel", "gives", "(III)V"⟩) ∈ lwg := lm2 (ltb_0 (List.mem_of_getElem? (i := 107) (by decide +kernel))) rfl
theorem tw_108 : (Cond.selects "PloughCallModel" ⟨"PloughCallModel", "endsBy", "(IIIIII)J"⟩ ⟨"PloughCallModel", "endsBy", "(IIIIII)J"⟩) ∈ lwg := lm2 (ltb_0 (List.mem_of_getElem? (i := 108) (by decide +kernel))) rfl
theorem tw_109 : (Cond.selects "PloughCallModel" ⟨"PloughCallModel", "areDecrees", "(I)Z"⟩ ⟨"PloughCallModel", "areDecrees", "(I)Z"⟩) ∈ lwg := lm2 (ltb_0 (List.mem_of_getElem? (i := 109) (by decide +kernel))) rfl
theorem tw_110 : (Cond.selects "PloughCallModel" ⟨"PloughCallModel", "fallen", "(I)I"⟩ ⟨"PloughCallModel", "fallen", "(I)I"⟩) ∈ lwg := lm2 (ltb_0 (List.mem_of_getElem? (i := 110) (by decide +kernel))) rfl
theorem tw_111 : (Cond.selects "PloughCallModel" ⟨"PloughCallModel", "allWho", "()I"⟩ ⟨"PloughCallModel", "allWho", "()I"⟩) ∈ lwg := lm2 (ltb_0 (List.mem_of_getElem? (i := 111) (by decide +kernel))) rfl
theorem tw_112 : (Cond.selects "PloughCallModel" ⟨"PloughCallModel", "isAsTold", "(I)Z"⟩ ⟨"PloughCallModel", "isAsTold", "(I)Z"⟩) ∈ lwg := lm2 (ltb_0 (List.mem_of_getElem? (i := 112) (by decide +kernel))) rfl
theorem tw_113 : (Cond.selects "PloughCallModel" ⟨"PloughCallModel", "sizeBy", "(III)I"⟩ ⟨"PloughCallModel", "sizeBy", "(III)I"⟩) ∈ lwg := lm2 (ltb_0 (List.mem_of_getElem? (i := 113) (by decide +kernel))) rfl
theorem tw_114 : (Cond.selects "PloughCallModel" ⟨"PloughCallModel", "mostAlike", "(III)I"⟩ ⟨"PloughCallModel", "mostAlike", "(III)I"⟩) ∈ lwg := lm2 (ltb_0 (List.mem_of_getElem? (i := 114) (by decide +kernel))) rfl
theorem tw_115 : (Cond.selects "PloughCallModel" ⟨"PloughCallModel", "livesMonth", "()I"⟩ ⟨"PloughCallModel", "livesMonth", "()I"⟩) ∈ lwg := lm2 (ltb_0 (List.mem_of_getElem? (i := 115) (by decide +kernel))) rfl
theorem tw_116 : (Cond.selects "PloughCallModel" ⟨"PloughCallModel", "draws", "(I)I"⟩ ⟨"PloughCallModel", "draws", "(I)I"⟩) ∈ lwg := lm2 (ltb_0 (List.mem_of_getElem? (i := 116) (by decide +kernel))) rfl
theorem tw_117 : (Cond.selects "PloughCallModel" ⟨"PloughCallModel", "laysTold", "(II)V"⟩ ⟨"PloughCallModel", "laysTold", "(II)V"⟩) ∈ lwg := lm2 (ltb_0 (List.mem_of_getElem? (i := 117) (by decide +kernel))) rfl
theorem tw_118 : (Cond.initialized "PloughCallLaw") ∈ lwg := lm2 (ltb_1 (List.mem_of_getElem? (i := 0) (by decide +kernel))) rfl
theorem tw_119 : (Cond.initialized "PloughCall") ∈ lwg := lm2 (ltb_1 (List.mem_of_getElem? (i := 1) (by decide +kernel))) rfl
theorem tw_120 : (Cond.initialized "PloughCall$Tape") ∈ lwg := lm2 (ltb_1 (List.mem_of_getElem? (i := 2) (by decide +kernel))) rfl
theorem tw_121 : (Cond.initialized "PloughCall$Reader") ∈ lwg := lm2 (ltb_1 (List.mem_of_getElem? (i := 3) (by decide +kernel))) rfl
theorem tw_122 : (Cond.initialized "PloughCall$Counsel") ∈ lwg := lm2 (ltb_1 (List.mem_of_getElem? (i := 4) (by decide +kernel))) rfl
theorem tw_123 : (Cond.initialized "PloughCall$Standing") ∈ lwg := lm2 (ltb_1 (List.mem_of_getElem? (i := 5) (by decide +kernel))) rfl
theorem tw_124 : (Cond.initialized "PloughCall$Past") ∈ lwg := lm2 (ltb_1 (List.mem_of_getElem? (i := 6) (by decide +kernel))) rfl
theorem tw_125 : (Cond.initialized "PloughCall$Reports") ∈ lwg := lm2 (ltb_1 (List.mem_of_getElem? (i := 7) (by decide +kernel))) rfl
theorem tw_126 : (Cond.initialized "PloughCall$City") ∈ lwg := lm2 (ltb_1 (List.mem_of_getElem? (i := 8) (by decide +kernel))) rfl
theorem tw_127 : (Cond.initialized "PloughCall$Laws") ∈ lwg := lm2 (ltb_1 (List.mem_of_getElem? (i := 9) (by decide +kernel))) rfl
theorem tw_128 : (Cond.initialized "PloughCall$Script") ∈ lwg := lm2 (ltb_1 (List.mem_of_getElem? (i := 10) (by decide +kernel))) rfl
theorem tw_129 : (Cond.initialized "PloughCall$Mark") ∈ lwg := lm2 (ltb_1 (List.mem_of_getElem? (i := 11) (by decide +kernel))) rfl
theorem tw_130 : (Cond.initialized "PloughCallModel") ∈ lwg := lm2 (ltb_1 (List.mem_of_getElem? (i := 12) (by decide +kernel))) rfl
theorem tw_131 : (Cond.initialized "java/lang/Enum") ∈ lwg := lm2 (ltb_1 (List.mem_of_getElem? (i := 13) (by decide +kernel))) rfl
theorem tw_132 : (Cond.initialized "PloughCall$Word") ∈ lwg := lm2 (ltb_1 (List.mem_of_getElem? (i := 14) (by decide +kernel))) rfl
theorem tw_133 : (Cond.initialized "PloughCall$1") ∈ lwg := lm2 (ltb_1 (List.mem_of_getElem? (i := 15) (by decide +kernel))) rfl
theorem tw_134 : (Cond.initialized "java/lang/Integer") ∈ lwg := lm2 (ltb_1 (List.mem_of_getElem? (i := 16) (by decide +kernel))) rfl
theorem tw_135 : (Cond.initialized "java/lang/Math") ∈ lwg := lm2 (ltb_1 (List.mem_of_getElem? (i := 17) (by decide +kernel))) rfl
theorem tw_136 : (Cond.initialized "java/lang/Throwable") ∈ lwg := lm2 (ltb_1 (List.mem_of_getElem? (i := 18) (by decide +kernel))) rfl
theorem tw_137 : (Cond.initialized "java/lang/Exception") ∈ lwg := lm2 (ltb_1 (List.mem_of_getElem? (i := 19) (by decide +kernel))) rfl
theorem tw_138 : (Cond.initialized "java/lang/RuntimeException") ∈ lwg := lm2 (ltb_1 (List.mem_of_getElem? (i := 20) (by decide +kernel))) rfl
theorem tw_139 : (Cond.initialized "java/util/NoSuchElementException") ∈ lwg := lm2 (ltb_1 (List.mem_of_getElem? (i := 21) (by decide +kernel))) rfl
theorem tw_140 : (Cond.classLink "PloughCallLaw" 8 "PloughCall") ∈ lwg := lm2 (ltb_1 (List.mem_of_getElem? (i := 22) (by decide +kernel))) rfl
theorem tw_141 : (Cond.instantiable "PloughCall" 14) ∈ lwg := lm2 (ltb_1 (List.mem_of_getElem? (i := 23) (by decide +kernel))) rfl
theorem tw_142 : (Cond.methodLink "PloughCallLaw" 18 ⟨"PloughCall", "<init>", "()V"⟩) ∈ lwg := lm2 (ltb_1 (List.mem_of_getElem? (i := 24) (by decide +kernel))) rfl
theorem tw_143 : (Cond.instanceMethod ⟨"PloughCall", "<init>", "()V"⟩) ∈ lwg := lm2 (ltb_1 (List.mem_of_getElem? (i := 25) (by decide +kernel))) rfl
theorem tw_144 : (Cond.code ⟨"PloughCall", "<init>", "()V"⟩ prog_1_method_1_code 2 none) ∈ lwg := lm2 (ltb_1 (List.mem_of_getElem? (i := 26) (by decide +kernel))) rfl
theorem tw_145 : (Cond.methodLink "PloughCall" 1 ⟨"java/lang/Object", "<init>", "()V"⟩) ∈ lwg := lm2 (ltb_1 (List.mem_of_getElem? (i := 27) (by decide +kernel))) rfl
theorem tw_146 : (Cond.instanceMethod ⟨"java/lang/Object", "<init>", "()V"⟩) ∈ lwg := lm2 (ltb_1 (List.mem_of_getElem? (i := 28) (by decide +kernel))) rfl
theorem tw_147 : (Cond.code ⟨"java/lang/Object", "<init>", "()V"⟩ object_method_1_code 1 none) ∈ lwg := lm2 (ltb_1 (List.mem_of_getElem? (i := 29) (by decide +kernel))) rfl
theorem tw_148 : (Cond.classLink "PloughCall" 7 "PloughCall$Tape") ∈ lwg := lm2 (ltb_1 (List.mem_of_getElem? (i := 30) (by decide +kernel))) rfl
theorem tw_149 : (Cond.instantiable "PloughCall$Tape" 8) ∈ lwg := lm2 (ltb_1 (List.mem_of_getElem? (i := 31) (by decide +kernel))) rfl
theorem tw_151 : (Cond.instanceMethod ⟨"PloughCall$Tape", "<init>", "()V"⟩) ∈ lwg := lm2 (ltb_1 (List.mem_of_getElem? (i := 33) (by decide +kernel))) rfl
theorem tw_152 : (Cond.code ⟨"PloughCall$Tape", "<init>", "()V"⟩ prog_12_method_1_code 1 none) ∈ lwg := lm2 (ltb_1 (List.mem_of_getElem? (i := 34) (by decide +kernel))) rfl
theorem tw_153 : (Cond.methodLink "PloughCall$Tape" 3 ⟨"java/lang/Object", "<init>", "()V"⟩) ∈ lwg := lm2 (ltb_1 (List.mem_of_getElem? (i := 35) (by decide +kernel))) rfl
theorem tw_154 : (Cond.fieldLink "PloughCall$Tape" 9 "PloughCall$Tape" "signs" "[I") ∈ lwg := lm2 (ltb_1 (List.mem_of_getElem? (i := 36) (by decide +kernel))) rfl
theorem tw_156 : (Cond.fieldLink "PloughCall$Tape" 19 "PloughCall$Tape" "length" "I") ∈ lwg := lm2 (ltb_1 (List.mem_of_getElem? (i := 38) (by decide +kernel))) rfl
theorem tw_158 : (Cond.fieldLink "PloughCall$Tape" 33 "PloughCall$Tape" "place" "I") ∈ lwg := lm2 (ltb_1 (List.mem_of_getElem? (i := 40) (by decide +kernel))) rfl
theorem tw_159 : (Cond.fieldLink "PloughCall$Tape" 27 "PloughCall$Tape" "behind" "I") ∈ lwg := lm2 (ltb_1 (List.mem_of_getElem? (i := 41) (by decide +kernel))) rfl
theorem tw_161 : (Cond.fieldLink "PloughCall$Tape" 51 "PloughCall$Tape" "kind" "I") ∈ lwg := lm2 (ltb_1 (List.mem_of_getElem? (i := 43) (by decide +kernel))) rfl
theorem tw_162 : (Cond.fieldLink "PloughCall$Tape" 48 "PloughCall$Tape" "value" "I") ∈ lwg := lm2 (ltb_1 (List.mem_of_getElem? (i := 44) (by decide +kernel))) rfl
theorem tw_164 : (Cond.fieldLink "PloughCall$Tape" 44 "PloughCall$Tape" "letters" "J") ∈ lwg := lm2 (ltb_1 (List.mem_of_getElem? (i := 46) (by decide +kernel))) rfl
theorem tw_167 : (Cond.fieldLink "PloughCall$Tape" 40 "PloughCall$Tape" "word" "LPloughCall$Word;") ∈ lwg := lm2 (ltb_1 (List.mem_of_getElem? (i := 49) (by decide +kernel))) rfl
theorem tw_168 : (Cond.laysFinal "PloughCall$Tape" "PloughCall$Tape" "signs" "[I") ∈ lwg := lm2 (ltb_1 (List.mem_of_getElem? (i := 50) (by decide +kernel))) rfl
theorem tw_170 : (Cond.lays "PloughCall$Tape" "PloughCall$Tape" "length" "I") ∈ lwg := lm2 (ltb_1 (List.mem_of_getElem? (i := 52) (by decide +kernel))) rfl
theorem tw_172 : (Cond.lays "PloughCall$Tape" "PloughCall$Tape" "place" "I") ∈ lwg := lm2 (ltb_1 (List.mem_of_getElem? (i := 54) (by decide +kernel))) rfl
theorem tw_174 : (Cond.lays "PloughCall$Tape" "PloughCall$Tape" "behind" "I") ∈ lwg := lm2 (ltb_1 (List.mem_of_getElem? (i := 56) (by decide +kernel))) rfl
theorem tw_176 : (Cond.lays "PloughCall$Tape" "PloughCall$Tape" "kind" "I") ∈ lwg := lm2 (ltb_1 (List.mem_of_getElem? (i := 58) (by decide +kernel))) rfl
theorem tw_178 : (Cond.lays "PloughCall$Tape" "PloughCall$Tape" "value" "I") ∈ lwg := lm2 (ltb_1 (List.mem_of_getElem? (i := 60) (by decide +kernel))) rfl
theorem tw_180 : (Cond.lays "PloughCall$Tape" "PloughCall$Tape" "letters" "J") ∈ lwg := lm2 (ltb_1 (List.mem_of_getElem? (i := 62) (by decide +kernel))) rfl
theorem tw_182 : (Cond.lays "PloughCall$Tape" "PloughCall$Tape" "word" "LPloughCall$Word;") ∈ lwg := lm2 (ltb_1 (List.mem_of_getElem? (i := 64) (by decide +kernel))) rfl
theorem tw_184 : (Cond.superclass "PloughCall$Tape" "java/lang/Object") ∈ lwg := lm2 (ltb_1 (List.mem_of_getElem? (i := 66) (by decide +kernel))) rfl
theorem tw_186 : (Cond.classLink "PloughCall" 16 "PloughCall$Reader") ∈ lwg := lm2 (ltb_1 (List.mem_of_getElem? (i := 68) (by decide +kernel))) rfl
theorem tw_187 : (Cond.instantiable "PloughCall$Reader" 4) ∈ lwg := lm2 (ltb_1 (List.mem_of_getElem? (i := 69) (by decide +kernel))) rfl
theorem tw_188 : (Cond.methodLink "PloughCall" 18 ⟨"PloughCall$Reader", "<init>", "(LPloughCall$Tape;)V"⟩) ∈ lwg := lm2 (ltb_1 (List.mem_of_getElem? (i := 70) (by decide +kernel))) rfl
theorem tw_189 : (Cond.instanceMethod ⟨"PloughCall$Reader", "<init>", "(LPloughCall$Tape;)V"⟩) ∈ lwg := lm2 (ltb_1 (List.mem_of_getElem? (i := 71) (by decide +kernel))) rfl
theorem tw_190 : (Cond.code ⟨"PloughCall$Reader", "<init>", "(LPloughCall$Tape;)V"⟩ prog_8_method_1_code 2 none) ∈ lwg := lm2 (ltb_1 (List.mem_of_getElem? (i := 72) (by decide +kernel))) rfl
theorem tw_191 : (Cond.methodLink "PloughCall$Reader" 3 ⟨"java/lang/Object", "<init>", "()V"⟩) ∈ lwg := lm2 (ltb_1 (List.mem_of_getElem? (i := 73) (by decide +kernel))) rfl
theorem tw_192 : (Cond.fieldLink "PloughCall$Reader" 9 "PloughCall$Reader" "tape" "LPloughCall$Tape;") ∈ lwg := lm2 (ltb_1 (List.mem_of_getElem? (i := 74) (by decide +kernel))) rfl
theorem tw_193 : (Cond.fieldLink "PloughCall$Reader" 15 "PloughCall$Reader" "city" "LPloughCall$City;") ∈ lwg := lm2 (ltb_1 (List.mem_of_getElem? (i := 75) (by decide +kernel))) rfl
theorem tw_194 : (Cond.fieldLink "PloughCall$Reader" 43 "PloughCall$Reader" "script" "LPloughCall$Script;") ∈ lwg := lm2 (ltb_1 (List.mem_of_getElem? (i := 76) (by decide +kernel))) rfl
theorem tw_195 : (Cond.fieldLink "PloughCall$Reader" 24 "PloughCall$Reader" "fault" "I") ∈ lwg := lm2 (ltb_1 (List.mem_of_getElem? (i := 77) (by decide +kernel))) rfl
theorem tw_196 : (Cond.laysFinal "PloughCall$Reader" "PloughCall$Reader" "tape" "LPloughCall$Tape;") ∈ lwg := lm2 (ltb_1 (List.mem_of_getElem? (i := 78) (by decide +kernel))) rfl
theorem tw_198 : (Cond.lays "PloughCall$Reader" "PloughCall$Reader" "city" "LPloughCall$City;") ∈ lwg := lm2 (ltb_1 (List.mem_of_getElem? (i := 80) (by decide +kernel))) rfl
theorem tw_200 : (Cond.lays "PloughCall$Reader" "PloughCall$Reader" "script" "LPloughCall$Script;") ∈ lwg := lm2 (ltb_1 (List.mem_of_getElem? (i := 82) (by decide +kernel))) rfl
theorem tw_202 : (Cond.lays "PloughCall$Reader" "PloughCall$Reader" "fault" "I") ∈ lwg := lm2 (ltb_1 (List.mem_of_getElem? (i := 84) (by decide +kernel))) rfl
theorem tw_204 : (Cond.superclass "PloughCall$Reader" "java/lang/Object") ∈ lwg := lm2 (ltb_1 (List.mem_of_getElem? (i := 86) (by decide +kernel))) rfl
theorem tw_205 : (Cond.classLink "PloughCall" 25 "PloughCall$Counsel") ∈ lwg := lm2 (ltb_1 (List.mem_of_getElem? (i := 87) (by decide +kernel))) rfl
theorem tw_206 : (Cond.instantiable "PloughCall$Counsel" 10) ∈ lwg := lm2 (ltb_1 (List.mem_of_getElem? (i := 88) (by decide +kernel))) rfl
theorem tw_207 : (Cond.methodLink "PloughCall" 27 ⟨"PloughCall$Counsel", "<init>", "()V"⟩) ∈ lwg := lm2 (ltb_1 (List.mem_of_getElem? (i := 89) (by decide +kernel))) rfl
theorem tw_208 : (Cond.instanceMethod ⟨"PloughCall$Counsel", "<init>", "()V"⟩) ∈ lwg := lm2 (ltb_1 (List.mem_of_getElem? (i := 90) (by decide +kernel))) rfl
theorem tw_209 : (Cond.code ⟨"PloughCall$Counsel", "<init>", "()V"⟩ prog_4_method_1_code 2 none) ∈ lwg := lm2 (ltb_1 (List.mem_of_getElem? (i := 91) (by decide +kernel))) rfl
theorem tw_210 : (Cond.methodLink "PloughCall$Counsel" 3 ⟨"java/lang/Object", "<init>", "()V"⟩) ∈ lwg := lm2 (ltb_1 (List.mem_of_getElem? (i := 92) (by decide +kernel))) rfl
theorem tw_211 : (Cond.classLink "PloughCall$Counsel" 9 "PloughCall$Standing") ∈ lwg := lm2 (ltb_1 (List.mem_of_getElem? (i := 93) (by decide +kernel))) rfl
theorem tw_213 : (Cond.instantiable "PloughCall$Standing" 9) ∈ lwg := lm2 (ltb_1 (List.mem_of_getElem? (i := 95) (by decide +kernel))) rfl
theorem tw_215 : (Cond.instanceMethod ⟨"PloughCall$Standing", "<init>", "()V"⟩) ∈ lwg := lm2 (ltb_1 (List.mem_of_getElem? (i := 97) (by decide +kernel))) rfl
theorem tw_216 : (Cond.code ⟨"PloughCall$Standing", "<init>", "()V"⟩ prog_11_method_1_code 1 none) ∈ lwg := lm2 (ltb_1 (List.mem_of_getElem? (i := 98) (by decide +kernel))) rfl
theorem tw_217 : (Cond.methodLink "PloughCall$Standing" 3 ⟨"java/lang/Object", "<init>", "()V"⟩) ∈ lwg := lm2 (ltb_1 (List.mem_of_getElem? (i := 99) (by decide +kernel))) rfl
theorem tw_218 : (Cond.fieldLink "PloughCall$Standing" 28 "PloughCall$Standing" "month" "I") ∈ lwg := lm2 (ltb_1 (List.mem_of_getElem? (i := 100) (by decide +kernel))) rfl
theorem tw_220 : (Cond.fieldLink "PloughCall$Standing" 9 "PloughCall$Standing" "power" "I") ∈ lwg := lm2 (ltb_1 (List.mem_of_getElem? (i := 102) (by decide +kernel))) rfl
theorem tw_223 : (Cond.fieldLink "PloughCall$Standing" 15 "PloughCall$Standing" "master" "I") ∈ lwg := lm2 (ltb_1 (List.mem_of_getElem? (i := 105) (by decide +kernel))) rfl
theorem tw_226 : (Cond.fieldLink "PloughCall$Standing" 52 "PloughCall$Standing" "left" "I") ∈ lwg := lm2 (ltb_1 (List.mem_of_getElem? (i := 108) (by decide +kernel))) rfl
theorem tw_228 : (Cond.fieldLink "PloughCall$Standing" 55 "PloughCall$Standing" "kept" "Z") ∈ lwg := lm2 (ltb_1 (List.mem_of_getElem? (i := 110) (by decide +kernel))) rfl
theorem tw_231 : (Cond.fieldLink "PloughCall$Standing" 59 "PloughCall$Standing" "passed" "I") ∈ lwg := lm2 (ltb_1 (List.mem_of_getElem? (i := 113) (by decide +kernel))) rfl
theorem tw_232 : (Cond.fieldLink "PloughCall$Standing" 18 "PloughCall$Standing" "sizes" "[I") ∈ lwg := lm2 (ltb_1 (List.mem_of_getElem? (i := 114) (by decide +kernel))) rfl
theorem tw_235 : (Cond.fieldLink "PloughCall$Standing" 22 "PloughCall$Standing" "fields" "[I") ∈ lwg := lm2 (ltb_1 (List.mem_of_getElem? (i := 117) (by decide +kernel))) rfl
theorem tw_237 : (Cond.fieldLink "PloughCall$Standing" 25 "PloughCall$Standing" "liked" "[I") ∈ lwg := lm2 (ltb_1 (List.mem_of_getElem? (i := 119) (by decide +kernel))) rfl
theorem tw_239 : (Cond.lays "PloughCall$Standing" "PloughCall$Standing" "month" "I") ∈ lwg := lm2 (ltb_1 (List.mem_of_getElem? (i := 121) (by decide +kernel))) rfl
theorem tw_241 : (Cond.lays "PloughCall$Standing" "PloughCall$Standing" "power" "I") ∈ lwg := lm2 (ltb_1 (List.mem_of_getElem? (i := 123) (by decide +kernel))) rfl
theorem tw_243 : (Cond.lays "PloughCall$Standing" "PloughCall$Standing" "master" "I") ∈ lwg := lm2 (ltb_1 (List.mem_of_getElem? (i := 125) (by decide +kernel))) rfl
theorem tw_245 : (Cond.lays "PloughCall$Standing" "PloughCall$Standing" "left" "I") ∈ lwg := lm2 (ltb_1 (List.mem_of_getElem? (i := 127) (by decide +kernel))) rfl
theorem tw_247 : (Cond.lays "PloughCall$Standing" "PloughCall$Standing" "kept" "Z") ∈ lwg := lm2 (ltb_1 (List.mem_of_getElem? (i := 129) (by decide +kernel))) rfl
theorem tw_249 : (Cond.lays "PloughCall$Standing" "PloughCall$Standing" "passed" "I") ∈ lwg := lm2 (ltb_1 (List.mem_of_getElem? (i := 131) (by decide +kernel))) rfl
theorem tw_251 : (Cond.laysFinal "PloughCall$Standing" "PloughCall$Standing" "sizes" "[I") ∈ lwg := lm2 (ltb_1 (List.mem_of_getElem? (i := 133) (by decide +kernel))) rfl
theorem tw_253 : (Cond.laysFinal "PloughCall$Standing" "PloughCall$Standing" "fields" "[I") ∈ lwg := lm2 (ltb_1 (List.mem_of_getElem? (i := 135) (by decide +kernel))) rfl
theorem tw_255 : (Cond.laysFinal "PloughCall$Standing" "PloughCall$Standing" "liked" "[I") ∈ lwg := lm2 (ltb_1 (List.mem_of_getElem? (i := 137) (by decide +kernel))) rfl
theorem tw_257 : (Cond.superclass "PloughCall$Standing" "java/lang/Object") ∈ lwg := lm2 (ltb_1 (List.mem_of_getElem? (i := 139) (by decide +kernel))) rfl
theorem tw_259 : (Cond.fieldLink "PloughCall$Counsel" 11 "PloughCall$Counsel" "path" "[LPloughCall$Standing;") ∈ lwg := lm2 (ltb_1 (List.mem_of_getElem? (i := 141) (by decide +kernel))) rfl
theorem tw_260 : (Cond.fieldLink "PloughCall$Counsel" 17 "PloughCall$Counsel" "row" "[I") ∈ lwg := lm2 (ltb_1 (List.mem_of_getElem? (i := 142) (by decide +kernel))) rfl
theorem tw_261 : (Cond.fieldLink "PloughCall$Counsel" 21 "PloughCall$Counsel" "leastRow" "[I") ∈ lwg := lm2 (ltb_1 (List.mem_of_getElem? (i := 143) (by decide +kernel))) rfl
theorem tw_263 : (Cond.fieldLink "PloughCall$Counsel" 24 "PloughCall$Counsel" "needed" "[I") ∈ lwg := lm2 (ltb_1 (List.mem_of_getElem? (i := 145) (by decide +kernel))) rfl
theorem tw_264 : (Cond.fieldLink "PloughCall$Counsel" 27 "PloughCall$Counsel" "likeSizes" "[I") ∈ lwg := lm2 (ltb_1 (List.mem_of_getElem? (i := 146) (by decide +kernel))) rfl
theorem tw_265 : (Cond.fieldLink "PloughCall$Counsel" 30 "PloughCall$Counsel" "ways" "[J") ∈ lwg := lm2 (ltb_1 (List.mem_of_getElem? (i := 147) (by decide +kernel))) rfl
theorem tw_266 : (Cond.fieldLink "PloughCall$Counsel" 34 "PloughCall$Counsel" "nextWays" "[J") ∈ lwg := lm2 (ltb_1 (List.mem_of_getElem? (i := 148) (by decide +kernel))) rfl
theorem tw_267 : (Cond.fieldLink "PloughCall$Counsel" 79 "PloughCall$Counsel" "least" "I") ∈ lwg := lm2 (ltb_1 (List.mem_of_getElem? (i := 149) (by decide +kernel))) rfl
theorem tw_269 : (Cond.fieldLink "PloughCall$Counsel" 160 "PloughCall$Counsel" "ended" "I") ∈ lwg := lm2 (ltb_1 (List.mem_of_getElem? (i := 151) (by decide +kernel))) rfl
theorem tw_271 : (Cond.fieldLink "PloughCall$Counsel" 163 "PloughCall$Counsel" "monthsKept" "I") ∈ lwg := lm2 (ltb_1 (List.mem_of_getElem? (i := 153) (by decide +kernel))) rfl
theorem tw_273 : (Cond.laysFinal "PloughCall$Counsel" "PloughCall$Counsel" "path" "[LPloughCall$Standing;") ∈ lwg := lm2 (ltb_1 (List.mem_of_getElem? (i := 155) (by decide +kernel))) rfl
theorem tw_275 : (Cond.laysFinal "PloughCall$Counsel" "PloughCall$Counsel" "row" "[I") ∈ lwg := lm2 (ltb_1 (List.mem_of_getElem? (i := 157) (by decide +kernel))) rfl
theorem tw_277 : (Cond.laysFinal "PloughCall$Counsel" "PloughCall$Counsel" "leastRow" "[I") ∈ lwg := lm2 (ltb_1 (List.mem_of_getElem? (i := 159) (by decide +kernel))) rfl
theorem tw_279 : (Cond.laysFinal "PloughCall$Counsel" "PloughCall$Counsel" "needed" "[I") ∈ lwg := lm2 (ltb_1 (List.mem_of_getElem? (i := 161) (by decide +kernel))) rfl
theorem tw_281 : (Cond.laysFinal "PloughCall$Counsel" "PloughCall$Counsel" "likeSizes" "[I") ∈ lwg := lm2 (ltb_1 (List.mem_of_getElem? (i := 163) (by decide +kernel))) rfl
theorem tw_283 : (Cond.lays "PloughCall$Counsel" "PloughCall$Counsel" "ways" "[J") ∈ lwg := lm2 (ltb_1 (List.mem_of_getElem? (i := 165) (by decide +kernel))) rfl
theorem tw_285 : (Cond.lays "PloughCall$Counsel" "PloughCall$Counsel" "nextWays" "[J") ∈ lwg := lm2 (ltb_1 (List.mem_of_getElem? (i := 167) (by decide +kernel))) rfl
theorem tw_287 : (Cond.lays "PloughCall$Counsel" "PloughCall$Counsel" "least" "I") ∈ lwg := lm2 (ltb_1 (List.mem_of_getElem? (i := 169) (by decide +kernel))) rfl
theorem tw_289 : (Cond.lays "PloughCall$Counsel" "PloughCall$Counsel" "ended" "I") ∈ lwg := lm2 (ltb_1 (List.mem_of_getElem? (i := 171) (by decide +kernel))) rfl
theorem tw_291 : (Cond.lays "PloughCall$Counsel" "PloughCall$Counsel" "monthsKept" "I") ∈ lwg := lm2 (ltb_1 (List.mem_of_getElem? (i := 173) (by decide +kernel))) rfl
theorem tw_293 : (Cond.superclass "PloughCall$Counsel" "java/lang/Object") ∈ lwg := lm2 (ltb_1 (List.mem_of_getElem? (i := 175) (by decide +kernel))) rfl
theorem tw_294 : (Cond.classLink "PloughCall" 32 "PloughCall$Standing") ∈ lwg := lm2 (ltb_1 (List.mem_of_getElem? (i := 176) (by decide +kernel))) rfl
theorem tw_296 : (Cond.classLink "PloughCall" 42 "PloughCall$Past") ∈ lwg := lm2 (ltb_1 (List.mem_of_getElem? (i := 178) (by decide +kernel))) rfl
theorem tw_297 : (Cond.instantiable "PloughCall$Past" 3) ∈ lwg := lm2 (ltb_1 (List.mem_of_getElem? (i := 179) (by decide +kernel))) rfl
theorem tw_298 : (Cond.methodLink "PloughCall" 44 ⟨"PloughCall$Past", "<init>", "()V"⟩) ∈ lwg := lm2 (ltb_1 (List.mem_of_getElem? (i := 180) (by decide +kernel))) rfl
theorem tw_299 : (Cond.instanceMethod ⟨"PloughCall$Past", "<init>", "()V"⟩) ∈ lwg := lm2 (ltb_1 (List.mem_of_getElem? (i := 181) (by decide +kernel))) rfl
theorem tw_300 : (Cond.code ⟨"PloughCall$Past", "<init>", "()V"⟩ prog_7_method_1_code 2 none) ∈ lwg := lm2 (ltb_1 (List.mem_of_getElem? (i := 182) (by decide +kernel))) rfl
theorem tw_301 : (Cond.methodLink "PloughCall$Past" 3 ⟨"java/lang/Object", "<init>", "()V"⟩) ∈ lwg := lm2 (ltb_1 (List.mem_of_getElem? (i := 183) (by decide +kernel))) rfl
theorem tw_302 : (Cond.classLink "PloughCall$Past" 9 "PloughCall$Standing") ∈ lwg := lm2 (ltb_1 (List.mem_of_getElem? (i := 184) (by decide +kernel))) rfl
theorem tw_304 : (Cond.fieldLink "PloughCall$Past" 11 "PloughCall$Past" "befores" "[LPloughCall$Standing;") ∈ lwg := lm2 (ltb_1 (List.mem_of_getElem? (i := 186) (by decide +kernel))) rfl
theorem tw_305 : (Cond.fieldLink "PloughCall$Past" 30 "PloughCall$Past" "steps" "I") ∈ lwg := lm2 (ltb_1 (List.mem_of_getElem? (i := 187) (by decide +kernel))) rfl
theorem tw_307 : (Cond.fieldLink "PloughCall$Past" 18 "PloughCall$Past" "next" "I") ∈ lwg := lm2 (ltb_1 (List.mem_of_getElem? (i := 189) (by decide +kernel))) rfl
theorem tw_308 : (Cond.laysFinal "PloughCall$Past" "PloughCall$Past" "befores" "[LPloughCall$Standing;") ∈ lwg := lm2 (ltb_1 (List.mem_of_getElem? (i := 190) (by decide +kernel))) rfl
theorem tw_310 : (Cond.lays "PloughCall$Past" "PloughCall$Past" "steps" "I") ∈ lwg := lm2 (ltb_1 (List.mem_of_getElem? (i := 192) (by decide +kernel))) rfl
theorem tw_312 : (Cond.lays "PloughCall$Past" "PloughCall$Past" "next" "I") ∈ lwg := lm2 (ltb_1 (List.mem_of_getElem? (i := 194) (by decide +kernel))) rfl
theorem tw_314 : (Cond.superclass "PloughCall$Past" "java/lang/Object") ∈ lwg := lm2 (ltb_1 (List.mem_of_getElem? (i := 196) (by decide +kernel))) rfl
theorem tw_315 : (Cond.classLink "PloughCall" 49 "PloughCall$Reports") ∈ lwg := lm2 (ltb_1 (List.mem_of_getElem? (i := 197) (by decide +kernel))) rfl
theorem tw_316 : (Cond.instantiable "PloughCall$Reports" 4) ∈ lwg := lm2 (ltb_1 (List.mem_of_getElem? (i := 198) (by decide +kernel))) rfl
theorem tw_318 : (Cond.instanceMethod ⟨"PloughCall$Reports", "<init>", "()V"⟩) ∈ lwg := lm2 (ltb_1 (List.mem_of_getElem? (i := 200) (by decide +kernel))) rfl
theorem tw_319 : (Cond.code ⟨"PloughCall$Reports", "<init>", "()V"⟩ prog_9_method_1_code 1 none) ∈ lwg := lm2 (ltb_1 (List.mem_of_getElem? (i := 201) (by decide +kernel))) rfl
theorem tw_320 : (Cond.methodLink "PloughCall$Reports" 3 ⟨"java/lang/Object", "<init>", "()V"⟩) ∈ lwg := lm2 (ltb_1 (List.mem_of_getElem? (i := 202) (by decide +kernel))) rfl
theorem tw_321 : (Cond.fieldLink "PloughCall$Reports" 21 "PloughCall$Reports" "told" "I") ∈ lwg := lm2 (ltb_1 (List.mem_of_getElem? (i := 203) (by decide +kernel))) rfl
theorem tw_323 : (Cond.fieldLink "PloughCall$Reports" 9 "PloughCall$Reports" "dangers" "[I") ∈ lwg := lm2 (ltb_1 (List.mem_of_getElem? (i := 205) (by decide +kernel))) rfl
theorem tw_324 : (Cond.fieldLink "PloughCall$Reports" 15 "PloughCall$Reports" "months" "[I") ∈ lwg := lm2 (ltb_1 (List.mem_of_getElem? (i := 206) (by decide +kernel))) rfl
theorem tw_325 : (Cond.fieldLink "PloughCall$Reports" 18 "PloughCall$Reports" "sizes" "[I") ∈ lwg := lm2 (ltb_1 (List.mem_of_getElem? (i := 207) (by decide +kernel))) rfl
theorem tw_326 : (Cond.lays "PloughCall$Reports" "PloughCall$Reports" "told" "I") ∈ lwg := lm2 (ltb_1 (List.mem_of_getElem? (i := 208) (by decide +kernel))) rfl
theorem tw_328 : (Cond.laysFinal "PloughCall$Reports" "PloughCall$Reports" "dangers" "[I") ∈ lwg := lm2 (ltb_1 (List.mem_of_getElem? (i := 210) (by decide +kernel))) rfl
theorem tw_330 : (Cond.laysFinal "PloughCall$Reports" "PloughCall$Reports" "months" "[I") ∈ lwg := lm2 (ltb_1 (List.mem_of_getElem? (i := 212) (by decide +kernel))) rfl
theorem tw_332 : (Cond.laysFinal "PloughCall$Reports" "PloughCall$Reports" "sizes" "[I") ∈ lwg := lm2 (ltb_1 (List.mem_of_getElem? (i := 214) (by decide +kernel))) rfl
theorem tw_334 : (Cond.superclass "PloughCall$Reports" "java/lang/Object") ∈ lwg := lm2 (ltb_1 (List.mem_of_getElem? (i := 216) (by decide +kernel))) rfl
theorem tw_335 : (Cond.classLink "PloughCall" 56 "PloughCall$Mark") ∈ lwg := lm2 (ltb_1 (List.mem_of_getElem? (i := 217) (by decide +kernel))) rfl
theorem tw_337 : (Cond.classLink "PloughCall" 62 "PloughCall$City") ∈ lwg := lm2 (ltb_1 (List.mem_of_getElem? (i := 219) (by decide +kernel))) rfl
theorem tw_338 : (Cond.instantiable "PloughCall$City" 18) ∈ lwg := lm2 (ltb_1 (List.mem_of_getElem? (i := 220) (by decide +kernel))) rfl
theorem tw_340 : (Cond.instanceMethod ⟨"PloughCall$City", "<init>", "()V"⟩) ∈ lwg := lm2 (ltb_1 (List.mem_of_getElem? (i := 222) (by decide +kernel))) rfl
theorem tw_341 : (Cond.code ⟨"PloughCall$City", "<init>", "()V"⟩ prog_3_method_1_code 1 none) ∈ lwg := lm2 (ltb_1 (List.mem_of_getElem? (i := 223) (by decide +kernel))) rfl
theorem tw_342 : (Cond.methodLink "PloughCall$City" 3 ⟨"java/lang/Object", "<init>", "()V"⟩) ∈ lwg := lm2 (ltb_1 (List.mem_of_getElem? (i := 224) (by decide +kernel))) rfl
theorem tw_343 : (Cond.classLink "PloughCall$City" 50 "PloughCall$Laws") ∈ lwg := lm2 (ltb_1 (List.mem_of_getElem? (i := 225) (by decide +kernel))) rfl
theorem tw_344 : (Cond.instantiable "PloughCall$Laws" 7) ∈ lwg := lm2 (ltb_1 (List.mem_of_getElem? (i := 226) (by decide +kernel))) rfl
theorem tw_346 : (Cond.instanceMethod ⟨"PloughCall$Laws", "<init>", "()V"⟩) ∈ lwg := lm2 (ltb_1 (List.mem_of_getElem? (i := 228) (by decide +kernel))) rfl
theorem tw_347 : (Cond.code ⟨"PloughCall$Laws", "<init>", "()V"⟩ prog_5_method_1_code 1 none) ∈ lwg := lm2 (ltb_1 (List.mem_of_getElem? (i := 229) (by decide +kernel))) rfl
theorem tw_348 : (Cond.methodLink "PloughCall$Laws" 3 ⟨"java/lang/Object", "<init>", "()V"⟩) ∈ lwg := lm2 (ltb_1 (List.mem_of_getElem? (i := 230) (by decide +kernel))) rfl
theorem tw_349 : (Cond.fieldLink "PloughCall$Laws" 9 "PloughCall$Laws" "ops" "[I") ∈ lwg := lm2 (ltb_1 (List.mem_of_getElem? (i := 231) (by decide +kernel))) rfl
theorem tw_350 : (Cond.fieldLink "PloughCall$Laws" 15 "PloughCall$Laws" "stack" "[I") ∈ lwg := lm2 (ltb_1 (List.mem_of_getElem? (i := 232) (by decide +kernel))) rfl
theorem tw_351 : (Cond.fieldLink "PloughCall$Laws" 18 "PloughCall$Laws" "size" "I") ∈ lwg := lm2 (ltb_1 (List.mem_of_getElem? (i := 233) (by decide +kernel))) rfl
theorem tw_353 : (Cond.fieldLink "PloughCall$Laws" 22 "PloughCall$Laws" "worksFrom" "I") ∈ lwg := lm2 (ltb_1 (List.mem_of_getElem? (i := 235) (by decide +kernel))) rfl
theorem tw_354 : (Cond.fieldLink "PloughCall$Laws" 25 "PloughCall$Laws" "worksTo" "I") ∈ lwg := lm2 (ltb_1 (List.mem_of_getElem? (i := 236) (by decide +kernel))) rfl
theorem tw_355 : (Cond.fieldLink "PloughCall$Laws" 28 "PloughCall$Laws" "keepsFrom" "I") ∈ lwg := lm2 (ltb_1 (List.mem_of_getElem? (i := 237) (by decide +kernel))) rfl
theorem tw_356 : (Cond.fieldLink "PloughCall$Laws" 31 "PloughCall$Laws" "keepsTo" "I") ∈ lwg := lm2 (ltb_1 (List.mem_of_getElem? (i := 238) (by decide +kernel))) rfl
theorem tw_357 : (Cond.laysFinal "PloughCall$Laws" "PloughCall$Laws" "ops" "[I") ∈ lwg := lm2 (ltb_1 (List.mem_of_getElem? (i := 239) (by decide +kernel))) rfl
theorem tw_359 : (Cond.laysFinal "PloughCall$Laws" "PloughCall$Laws" "stack" "[I") ∈ lwg := lm2 (ltb_2 (List.mem_of_getElem? (i := 1) (by decide +kernel))) rfl
theorem tw_361 : (Cond.lays "PloughCall$Laws" "PloughCall$Laws" "size" "I") ∈ lwg := lm2 (ltb_2 (List.mem_of_getElem? (i := 3) (by decide +kernel))) rfl
theorem tw_363 : (Cond.lays "PloughCall$Laws" "PloughCall$Laws" "worksFrom" "I") ∈ lwg := lm2 (ltb_2 (List.mem_of_getElem? (i := 5) (by decide +kernel))) rfl
theorem tw_365 : (Cond.lays "PloughCall$Laws" "PloughCall$Laws" "worksTo" "I") ∈ lwg := lm2 (ltb_2 (List.mem_of_getElem? (i := 7) (by decide +kernel))) rfl
theorem tw_367 : (Cond.lays "PloughCall$Laws" "PloughCall$Laws" "keepsFrom" "I") ∈ lwg := lm2 (ltb_2 (List.mem_of_getElem? (i := 9) (by decide +kernel))) rfl
theorem tw_369 : (Cond.lays "PloughCall$Laws" "PloughCall$Laws" "keepsTo" "I") ∈ lwg := lm2 (ltb_2 (List.mem_of_getElem? (i := 11) (by decide +kernel))) rfl
theorem tw_371 : (Cond.superclass "PloughCall$Laws" "java/lang/Object") ∈ lwg := lm2 (ltb_2 (List.mem_of_getElem? (i := 13) (by decide +kernel))) rfl
theorem tw_372 : (Cond.fieldLink "PloughCall$City" 57 "PloughCall$City" "men" "I") ∈ lwg := lm2 (ltb_2 (List.mem_of_getElem? (i := 14) (by decide +kernel))) rfl
theorem tw_378 : (Cond.fieldLink "PloughCall$City" 60 "PloughCall$City" "consuls" "I") ∈ lwg := lm2 (ltb_2 (List.mem_of_getElem? (i := 20) (by decide +kernel))) rfl
theorem tw_381 : (Cond.fieldLink "PloughCall$City" 63 "PloughCall$City" "dangers" "I") ∈ lwg := lm2 (ltb_2 (List.mem_of_getElem? (i := 23) (by decide +kernel))) rfl
theorem tw_386 : (Cond.fieldLink "PloughCall$City" 66 "PloughCall$City" "decrees" "I") ∈ lwg := lm2 (ltb_2 (List.mem_of_getElem? (i := 28) (by decide +kernel))) rfl
theorem tw_389 : (Cond.fieldLink "PloughCall$City" 9 "PloughCall$City" "term" "I") ∈ lwg := lm2 (ltb_2 (List.mem_of_getElem? (i := 31) (by decide +kernel))) rfl
theorem tw_393 : (Cond.fieldLink "PloughCall$City" 69 "PloughCall$City" "termTold" "Z") ∈ lwg := lm2 (ltb_2 (List.mem_of_getElem? (i := 35) (by decide +kernel))) rfl
theorem tw_395 : (Cond.fieldLink "PloughCall$City" 15 "PloughCall$City" "manNames" "[J") ∈ lwg := lm2 (ltb_2 (List.mem_of_getElem? (i := 37) (by decide +kernel))) rfl
theorem tw_396 : (Cond.fieldLink "PloughCall$City" 19 "PloughCall$City" "kinds" "[I") ∈ lwg := lm2 (ltb_2 (List.mem_of_getElem? (i := 38) (by decide +kernel))) rfl
theorem tw_399 : (Cond.fieldLink "PloughCall$City" 23 "PloughCall$City" "skills" "[I") ∈ lwg := lm2 (ltb_2 (List.mem_of_getElem? (i := 41) (by decide +kernel))) rfl
theorem tw_402 : (Cond.fieldLink "PloughCall$City" 26 "PloughCall$City" "fields" "[I") ∈ lwg := lm2 (ltb_2 (List.mem_of_getElem? (i := 44) (by decide +kernel))) rfl
theorem tw_404 : (Cond.fieldLink "PloughCall$City" 29 "PloughCall$City" "wants" "[I") ∈ lwg := lm2 (ltb_2 (List.mem_of_getElem? (i := 46) (by decide +kernel))) rfl
theorem tw_406 : (Cond.fieldLink "PloughCall$City" 32 "PloughCall$City" "hated" "[I") ∈ lwg := lm2 (ltb_2 (List.mem_of_getElem? (i := 48) (by decide +kernel))) rfl
theorem tw_408 : (Cond.fieldLink "PloughCall$City" 35 "PloughCall$City" "dangerNames" "[J") ∈ lwg := lm2 (ltb_2 (List.mem_of_getElem? (i := 50) (by decide +kernel))) rfl
theorem tw_409 : (Cond.fieldLink "PloughCall$City" 38 "PloughCall$City" "sizes" "[I") ∈ lwg := lm2 (ltb_2 (List.mem_of_getElem? (i := 51) (by decide +kernel))) rfl
theorem tw_414 : (Cond.fieldLink "PloughCall$City" 41 "PloughCall$City" "grows" "[I") ∈ lwg := lm2 (ltb_2 (List.mem_of_getElem? (i := 56) (by decide +kernel))) rfl
theorem tw_418 : (Cond.fieldLink "PloughCall$City" 44 "PloughCall$City" "decreeNames" "[J") ∈ lwg := lm2 (ltb_2 (List.mem_of_getElem? (i := 60) (by decide +kernel))) rfl
theorem tw_419 : (Cond.fieldLink "PloughCall$City" 47 "PloughCall$City" "grounds" "[I") ∈ lwg := lm2 (ltb_2 (List.mem_of_getElem? (i := 61) (by decide +kernel))) rfl
theorem tw_420 : (Cond.fieldLink "PloughCall$City" 53 "PloughCall$City" "laws" "LPloughCall$Laws;") ∈ lwg := lm2 (ltb_2 (List.mem_of_getElem? (i := 62) (by decide +kernel))) rfl
theorem tw_422 : (Cond.lays "PloughCall$City" "PloughCall$City" "men" "I") ∈ lwg := lm2 (ltb_2 (List.mem_of_getElem? (i := 64) (by decide +kernel))) rfl
theorem tw_424 : (Cond.lays "PloughCall$City" "PloughCall$City" "consuls" "I") ∈ lwg := lm2 (ltb_2 (List.mem_of_getElem? (i := 66) (by decide +kernel))) rfl
theorem tw_426 : (Cond.lays "PloughCall$City" "PloughCall$City" "dangers" "I") ∈ lwg := lm2 (ltb_2 (List.mem_of_getElem? (i := 68) (by decide +kernel))) rfl
theorem tw_428 : (Cond.lays "PloughCall$City" "PloughCall$City" "decrees" "I") ∈ lwg := lm2 (ltb_2 (List.mem_of_getElem? (i := 70) (by decide +kernel))) rfl
theorem tw_430 : (Cond.lays "PloughCall$City" "PloughCall$City" "term" "I") ∈ lwg := lm2 (ltb_2 (List.mem_of_getElem? (i := 72) (by decide +kernel))) rfl
theorem tw_432 : (Cond.lays "PloughCall$City" "PloughCall$City" "termTold" "Z") ∈ lwg := lm2 (ltb_2 (List.mem_of_getElem? (i := 74) (by decide +kernel))) rfl
theorem tw_434 : (Cond.laysFinal "PloughCall$City" "PloughCall$City" "manNames" "[J") ∈ lwg := lm2 (ltb_2 (List.mem_of_getElem? (i := 76) (by decide +kernel))) rfl
theorem tw_436 : (Cond.laysFinal "PloughCall$City" "PloughCall$City" "kinds" "[I") ∈ lwg := lm2 (ltb_2 (List.mem_of_getElem? (i := 78) (by decide +kernel))) rfl
theorem tw_438 : (Cond.laysFinal "PloughCall$City" "PloughCall$City" "skills" "[I") ∈ lwg := lm2 (ltb_2 (List.mem_of_getElem? (i := 80) (by decide +kernel))) rfl
theorem tw_440 : (Cond.laysFinal "PloughCall$City" "PloughCall$City" "fields" "[I") ∈ lwg := lm2 (ltb_2 (List.mem_of_getElem? (i := 82) (by decide +kernel))) rfl
theorem tw_442 : (Cond.laysFinal "PloughCall$City" "PloughCall$City" "wants" "[I") ∈ lwg := lm2 (ltb_2 (List.mem_of_getElem? (i := 84) (by decide +kernel))) rfl
theorem tw_444 : (Cond.laysFinal "PloughCall$City" "PloughCall$City" "hated" "[I") ∈ lwg := lm2 (ltb_2 (List.mem_of_getElem? (i := 86) (by decide +kernel))) rfl
theorem tw_446 : (Cond.laysFinal "PloughCall$City" "PloughCall$City" "dangerNames" "[J") ∈ lwg := lm2 (ltb_2 (List.mem_of_getElem? (i := 88) (by decide +kernel))) rfl
theorem tw_448 : (Cond.laysFinal "PloughCall$City" "PloughCall$City" "sizes" "[I") ∈ lwg := lm2 (ltb_2 (List.mem_of_getElem? (i := 90) (by decide +kernel))) rfl
theorem tw_450 : (Cond.laysFinal "PloughCall$City" "PloughCall$City" "grows" "[I") ∈ lwg := lm2 (ltb_2 (List.mem_of_getElem? (i := 92) (by decide +kernel))) rfl
theorem tw_452 : (Cond.laysFinal "PloughCall$City" "PloughCall$City" "decreeNames" "[J") ∈ lwg := lm2 (ltb_2 (List.mem_of_getElem? (i := 94) (by decide +kernel))) rfl
theorem tw_454 : (Cond.laysFinal "PloughCall$City" "PloughCall$City" "grounds" "[I") ∈ lwg := lm2 (ltb_2 (List.mem_of_getElem? (i := 96) (by decide +kernel))) rfl
theorem tw_456 : (Cond.laysFinal "PloughCall$City" "PloughCall$City" "laws" "LPloughCall$Laws;") ∈ lwg := lm2 (ltb_2 (List.mem_of_getElem? (i := 98) (by decide +kernel))) rfl
theorem tw_458 : (Cond.superclass "PloughCall$City" "java/lang/Object") ∈ lwg := lm2 (ltb_2 (List.mem_of_getElem? (i := 100) (by decide +kernel))) rfl
theorem tw_459 : (Cond.classLink "PloughCall" 72 "PloughCall$Script") ∈ lwg := lm2 (ltb_2 (List.mem_of_getElem? (i := 101) (by decide +kernel))) rfl
theorem tw_460 : (Cond.instantiable "PloughCall$Script" 4) ∈ lwg := lm2 (ltb_2 (List.mem_of_getElem? (i := 102) (by decide +kernel))) rfl
theorem tw_462 : (Cond.instanceMethod ⟨"PloughCall$Script", "<init>", "()V"⟩) ∈ lwg := lm2 (ltb_2 (List.mem_of_getElem? (i := 104) (by decide +kernel))) rfl
theorem tw_463 : (Cond.code ⟨"PloughCall$Script", "<init>", "()V"⟩ prog_10_method_1_code 1 none) ∈ lwg := lm2 (ltb_2 (List.mem_of_getElem? (i := 105) (by decide +kernel))) rfl
theorem tw_464 : (Cond.methodLink "PloughCall$Script" 3 ⟨"java/lang/Object", "<init>", "()V"⟩) ∈ lwg := lm2 (ltb_2 (List.mem_of_getElem? (i := 106) (by decide +kernel))) rfl
theorem tw_465 : (Cond.fieldLink "PloughCall$Script" 21 "PloughCall$Script" "lines" "I") ∈ lwg := lm2 (ltb_2 (List.mem_of_getElem? (i := 107) (by decide +kernel))) rfl
theorem tw_468 : (Cond.fieldLink "PloughCall$Script" 9 "PloughCall$Script" "kinds" "[I") ∈ lwg := lm2 (ltb_2 (List.mem_of_getElem? (i := 110) (by decide +kernel))) rfl
theorem tw_469 : (Cond.fieldLink "PloughCall$Script" 15 "PloughCall$Script" "firsts" "[I") ∈ lwg := lm2 (ltb_2 (List.mem_of_getElem? (i := 111) (by decide +kernel))) rfl
theorem tw_470 : (Cond.fieldLink "PloughCall$Script" 18 "PloughCall$Script" "seconds" "[I") ∈ lwg := lm2 (ltb_2 (List.mem_of_getElem? (i := 112) (by decide +kernel))) rfl
theorem tw_471 : (Cond.lays "PloughCall$Script" "PloughCall$Script" "lines" "I") ∈ lwg := lm2 (ltb_2 (List.mem_of_getElem? (i := 113) (by decide +kernel))) rfl
theorem tw_473 : (Cond.laysFinal "PloughCall$Script" "PloughCall$Script" "kinds" "[I") ∈ lwg := lm2 (ltb_2 (List.mem_of_getElem? (i := 115) (by decide +kernel))) rfl
theorem tw_475 : (Cond.laysFinal "PloughCall$Script" "PloughCall$Script" "firsts" "[I") ∈ lwg := lm2 (ltb_2 (List.mem_of_getElem? (i := 117) (by decide +kernel))) rfl
theorem tw_477 : (Cond.laysFinal "PloughCall$Script" "PloughCall$Script" "seconds" "[I") ∈ lwg := lm2 (ltb_2 (List.mem_of_getElem? (i := 119) (by decide +kernel))) rfl
theorem tw_479 : (Cond.superclass "PloughCall$Script" "java/lang/Object") ∈ lwg := lm2 (ltb_2 (List.mem_of_getElem? (i := 121) (by decide +kernel))) rfl
theorem tw_480 : (Cond.instantiable "PloughCall$Mark" 4) ∈ lwg := lm2 (ltb_2 (List.mem_of_getElem? (i := 122) (by decide +kernel))) rfl
theorem tw_482 : (Cond.instanceMethod ⟨"PloughCall$Mark", "<init>", "()V"⟩) ∈ lwg := lm2 (ltb_2 (List.mem_of_getElem? (i := 124) (by decide +kernel))) rfl
theorem tw_483 : (Cond.code ⟨"PloughCall$Mark", "<init>", "()V"⟩ prog_6_method_1_code 1 none) ∈ lwg := lm2 (ltb_2 (List.mem_of_getElem? (i := 125) (by decide +kernel))) rfl
theorem tw_484 : (Cond.methodLink "PloughCall$Mark" 1 ⟨"java/lang/Object", "<init>", "()V"⟩) ∈ lwg := lm2 (ltb_2 (List.mem_of_getElem? (i := 126) (by decide +kernel))) rfl
theorem tw_485 : (Cond.classLink "PloughCall$Mark" 7 "PloughCall$Standing") ∈ lwg := lm2 (ltb_2 (List.mem_of_getElem? (i := 127) (by decide +kernel))) rfl
theorem tw_487 : (Cond.classLink "PloughCall$Mark" 16 "PloughCall$Script") ∈ lwg := lm2 (ltb_2 (List.mem_of_getElem? (i := 129) (by decide +kernel))) rfl
theorem tw_489 : (Cond.classLink "PloughCall$Mark" 23 "PloughCall$Reports") ∈ lwg := lm2 (ltb_2 (List.mem_of_getElem? (i := 131) (by decide +kernel))) rfl
theorem tw_491 : (Cond.fieldLink "PloughCall$Mark" 40 "PloughCall$Mark" "laid" "Z") ∈ lwg := lm2 (ltb_2 (List.mem_of_getElem? (i := 133) (by decide +kernel))) rfl
theorem tw_493 : (Cond.fieldLink "PloughCall$Mark" 10 "PloughCall$Mark" "standing" "LPloughCall$Standing;") ∈ lwg := lm2 (ltb_2 (List.mem_of_getElem? (i := 135) (by decide +kernel))) rfl
theorem tw_495 : (Cond.fieldLink "PloughCall$Mark" 19 "PloughCall$Mark" "script" "LPloughCall$Script;") ∈ lwg := lm2 (ltb_2 (List.mem_of_getElem? (i := 137) (by decide +kernel))) rfl
theorem tw_497 : (Cond.fieldLink "PloughCall$Mark" 26 "PloughCall$Mark" "reports" "LPloughCall$Reports;") ∈ lwg := lm2 (ltb_2 (List.mem_of_getElem? (i := 139) (by decide +kernel))) rfl
theorem tw_499 : (Cond.lays "PloughCall$Mark" "PloughCall$Mark" "laid" "Z") ∈ lwg := lm2 (ltb_2 (List.mem_of_getElem? (i := 141) (by decide +kernel))) rfl
theorem tw_501 : (Cond.laysFinal "PloughCall$Mark" "PloughCall$Mark" "standing" "LPloughCall$Standing;") ∈ lwg := lm2 (ltb_2 (List.mem_of_getElem? (i := 143) (by decide +kernel))) rfl
theorem tw_503 : (Cond.laysFinal "PloughCall$Mark" "PloughCall$Mark" "script" "LPloughCall$Script;") ∈ lwg := lm2 (ltb_2 (List.mem_of_getElem? (i := 145) (by decide +kernel))) rfl
theorem tw_505 : (Cond.laysFinal "PloughCall$Mark" "PloughCall$Mark" "reports" "LPloughCall$Reports;") ∈ lwg := lm2 (ltb_2 (List.mem_of_getElem? (i := 147) (by decide +kernel))) rfl
theorem tw_507 : (Cond.superclass "PloughCall$Mark" "java/lang/Object") ∈ lwg := lm2 (ltb_2 (List.mem_of_getElem? (i := 149) (by decide +kernel))) rfl
theorem tw_508 : (Cond.fieldLink "PloughCall" 10 "PloughCall" "tape" "LPloughCall$Tape;") ∈ lwg := lm2 (ltb_2 (List.mem_of_getElem? (i := 150) (by decide +kernel))) rfl
theorem tw_509 : (Cond.fieldLink "PloughCall" 21 "PloughCall" "reader" "LPloughCall$Reader;") ∈ lwg := lm2 (ltb_2 (List.mem_of_getElem? (i := 151) (by decide +kernel))) rfl
theorem tw_510 : (Cond.fieldLink "PloughCall" 28 "PloughCall" "counsel" "LPloughCall$Counsel;") ∈ lwg := lm2 (ltb_2 (List.mem_of_getElem? (i := 152) (by decide +kernel))) rfl
theorem tw_511 : (Cond.fieldLink "PloughCall" 35 "PloughCall" "now" "LPloughCall$Standing;") ∈ lwg := lm2 (ltb_2 (List.mem_of_getElem? (i := 153) (by decide +kernel))) rfl
theorem tw_512 : (Cond.fieldLink "PloughCall" 39 "PloughCall" "trial" "LPloughCall$Standing;") ∈ lwg := lm2 (ltb_2 (List.mem_of_getElem? (i := 154) (by decide +kernel))) rfl
theorem tw_513 : (Cond.fieldLink "PloughCall" 45 "PloughCall" "past" "LPloughCall$Past;") ∈ lwg := lm2 (ltb_2 (List.mem_of_getElem? (i := 155) (by decide +kernel))) rfl
theorem tw_514 : (Cond.fieldLink "PloughCall" 52 "PloughCall" "reports" "LPloughCall$Reports;") ∈ lwg := lm2 (ltb_2 (List.mem_of_getElem? (i := 156) (by decide +kernel))) rfl
theorem tw_515 : (Cond.fieldLink "PloughCall" 58 "PloughCall" "marks" "[LPloughCall$Mark;") ∈ lwg := lm2 (ltb_2 (List.mem_of_getElem? (i := 157) (by decide +kernel))) rfl
theorem tw_516 : (Cond.fieldLink "PloughCall" 65 "PloughCall" "city" "LPloughCall$City;") ∈ lwg := lm2 (ltb_2 (List.mem_of_getElem? (i := 158) (by decide +kernel))) rfl
theorem tw_517 : (Cond.fieldLink "PloughCall" 69 "PloughCall" "spareCity" "LPloughCall$City;") ∈ lwg := lm2 (ltb_2 (List.mem_of_getElem? (i := 159) (by decide +kernel))) rfl
theorem tw_518 : (Cond.fieldLink "PloughCall" 75 "PloughCall" "script" "LPloughCall$Script;") ∈ lwg := lm2 (ltb_2 (List.mem_of_getElem? (i := 160) (by decide +kernel))) rfl
theorem tw_519 : (Cond.fieldLink "PloughCall" 79 "PloughCall" "spareScript" "LPloughCall$Script;") ∈ lwg := lm2 (ltb_2 (List.mem_of_getElem? (i := 161) (by decide +kernel))) rfl
theorem tw_520 : (Cond.fieldLink "PloughCall" 202 "PloughCall" "firstRefused" "I") ∈ lwg := lm2 (ltb_2 (List.mem_of_getElem? (i := 162) (by decide +kernel))) rfl
theorem tw_521 : (Cond.fieldLink "PloughCall" 205 "PloughCall" "firstKept" "I") ∈ lwg := lm2 (ltb_2 (List.mem_of_getElem? (i := 163) (by decide +kernel))) rfl
theorem tw_522 : (Cond.laysFinal "PloughCall" "PloughCall" "tape" "LPloughCall$Tape;") ∈ lwg := lm2 (ltb_2 (List.mem_of_getElem? (i := 164) (by decide +kernel))) rfl
theorem tw_524 : (Cond.laysFinal "PloughCall" "PloughCall" "reader" "LPloughCall$Reader;") ∈ lwg := lm2 (ltb_2 (List.mem_of_getElem? (i := 166) (by decide +kernel))) rfl
theorem tw_526 : (Cond.laysFinal "PloughCall" "PloughCall" "counsel" "LPloughCall$Counsel;") ∈ lwg := lm2 (ltb_2 (List.mem_of_getElem? (i := 168) (by decide +kernel))) rfl
theorem tw_528 : (Cond.laysFinal "PloughCall" "PloughCall" "now" "LPloughCall$Standing;") ∈ lwg := lm2 (ltb_2 (List.mem_of_getElem? (i := 170) (by decide +kernel))) rfl
theorem tw_530 : (Cond.laysFinal "PloughCall" "PloughCall" "trial" "LPloughCall$Standing;") ∈ lwg := lm2 (ltb_2 (List.mem_of_getElem? (i := 172) (by decide +kernel))) rfl
theorem tw_532 : (Cond.laysFinal "PloughCall" "PloughCall" "past" "LPloughCall$Past;") ∈ lwg := lm2 (ltb_2 (List.mem_of_getElem? (i := 174) (by decide +kernel))) rfl
theorem tw_534 : (Cond.laysFinal "PloughCall" "PloughCall" "reports" "LPloughCall$Reports;") ∈ lwg := lm2 (ltb_2 (List.mem_of_getElem? (i := 176) (by decide +kernel))) rfl
theorem tw_536 : (Cond.laysFinal "PloughCall" "PloughCall" "marks" "[LPloughCall$Mark;") ∈ lwg := lm2 (ltb_2 (List.mem_of_getElem? (i := 178) (by decide +kernel))) rfl
theorem tw_538 : (Cond.lays "PloughCall" "PloughCall" "city" "LPloughCall$City;") ∈ lwg := lm2 (ltb_2 (List.mem_of_getElem? (i := 180) (by decide +kernel))) rfl
theorem tw_540 : (Cond.lays "PloughCall" "PloughCall" "spareCity" "LPloughCall$City;") ∈ lwg := lm2 (ltb_2 (List.mem_of_getElem? (i := 182) (by decide +kernel))) rfl
theorem tw_542 : (Cond.lays "PloughCall" "PloughCall" "script" "LPloughCall$Script;") ∈ lwg := lm2 (ltb_2 (List.mem_of_getElem? (i := 184) (by decide +kernel))) rfl
theorem tw_544 : (Cond.lays "PloughCall" "PloughCall" "spareScript" "LPloughCall$Script;") ∈ lwg := lm2 (ltb_2 (List.mem_of_getElem? (i := 186) (by decide +kernel))) rfl
theorem tw_546 : (Cond.lays "PloughCall" "PloughCall" "firstRefused" "I") ∈ lwg := lm2 (ltb_2 (List.mem_of_getElem? (i := 188) (by decide +kernel))) rfl
theorem tw_548 : (Cond.lays "PloughCall" "PloughCall" "firstKept" "I") ∈ lwg := lm2 (ltb_2 (List.mem_of_getElem? (i := 190) (by decide +kernel))) rfl
theorem tw_550 : (Cond.superclass "PloughCall" "java/lang/Object") ∈ lwg := lm2 (ltb_2 (List.mem_of_getElem? (i := 192) (by decide +kernel))) rfl
theorem tw_551 : (Cond.methodLink "PloughCallLaw" 24 ⟨"PloughCall", "feed", "(JJJ)I"⟩) ∈ lwg := lm2 (ltb_2 (List.mem_of_getElem? (i := 193) (by decide +kernel))) rfl
theorem tw_552 : (Cond.instanceMethod ⟨"PloughCall", "feed", "(JJJ)I"⟩) ∈ lwg := lm2 (ltb_2 (List.mem_of_getElem? (i := 194) (by decide +kernel))) rfl
theorem tw_553 : (Cond.selects "PloughCall" ⟨"PloughCall", "feed", "(JJJ)I"⟩ ⟨"PloughCall", "feed", "(JJJ)I"⟩) ∈ lwg := lm2 (ltb_2 (List.mem_of_getElem? (i := 195) (by decide +kernel))) rfl
theorem tw_554 : (Cond.code ⟨"PloughCall", "feed", "(JJJ)I"⟩ prog_1_method_2_code 7 (some FieldType.int)) ∈ lwg := lm2 (ltb_2 (List.mem_of_getElem? (i := 196) (by decide +kernel))) rfl
theorem tw_555 : (Cond.methodLink "PloughCall" 83 ⟨"PloughCall$Tape", "addBytes", "(J)V"⟩) ∈ lwg := lm2 (ltb_2 (List.mem_of_getElem? (i := 197) (by decide +kernel))) rfl
theorem tw_556 : (Cond.instanceMethod ⟨"PloughCall$Tape", "addBytes", "(J)V"⟩) ∈ lwg := lm2 (ltb_2 (List.mem_of_getElem? (i := 198) (by decide +kernel))) rfl
theorem tw_557 : (Cond.selects "PloughCall$Tape" ⟨"PloughCall$Tape", "addBytes", "(J)V"⟩ ⟨"PloughCall$Tape", "addBytes", "(J)V"⟩) ∈ lwg := lm2 (ltb_2 (List.mem_of_getElem? (i := 199) (by decide +kernel))) rfl
theorem tw_558 : (Cond.code ⟨"PloughCall$Tape", "addBytes", "(J)V"⟩ prog_12_method_2_code 5 none) ∈ lwg := lm2 (ltb_2 (List.mem_of_getElem? (i := 200) (by decide +kernel))) rfl
theorem tw_560 : (Cond.static ⟨"PloughCall", "within", "(III)Z"⟩) ∈ lwg := lm2 (ltb_2 (List.mem_of_getElem? (i := 202) (by decide +kernel))) rfl
theorem tw_561 : (Cond.code ⟨"PloughCall", "within", "(III)Z"⟩ prog_1_method_35_code 3 (some FieldType.boolean)) ∈ lwg := lm2 (ltb_2 (List.mem_of_getElem? (i := 203) (by decide +kernel))) rfl
theorem tw_563 : (Cond.static ⟨"PloughCall", "put", "([III)V"⟩) ∈ lwg := lm2 (ltb_2 (List.mem_of_getElem? (i := 205) (by decide +kernel))) rfl
theorem tw_564 : (Cond.code ⟨"PloughCall", "put", "([III)V"⟩ prog_1_method_37_code 3 none) ∈ lwg := lm2 (ltb_2 (List.mem_of_getElem? (i := 206) (by decide +kernel))) rfl
theorem tw_565 : (Cond.methodLink "PloughCallLaw" 29 ⟨"PloughCall", "city", "()I"⟩) ∈ lwg := lm2 (ltb_2 (List.mem_of_getElem? (i := 207) (by decide +kernel))) rfl
theorem tw_566 : (Cond.instanceMethod ⟨"PloughCall", "city", "()I"⟩) ∈ lwg := lm2 (ltb_2 (List.mem_of_getElem? (i := 208) (by decide +kernel))) rfl
theorem tw_567 : (Cond.selects "PloughCall" ⟨"PloughCall", "city", "()I"⟩ ⟨"PloughCall", "city", "()I"⟩) ∈ lwg := lm2 (ltb_2 (List.mem_of_getElem? (i := 209) (by decide +kernel))) rfl
theorem tw_568 : (Cond.code ⟨"PloughCall", "city", "()I"⟩ prog_1_method_3_code 5 (some FieldType.int)) ∈ lwg := lm2 (ltb_2 (List.mem_of_getElem? (i := 210) (by decide +kernel))) rfl
theorem tw_569 : (Cond.methodLink "PloughCall" 91 ⟨"PloughCall$Reader", "readCity", "(LPloughCall$City;)I"⟩) ∈ lwg := lm2 (ltb_2 (List.mem_of_getElem? (i := 211) (by decide +kernel))) rfl
theorem tw_570 : (Cond.instanceMethod ⟨"PloughCall$Reader", "readCity", "(LPloughCall$City;)I"⟩) ∈ lwg := lm2 (ltb_2 (List.mem_of_getElem? (i := 212) (by decide +kernel))) rfl
theorem tw_571 : (Cond.selects "PloughCall$Reader" ⟨"PloughCall$Reader", "readCity", "(LPloughCall$City;)I"⟩ ⟨"PloughCall$Reader", "readCity", "(LPloughCall$City;)I"⟩) ∈ lwg := lm2 (ltb_2 (List.mem_of_getElem? (i := 213) (by decide +kernel))) rfl
theorem tw_572 : (Cond.code ⟨"PloughCall$Reader", "readCity", "(LPloughCall$City;)I"⟩ prog_8_method_2_code 4 (some FieldType.int)) ∈ lwg := lm2 (ltb_2 (List.mem_of_getElem? (i := 214) (by decide +kernel))) rfl
theorem tw_573 : (Cond.methodLink "PloughCall$Reader" 19 ⟨"PloughCall$City", "clear", "()V"⟩) ∈ lwg := lm2 (ltb_2 (List.mem_of_getElem? (i := 215) (by decide +kernel))) rfl
theorem tw_574 : (Cond.instanceMethod ⟨"PloughCall$City", "clear", "()V"⟩) ∈ lwg := lm2 (ltb_2 (List.mem_of_getElem? (i := 216) (by decide +kernel))) rfl
theorem tw_575 : (Cond.selects "PloughCall$City" ⟨"PloughCall$City", "clear", "()V"⟩ ⟨"PloughCall$City", "clear", "()V"⟩) ∈ lwg := lm2 (ltb_2 (List.mem_of_getElem? (i := 217) (by decide +kernel))) rfl
theorem tw_576 : (Cond.code ⟨"PloughCall$City", "clear", "()V"⟩ prog_3_method_2_code 2 none) ∈ lwg := lm2 (ltb_2 (List.mem_of_getElem? (i := 218) (by decide +kernel))) rfl
theorem tw_578 : (Cond.methodLink "PloughCall$City" 77 ⟨"PloughCall$Laws", "clear", "()V"⟩) ∈ lwg := lm2 (ltb_2 (List.mem_of_getElem? (i := 220) (by decide +kernel))) rfl
theorem tw_579 : (Cond.instanceMethod ⟨"PloughCall$Laws", "clear", "()V"⟩) ∈ lwg := lm2 (ltb_2 (List.mem_of_getElem? (i := 221) (by decide +kernel))) rfl
theorem tw_580 : (Cond.selects "PloughCall$Laws" ⟨"PloughCall$Laws", "clear", "()V"⟩ ⟨"PloughCall$Laws", "clear", "()V"⟩) ∈ lwg := lm2 (ltb_2 (List.mem_of_getElem? (i := 222) (by decide +kernel))) rfl
theorem tw_581 : (Cond.code ⟨"PloughCall$Laws", "clear", "()V"⟩ prog_5_method_2_code 1 none) ∈ lwg := lm2 (ltb_2 (List.mem_of_getElem? (i := 223) (by decide +kernel))) rfl
theorem tw_582 : (Cond.methodLink "PloughCall$Reader" 28 ⟨"PloughCall$Tape", "open", "()V"⟩) ∈ lwg := lm2 (ltb_2 (List.mem_of_getElem? (i := 224) (by decide +kernel))) rfl
theorem tw_583 : (Cond.instanceMethod ⟨"PloughCall$Tape", "open", "()V"⟩) ∈ lwg := lm2 (ltb_2 (List.mem_of_getElem? (i := 225) (by decide +kernel))) rfl
theorem tw_584 : (Cond.selects "PloughCall$Tape" ⟨"PloughCall$Tape", "open", "()V"⟩ ⟨"PloughCall$Tape", "open", "()V"⟩) ∈ lwg := lm2 (ltb_2 (List.mem_of_getElem? (i := 226) (by decide +kernel))) rfl
theorem tw_585 : (Cond.code ⟨"PloughCall$Tape", "open", "()V"⟩ prog_12_method_3_code 1 none) ∈ lwg := lm2 (ltb_2 (List.mem_of_getElem? (i := 227) (by decide +kernel))) rfl
theorem tw_586 : (Cond.methodLink "PloughCall$Tape" 30 ⟨"PloughCall$Tape", "advance", "()V"⟩) ∈ lwg := lm2 (ltb_2 (List.mem_of_getElem? (i := 228) (by decide +kernel))) rfl
theorem tw_587 : (Cond.instanceMethod ⟨"PloughCall$Tape", "advance", "()V"⟩) ∈ lwg := lm2 (ltb_2 (List.mem_of_getElem? (i := 229) (by decide +kernel))) rfl
theorem tw_588 : (Cond.selects "PloughCall$Tape" ⟨"PloughCall$Tape", "advance", "()V"⟩ ⟨"PloughCall$Tape", "advance", "()V"⟩) ∈ lwg := lm2 (ltb_2 (List.mem_of_getElem? (i := 230) (by decide +kernel))) rfl
theorem tw_589 : (Cond.code ⟨"PloughCall$Tape", "advance", "()V"⟩ prog_12_method_5_code 2 none) ∈ lwg := lm2 (ltb_2 (List.mem_of_getElem? (i := 231) (by decide +kernel))) rfl
theorem tw_591 : (Cond.static ⟨"PloughCall", "at", "([II)I"⟩) ∈ lwg := lm2 (ltb_2 (List.mem_of_getElem? (i := 233) (by decide +kernel))) rfl
theorem tw_592 : (Cond.code ⟨"PloughCall", "at", "([II)I"⟩ prog_1_method_36_code 2 (some FieldType.int)) ∈ lwg := lm2 (ltb_2 (List.mem_of_getElem? (i := 234) (by decide +kernel))) rfl
theorem tw_593 : (Cond.methodLink "PloughCall$Tape" 54 ⟨"PloughCall$Tape", "readWord", "()V"⟩) ∈ lwg := lm2 (ltb_2 (List.mem_of_getElem? (i := 235) (by decide +kernel))) rfl
theorem tw_595 : (Cond.instanceMethod ⟨"PloughCall$Tape", "readWord", "()V"⟩) ∈ lwg := lm2 (ltb_2 (List.mem_of_getElem? (i := 237) (by decide +kernel))) rfl
theorem tw_596 : (Cond.code ⟨"PloughCall$Tape", "readWord", "()V"⟩ prog_12_method_6_code 2 none) ∈ lwg := lm2 (ltb_2 (List.mem_of_getElem? (i := 238) (by decide +kernel))) rfl
theorem tw_597 : (Cond.methodLink "PloughCall$Tape" 64 ⟨"PloughCall$Word", "withLetter", "(JI)J"⟩) ∈ lwg := lm2 (ltb_2 (List.mem_of_getElem? (i := 239) (by decide +kernel))) rfl
theorem tw_598 : (Cond.static ⟨"PloughCall$Word", "withLetter", "(JI)J"⟩) ∈ lwg := lm2 (ltb_3 (List.mem_of_getElem? (i := 0) (by decide +kernel))) rfl
theorem tw_599 : (Cond.code ⟨"PloughCall$Word", "withLetter", "(JI)J"⟩ prog_13_method_5_code 3 (some FieldType.long)) ∈ lwg := lm2 (ltb_3 (List.mem_of_getElem? (i := 1) (by decide +kernel))) rfl
theorem tw_600 : (Cond.constantLong "PloughCall$Word" 145 32) ∈ lwg := lm2 (ltb_3 (List.mem_of_getElem? (i := 2) (by decide +kernel))) rfl
theorem tw_601 : (Cond.methodLink "PloughCall$Tape" 70 ⟨"PloughCall$Word", "spelt", "(J)LPloughCall$Word;"⟩) ∈ lwg := lm2 (ltb_3 (List.mem_of_getElem? (i := 3) (by decide +kernel))) rfl
theorem tw_602 : (Cond.static ⟨"PloughCall$Word", "spelt", "(J)LPloughCall$Word;"⟩) ∈ lwg := lm2 (ltb_3 (List.mem_of_getElem? (i := 4) (by decide +kernel))) rfl
theorem tw_603 : (Cond.code ⟨"PloughCall$Word", "spelt", "(J)LPloughCall$Word;"⟩ prog_13_method_6_code 3 (some (FieldType.object "PloughCall$Word"))) ∈ lwg := lm2 (ltb_3 (List.mem_of_getElem? (i := 5) (by decide +kernel))) rfl
theorem tw_604 : (Cond.fieldLink "PloughCall$Word" 147 "PloughCall$Word" "WORDS" "[LPloughCall$Word;") ∈ lwg := lm2 (ltb_3 (List.mem_of_getElem? (i := 6) (by decide +kernel))) rfl
theorem tw_606 : (Cond.methodLink "PloughCall$Tape" 57 ⟨"PloughCall$Tape", "readNumber", "()V"⟩) ∈ lwg := lm2 (ltb_3 (List.mem_of_getElem? (i := 8) (by decide +kernel))) rfl
theorem tw_608 : (Cond.instanceMethod ⟨"PloughCall$Tape", "readNumber", "()V"⟩) ∈ lwg := lm2 (ltb_3 (List.mem_of_getElem? (i := 10) (by decide +kernel))) rfl
theorem tw_609 : (Cond.code ⟨"PloughCall$Tape", "readNumber", "()V"⟩ prog_12_method_7_code 2 none) ∈ lwg := lm2 (ltb_3 (List.mem_of_getElem? (i := 11) (by decide +kernel))) rfl
theorem tw_610 : (Cond.methodLink "PloughCall$Tape" 60 ⟨"PloughCall$Tape", "isOwnToken", "(I)Z"⟩) ∈ lwg := lm2 (ltb_3 (List.mem_of_getElem? (i := 12) (by decide +kernel))) rfl
theorem tw_611 : (Cond.static ⟨"PloughCall$Tape", "isOwnToken", "(I)Z"⟩) ∈ lwg := lm2 (ltb_3 (List.mem_of_getElem? (i := 13) (by decide +kernel))) rfl
theorem tw_612 : (Cond.code ⟨"PloughCall$Tape", "isOwnToken", "(I)Z"⟩ prog_12_method_8_code 1 (some FieldType.boolean)) ∈ lwg := lm2 (ltb_3 (List.mem_of_getElem? (i := 14) (by decide +kernel))) rfl
theorem tw_613 : (Cond.methodLink "PloughCall$Reader" 36 ⟨"PloughCall$Reader", "cityLine", "()Z"⟩) ∈ lwg := lm2 (ltb_3 (List.mem_of_getElem? (i := 15) (by decide +kernel))) rfl
theorem tw_615 : (Cond.instanceMethod ⟨"PloughCall$Reader", "cityLine", "()Z"⟩) ∈ lwg := lm2 (ltb_3 (List.mem_of_getElem? (i := 17) (by decide +kernel))) rfl
theorem tw_616 : (Cond.code ⟨"PloughCall$Reader", "cityLine", "()Z"⟩ prog_8_method_5_code 2 (some FieldType.boolean)) ∈ lwg := lm2 (ltb_3 (List.mem_of_getElem? (i := 18) (by decide +kernel))) rfl
theorem tw_617 : (Cond.methodLink "PloughCall$Reader" 62 ⟨"PloughCall$Reader", "wrong", "(I)Z"⟩) ∈ lwg := lm2 (ltb_3 (List.mem_of_getElem? (i := 19) (by decide +kernel))) rfl
theorem tw_619 : (Cond.instanceMethod ⟨"PloughCall$Reader", "wrong", "(I)Z"⟩) ∈ lwg := lm2 (ltb_3 (List.mem_of_getElem? (i := 21) (by decide +kernel))) rfl
theorem tw_620 : (Cond.code ⟨"PloughCall$Reader", "wrong", "(I)Z"⟩ prog_8_method_4_code 2 (some FieldType.boolean)) ∈ lwg := lm2 (ltb_3 (List.mem_of_getElem? (i := 22) (by decide +kernel))) rfl
theorem tw_621 : (Cond.fieldLink "PloughCall$Reader" 66 "PloughCall$1" "$SwitchMap$PloughCall$Word" "[I") ∈ lwg := lm2 (ltb_3 (List.mem_of_getElem? (i := 23) (by decide +kernel))) rfl
theorem tw_623 : (Cond.methodLink "PloughCall$Reader" 72 ⟨"PloughCall$Word", "ordinal", "()I"⟩) ∈ lwg := lm2 (ltb_3 (List.mem_of_getElem? (i := 25) (by decide +kernel))) rfl
theorem tw_626 : (Cond.selects "PloughCall$Word" ⟨"PloughCall$Word", "ordinal", "()I"⟩ ⟨"java/lang/Enum", "ordinal", "()I"⟩) ∈ lwg := lm2 (ltb_3 (List.mem_of_getElem? (i := 28) (by decide +kernel))) rfl
theorem tw_627 : (Cond.instanceMethod ⟨"java/lang/Enum", "ordinal", "()I"⟩) ∈ lwg := lm2 (ltb_3 (List.mem_of_getElem? (i := 29) (by decide +kernel))) rfl
theorem tw_628 : (Cond.code ⟨"java/lang/Enum", "ordinal", "()I"⟩ prog_18_method_2_code 1 (some FieldType.int)) ∈ lwg := lm2 (ltb_3 (List.mem_of_getElem? (i := 30) (by decide +kernel))) rfl
theorem tw_629 : (Cond.methodLink "PloughCall$Reader" 78 ⟨"PloughCall$Reader", "manLine", "()Z"⟩) ∈ lwg := lm2 (ltb_3 (List.mem_of_getElem? (i := 31) (by decide +kernel))) rfl
theorem tw_631 : (Cond.instanceMethod ⟨"PloughCall$Reader", "manLine", "()Z"⟩) ∈ lwg := lm2 (ltb_3 (List.mem_of_getElem? (i := 33) (by decide +kernel))) rfl
theorem tw_632 : (Cond.code ⟨"PloughCall$Reader", "manLine", "()Z"⟩ prog_8_method_6_code 7 (some FieldType.boolean)) ∈ lwg := lm2 (ltb_3 (List.mem_of_getElem? (i := 34) (by decide +kernel))) rfl
theorem tw_633 : (Cond.methodLink "PloughCall$Reader" 103 ⟨"PloughCall$Tape", "advance", "()V"⟩) ∈ lwg := lm2 (ltb_3 (List.mem_of_getElem? (i := 35) (by decide +kernel))) rfl
theorem tw_634 : (Cond.methodLink "PloughCall$Reader" 110 ⟨"PloughCall$Reader", "freshName", "()Z"⟩) ∈ lwg := lm2 (ltb_3 (List.mem_of_getElem? (i := 36) (by decide +kernel))) rfl
theorem tw_636 : (Cond.instanceMethod ⟨"PloughCall$Reader", "freshName", "()Z"⟩) ∈ lwg := lm2 (ltb_3 (List.mem_of_getElem? (i := 38) (by decide +kernel))) rfl
theorem tw_637 : (Cond.code ⟨"PloughCall$Reader", "freshName", "()Z"⟩ prog_8_method_17_code 1 (some FieldType.boolean)) ∈ lwg := lm2 (ltb_3 (List.mem_of_getElem? (i := 39) (by decide +kernel))) rfl
theorem tw_638 : (Cond.methodLink "PloughCall$Reader" 205 ⟨"PloughCall$Tape", "isName", "()Z"⟩) ∈ lwg := lm2 (ltb_3 (List.mem_of_getElem? (i := 40) (by decide +kernel))) rfl
theorem tw_639 : (Cond.instanceMethod ⟨"PloughCall$Tape", "isName", "()Z"⟩) ∈ lwg := lm2 (ltb_3 (List.mem_of_getElem? (i := 41) (by decide +kernel))) rfl
theorem tw_640 : (Cond.selects "PloughCall$Tape" ⟨"PloughCall$Tape", "isName", "()Z"⟩ ⟨"PloughCall$Tape", "isName", "()Z"⟩) ∈ lwg := lm2 (ltb_3 (List.mem_of_getElem? (i := 42) (by decide +kernel))) rfl
theorem tw_641 : (Cond.code ⟨"PloughCall$Tape", "isName", "()Z"⟩ prog_12_method_10_code 1 (some FieldType.boolean)) ∈ lwg := lm2 (ltb_3 (List.mem_of_getElem? (i := 43) (by decide +kernel))) rfl
theorem tw_642 : (Cond.methodLink "PloughCall$Reader" 264 ⟨"PloughCall$City", "isNamed", "(J)Z"⟩) ∈ lwg := lm2 (ltb_3 (List.mem_of_getElem? (i := 44) (by decide +kernel))) rfl
theorem tw_643 : (Cond.instanceMethod ⟨"PloughCall$City", "isNamed", "(J)Z"⟩) ∈ lwg := lm2 (ltb_3 (List.mem_of_getElem? (i := 45) (by decide +kernel))) rfl
theorem tw_644 : (Cond.selects "PloughCall$City" ⟨"PloughCall$City", "isNamed", "(J)Z"⟩ ⟨"PloughCall$City", "isNamed", "(J)Z"⟩) ∈ lwg := lm2 (ltb_3 (List.mem_of_getElem? (i := 46) (by decide +kernel))) rfl
theorem tw_645 : (Cond.code ⟨"PloughCall$City", "isNamed", "(J)Z"⟩ prog_3_method_9_code 3 (some FieldType.boolean)) ∈ lwg := lm2 (ltb_3 (List.mem_of_getElem? (i := 47) (by decide +kernel))) rfl
theorem tw_646 : (Cond.methodLink "PloughCall$City" 84 ⟨"PloughCall$City", "manNamed", "(J)I"⟩) ∈ lwg := lm2 (ltb_3 (List.mem_of_getElem? (i := 48) (by decide +kernel))) rfl
theorem tw_647 : (Cond.instanceMethod ⟨"PloughCall$City", "manNamed", "(J)I"⟩) ∈ lwg := lm2 (ltb_3 (List.mem_of_getElem? (i := 49) (by decide +kernel))) rfl
theorem tw_648 : (Cond.selects "PloughCall$City" ⟨"PloughCall$City", "manNamed", "(J)I"⟩ ⟨"PloughCall$City", "manNamed", "(J)I"⟩) ∈ lwg := lm2 (ltb_3 (List.mem_of_getElem? (i := 50) (by decide +kernel))) rfl
theorem tw_649 : (Cond.code ⟨"PloughCall$City", "manNamed", "(J)I"⟩ prog_3_method_6_code 3 (some FieldType.int)) ∈ lwg := lm2 (ltb_3 (List.mem_of_getElem? (i := 51) (by decide +kernel))) rfl
theorem tw_650 : (Cond.methodLink "PloughCall$City" 80 ⟨"PloughCall$City", "placeOf", "([JIJ)I"⟩) ∈ lwg := lm2 (ltb_3 (List.mem_of_getElem? (i := 52) (by decide +kernel))) rfl
theorem tw_651 : (Cond.static ⟨"PloughCall$City", "placeOf", "([JIJ)I"⟩) ∈ lwg := lm2 (ltb_3 (List.mem_of_getElem? (i := 53) (by decide +kernel))) rfl
theorem tw_652 : (Cond.code ⟨"PloughCall$City", "placeOf", "([JIJ)I"⟩ prog_3_method_10_code 5 (some FieldType.int)) ∈ lwg := lm2 (ltb_3 (List.mem_of_getElem? (i := 54) (by decide +kernel))) rfl
theorem tw_653 : (Cond.methodLink "PloughCall$City" 88 ⟨"PloughCall$City", "dangerNamed", "(J)I"⟩) ∈ lwg := lm2 (ltb_3 (List.mem_of_getElem? (i := 55) (by decide +kernel))) rfl
theorem tw_654 : (Cond.instanceMethod ⟨"PloughCall$City", "dangerNamed", "(J)I"⟩) ∈ lwg := lm2 (ltb_3 (List.mem_of_getElem? (i := 56) (by decide +kernel))) rfl
theorem tw_655 : (Cond.selects "PloughCall$City" ⟨"PloughCall$City", "dangerNamed", "(J)I"⟩ ⟨"PloughCall$City", "dangerNamed", "(J)I"⟩) ∈ lwg := lm2 (ltb_3 (List.mem_of_getElem? (i := 57) (by decide +kernel))) rfl
theorem tw_656 : (Cond.code ⟨"PloughCall$City", "dangerNamed", "(J)I"⟩ prog_3_method_7_code 3 (some FieldType.int)) ∈ lwg := lm2 (ltb_3 (List.mem_of_getElem? (i := 58) (by decide +kernel))) rfl
theorem tw_657 : (Cond.methodLink "PloughCall$City" 91 ⟨"PloughCall$City", "decreeNamed", "(J)I"⟩) ∈ lwg := lm2 (ltb_3 (List.mem_of_getElem? (i := 59) (by decide +kernel))) rfl
theorem tw_658 : (Cond.instanceMethod ⟨"PloughCall$City", "decreeNamed", "(J)I"⟩) ∈ lwg := lm2 (ltb_3 (List.mem_of_getElem? (i := 60) (by decide +kernel))) rfl
theorem tw_659 : (Cond.selects "PloughCall$City" ⟨"PloughCall$City", "decreeNamed", "(J)I"⟩ ⟨"PloughCall$City", "decreeNamed", "(J)I"⟩) ∈ lwg := lm2 (ltb_3 (List.mem_of_getElem? (i := 61) (by decide +kernel))) rfl
theorem tw_660 : (Cond.code ⟨"PloughCall$City", "decreeNamed", "(J)I"⟩ prog_3_method_8_code 3 (some FieldType.int)) ∈ lwg := lm2 (ltb_3 (List.mem_of_getElem? (i := 62) (by decide +kernel))) rfl
theorem tw_661 : (Cond.methodLink "PloughCall$Reader" 113 ⟨"PloughCall$Reader", "kindSpelt", "()I"⟩) ∈ lwg := lm2 (ltb_3 (List.mem_of_getElem? (i := 63) (by decide +kernel))) rfl
theorem tw_663 : (Cond.instanceMethod ⟨"PloughCall$Reader", "kindSpelt", "()I"⟩) ∈ lwg := lm2 (ltb_3 (List.mem_of_getElem? (i := 65) (by decide +kernel))) rfl
theorem tw_664 : (Cond.code ⟨"PloughCall$Reader", "kindSpelt", "()I"⟩ prog_8_method_7_code 2 (some FieldType.int)) ∈ lwg := lm2 (ltb_3 (List.mem_of_getElem? (i := 66) (by decide +kernel))) rfl
theorem tw_665 : (Cond.fieldLink "PloughCall$Reader" 136 "PloughCall$Word" "PLAIN" "LPloughCall$Word;") ∈ lwg := lm2 (ltb_3 (List.mem_of_getElem? (i := 67) (by decide +kernel))) rfl
theorem tw_667 : (Cond.fieldLink "PloughCall$Reader" 139 "PloughCall$Word" "POOR" "LPloughCall$Word;") ∈ lwg := lm2 (ltb_3 (List.mem_of_getElem? (i := 69) (by decide +kernel))) rfl
theorem tw_669 : (Cond.fieldLink "PloughCall$Reader" 142 "PloughCall$Word" "PROUD" "LPloughCall$Word;") ∈ lwg := lm2 (ltb_3 (List.mem_of_getElem? (i := 71) (by decide +kernel))) rfl
theorem tw_671 : (Cond.fieldLink "PloughCall$Reader" 145 "PloughCall$Word" "IDLE" "LPloughCall$Word;") ∈ lwg := lm2 (ltb_3 (List.mem_of_getElem? (i := 73) (by decide +kernel))) rfl
theorem tw_673 : (Cond.fieldLink "PloughCall$Reader" 116 "PloughCall$Word" "SKILL" "LPloughCall$Word;") ∈ lwg := lm2 (ltb_3 (List.mem_of_getElem? (i := 75) (by decide +kernel))) rfl
theorem tw_675 : (Cond.methodLink "PloughCall$Reader" 119 ⟨"PloughCall$Reader", "labelled", "(LPloughCall$Word;II)I"⟩) ∈ lwg := lm2 (ltb_3 (List.mem_of_getElem? (i := 77) (by decide +kernel))) rfl
theorem tw_677 : (Cond.instanceMethod ⟨"PloughCall$Reader", "labelled", "(LPloughCall$Word;II)I"⟩) ∈ lwg := lm2 (ltb_3 (List.mem_of_getElem? (i := 79) (by decide +kernel))) rfl
theorem tw_678 : (Cond.code ⟨"PloughCall$Reader", "labelled", "(LPloughCall$Word;II)I"⟩ prog_8_method_19_code 5 (some FieldType.int)) ∈ lwg := lm2 (ltb_3 (List.mem_of_getElem? (i := 80) (by decide +kernel))) rfl
theorem tw_680 : (Cond.fieldLink "PloughCall$Reader" 123 "PloughCall$Word" "FIELD" "LPloughCall$Word;") ∈ lwg := lm2 (ltb_3 (List.mem_of_getElem? (i := 82) (by decide +kernel))) rfl
theorem tw_682 : (Cond.fieldLink "PloughCall$Reader" 126 "PloughCall$Word" "WANT" "LPloughCall$Word;") ∈ lwg := lm2 (ltb_3 (List.mem_of_getElem? (i := 84) (by decide +kernel))) rfl
theorem tw_684 : (Cond.methodLink "PloughCall$Reader" 129 ⟨"PloughCall$Reader", "lineEnds", "()Z"⟩) ∈ lwg := lm2 (ltb_3 (List.mem_of_getElem? (i := 86) (by decide +kernel))) rfl
theorem tw_686 : (Cond.instanceMethod ⟨"PloughCall$Reader", "lineEnds", "()Z"⟩) ∈ lwg := lm2 (ltb_3 (List.mem_of_getElem? (i := 88) (by decide +kernel))) rfl
theorem tw_687 : (Cond.code ⟨"PloughCall$Reader", "lineEnds", "()Z"⟩ prog_8_method_20_code 1 (some FieldType.boolean)) ∈ lwg := lm2 (ltb_3 (List.mem_of_getElem? (i := 89) (by decide +kernel))) rfl
theorem tw_688 : (Cond.methodLink "PloughCall$Reader" 281 ⟨"PloughCall$Tape", "isSign", "(C)Z"⟩) ∈ lwg := lm2 (ltb_3 (List.mem_of_getElem? (i := 90) (by decide +kernel))) rfl
theorem tw_689 : (Cond.instanceMethod ⟨"PloughCall$Tape", "isSign", "(C)Z"⟩) ∈ lwg := lm2 (ltb_3 (List.mem_of_getElem? (i := 91) (by decide +kernel))) rfl
theorem tw_690 : (Cond.selects "PloughCall$Tape" ⟨"PloughCall$Tape", "isSign", "(C)Z"⟩ ⟨"PloughCall$Tape", "isSign", "(C)Z"⟩) ∈ lwg := lm2 (ltb_3 (List.mem_of_getElem? (i := 92) (by decide +kernel))) rfl
theorem tw_691 : (Cond.code ⟨"PloughCall$Tape", "isSign", "(C)Z"⟩ prog_12_method_9_code 2 (some FieldType.boolean)) ∈ lwg := lm2 (ltb_3 (List.mem_of_getElem? (i := 93) (by decide +kernel))) rfl
theorem tw_692 : (Cond.methodLink "PloughCall$Reader" 132 ⟨"PloughCall$City", "addMan", "(JIIII)V"⟩) ∈ lwg := lm2 (ltb_3 (List.mem_of_getElem? (i := 94) (by decide +kernel))) rfl
theorem tw_693 : (Cond.instanceMethod ⟨"PloughCall$City", "addMan", "(JIIII)V"⟩) ∈ lwg := lm2 (ltb_3 (List.mem_of_getElem? (i := 95) (by decide +kernel))) rfl
theorem tw_694 : (Cond.selects "PloughCall$City" ⟨"PloughCall$City", "addMan", "(JIIII)V"⟩ ⟨"PloughCall$City", "addMan", "(JIIII)V"⟩) ∈ lwg := lm2 (ltb_3 (List.mem_of_getElem? (i := 96) (by decide +kernel))) rfl
theorem tw_695 : (Cond.code ⟨"PloughCall$City", "addMan", "(JIIII)V"⟩ prog_3_method_3_code 7 none) ∈ lwg := lm2 (ltb_3 (List.mem_of_getElem? (i := 97) (by decide +kernel))) rfl
theorem tw_696 : (Cond.methodLink "PloughCall$Reader" 81 ⟨"PloughCall$Reader", "consulLine", "()Z"⟩) ∈ lwg := lm2 (ltb_3 (List.mem_of_getElem? (i := 98) (by decide +kernel))) rfl
theorem tw_698 : (Cond.instanceMethod ⟨"PloughCall$Reader", "consulLine", "()Z"⟩) ∈ lwg := lm2 (ltb_3 (List.mem_of_getElem? (i := 100) (by decide +kernel))) rfl
theorem tw_699 : (Cond.code ⟨"PloughCall$Reader", "consulLine", "()Z"⟩ prog_8_method_8_code 2 (some FieldType.boolean)) ∈ lwg := lm2 (ltb_3 (List.mem_of_getElem? (i := 101) (by decide +kernel))) rfl
theorem tw_700 : (Cond.methodLink "PloughCall$Reader" 151 ⟨"java/lang/Integer", "bitCount", "(I)I"⟩) ∈ lwg := lm2 (ltb_3 (List.mem_of_getElem? (i := 102) (by decide +kernel))) rfl
theorem tw_701 : (Cond.static ⟨"java/lang/Integer", "bitCount", "(I)I"⟩) ∈ lwg := lm2 (ltb_3 (List.mem_of_getElem? (i := 103) (by decide +kernel))) rfl
theorem tw_702 : (Cond.code ⟨"java/lang/Integer", "bitCount", "(I)I"⟩ prog_20_method_49_code 1 (some FieldType.int)) ∈ lwg := lm2 (ltb_3 (List.mem_of_getElem? (i := 104) (by decide +kernel))) rfl
theorem tw_703 : (Cond.constant "java/lang/Integer" 265 1431655765) ∈ lwg := lm2 (ltb_3 (List.mem_of_getElem? (i := 105) (by decide +kernel))) rfl
theorem tw_704 : (Cond.constant "java/lang/Integer" 266 858993459) ∈ lwg := lm2 (ltb_3 (List.mem_of_getElem? (i := 106) (by decide +kernel))) rfl
theorem tw_705 : (Cond.constant "java/lang/Integer" 267 252645135) ∈ lwg := lm2 (ltb_3 (List.mem_of_getElem? (i := 107) (by decide +kernel))) rfl
theorem tw_706 : (Cond.methodLink "PloughCall$Reader" 157 ⟨"PloughCall$Reader", "toldOne", "(Z)I"⟩) ∈ lwg := lm2 (ltb_3 (List.mem_of_getElem? (i := 108) (by decide +kernel))) rfl
theorem tw_708 : (Cond.instanceMethod ⟨"PloughCall$Reader", "toldOne", "(Z)I"⟩) ∈ lwg := lm2 (ltb_3 (List.mem_of_getElem? (i := 110) (by decide +kernel))) rfl
theorem tw_709 : (Cond.code ⟨"PloughCall$Reader", "toldOne", "(Z)I"⟩ prog_8_method_18_code 3 (some FieldType.int)) ∈ lwg := lm2 (ltb_3 (List.mem_of_getElem? (i := 111) (by decide +kernel))) rfl
theorem tw_710 : (Cond.methodLink "PloughCall$Reader" 268 ⟨"PloughCall$City", "manNamed", "(J)I"⟩) ∈ lwg := lm2 (ltb_3 (List.mem_of_getElem? (i := 112) (by decide +kernel))) rfl
theorem tw_711 : (Cond.methodLink "PloughCall$Reader" 271 ⟨"PloughCall$City", "dangerNamed", "(J)I"⟩) ∈ lwg := lm2 (ltb_3 (List.mem_of_getElem? (i := 113) (by decide +kernel))) rfl
theorem tw_712 : (Cond.methodLink "PloughCall$Reader" 161 ⟨"PloughCall$City", "isConsul", "(I)Z"⟩) ∈ lwg := lm2 (ltb_3 (List.mem_of_getElem? (i := 114) (by decide +kernel))) rfl
theorem tw_713 : (Cond.instanceMethod ⟨"PloughCall$City", "isConsul", "(I)Z"⟩) ∈ lwg := lm2 (ltb_3 (List.mem_of_getElem? (i := 115) (by decide +kernel))) rfl
theorem tw_714 : (Cond.selects "PloughCall$City" ⟨"PloughCall$City", "isConsul", "(I)Z"⟩ ⟨"PloughCall$City", "isConsul", "(I)Z"⟩) ∈ lwg := lm2 (ltb_3 (List.mem_of_getElem? (i := 116) (by decide +kernel))) rfl
theorem tw_715 : (Cond.code ⟨"PloughCall$City", "isConsul", "(I)Z"⟩ prog_3_method_14_code 2 (some FieldType.boolean)) ∈ lwg := lm2 (ltb_3 (List.mem_of_getElem? (i := 117) (by decide +kernel))) rfl
theorem tw_716 : (Cond.methodLink "PloughCall$City" 94 ⟨"PloughCall$City", "hasMan", "(I)Z"⟩) ∈ lwg := lm2 (ltb_3 (List.mem_of_getElem? (i := 118) (by decide +kernel))) rfl
theorem tw_717 : (Cond.instanceMethod ⟨"PloughCall$City", "hasMan", "(I)Z"⟩) ∈ lwg := lm2 (ltb_3 (List.mem_of_getElem? (i := 119) (by decide +kernel))) rfl
theorem tw_718 : (Cond.selects "PloughCall$City" ⟨"PloughCall$City", "hasMan", "(I)Z"⟩ ⟨"PloughCall$City", "hasMan", "(I)Z"⟩) ∈ lwg := lm2 (ltb_3 (List.mem_of_getElem? (i := 120) (by decide +kernel))) rfl
theorem tw_719 : (Cond.code ⟨"PloughCall$City", "hasMan", "(I)Z"⟩ prog_3_method_11_code 2 (some FieldType.boolean)) ∈ lwg := lm2 (ltb_3 (List.mem_of_getElem? (i := 121) (by decide +kernel))) rfl
theorem tw_720 : (Cond.methodLink "PloughCall$Reader" 84 ⟨"PloughCall$Reader", "hatesLine", "()Z"⟩) ∈ lwg := lm2 (ltb_3 (List.mem_of_getElem? (i := 122) (by decide +kernel))) rfl
theorem tw_722 : (Cond.instanceMethod ⟨"PloughCall$Reader", "hatesLine", "()Z"⟩) ∈ lwg := lm2 (ltb_3 (List.mem_of_getElem? (i := 124) (by decide +kernel))) rfl
theorem tw_723 : (Cond.code ⟨"PloughCall$Reader", "hatesLine", "()Z"⟩ prog_8_method_9_code 3 (some FieldType.boolean)) ∈ lwg := lm2 (ltb_3 (List.mem_of_getElem? (i := 125) (by decide +kernel))) rfl
theorem tw_724 : (Cond.methodLink "PloughCall$Reader" 164 ⟨"PloughCall$City", "doesHate", "(II)Z"⟩) ∈ lwg := lm2 (ltb_3 (List.mem_of_getElem? (i := 126) (by decide +kernel))) rfl
theorem tw_725 : (Cond.instanceMethod ⟨"PloughCall$City", "doesHate", "(II)Z"⟩) ∈ lwg := lm2 (ltb_3 (List.mem_of_getElem? (i := 127) (by decide +kernel))) rfl
theorem tw_726 : (Cond.selects "PloughCall$City" ⟨"PloughCall$City", "doesHate", "(II)Z"⟩ ⟨"PloughCall$City", "doesHate", "(II)Z"⟩) ∈ lwg := lm2 (ltb_3 (List.mem_of_getElem? (i := 128) (by decide +kernel))) rfl
theorem tw_727 : (Cond.code ⟨"PloughCall$City", "doesHate", "(II)Z"⟩ prog_3_method_15_code 3 (some FieldType.boolean)) ∈ lwg := lm2 (ltb_3 (List.mem_of_getElem? (i := 129) (by decide +kernel))) rfl
theorem tw_731 : (Cond.methodLink "PloughCall$Reader" 87 ⟨"PloughCall$Reader", "dangerLine", "()Z"⟩) ∈ lwg := lm2 (ltb_3 (List.mem_of_getElem? (i := 133) (by decide +kernel))) rfl
theorem tw_733 : (Cond.instanceMethod ⟨"PloughCall$Reader", "dangerLine", "()Z"⟩) ∈ lwg := lm2 (ltb_3 (List.mem_of_getElem? (i := 135) (by decide +kernel))) rfl
theorem tw_734 : (Cond.code ⟨"PloughCall$Reader", "dangerLine", "()Z"⟩ prog_8_method_10_code 5 (some FieldType.boolean)) ∈ lwg := lm2 (ltb_3 (List.mem_of_getElem? (i := 136) (by decide +kernel))) rfl
theorem tw_735 : (Cond.fieldLink "PloughCall$Reader" 182 "PloughCall$Word" "SIZE" "LPloughCall$Word;") ∈ lwg := lm2 (ltb_3 (List.mem_of_getElem? (i := 137) (by decide +kernel))) rfl
theorem tw_737 : (Cond.fieldLink "PloughCall$Reader" 185 "PloughCall$Word" "GROWS" "LPloughCall$Word;") ∈ lwg := lm2 (ltb_3 (List.mem_of_getElem? (i := 139) (by decide +kernel))) rfl
theorem tw_739 : (Cond.methodLink "PloughCall$Reader" 188 ⟨"PloughCall$City", "addDanger", "(JII)V"⟩) ∈ lwg := lm2 (ltb_3 (List.mem_of_getElem? (i := 141) (by decide +kernel))) rfl
theorem tw_740 : (Cond.instanceMethod ⟨"PloughCall$City", "addDanger", "(JII)V"⟩) ∈ lwg := lm2 (ltb_3 (List.mem_of_getElem? (i := 142) (by decide +kernel))) rfl
theorem tw_741 : (Cond.selects "PloughCall$City" ⟨"PloughCall$City", "addDanger", "(JII)V"⟩ ⟨"PloughCall$City", "addDanger", "(JII)V"⟩) ∈ lwg := lm2 (ltb_3 (List.mem_of_getElem? (i := 143) (by decide +kernel))) rfl
theorem tw_742 : (Cond.code ⟨"PloughCall$City", "addDanger", "(JII)V"⟩ prog_3_method_4_code 5 none) ∈ lwg := lm2 (ltb_3 (List.mem_of_getElem? (i := 144) (by decide +kernel))) rfl
theorem tw_743 : (Cond.methodLink "PloughCall$Reader" 90 ⟨"PloughCall$Reader", "decreeLine", "()Z"⟩) ∈ lwg := lm2 (ltb_3 (List.mem_of_getElem? (i := 145) (by decide +kernel))) rfl
theorem tw_745 : (Cond.instanceMethod ⟨"PloughCall$Reader", "decreeLine", "()Z"⟩) ∈ lwg := lm2 (ltb_3 (List.mem_of_getElem? (i := 147) (by decide +kernel))) rfl
theorem tw_746 : (Cond.code ⟨"PloughCall$Reader", "decreeLine", "()Z"⟩ prog_8_method_11_code 4 (some FieldType.boolean)) ∈ lwg := lm2 (ltb_3 (List.mem_of_getElem? (i := 148) (by decide +kernel))) rfl
theorem tw_747 : (Cond.fieldLink "PloughCall$Reader" 195 "PloughCall$Word" "ON" "LPloughCall$Word;") ∈ lwg := lm2 (ltb_3 (List.mem_of_getElem? (i := 149) (by decide +kernel))) rfl
theorem tw_749 : (Cond.methodLink "PloughCall$Reader" 198 ⟨"PloughCall$Reader", "groundsTold", "()I"⟩) ∈ lwg := lm2 (ltb_3 (List.mem_of_getElem? (i := 151) (by decide +kernel))) rfl
theorem tw_751 : (Cond.instanceMethod ⟨"PloughCall$Reader", "groundsTold", "()I"⟩) ∈ lwg := lm2 (ltb_3 (List.mem_of_getElem? (i := 153) (by decide +kernel))) rfl
theorem tw_752 : (Cond.code ⟨"PloughCall$Reader", "groundsTold", "()I"⟩ prog_8_method_12_code 4 (some FieldType.int)) ∈ lwg := lm2 (ltb_3 (List.mem_of_getElem? (i := 154) (by decide +kernel))) rfl
theorem tw_753 : (Cond.methodLink "PloughCall$Reader" 208 ⟨"PloughCall$City", "decreeNamed", "(J)I"⟩) ∈ lwg := lm2 (ltb_3 (List.mem_of_getElem? (i := 155) (by decide +kernel))) rfl
theorem tw_754 : (Cond.methodLink "PloughCall$Reader" 201 ⟨"PloughCall$City", "addDecree", "(JI)V"⟩) ∈ lwg := lm2 (ltb_3 (List.mem_of_getElem? (i := 156) (by decide +kernel))) rfl
theorem tw_755 : (Cond.instanceMethod ⟨"PloughCall$City", "addDecree", "(JI)V"⟩) ∈ lwg := lm2 (ltb_3 (List.mem_of_getElem? (i := 157) (by decide +kernel))) rfl
theorem tw_756 : (Cond.selects "PloughCall$City" ⟨"PloughCall$City", "addDecree", "(JI)V"⟩ ⟨"PloughCall$City", "addDecree", "(JI)V"⟩) ∈ lwg := lm2 (ltb_3 (List.mem_of_getElem? (i := 158) (by decide +kernel))) rfl
theorem tw_757 : (Cond.code ⟨"PloughCall$City", "addDecree", "(JI)V"⟩ prog_3_method_5_code 4 none) ∈ lwg := lm2 (ltb_3 (List.mem_of_getElem? (i := 159) (by decide +kernel))) rfl
theorem tw_758 : (Cond.methodLink "PloughCall$Reader" 93 ⟨"PloughCall$Reader", "termLine", "()Z"⟩) ∈ lwg := lm2 (ltb_3 (List.mem_of_getElem? (i := 160) (by decide +kernel))) rfl
theorem tw_760 : (Cond.instanceMethod ⟨"PloughCall$Reader", "termLine", "()Z"⟩) ∈ lwg := lm2 (ltb_3 (List.mem_of_getElem? (i := 162) (by decide +kernel))) rfl
theorem tw_761 : (Cond.code ⟨"PloughCall$Reader", "termLine", "()Z"⟩ prog_8_method_13_code 2 (some FieldType.boolean)) ∈ lwg := lm2 (ltb_3 (List.mem_of_getElem? (i := 163) (by decide +kernel))) rfl
theorem tw_762 : (Cond.fieldLink "PloughCall$Reader" 216 "PloughCall$Word" "TERM" "LPloughCall$Word;") ∈ lwg := lm2 (ltb_3 (List.mem_of_getElem? (i := 164) (by decide +kernel))) rfl
theorem tw_764 : (Cond.methodLink "PloughCall$Reader" 96 ⟨"PloughCall$Reader", "lawLine", "(Z)Z"⟩) ∈ lwg := lm2 (ltb_3 (List.mem_of_getElem? (i := 166) (by decide +kernel))) rfl
theorem tw_766 : (Cond.instanceMethod ⟨"PloughCall$Reader", "lawLine", "(Z)Z"⟩) ∈ lwg := lm2 (ltb_3 (List.mem_of_getElem? (i := 168) (by decide +kernel))) rfl
theorem tw_767 : (Cond.code ⟨"PloughCall$Reader", "lawLine", "(Z)Z"⟩ prog_8_method_14_code 3 (some FieldType.boolean)) ∈ lwg := lm2 (ltb_3 (List.mem_of_getElem? (i := 169) (by decide +kernel))) rfl
theorem tw_768 : (Cond.methodLink "PloughCall$Reader" 226 ⟨"PloughCall$Laws", "isTold", "(Z)Z"⟩) ∈ lwg := lm2 (ltb_3 (List.mem_of_getElem? (i := 170) (by decide +kernel))) rfl
theorem tw_769 : (Cond.instanceMethod ⟨"PloughCall$Laws", "isTold", "(Z)Z"⟩) ∈ lwg := lm2 (ltb_3 (List.mem_of_getElem? (i := 171) (by decide +kernel))) rfl
theorem tw_770 : (Cond.selects "PloughCall$Laws" ⟨"PloughCall$Laws", "isTold", "(Z)Z"⟩ ⟨"PloughCall$Laws", "isTold", "(Z)Z"⟩) ∈ lwg := lm2 (ltb_3 (List.mem_of_getElem? (i := 172) (by decide +kernel))) rfl
theorem tw_771 : (Cond.code ⟨"PloughCall$Laws", "isTold", "(Z)Z"⟩ prog_5_method_4_code 2 (some FieldType.boolean)) ∈ lwg := lm2 (ltb_3 (List.mem_of_getElem? (i := 173) (by decide +kernel))) rfl
theorem tw_772 : (Cond.methodLink "PloughCall$Reader" 234 ⟨"PloughCall$Reader", "expression", "(ZI)Z"⟩) ∈ lwg := lm2 (ltb_3 (List.mem_of_getElem? (i := 174) (by decide +kernel))) rfl
theorem tw_774 : (Cond.instanceMethod ⟨"PloughCall$Reader", "expression", "(ZI)Z"⟩) ∈ lwg := lm2 (ltb_3 (List.mem_of_getElem? (i := 176) (by decide +kernel))) rfl
theorem tw_775 : (Cond.code ⟨"PloughCall$Reader", "expression", "(ZI)Z"⟩ prog_8_method_21_code 6 (some FieldType.boolean)) ∈ lwg := lm2 (ltb_3 (List.mem_of_getElem? (i := 177) (by decide +kernel))) rfl
theorem tw_776 : (Cond.methodLink "PloughCall$Reader" 285 ⟨"PloughCall$Reader", "comparison", "(ZI)Z"⟩) ∈ lwg := lm2 (ltb_3 (List.mem_of_getElem? (i := 178) (by decide +kernel))) rfl
theorem tw_778 : (Cond.instanceMethod ⟨"PloughCall$Reader", "comparison", "(ZI)Z"⟩) ∈ lwg := lm2 (ltb_3 (List.mem_of_getElem? (i := 180) (by decide +kernel))) rfl
theorem tw_779 : (Cond.code ⟨"PloughCall$Reader", "comparison", "(ZI)Z"⟩ prog_8_method_22_code 5 (some FieldType.boolean)) ∈ lwg := lm2 (ltb_3 (List.mem_of_getElem? (i := 181) (by decide +kernel))) rfl
theorem tw_780 : (Cond.methodLink "PloughCall$Reader" 297 ⟨"PloughCall$Reader", "total", "(ZI)Z"⟩) ∈ lwg := lm2 (ltb_3 (List.mem_of_getElem? (i := 182) (by decide +kernel))) rfl
theorem tw_782 : (Cond.instanceMethod ⟨"PloughCall$Reader", "total", "(ZI)Z"⟩) ∈ lwg := lm2 (ltb_3 (List.mem_of_getElem? (i := 184) (by decide +kernel))) rfl
theorem tw_783 : (Cond.code ⟨"PloughCall$Reader", "total", "(ZI)Z"⟩ prog_8_method_23_code 6 (some FieldType.boolean)) ∈ lwg := lm2 (ltb_3 (List.mem_of_getElem? (i := 185) (by decide +kernel))) rfl
theorem tw_784 : (Cond.methodLink "PloughCall$Reader" 300 ⟨"PloughCall$Reader", "product", "(ZI)Z"⟩) ∈ lwg := lm2 (ltb_3 (List.mem_of_getElem? (i := 186) (by decide +kernel))) rfl
theorem tw_786 : (Cond.instanceMethod ⟨"PloughCall$Reader", "product", "(ZI)Z"⟩) ∈ lwg := lm2 (ltb_3 (List.mem_of_getElem? (i := 188) (by decide +kernel))) rfl
theorem tw_787 : (Cond.code ⟨"PloughCall$Reader", "product", "(ZI)Z"⟩ prog_8_method_24_code 5 (some FieldType.boolean)) ∈ lwg := lm2 (ltb_3 (List.mem_of_getElem? (i := 189) (by decide +kernel))) rfl
theorem tw_788 : (Cond.methodLink "PloughCall$Reader" 303 ⟨"PloughCall$Reader", "part", "(ZI)Z"⟩) ∈ lwg := lm2 (ltb_3 (List.mem_of_getElem? (i := 190) (by decide +kernel))) rfl
theorem tw_790 : (Cond.instanceMethod ⟨"PloughCall$Reader", "part", "(ZI)Z"⟩) ∈ lwg := lm2 (ltb_3 (List.mem_of_getElem? (i := 192) (by decide +kernel))) rfl
theorem tw_791 : (Cond.code ⟨"PloughCall$Reader", "part", "(ZI)Z"⟩ prog_8_method_25_code 8 (some FieldType.boolean)) ∈ lwg := lm2 (ltb_3 (List.mem_of_getElem? (i := 193) (by decide +kernel))) rfl
theorem tw_792 : (Cond.methodLink "PloughCall$Reader" 306 ⟨"PloughCall$Reader", "factSpelt", "(Z)I"⟩) ∈ lwg := lm2 (ltb_3 (List.mem_of_getElem? (i := 194) (by decide +kernel))) rfl
theorem tw_794 : (Cond.instanceMethod ⟨"PloughCall$Reader", "factSpelt", "(Z)I"⟩) ∈ lwg := lm2 (ltb_3 (List.mem_of_getElem? (i := 196) (by decide +kernel))) rfl
theorem tw_795 : (Cond.code ⟨"PloughCall$Reader", "factSpelt", "(Z)I"⟩ prog_8_method_26_code 3 (some FieldType.int)) ∈ lwg := lm2 (ltb_3 (List.mem_of_getElem? (i := 197) (by decide +kernel))) rfl
theorem tw_796 : (Cond.fieldLink "PloughCall$Reader" 312 "PloughCall$Word" "ABLE" "LPloughCall$Word;") ∈ lwg := lm2 (ltb_3 (List.mem_of_getElem? (i := 198) (by decide +kernel))) rfl
theorem tw_798 : (Cond.fieldLink "PloughCall$Reader" 315 "PloughCall$Word" "GREED" "LPloughCall$Word;") ∈ lwg := lm2 (ltb_3 (List.mem_of_getElem? (i := 200) (by decide +kernel))) rfl
theorem tw_800 : (Cond.fieldLink "PloughCall$Reader" 318 "PloughCall$Word" "LIKED" "LPloughCall$Word;") ∈ lwg := lm2 (ltb_3 (List.mem_of_getElem? (i := 202) (by decide +kernel))) rfl
theorem tw_802 : (Cond.fieldLink "PloughCall$Reader" 321 "PloughCall$Word" "LARGE" "LPloughCall$Word;") ∈ lwg := lm2 (ltb_3 (List.mem_of_getElem? (i := 204) (by decide +kernel))) rfl
theorem tw_804 : (Cond.fieldLink "PloughCall$Reader" 324 "PloughCall$Word" "LEFT" "LPloughCall$Word;") ∈ lwg := lm2 (ltb_3 (List.mem_of_getElem? (i := 206) (by decide +kernel))) rfl
theorem tw_806 : (Cond.fieldLink "PloughCall$Reader" 327 "PloughCall$Word" "PASSED" "LPloughCall$Word;") ∈ lwg := lm2 (ltb_3 (List.mem_of_getElem? (i := 208) (by decide +kernel))) rfl
theorem tw_808 : (Cond.fieldLink "PloughCall$Reader" 309 "PloughCall$Word" "NOT" "LPloughCall$Word;") ∈ lwg := lm2 (ltb_3 (List.mem_of_getElem? (i := 210) (by decide +kernel))) rfl
theorem tw_810 : (Cond.methodLink "PloughCall$Reader" 294 ⟨"PloughCall$Laws", "add", "(I)V"⟩) ∈ lwg := lm2 (ltb_3 (List.mem_of_getElem? (i := 212) (by decide +kernel))) rfl
theorem tw_811 : (Cond.instanceMethod ⟨"PloughCall$Laws", "add", "(I)V"⟩) ∈ lwg := lm2 (ltb_3 (List.mem_of_getElem? (i := 213) (by decide +kernel))) rfl
theorem tw_812 : (Cond.selects "PloughCall$Laws" ⟨"PloughCall$Laws", "add", "(I)V"⟩ ⟨"PloughCall$Laws", "add", "(I)V"⟩) ∈ lwg := lm2 (ltb_3 (List.mem_of_getElem? (i := 214) (by decide +kernel))) rfl
theorem tw_813 : (Cond.code ⟨"PloughCall$Laws", "add", "(I)V"⟩ prog_5_method_3_code 2 none) ∈ lwg := lm2 (ltb_3 (List.mem_of_getElem? (i := 215) (by decide +kernel))) rfl
theorem tw_815 : (Cond.fieldLink "PloughCall$Reader" 288 "PloughCall$Word" "AND" "LPloughCall$Word;") ∈ lwg := lm2 (ltb_3 (List.mem_of_getElem? (i := 217) (by decide +kernel))) rfl
theorem tw_817 : (Cond.fieldLink "PloughCall$Reader" 291 "PloughCall$Word" "OR" "LPloughCall$Word;") ∈ lwg := lm2 (ltb_3 (List.mem_of_getElem? (i := 219) (by decide +kernel))) rfl
theorem tw_819 : (Cond.methodLink "PloughCall$Reader" 238 ⟨"PloughCall$Laws", "close", "(ZI)V"⟩) ∈ lwg := lm2 (ltb_3 (List.mem_of_getElem? (i := 221) (by decide +kernel))) rfl
theorem tw_820 : (Cond.instanceMethod ⟨"PloughCall$Laws", "close", "(ZI)V"⟩) ∈ lwg := lm2 (ltb_3 (List.mem_of_getElem? (i := 222) (by decide +kernel))) rfl
theorem tw_821 : (Cond.selects "PloughCall$Laws" ⟨"PloughCall$Laws", "close", "(ZI)V"⟩ ⟨"PloughCall$Laws", "close", "(ZI)V"⟩) ∈ lwg := lm2 (ltb_3 (List.mem_of_getElem? (i := 223) (by decide +kernel))) rfl
theorem tw_822 : (Cond.code ⟨"PloughCall$Laws", "close", "(ZI)V"⟩ prog_5_method_5_code 3 none) ∈ lwg := lm2 (ltb_3 (List.mem_of_getElem? (i := 224) (by decide +kernel))) rfl
theorem tw_823 : (Cond.methodLink "PloughCall$Reader" 40 ⟨"PloughCall$Tape", "empty", "()V"⟩) ∈ lwg := lm2 (ltb_3 (List.mem_of_getElem? (i := 225) (by decide +kernel))) rfl
theorem tw_824 : (Cond.instanceMethod ⟨"PloughCall$Tape", "empty", "()V"⟩) ∈ lwg := lm2 (ltb_3 (List.mem_of_getElem? (i := 226) (by decide +kernel))) rfl
theorem tw_825 : (Cond.selects "PloughCall$Tape" ⟨"PloughCall$Tape", "empty", "()V"⟩ ⟨"PloughCall$Tape", "empty", "()V"⟩) ∈ lwg := lm2 (ltb_3 (List.mem_of_getElem? (i := 227) (by decide +kernel))) rfl
theorem tw_826 : (Cond.code ⟨"PloughCall$Tape", "empty", "()V"⟩ prog_12_method_4_code 1 none) ∈ lwg := lm2 (ltb_3 (List.mem_of_getElem? (i := 228) (by decide +kernel))) rfl
theorem tw_827 : (Cond.methodLink "PloughCall" 95 ⟨"PloughCall$Standing", "begin", "(LPloughCall$City;)V"⟩) ∈ lwg := lm2 (ltb_3 (List.mem_of_getElem? (i := 229) (by decide +kernel))) rfl
theorem tw_828 : (Cond.instanceMethod ⟨"PloughCall$Standing", "begin", "(LPloughCall$City;)V"⟩) ∈ lwg := lm2 (ltb_3 (List.mem_of_getElem? (i := 230) (by decide +kernel))) rfl
theorem tw_829 : (Cond.selects "PloughCall$Standing" ⟨"PloughCall$Standing", "begin", "(LPloughCall$City;)V"⟩ ⟨"PloughCall$Standing", "begin", "(LPloughCall$City;)V"⟩) ∈ lwg := lm2 (ltb_3 (List.mem_of_getElem? (i := 231) (by decide +kernel))) rfl
theorem tw_830 : (Cond.code ⟨"PloughCall$Standing", "begin", "(LPloughCall$City;)V"⟩ prog_11_method_2_code 3 none) ∈ lwg := lm2 (ltb_3 (List.mem_of_getElem? (i := 232) (by decide +kernel))) rfl
theorem tw_831 : (Cond.methodLink "PloughCall$Standing" 31 ⟨"PloughCall$Standing", "release", "()V"⟩) ∈ lwg := lm2 (ltb_3 (List.mem_of_getElem? (i := 233) (by decide +kernel))) rfl
theorem tw_833 : (Cond.instanceMethod ⟨"PloughCall$Standing", "release", "()V"⟩) ∈ lwg := lm2 (ltb_3 (List.mem_of_getElem? (i := 235) (by decide +kernel))) rfl
theorem tw_834 : (Cond.code ⟨"PloughCall$Standing", "release", "()V"⟩ prog_11_method_4_code 1 none) ∈ lwg := lm2 (ltb_3 (List.mem_of_getElem? (i := 236) (by decide +kernel))) rfl
theorem tw_837 : (Cond.methodLink "PloughCall" 108 ⟨"PloughCall", "markAt", "(I)LPloughCall$Mark;"⟩) ∈ lwg := lm2 (ltb_3 (List.mem_of_getElem? (i := 239) (by decide +kernel))) rfl
theorem tw_839 : (Cond.instanceMethod ⟨"PloughCall", "markAt", "(I)LPloughCall$Mark;"⟩) ∈ lwg := lm2 (ltb_4 (List.mem_of_getElem? (i := 1) (by decide +kernel))) rfl
theorem tw_840 : (Cond.code ⟨"PloughCall", "markAt", "(I)LPloughCall$Mark;"⟩ prog_1_method_31_code 2 (some (FieldType.object "PloughCall$Mark"))) ∈ lwg := lm2 (ltb_4 (List.mem_of_getElem? (i := 2) (by decide +kernel))) rfl
theorem tw_841 : (Cond.methodLink "PloughCallLaw" 34 ⟨"PloughCall", "months", "()I"⟩) ∈ lwg := lm2 (ltb_4 (List.mem_of_getElem? (i := 3) (by decide +kernel))) rfl
theorem tw_842 : (Cond.instanceMethod ⟨"PloughCall", "months", "()I"⟩) ∈ lwg := lm2 (ltb_4 (List.mem_of_getElem? (i := 4) (by decide +kernel))) rfl
theorem tw_843 : (Cond.selects "PloughCall" ⟨"PloughCall", "months", "()I"⟩ ⟨"PloughCall", "months", "()I"⟩) ∈ lwg := lm2 (ltb_4 (List.mem_of_getElem? (i := 5) (by decide +kernel))) rfl
theorem tw_844 : (Cond.code ⟨"PloughCall", "months", "()I"⟩ prog_1_method_4_code 3 (some FieldType.int)) ∈ lwg := lm2 (ltb_4 (List.mem_of_getElem? (i := 6) (by decide +kernel))) rfl
theorem tw_845 : (Cond.methodLink "PloughCall" 116 ⟨"PloughCall$Reader", "readMonths", "(LPloughCall$City;LPloughCall$Script;)I"⟩) ∈ lwg := lm2 (ltb_4 (List.mem_of_getElem? (i := 7) (by decide +kernel))) rfl
theorem tw_846 : (Cond.instanceMethod ⟨"PloughCall$Reader", "readMonths", "(LPloughCall$City;LPloughCall$Script;)I"⟩) ∈ lwg := lm2 (ltb_4 (List.mem_of_getElem? (i := 8) (by decide +kernel))) rfl
theorem tw_847 : (Cond.selects "PloughCall$Reader" ⟨"PloughCall$Reader", "readMonths", "(LPloughCall$City;LPloughCall$Script;)I"⟩ ⟨"PloughCall$Reader", "readMonths", "(LPloughCall$City;LPloughCall$Script;)I"⟩) ∈ lwg := lm2 (ltb_4 (List.mem_of_getElem? (i := 9) (by decide +kernel))) rfl
theorem tw_848 : (Cond.code ⟨"PloughCall$Reader", "readMonths", "(LPloughCall$City;LPloughCall$Script;)I"⟩ prog_8_method_3_code 5 (some FieldType.int)) ∈ lwg := lm2 (ltb_4 (List.mem_of_getElem? (i := 10) (by decide +kernel))) rfl
theorem tw_849 : (Cond.methodLink "PloughCall$Reader" 52 ⟨"PloughCall$Reader", "monthsLine", "()Z"⟩) ∈ lwg := lm2 (ltb_4 (List.mem_of_getElem? (i := 11) (by decide +kernel))) rfl
theorem tw_851 : (Cond.instanceMethod ⟨"PloughCall$Reader", "monthsLine", "()Z"⟩) ∈ lwg := lm2 (ltb_4 (List.mem_of_getElem? (i := 13) (by decide +kernel))) rfl
theorem tw_852 : (Cond.code ⟨"PloughCall$Reader", "monthsLine", "()Z"⟩ prog_8_method_15_code 6 (some FieldType.boolean)) ∈ lwg := lm2 (ltb_4 (List.mem_of_getElem? (i := 14) (by decide +kernel))) rfl
theorem tw_853 : (Cond.methodLink "PloughCall$Reader" 242 ⟨"PloughCall$Reader", "lineSpelt", "()I"⟩) ∈ lwg := lm2 (ltb_4 (List.mem_of_getElem? (i := 15) (by decide +kernel))) rfl
theorem tw_855 : (Cond.instanceMethod ⟨"PloughCall$Reader", "lineSpelt", "()I"⟩) ∈ lwg := lm2 (ltb_4 (List.mem_of_getElem? (i := 17) (by decide +kernel))) rfl
theorem tw_856 : (Cond.code ⟨"PloughCall$Reader", "lineSpelt", "()I"⟩ prog_8_method_16_code 2 (some FieldType.int)) ∈ lwg := lm2 (ltb_4 (List.mem_of_getElem? (i := 18) (by decide +kernel))) rfl
theorem tw_857 : (Cond.fieldLink "PloughCall$Reader" 249 "PloughCall$Word" "NAME" "LPloughCall$Word;") ∈ lwg := lm2 (ltb_4 (List.mem_of_getElem? (i := 19) (by decide +kernel))) rfl
theorem tw_859 : (Cond.fieldLink "PloughCall$Reader" 252 "PloughCall$Word" "MASTER" "LPloughCall$Word;") ∈ lwg := lm2 (ltb_4 (List.mem_of_getElem? (i := 21) (by decide +kernel))) rfl
theorem tw_861 : (Cond.fieldLink "PloughCall$Reader" 255 "PloughCall$Word" "MONTH" "LPloughCall$Word;") ∈ lwg := lm2 (ltb_4 (List.mem_of_getElem? (i := 23) (by decide +kernel))) rfl
theorem tw_863 : (Cond.fieldLink "PloughCall$Reader" 258 "PloughCall$Word" "DISOBEY" "LPloughCall$Word;") ∈ lwg := lm2 (ltb_4 (List.mem_of_getElem? (i := 25) (by decide +kernel))) rfl
theorem tw_865 : (Cond.fieldLink "PloughCall$Reader" 261 "PloughCall$Word" "LAY" "LPloughCall$Word;") ∈ lwg := lm2 (ltb_4 (List.mem_of_getElem? (i := 27) (by decide +kernel))) rfl
theorem tw_867 : (Cond.methodLink "PloughCall$Reader" 245 ⟨"PloughCall$Script", "add", "(III)V"⟩) ∈ lwg := lm2 (ltb_4 (List.mem_of_getElem? (i := 29) (by decide +kernel))) rfl
theorem tw_868 : (Cond.instanceMethod ⟨"PloughCall$Script", "add", "(III)V"⟩) ∈ lwg := lm2 (ltb_4 (List.mem_of_getElem? (i := 30) (by decide +kernel))) rfl
theorem tw_869 : (Cond.selects "PloughCall$Script" ⟨"PloughCall$Script", "add", "(III)V"⟩ ⟨"PloughCall$Script", "add", "(III)V"⟩) ∈ lwg := lm2 (ltb_4 (List.mem_of_getElem? (i := 31) (by decide +kernel))) rfl
theorem tw_870 : (Cond.code ⟨"PloughCall$Script", "add", "(III)V"⟩ prog_10_method_2_code 4 none) ∈ lwg := lm2 (ltb_4 (List.mem_of_getElem? (i := 32) (by decide +kernel))) rfl
theorem tw_872 : (Cond.methodLink "PloughCallLaw" 38 ⟨"PloughCall", "man", "(II)I"⟩) ∈ lwg := lm2 (ltb_4 (List.mem_of_getElem? (i := 34) (by decide +kernel))) rfl
theorem tw_873 : (Cond.instanceMethod ⟨"PloughCall", "man", "(II)I"⟩) ∈ lwg := lm2 (ltb_4 (List.mem_of_getElem? (i := 35) (by decide +kernel))) rfl
theorem tw_874 : (Cond.selects "PloughCall" ⟨"PloughCall", "man", "(II)I"⟩ ⟨"PloughCall", "man", "(II)I"⟩) ∈ lwg := lm2 (ltb_4 (List.mem_of_getElem? (i := 36) (by decide +kernel))) rfl
theorem tw_875 : (Cond.code ⟨"PloughCall", "man", "(II)I"⟩ prog_1_method_5_code 3 (some FieldType.int)) ∈ lwg := lm2 (ltb_4 (List.mem_of_getElem? (i := 37) (by decide +kernel))) rfl
theorem tw_876 : (Cond.methodLink "PloughCall" 120 ⟨"PloughCall$City", "hasMan", "(I)Z"⟩) ∈ lwg := lm2 (ltb_4 (List.mem_of_getElem? (i := 38) (by decide +kernel))) rfl
theorem tw_877 : (Cond.methodLink "PloughCall" 128 ⟨"PloughCall", "at", "([II)I"⟩) ∈ lwg := lm2 (ltb_4 (List.mem_of_getElem? (i := 39) (by decide +kernel))) rfl
theorem tw_878 : (Cond.methodLink "PloughCall" 144 ⟨"PloughCall$City", "isConsul", "(I)Z"⟩) ∈ lwg := lm2 (ltb_4 (List.mem_of_getElem? (i := 40) (by decide +kernel))) rfl
theorem tw_879 : (Cond.methodLink "PloughCallLaw" 43 ⟨"PloughCall", "danger", "(II)I"⟩) ∈ lwg := lm2 (ltb_4 (List.mem_of_getElem? (i := 41) (by decide +kernel))) rfl
theorem tw_880 : (Cond.instanceMethod ⟨"PloughCall", "danger", "(II)I"⟩) ∈ lwg := lm2 (ltb_4 (List.mem_of_getElem? (i := 42) (by decide +kernel))) rfl
theorem tw_881 : (Cond.selects "PloughCall" ⟨"PloughCall", "danger", "(II)I"⟩ ⟨"PloughCall", "danger", "(II)I"⟩) ∈ lwg := lm2 (ltb_4 (List.mem_of_getElem? (i := 43) (by decide +kernel))) rfl
theorem tw_882 : (Cond.code ⟨"PloughCall", "danger", "(II)I"⟩ prog_1_method_6_code 3 (some FieldType.int)) ∈ lwg := lm2 (ltb_4 (List.mem_of_getElem? (i := 44) (by decide +kernel))) rfl
theorem tw_883 : (Cond.methodLink "PloughCall" 147 ⟨"PloughCall$City", "hasDanger", "(I)Z"⟩) ∈ lwg := lm2 (ltb_4 (List.mem_of_getElem? (i := 45) (by decide +kernel))) rfl
theorem tw_884 : (Cond.instanceMethod ⟨"PloughCall$City", "hasDanger", "(I)Z"⟩) ∈ lwg := lm2 (ltb_4 (List.mem_of_getElem? (i := 46) (by decide +kernel))) rfl
theorem tw_885 : (Cond.selects "PloughCall$City" ⟨"PloughCall$City", "hasDanger", "(I)Z"⟩ ⟨"PloughCall$City", "hasDanger", "(I)Z"⟩) ∈ lwg := lm2 (ltb_4 (List.mem_of_getElem? (i := 47) (by decide +kernel))) rfl
theorem tw_886 : (Cond.code ⟨"PloughCall$City", "hasDanger", "(I)Z"⟩ prog_3_method_12_code 2 (some FieldType.boolean)) ∈ lwg := lm2 (ltb_4 (List.mem_of_getElem? (i := 48) (by decide +kernel))) rfl
theorem tw_887 : (Cond.methodLink "PloughCallLaw" 47 ⟨"PloughCall", "may", "(II)Z"⟩) ∈ lwg := lm2 (ltb_4 (List.mem_of_getElem? (i := 49) (by decide +kernel))) rfl
theorem tw_888 : (Cond.instanceMethod ⟨"PloughCall", "may", "(II)Z"⟩) ∈ lwg := lm2 (ltb_4 (List.mem_of_getElem? (i := 50) (by decide +kernel))) rfl
theorem tw_889 : (Cond.selects "PloughCall" ⟨"PloughCall", "may", "(II)Z"⟩ ⟨"PloughCall", "may", "(II)Z"⟩) ∈ lwg := lm2 (ltb_4 (List.mem_of_getElem? (i := 51) (by decide +kernel))) rfl
theorem tw_890 : (Cond.code ⟨"PloughCall", "may", "(II)Z"⟩ prog_1_method_7_code 3 (some FieldType.boolean)) ∈ lwg := lm2 (ltb_4 (List.mem_of_getElem? (i := 52) (by decide +kernel))) rfl
theorem tw_891 : (Cond.methodLink "PloughCall" 157 ⟨"PloughCall$City", "couldName", "(II)Z"⟩) ∈ lwg := lm2 (ltb_4 (List.mem_of_getElem? (i := 53) (by decide +kernel))) rfl
theorem tw_892 : (Cond.instanceMethod ⟨"PloughCall$City", "couldName", "(II)Z"⟩) ∈ lwg := lm2 (ltb_4 (List.mem_of_getElem? (i := 54) (by decide +kernel))) rfl
theorem tw_893 : (Cond.selects "PloughCall$City" ⟨"PloughCall$City", "couldName", "(II)Z"⟩ ⟨"PloughCall$City", "couldName", "(II)Z"⟩) ∈ lwg := lm2 (ltb_4 (List.mem_of_getElem? (i := 55) (by decide +kernel))) rfl
theorem tw_894 : (Cond.code ⟨"PloughCall$City", "couldName", "(II)Z"⟩ prog_3_method_16_code 3 (some FieldType.boolean)) ∈ lwg := lm2 (ltb_4 (List.mem_of_getElem? (i := 56) (by decide +kernel))) rfl
theorem tw_895 : (Cond.methodLink "PloughCall$City" 102 ⟨"PloughCall$City", "isConsul", "(I)Z"⟩) ∈ lwg := lm2 (ltb_4 (List.mem_of_getElem? (i := 57) (by decide +kernel))) rfl
theorem tw_896 : (Cond.methodLink "PloughCall$City" 105 ⟨"PloughCall$City", "doesHate", "(II)Z"⟩) ∈ lwg := lm2 (ltb_4 (List.mem_of_getElem? (i := 58) (by decide +kernel))) rfl
theorem tw_897 : (Cond.methodLink "PloughCallLaw" 52 ⟨"PloughCall", "name", "(II)Z"⟩) ∈ lwg := lm2 (ltb_4 (List.mem_of_getElem? (i := 59) (by decide +kernel))) rfl
theorem tw_898 : (Cond.instanceMethod ⟨"PloughCall", "name", "(II)Z"⟩) ∈ lwg := lm2 (ltb_4 (List.mem_of_getElem? (i := 60) (by decide +kernel))) rfl
theorem tw_899 : (Cond.selects "PloughCall" ⟨"PloughCall", "name", "(II)Z"⟩ ⟨"PloughCall", "name", "(II)Z"⟩) ∈ lwg := lm2 (ltb_4 (List.mem_of_getElem? (i := 61) (by decide +kernel))) rfl
theorem tw_900 : (Cond.code ⟨"PloughCall", "name", "(II)Z"⟩ prog_1_method_8_code 3 (some FieldType.boolean)) ∈ lwg := lm2 (ltb_4 (List.mem_of_getElem? (i := 62) (by decide +kernel))) rfl
theorem tw_901 : (Cond.methodLink "PloughCall" 161 ⟨"PloughCall$Standing", "canName", "(LPloughCall$City;II)Z"⟩) ∈ lwg := lm2 (ltb_4 (List.mem_of_getElem? (i := 63) (by decide +kernel))) rfl
theorem tw_902 : (Cond.instanceMethod ⟨"PloughCall$Standing", "canName", "(LPloughCall$City;II)Z"⟩) ∈ lwg := lm2 (ltb_4 (List.mem_of_getElem? (i := 64) (by decide +kernel))) rfl
theorem tw_903 : (Cond.selects "PloughCall$Standing" ⟨"PloughCall$Standing", "canName", "(LPloughCall$City;II)Z"⟩ ⟨"PloughCall$Standing", "canName", "(LPloughCall$City;II)Z"⟩) ∈ lwg := lm2 (ltb_4 (List.mem_of_getElem? (i := 65) (by decide +kernel))) rfl
theorem tw_904 : (Cond.code ⟨"PloughCall$Standing", "canName", "(LPloughCall$City;II)Z"⟩ prog_11_method_5_code 4 (some FieldType.boolean)) ∈ lwg := lm2 (ltb_4 (List.mem_of_getElem? (i := 66) (by decide +kernel))) rfl
theorem tw_905 : (Cond.methodLink "PloughCall$Standing" 66 ⟨"PloughCall$City", "couldName", "(II)Z"⟩) ∈ lwg := lm2 (ltb_4 (List.mem_of_getElem? (i := 67) (by decide +kernel))) rfl
theorem tw_906 : (Cond.methodLink "PloughCall" 165 ⟨"PloughCall$Past", "push", "(LPloughCall$Standing;)V"⟩) ∈ lwg := lm2 (ltb_4 (List.mem_of_getElem? (i := 68) (by decide +kernel))) rfl
theorem tw_907 : (Cond.instanceMethod ⟨"PloughCall$Past", "push", "(LPloughCall$Standing;)V"⟩) ∈ lwg := lm2 (ltb_4 (List.mem_of_getElem? (i := 69) (by decide +kernel))) rfl
theorem tw_908 : (Cond.selects "PloughCall$Past" ⟨"PloughCall$Past", "push", "(LPloughCall$Standing;)V"⟩ ⟨"PloughCall$Past", "push", "(LPloughCall$Standing;)V"⟩) ∈ lwg := lm2 (ltb_4 (List.mem_of_getElem? (i := 70) (by decide +kernel))) rfl
theorem tw_909 : (Cond.code ⟨"PloughCall$Past", "push", "(LPloughCall$Standing;)V"⟩ prog_7_method_2_code 3 none) ∈ lwg := lm2 (ltb_4 (List.mem_of_getElem? (i := 71) (by decide +kernel))) rfl
theorem tw_910 : (Cond.methodLink "PloughCall$Past" 22 ⟨"PloughCall$Past", "beforeAt", "(I)LPloughCall$Standing;"⟩) ∈ lwg := lm2 (ltb_4 (List.mem_of_getElem? (i := 72) (by decide +kernel))) rfl
theorem tw_912 : (Cond.instanceMethod ⟨"PloughCall$Past", "beforeAt", "(I)LPloughCall$Standing;"⟩) ∈ lwg := lm2 (ltb_4 (List.mem_of_getElem? (i := 74) (by decide +kernel))) rfl
theorem tw_913 : (Cond.code ⟨"PloughCall$Past", "beforeAt", "(I)LPloughCall$Standing;"⟩ prog_7_method_4_code 2 (some (FieldType.object "PloughCall$Standing"))) ∈ lwg := lm2 (ltb_4 (List.mem_of_getElem? (i := 75) (by decide +kernel))) rfl
theorem tw_914 : (Cond.methodLink "PloughCall$Past" 26 ⟨"PloughCall$Standing", "copy", "(LPloughCall$Standing;)V"⟩) ∈ lwg := lm2 (ltb_4 (List.mem_of_getElem? (i := 76) (by decide +kernel))) rfl
theorem tw_915 : (Cond.instanceMethod ⟨"PloughCall$Standing", "copy", "(LPloughCall$Standing;)V"⟩) ∈ lwg := lm2 (ltb_4 (List.mem_of_getElem? (i := 77) (by decide +kernel))) rfl
theorem tw_916 : (Cond.selects "PloughCall$Standing" ⟨"PloughCall$Standing", "copy", "(LPloughCall$Standing;)V"⟩ ⟨"PloughCall$Standing", "copy", "(LPloughCall$Standing;)V"⟩) ∈ lwg := lm2 (ltb_4 (List.mem_of_getElem? (i := 78) (by decide +kernel))) rfl
theorem tw_917 : (Cond.code ⟨"PloughCall$Standing", "copy", "(LPloughCall$Standing;)V"⟩ prog_11_method_3_code 2 none) ∈ lwg := lm2 (ltb_4 (List.mem_of_getElem? (i := 79) (by decide +kernel))) rfl
theorem tw_919 : (Cond.static ⟨"PloughCall", "copyRow", "([I[I)V"⟩) ∈ lwg := lm2 (ltb_4 (List.mem_of_getElem? (i := 81) (by decide +kernel))) rfl
theorem tw_920 : (Cond.code ⟨"PloughCall", "copyRow", "([I[I)V"⟩ prog_1_method_38_code 3 none) ∈ lwg := lm2 (ltb_4 (List.mem_of_getElem? (i := 82) (by decide +kernel))) rfl
theorem tw_921 : (Cond.methodLink "PloughCall$Past" 33 ⟨"java/lang/Math", "min", "(II)I"⟩) ∈ lwg := lm2 (ltb_4 (List.mem_of_getElem? (i := 83) (by decide +kernel))) rfl
theorem tw_922 : (Cond.static ⟨"java/lang/Math", "min", "(II)I"⟩) ∈ lwg := lm2 (ltb_4 (List.mem_of_getElem? (i := 84) (by decide +kernel))) rfl
theorem tw_923 : (Cond.code ⟨"java/lang/Math", "min", "(II)I"⟩ prog_21_method_69_code 2 (some FieldType.int)) ∈ lwg := lm2 (ltb_4 (List.mem_of_getElem? (i := 85) (by decide +kernel))) rfl
theorem tw_924 : (Cond.methodLink "PloughCall" 169 ⟨"PloughCall$Standing", "give", "(LPloughCall$City;I)V"⟩) ∈ lwg := lm2 (ltb_4 (List.mem_of_getElem? (i := 86) (by decide +kernel))) rfl
theorem tw_925 : (Cond.instanceMethod ⟨"PloughCall$Standing", "give", "(LPloughCall$City;I)V"⟩) ∈ lwg := lm2 (ltb_4 (List.mem_of_getElem? (i := 87) (by decide +kernel))) rfl
theorem tw_926 : (Cond.selects "PloughCall$Standing" ⟨"PloughCall$Standing", "give", "(LPloughCall$City;I)V"⟩ ⟨"PloughCall$Standing", "give", "(LPloughCall$City;I)V"⟩) ∈ lwg := lm2 (ltb_4 (List.mem_of_getElem? (i := 88) (by decide +kernel))) rfl
theorem tw_927 : (Cond.code ⟨"PloughCall$Standing", "give", "(LPloughCall$City;I)V"⟩ prog_11_method_9_code 3 none) ∈ lwg := lm2 (ltb_4 (List.mem_of_getElem? (i := 89) (by decide +kernel))) rfl
theorem tw_928 : (Cond.methodLink "PloughCallLaw" 56 ⟨"PloughCall", "master", "(I)Z"⟩) ∈ lwg := lm2 (ltb_4 (List.mem_of_getElem? (i := 90) (by decide +kernel))) rfl
theorem tw_929 : (Cond.instanceMethod ⟨"PloughCall", "master", "(I)Z"⟩) ∈ lwg := lm2 (ltb_4 (List.mem_of_getElem? (i := 91) (by decide +kernel))) rfl
theorem tw_930 : (Cond.selects "PloughCall" ⟨"PloughCall", "master", "(I)Z"⟩ ⟨"PloughCall", "master", "(I)Z"⟩) ∈ lwg := lm2 (ltb_4 (List.mem_of_getElem? (i := 92) (by decide +kernel))) rfl
theorem tw_931 : (Cond.code ⟨"PloughCall", "master", "(I)Z"⟩ prog_1_method_9_code 2 (some FieldType.boolean)) ∈ lwg := lm2 (ltb_4 (List.mem_of_getElem? (i := 93) (by decide +kernel))) rfl
theorem tw_932 : (Cond.methodLink "PloughCall" 173 ⟨"PloughCall$Standing", "canMaster", "(LPloughCall$City;I)Z"⟩) ∈ lwg := lm2 (ltb_4 (List.mem_of_getElem? (i := 94) (by decide +kernel))) rfl
theorem tw_933 : (Cond.instanceMethod ⟨"PloughCall$Standing", "canMaster", "(LPloughCall$City;I)Z"⟩) ∈ lwg := lm2 (ltb_4 (List.mem_of_getElem? (i := 95) (by decide +kernel))) rfl
theorem tw_934 : (Cond.selects "PloughCall$Standing" ⟨"PloughCall$Standing", "canMaster", "(LPloughCall$City;I)Z"⟩ ⟨"PloughCall$Standing", "canMaster", "(LPloughCall$City;I)Z"⟩) ∈ lwg := lm2 (ltb_4 (List.mem_of_getElem? (i := 96) (by decide +kernel))) rfl
theorem tw_935 : (Cond.code ⟨"PloughCall$Standing", "canMaster", "(LPloughCall$City;I)Z"⟩ prog_11_method_6_code 3 (some FieldType.boolean)) ∈ lwg := lm2 (ltb_4 (List.mem_of_getElem? (i := 97) (by decide +kernel))) rfl
theorem tw_936 : (Cond.methodLink "PloughCall$Standing" 70 ⟨"PloughCall$City", "hasMan", "(I)Z"⟩) ∈ lwg := lm2 (ltb_4 (List.mem_of_getElem? (i := 98) (by decide +kernel))) rfl
theorem tw_937 : (Cond.methodLink "PloughCall$Standing" 74 ⟨"PloughCall$City", "isConsul", "(I)Z"⟩) ∈ lwg := lm2 (ltb_4 (List.mem_of_getElem? (i := 99) (by decide +kernel))) rfl
theorem tw_938 : (Cond.methodLink "PloughCallLaw" 61 ⟨"PloughCall", "month", "(I)I"⟩) ∈ lwg := lm2 (ltb_4 (List.mem_of_getElem? (i := 100) (by decide +kernel))) rfl
theorem tw_939 : (Cond.instanceMethod ⟨"PloughCall", "month", "(I)I"⟩) ∈ lwg := lm2 (ltb_4 (List.mem_of_getElem? (i := 101) (by decide +kernel))) rfl
theorem tw_940 : (Cond.selects "PloughCall" ⟨"PloughCall", "month", "(I)I"⟩ ⟨"PloughCall", "month", "(I)I"⟩) ∈ lwg := lm2 (ltb_4 (List.mem_of_getElem? (i := 102) (by decide +kernel))) rfl
theorem tw_941 : (Cond.code ⟨"PloughCall", "month", "(I)I"⟩ prog_1_method_10_code 2 (some FieldType.int)) ∈ lwg := lm2 (ltb_4 (List.mem_of_getElem? (i := 103) (by decide +kernel))) rfl
theorem tw_942 : (Cond.methodLink "PloughCall" 180 ⟨"PloughCall$Standing", "passMonth", "(LPloughCall$City;II)I"⟩) ∈ lwg := lm2 (ltb_4 (List.mem_of_getElem? (i := 104) (by decide +kernel))) rfl
theorem tw_943 : (Cond.instanceMethod ⟨"PloughCall$Standing", "passMonth", "(LPloughCall$City;II)I"⟩) ∈ lwg := lm2 (ltb_4 (List.mem_of_getElem? (i := 105) (by decide +kernel))) rfl
theorem tw_944 : (Cond.selects "PloughCall$Standing" ⟨"PloughCall$Standing", "passMonth", "(LPloughCall$City;II)I"⟩ ⟨"PloughCall$Standing", "passMonth", "(LPloughCall$City;II)I"⟩) ∈ lwg := lm2 (ltb_4 (List.mem_of_getElem? (i := 106) (by decide +kernel))) rfl
theorem tw_945 : (Cond.code ⟨"PloughCall$Standing", "passMonth", "(LPloughCall$City;II)I"⟩ prog_11_method_11_code 5 (some FieldType.int)) ∈ lwg := lm2 (ltb_4 (List.mem_of_getElem? (i := 107) (by decide +kernel))) rfl
theorem tw_946 : (Cond.methodLink "PloughCall$Standing" 87 ⟨"PloughCall$Standing", "grow", "(LPloughCall$City;II)V"⟩) ∈ lwg := lm2 (ltb_4 (List.mem_of_getElem? (i := 108) (by decide +kernel))) rfl
theorem tw_948 : (Cond.instanceMethod ⟨"PloughCall$Standing", "grow", "(LPloughCall$City;II)V"⟩) ∈ lwg := lm2 (ltb_4 (List.mem_of_getElem? (i := 110) (by decide +kernel))) rfl
theorem tw_949 : (Cond.code ⟨"PloughCall$Standing", "grow", "(LPloughCall$City;II)V"⟩ prog_11_method_14_code 5 none) ∈ lwg := lm2 (ltb_4 (List.mem_of_getElem? (i := 111) (by decide +kernel))) rfl
theorem tw_950 : (Cond.methodLink "PloughCall$Standing" 115 ⟨"PloughCall$Standing", "grown", "(LPloughCall$City;II)I"⟩) ∈ lwg := lm2 (ltb_4 (List.mem_of_getElem? (i := 112) (by decide +kernel))) rfl
theorem tw_952 : (Cond.instanceMethod ⟨"PloughCall$Standing", "grown", "(LPloughCall$City;II)I"⟩) ∈ lwg := lm2 (ltb_4 (List.mem_of_getElem? (i := 114) (by decide +kernel))) rfl
theorem tw_953 : (Cond.code ⟨"PloughCall$Standing", "grown", "(LPloughCall$City;II)I"⟩ prog_11_method_15_code 5 (some FieldType.int)) ∈ lwg := lm2 (ltb_4 (List.mem_of_getElem? (i := 115) (by decide +kernel))) rfl
theorem tw_954 : (Cond.methodLink "PloughCall$Standing" 121 ⟨"java/lang/Math", "min", "(II)I"⟩) ∈ lwg := lm2 (ltb_4 (List.mem_of_getElem? (i := 116) (by decide +kernel))) rfl
theorem tw_955 : (Cond.methodLink "PloughCall$Standing" 91 ⟨"PloughCall$Standing", "turn", "(LPloughCall$City;II)I"⟩) ∈ lwg := lm2 (ltb_4 (List.mem_of_getElem? (i := 117) (by decide +kernel))) rfl
theorem tw_957 : (Cond.instanceMethod ⟨"PloughCall$Standing", "turn", "(LPloughCall$City;II)I"⟩) ∈ lwg := lm2 (ltb_4 (List.mem_of_getElem? (i := 119) (by decide +kernel))) rfl
theorem tw_958 : (Cond.code ⟨"PloughCall$Standing", "turn", "(LPloughCall$City;II)I"⟩ prog_11_method_12_code 6 (some FieldType.int)) ∈ lwg := lm2 (ltb_4 (List.mem_of_getElem? (i := 120) (by decide +kernel))) rfl
theorem tw_959 : (Cond.methodLink "PloughCall$Standing" 99 ⟨"PloughCall$City", "strength", "(III)I"⟩) ∈ lwg := lm2 (ltb_4 (List.mem_of_getElem? (i := 121) (by decide +kernel))) rfl
theorem tw_960 : (Cond.instanceMethod ⟨"PloughCall$City", "strength", "(III)I"⟩) ∈ lwg := lm2 (ltb_4 (List.mem_of_getElem? (i := 122) (by decide +kernel))) rfl
theorem tw_961 : (Cond.selects "PloughCall$City" ⟨"PloughCall$City", "strength", "(III)I"⟩ ⟨"PloughCall$City", "strength", "(III)I"⟩) ∈ lwg := lm2 (ltb_4 (List.mem_of_getElem? (i := 123) (by decide +kernel))) rfl
theorem tw_962 : (Cond.code ⟨"PloughCall$City", "strength", "(III)I"⟩ prog_3_method_18_code 6 (some FieldType.int)) ∈ lwg := lm2 (ltb_4 (List.mem_of_getElem? (i := 124) (by decide +kernel))) rfl
theorem tw_963 : (Cond.methodLink "PloughCall$City" 112 ⟨"PloughCall$Laws", "isTold", "(Z)Z"⟩) ∈ lwg := lm2 (ltb_4 (List.mem_of_getElem? (i := 125) (by decide +kernel))) rfl
theorem tw_964 : (Cond.methodLink "PloughCall$City" 116 ⟨"PloughCall$Laws", "worth", "(ZIIII)I"⟩) ∈ lwg := lm2 (ltb_4 (List.mem_of_getElem? (i := 126) (by decide +kernel))) rfl
theorem tw_965 : (Cond.instanceMethod ⟨"PloughCall$Laws", "worth", "(ZIIII)I"⟩) ∈ lwg := lm2 (ltb_4 (List.mem_of_getElem? (i := 127) (by decide +kernel))) rfl
theorem tw_966 : (Cond.selects "PloughCall$Laws" ⟨"PloughCall$Laws", "worth", "(ZIIII)I"⟩ ⟨"PloughCall$Laws", "worth", "(ZIIII)I"⟩) ∈ lwg := lm2 (ltb_4 (List.mem_of_getElem? (i := 128) (by decide +kernel))) rfl
theorem tw_967 : (Cond.code ⟨"PloughCall$Laws", "worth", "(ZIIII)I"⟩ prog_5_method_6_code 11 (some FieldType.int)) ∈ lwg := lm2 (ltb_4 (List.mem_of_getElem? (i := 129) (by decide +kernel))) rfl
theorem tw_969 : (Cond.methodLink "PloughCall$Laws" 42 ⟨"PloughCall$Laws", "alone", "(IIIII)I"⟩) ∈ lwg := lm2 (ltb_4 (List.mem_of_getElem? (i := 131) (by decide +kernel))) rfl
theorem tw_970 : (Cond.static ⟨"PloughCall$Laws", "alone", "(IIIII)I"⟩) ∈ lwg := lm2 (ltb_4 (List.mem_of_getElem? (i := 132) (by decide +kernel))) rfl
theorem tw_971 : (Cond.code ⟨"PloughCall$Laws", "alone", "(IIIII)I"⟩ prog_5_method_7_code 5 (some FieldType.int)) ∈ lwg := lm2 (ltb_4 (List.mem_of_getElem? (i := 133) (by decide +kernel))) rfl
theorem tw_972 : (Cond.methodLink "PloughCall$Laws" 46 ⟨"PloughCall$Laws", "joined", "(III)I"⟩) ∈ lwg := lm2 (ltb_4 (List.mem_of_getElem? (i := 134) (by decide +kernel))) rfl
theorem tw_973 : (Cond.static ⟨"PloughCall$Laws", "joined", "(III)I"⟩) ∈ lwg := lm2 (ltb_4 (List.mem_of_getElem? (i := 135) (by decide +kernel))) rfl
theorem tw_974 : (Cond.code ⟨"PloughCall$Laws", "joined", "(III)I"⟩ prog_5_method_8_code 3 (some FieldType.int)) ∈ lwg := lm2 (ltb_4 (List.mem_of_getElem? (i := 136) (by decide +kernel))) rfl
theorem tw_975 : (Cond.methodLink "PloughCall$City" 120 ⟨"java/lang/Math", "min", "(II)I"⟩) ∈ lwg := lm2 (ltb_4 (List.mem_of_getElem? (i := 137) (by decide +kernel))) rfl
theorem tw_976 : (Cond.methodLink "PloughCall$City" 126 ⟨"java/lang/Math", "max", "(II)I"⟩) ∈ lwg := lm2 (ltb_4 (List.mem_of_getElem? (i := 138) (by decide +kernel))) rfl
theorem tw_977 : (Cond.static ⟨"java/lang/Math", "max", "(II)I"⟩) ∈ lwg := lm2 (ltb_4 (List.mem_of_getElem? (i := 139) (by decide +kernel))) rfl
theorem tw_978 : (Cond.code ⟨"java/lang/Math", "max", "(II)I"⟩ prog_21_method_65_code 2 (some FieldType.int)) ∈ lwg := lm2 (ltb_4 (List.mem_of_getElem? (i := 140) (by decide +kernel))) rfl
theorem tw_979 : (Cond.methodLink "PloughCall$Standing" 106 ⟨"PloughCall$Standing", "lessen", "(II)I"⟩) ∈ lwg := lm2 (ltb_4 (List.mem_of_getElem? (i := 141) (by decide +kernel))) rfl
theorem tw_981 : (Cond.instanceMethod ⟨"PloughCall$Standing", "lessen", "(II)I"⟩) ∈ lwg := lm2 (ltb_4 (List.mem_of_getElem? (i := 143) (by decide +kernel))) rfl
theorem tw_982 : (Cond.code ⟨"PloughCall$Standing", "lessen", "(II)I"⟩ prog_11_method_13_code 5 (some FieldType.int)) ∈ lwg := lm2 (ltb_4 (List.mem_of_getElem? (i := 144) (by decide +kernel))) rfl
theorem tw_983 : (Cond.methodLink "PloughCall$Standing" 110 ⟨"java/lang/Math", "max", "(II)I"⟩) ∈ lwg := lm2 (ltb_4 (List.mem_of_getElem? (i := 145) (by decide +kernel))) rfl
theorem tw_984 : (Cond.methodLink "PloughCall$Standing" 83 ⟨"PloughCall$Standing", "like", "(II)V"⟩) ∈ lwg := lm2 (ltb_4 (List.mem_of_getElem? (i := 146) (by decide +kernel))) rfl
theorem tw_986 : (Cond.instanceMethod ⟨"PloughCall$Standing", "like", "(II)V"⟩) ∈ lwg := lm2 (ltb_4 (List.mem_of_getElem? (i := 148) (by decide +kernel))) rfl
theorem tw_987 : (Cond.code ⟨"PloughCall$Standing", "like", "(II)V"⟩ prog_11_method_17_code 3 none) ∈ lwg := lm2 (ltb_4 (List.mem_of_getElem? (i := 149) (by decide +kernel))) rfl
theorem tw_988 : (Cond.methodLink "PloughCall$Standing" 139 ⟨"PloughCall$Standing", "likedWith", "(II)I"⟩) ∈ lwg := lm2 (ltb_4 (List.mem_of_getElem? (i := 150) (by decide +kernel))) rfl
theorem tw_989 : (Cond.instanceMethod ⟨"PloughCall$Standing", "likedWith", "(II)I"⟩) ∈ lwg := lm2 (ltb_4 (List.mem_of_getElem? (i := 151) (by decide +kernel))) rfl
theorem tw_990 : (Cond.selects "PloughCall$Standing" ⟨"PloughCall$Standing", "likedWith", "(II)I"⟩ ⟨"PloughCall$Standing", "likedWith", "(II)I"⟩) ∈ lwg := lm2 (ltb_4 (List.mem_of_getElem? (i := 152) (by decide +kernel))) rfl
theorem tw_991 : (Cond.code ⟨"PloughCall$Standing", "likedWith", "(II)I"⟩ prog_11_method_18_code 3 (some FieldType.int)) ∈ lwg := lm2 (ltb_4 (List.mem_of_getElem? (i := 153) (by decide +kernel))) rfl
theorem tw_992 : (Cond.methodLink "PloughCall$Standing" 95 ⟨"PloughCall$Standing", "closeMonth", "(LPloughCall$City;I)V"⟩) ∈ lwg := lm2 (ltb_4 (List.mem_of_getElem? (i := 154) (by decide +kernel))) rfl
theorem tw_994 : (Cond.instanceMethod ⟨"PloughCall$Standing", "closeMonth", "(LPloughCall$City;I)V"⟩) ∈ lwg := lm2 (ltb_4 (List.mem_of_getElem? (i := 156) (by decide +kernel))) rfl
theorem tw_995 : (Cond.code ⟨"PloughCall$Standing", "closeMonth", "(LPloughCall$City;I)V"⟩ prog_11_method_16_code 4 none) ∈ lwg := lm2 (ltb_4 (List.mem_of_getElem? (i := 157) (by decide +kernel))) rfl
theorem tw_996 : (Cond.methodLink "PloughCall$Standing" 124 ⟨"PloughCall$City", "likedForEnding", "(I)I"⟩) ∈ lwg := lm2 (ltb_4 (List.mem_of_getElem? (i := 158) (by decide +kernel))) rfl
theorem tw_997 : (Cond.instanceMethod ⟨"PloughCall$City", "likedForEnding", "(I)I"⟩) ∈ lwg := lm2 (ltb_4 (List.mem_of_getElem? (i := 159) (by decide +kernel))) rfl
theorem tw_998 : (Cond.selects "PloughCall$City" ⟨"PloughCall$City", "likedForEnding", "(I)I"⟩ ⟨"PloughCall$City", "likedForEnding", "(I)I"⟩) ∈ lwg := lm2 (ltb_4 (List.mem_of_getElem? (i := 160) (by decide +kernel))) rfl
theorem tw_999 : (Cond.code ⟨"PloughCall$City", "likedForEnding", "(I)I"⟩ prog_3_method_20_code 2 (some FieldType.int)) ∈ lwg := lm2 (ltb_4 (List.mem_of_getElem? (i := 161) (by decide +kernel))) rfl
theorem tw_1000 : (Cond.methodLink "PloughCall$Standing" 131 ⟨"PloughCall$Standing", "together", "()I"⟩) ∈ lwg := lm2 (ltb_4 (List.mem_of_getElem? (i := 162) (by decide +kernel))) rfl
theorem tw_1001 : (Cond.instanceMethod ⟨"PloughCall$Standing", "together", "()I"⟩) ∈ lwg := lm2 (ltb_4 (List.mem_of_getElem? (i := 163) (by decide +kernel))) rfl
theorem tw_1002 : (Cond.selects "PloughCall$Standing" ⟨"PloughCall$Standing", "together", "()I"⟩ ⟨"PloughCall$Standing", "together", "()I"⟩) ∈ lwg := lm2 (ltb_4 (List.mem_of_getElem? (i := 164) (by decide +kernel))) rfl
theorem tw_1003 : (Cond.code ⟨"PloughCall$Standing", "together", "()I"⟩ prog_11_method_19_code 1 (some FieldType.int)) ∈ lwg := lm2 (ltb_4 (List.mem_of_getElem? (i := 165) (by decide +kernel))) rfl
theorem tw_1005 : (Cond.static ⟨"PloughCall", "sum", "([II)I"⟩) ∈ lwg := lm2 (ltb_4 (List.mem_of_getElem? (i := 167) (by decide +kernel))) rfl
theorem tw_1006 : (Cond.code ⟨"PloughCall", "sum", "([II)I"⟩ prog_1_method_39_code 4 (some FieldType.int)) ∈ lwg := lm2 (ltb_4 (List.mem_of_getElem? (i := 168) (by decide +kernel))) rfl
theorem tw_1007 : (Cond.methodLink "PloughCall$Standing" 135 ⟨"PloughCall$City", "wouldKeep", "(III)Z"⟩) ∈ lwg := lm2 (ltb_4 (List.mem_of_getElem? (i := 169) (by decide +kernel))) rfl
theorem tw_1008 : (Cond.instanceMethod ⟨"PloughCall$City", "wouldKeep", "(III)Z"⟩) ∈ lwg := lm2 (ltb_4 (List.mem_of_getElem? (i := 170) (by decide +kernel))) rfl
theorem tw_1009 : (Cond.selects "PloughCall$City" ⟨"PloughCall$City", "wouldKeep", "(III)Z"⟩ ⟨"PloughCall$City", "wouldKeep", "(III)Z"⟩) ∈ lwg := lm2 (ltb_4 (List.mem_of_getElem? (i := 171) (by decide +kernel))) rfl
theorem tw_1010 : (Cond.code ⟨"PloughCall$City", "wouldKeep", "(III)Z"⟩ prog_3_method_19_code 4 (some FieldType.boolean)) ∈ lwg := lm2 (ltb_4 (List.mem_of_getElem? (i := 172) (by decide +kernel))) rfl
theorem tw_1011 : (Cond.methodLink "PloughCallLaw" 66 ⟨"PloughCall", "disobey", "(II)I"⟩) ∈ lwg := lm2 (ltb_4 (List.mem_of_getElem? (i := 173) (by decide +kernel))) rfl
theorem tw_1012 : (Cond.instanceMethod ⟨"PloughCall", "disobey", "(II)I"⟩) ∈ lwg := lm2 (ltb_4 (List.mem_of_getElem? (i := 174) (by decide +kernel))) rfl
theorem tw_1013 : (Cond.selects "PloughCall" ⟨"PloughCall", "disobey", "(II)I"⟩ ⟨"PloughCall", "disobey", "(II)I"⟩) ∈ lwg := lm2 (ltb_4 (List.mem_of_getElem? (i := 175) (by decide +kernel))) rfl
theorem tw_1014 : (Cond.code ⟨"PloughCall", "disobey", "(II)I"⟩ prog_1_method_11_code 3 (some FieldType.int)) ∈ lwg := lm2 (ltb_4 (List.mem_of_getElem? (i := 176) (by decide +kernel))) rfl
theorem tw_1015 : (Cond.methodLink "PloughCall" 184 ⟨"PloughCall$Standing", "canDisobey", "(LPloughCall$City;II)Z"⟩) ∈ lwg := lm2 (ltb_4 (List.mem_of_getElem? (i := 177) (by decide +kernel))) rfl
theorem tw_1016 : (Cond.instanceMethod ⟨"PloughCall$Standing", "canDisobey", "(LPloughCall$City;II)Z"⟩) ∈ lwg := lm2 (ltb_4 (List.mem_of_getElem? (i := 178) (by decide +kernel))) rfl
theorem tw_1017 : (Cond.selects "PloughCall$Standing" ⟨"PloughCall$Standing", "canDisobey", "(LPloughCall$City;II)Z"⟩ ⟨"PloughCall$Standing", "canDisobey", "(LPloughCall$City;II)Z"⟩) ∈ lwg := lm2 (ltb_4 (List.mem_of_getElem? (i := 179) (by decide +kernel))) rfl
theorem tw_1018 : (Cond.code ⟨"PloughCall$Standing", "canDisobey", "(LPloughCall$City;II)Z"⟩ prog_11_method_7_code 4 (some FieldType.boolean)) ∈ lwg := lm2 (ltb_4 (List.mem_of_getElem? (i := 180) (by decide +kernel))) rfl
theorem tw_1019 : (Cond.methodLink "PloughCall$Standing" 77 ⟨"PloughCall$City", "hasDanger", "(I)Z"⟩) ∈ lwg := lm2 (ltb_4 (List.mem_of_getElem? (i := 181) (by decide +kernel))) rfl
theorem tw_1020 : (Cond.methodLink "PloughCallLaw" 70 ⟨"PloughCall", "lay", "()I"⟩) ∈ lwg := lm2 (ltb_4 (List.mem_of_getElem? (i := 182) (by decide +kernel))) rfl
theorem tw_1021 : (Cond.instanceMethod ⟨"PloughCall", "lay", "()I"⟩) ∈ lwg := lm2 (ltb_4 (List.mem_of_getElem? (i := 183) (by decide +kernel))) rfl
theorem tw_1022 : (Cond.selects "PloughCall" ⟨"PloughCall", "lay", "()I"⟩ ⟨"PloughCall", "lay", "()I"⟩) ∈ lwg := lm2 (ltb_4 (List.mem_of_getElem? (i := 184) (by decide +kernel))) rfl
theorem tw_1023 : (Cond.code ⟨"PloughCall", "lay", "()I"⟩ prog_1_method_12_code 1 (some FieldType.int)) ∈ lwg := lm2 (ltb_4 (List.mem_of_getElem? (i := 185) (by decide +kernel))) rfl
theorem tw_1024 : (Cond.methodLink "PloughCall" 187 ⟨"PloughCall$Standing", "canLay", "()Z"⟩) ∈ lwg := lm2 (ltb_4 (List.mem_of_getElem? (i := 186) (by decide +kernel))) rfl
theorem tw_1025 : (Cond.instanceMethod ⟨"PloughCall$Standing", "canLay", "()Z"⟩) ∈ lwg := lm2 (ltb_4 (List.mem_of_getElem? (i := 187) (by decide +kernel))) rfl
theorem tw_1026 : (Cond.selects "PloughCall$Standing" ⟨"PloughCall$Standing", "canLay", "()Z"⟩ ⟨"PloughCall$Standing", "canLay", "()Z"⟩) ∈ lwg := lm2 (ltb_4 (List.mem_of_getElem? (i := 188) (by decide +kernel))) rfl
theorem tw_1027 : (Cond.code ⟨"PloughCall$Standing", "canLay", "()Z"⟩ prog_11_method_8_code 1 (some FieldType.boolean)) ∈ lwg := lm2 (ltb_4 (List.mem_of_getElem? (i := 189) (by decide +kernel))) rfl
theorem tw_1028 : (Cond.methodLink "PloughCall" 191 ⟨"PloughCall$Standing", "layDown", "()I"⟩) ∈ lwg := lm2 (ltb_4 (List.mem_of_getElem? (i := 190) (by decide +kernel))) rfl
theorem tw_1029 : (Cond.instanceMethod ⟨"PloughCall$Standing", "layDown", "()I"⟩) ∈ lwg := lm2 (ltb_4 (List.mem_of_getElem? (i := 191) (by decide +kernel))) rfl
theorem tw_1030 : (Cond.selects "PloughCall$Standing" ⟨"PloughCall$Standing", "layDown", "()I"⟩ ⟨"PloughCall$Standing", "layDown", "()I"⟩) ∈ lwg := lm2 (ltb_4 (List.mem_of_getElem? (i := 192) (by decide +kernel))) rfl
theorem tw_1031 : (Cond.code ⟨"PloughCall$Standing", "layDown", "()I"⟩ prog_11_method_10_code 2 (some FieldType.int)) ∈ lwg := lm2 (ltb_4 (List.mem_of_getElem? (i := 193) (by decide +kernel))) rfl
theorem tw_1032 : (Cond.methodLink "PloughCallLaw" 74 ⟨"PloughCall", "undo", "()Z"⟩) ∈ lwg := lm2 (ltb_4 (List.mem_of_getElem? (i := 194) (by decide +kernel))) rfl
theorem tw_1033 : (Cond.instanceMethod ⟨"PloughCall", "undo", "()Z"⟩) ∈ lwg := lm2 (ltb_4 (List.mem_of_getElem? (i := 195) (by decide +kernel))) rfl
theorem tw_1034 : (Cond.selects "PloughCall" ⟨"PloughCall", "undo", "()Z"⟩ ⟨"PloughCall", "undo", "()Z"⟩) ∈ lwg := lm2 (ltb_4 (List.mem_of_getElem? (i := 196) (by decide +kernel))) rfl
theorem tw_1035 : (Cond.code ⟨"PloughCall", "undo", "()Z"⟩ prog_1_method_13_code 1 (some FieldType.boolean)) ∈ lwg := lm2 (ltb_4 (List.mem_of_getElem? (i := 197) (by decide +kernel))) rfl
theorem tw_1036 : (Cond.methodLink "PloughCall" 195 ⟨"PloughCall$Past", "pop", "(LPloughCall$Standing;)Z"⟩) ∈ lwg := lm2 (ltb_4 (List.mem_of_getElem? (i := 198) (by decide +kernel))) rfl
theorem tw_1037 : (Cond.instanceMethod ⟨"PloughCall$Past", "pop", "(LPloughCall$Standing;)Z"⟩) ∈ lwg := lm2 (ltb_4 (List.mem_of_getElem? (i := 199) (by decide +kernel))) rfl
theorem tw_1038 : (Cond.selects "PloughCall$Past" ⟨"PloughCall$Past", "pop", "(LPloughCall$Standing;)Z"⟩ ⟨"PloughCall$Past", "pop", "(LPloughCall$Standing;)Z"⟩) ∈ lwg := lm2 (ltb_4 (List.mem_of_getElem? (i := 200) (by decide +kernel))) rfl
theorem tw_1039 : (Cond.code ⟨"PloughCall$Past", "pop", "(LPloughCall$Standing;)Z"⟩ prog_7_method_3_code 4 (some FieldType.boolean)) ∈ lwg := lm2 (ltb_4 (List.mem_of_getElem? (i := 201) (by decide +kernel))) rfl
theorem tw_1040 : (Cond.methodLink "PloughCallLaw" 79 ⟨"PloughCall", "judged", "(I)I"⟩) ∈ lwg := lm2 (ltb_4 (List.mem_of_getElem? (i := 202) (by decide +kernel))) rfl
theorem tw_1041 : (Cond.instanceMethod ⟨"PloughCall", "judged", "(I)I"⟩) ∈ lwg := lm2 (ltb_4 (List.mem_of_getElem? (i := 203) (by decide +kernel))) rfl
theorem tw_1042 : (Cond.selects "PloughCall" ⟨"PloughCall", "judged", "(I)I"⟩ ⟨"PloughCall", "judged", "(I)I"⟩) ∈ lwg := lm2 (ltb_4 (List.mem_of_getElem? (i := 204) (by decide +kernel))) rfl
theorem tw_1043 : (Cond.code ⟨"PloughCall", "judged", "(I)I"⟩ prog_1_method_14_code 2 (some FieldType.int)) ∈ lwg := lm2 (ltb_4 (List.mem_of_getElem? (i := 205) (by decide +kernel))) rfl
theorem tw_1044 : (Cond.methodLink "PloughCall" 199 ⟨"PloughCall", "judge", "()V"⟩) ∈ lwg := lm2 (ltb_4 (List.mem_of_getElem? (i := 206) (by decide +kernel))) rfl
theorem tw_1046 : (Cond.instanceMethod ⟨"PloughCall", "judge", "()V"⟩) ∈ lwg := lm2 (ltb_4 (List.mem_of_getElem? (i := 208) (by decide +kernel))) rfl
theorem tw_1047 : (Cond.code ⟨"PloughCall", "judge", "()V"⟩ prog_1_method_32_code 3 none) ∈ lwg := lm2 (ltb_4 (List.mem_of_getElem? (i := 209) (by decide +kernel))) rfl
theorem tw_1048 : (Cond.methodLink "PloughCall" 346 ⟨"PloughCall$Script", "play", "(LPloughCall$City;LPloughCall$Standing;I)Z"⟩) ∈ lwg := lm2 (ltb_4 (List.mem_of_getElem? (i := 210) (by decide +kernel))) rfl
theorem tw_1049 : (Cond.instanceMethod ⟨"PloughCall$Script", "play", "(LPloughCall$City;LPloughCall$Standing;I)Z"⟩) ∈ lwg := lm2 (ltb_4 (List.mem_of_getElem? (i := 211) (by decide +kernel))) rfl
theorem tw_1050 : (Cond.selects "PloughCall$Script" ⟨"PloughCall$Script", "play", "(LPloughCall$City;LPloughCall$Standing;I)Z"⟩ ⟨"PloughCall$Script", "play", "(LPloughCall$City;LPloughCall$Standing;I)Z"⟩) ∈ lwg := lm2 (ltb_4 (List.mem_of_getElem? (i := 212) (by decide +kernel))) rfl
theorem tw_1051 : (Cond.code ⟨"PloughCall$Script", "play", "(LPloughCall$City;LPloughCall$Standing;I)Z"⟩ prog_10_method_4_code 6 (some FieldType.boolean)) ∈ lwg := lm2 (ltb_4 (List.mem_of_getElem? (i := 213) (by decide +kernel))) rfl
theorem tw_1053 : (Cond.methodLink "PloughCall$Script" 37 ⟨"PloughCall$Standing", "canName", "(LPloughCall$City;II)Z"⟩) ∈ lwg := lm2 (ltb_4 (List.mem_of_getElem? (i := 215) (by decide +kernel))) rfl
theorem tw_1054 : (Cond.methodLink "PloughCall$Script" 43 ⟨"PloughCall$Standing", "give", "(LPloughCall$City;I)V"⟩) ∈ lwg := lm2 (ltb_4 (List.mem_of_getElem? (i := 216) (by decide +kernel))) rfl
theorem tw_1055 : (Cond.methodLink "PloughCall$Script" 47 ⟨"PloughCall$Standing", "canMaster", "(LPloughCall$City;I)Z"⟩) ∈ lwg := lm2 (ltb_4 (List.mem_of_getElem? (i := 217) (by decide +kernel))) rfl
theorem tw_1056 : (Cond.methodLink "PloughCall$Script" 54 ⟨"PloughCall$Standing", "canDisobey", "(LPloughCall$City;II)Z"⟩) ∈ lwg := lm2 (ltb_4 (List.mem_of_getElem? (i := 218) (by decide +kernel))) rfl
theorem tw_1057 : (Cond.methodLink "PloughCall$Script" 57 ⟨"PloughCall$Standing", "passMonth", "(LPloughCall$City;II)I"⟩) ∈ lwg := lm2 (ltb_4 (List.mem_of_getElem? (i := 219) (by decide +kernel))) rfl
theorem tw_1058 : (Cond.methodLink "PloughCall$Script" 61 ⟨"PloughCall$Standing", "canLay", "()Z"⟩) ∈ lwg := lm2 (ltb_4 (List.mem_of_getElem? (i := 220) (by decide +kernel))) rfl
theorem tw_1059 : (Cond.methodLink "PloughCall$Script" 65 ⟨"PloughCall$Standing", "layDown", "()I"⟩) ∈ lwg := lm2 (ltb_4 (List.mem_of_getElem? (i := 221) (by decide +kernel))) rfl
theorem tw_1060 : (Cond.methodLink "PloughCall" 208 ⟨"PloughCall$Standing", "together", "()I"⟩) ∈ lwg := lm2 (ltb_4 (List.mem_of_getElem? (i := 222) (by decide +kernel))) rfl
theorem tw_1061 : (Cond.methodLink "PloughCallLaw" 83 ⟨"PloughCall", "soon", "(II)I"⟩) ∈ lwg := lm2 (ltb_4 (List.mem_of_getElem? (i := 223) (by decide +kernel))) rfl
theorem tw_1062 : (Cond.instanceMethod ⟨"PloughCall", "soon", "(II)I"⟩) ∈ lwg := lm2 (ltb_4 (List.mem_of_getElem? (i := 224) (by decide +kernel))) rfl
theorem tw_1063 : (Cond.selects "PloughCall" ⟨"PloughCall", "soon", "(II)I"⟩ ⟨"PloughCall", "soon", "(II)I"⟩) ∈ lwg := lm2 (ltb_4 (List.mem_of_getElem? (i := 225) (by decide +kernel))) rfl
theorem tw_1064 : (Cond.code ⟨"PloughCall", "soon", "(II)I"⟩ prog_1_method_15_code 3 (some FieldType.int)) ∈ lwg := lm2 (ltb_4 (List.mem_of_getElem? (i := 226) (by decide +kernel))) rfl
theorem tw_1065 : (Cond.methodLink "PloughCall" 211 ⟨"PloughCall$City", "monthsToEnd", "(II)I"⟩) ∈ lwg := lm2 (ltb_4 (List.mem_of_getElem? (i := 227) (by decide +kernel))) rfl
theorem tw_1066 : (Cond.instanceMethod ⟨"PloughCall$City", "monthsToEnd", "(II)I"⟩) ∈ lwg := lm2 (ltb_4 (List.mem_of_getElem? (i := 228) (by decide +kernel))) rfl
theorem tw_1067 : (Cond.selects "PloughCall$City" ⟨"PloughCall$City", "monthsToEnd", "(II)I"⟩ ⟨"PloughCall$City", "monthsToEnd", "(II)I"⟩) ∈ lwg := lm2 (ltb_4 (List.mem_of_getElem? (i := 229) (by decide +kernel))) rfl
theorem tw_1068 : (Cond.code ⟨"PloughCall$City", "monthsToEnd", "(II)I"⟩ prog_3_method_22_code 5 (some FieldType.int)) ∈ lwg := lm2 (ltb_4 (List.mem_of_getElem? (i := 230) (by decide +kernel))) rfl
theorem tw_1069 : (Cond.methodLink "PloughCall$City" 129 ⟨"PloughCall$City", "strength", "(III)I"⟩) ∈ lwg := lm2 (ltb_4 (List.mem_of_getElem? (i := 231) (by decide +kernel))) rfl
theorem tw_1070 : (Cond.methodLink "PloughCallLaw" 87 ⟨"PloughCall", "whom", "(I)I"⟩) ∈ lwg := lm2 (ltb_4 (List.mem_of_getElem? (i := 232) (by decide +kernel))) rfl
theorem tw_1071 : (Cond.instanceMethod ⟨"PloughCall", "whom", "(I)I"⟩) ∈ lwg := lm2 (ltb_4 (List.mem_of_getElem? (i := 233) (by decide +kernel))) rfl
theorem tw_1072 : (Cond.selects "PloughCall" ⟨"PloughCall", "whom", "(I)I"⟩ ⟨"PloughCall", "whom", "(I)I"⟩) ∈ lwg := lm2 (ltb_4 (List.mem_of_getElem? (i := 234) (by decide +kernel))) rfl
theorem tw_1073 : (Cond.code ⟨"PloughCall", "whom", "(I)I"⟩ prog_1_method_16_code 2 (some FieldType.int)) ∈ lwg := lm2 (ltb_4 (List.mem_of_getElem? (i := 235) (by decide +kernel))) rfl
theorem tw_1074 : (Cond.methodLink "PloughCall" 218 ⟨"PloughCall$Counsel", "soonest", "(LPloughCall$City;LPloughCall$Standing;II)I"⟩) ∈ lwg := lm2 (ltb_4 (List.mem_of_getElem? (i := 236) (by decide +kernel))) rfl
theorem tw_1075 : (Cond.instanceMethod ⟨"PloughCall$Counsel", "soonest", "(LPloughCall$City;LPloughCall$Standing;II)I"⟩) ∈ lwg := lm2 (ltb_4 (List.mem_of_getElem? (i := 237) (by decide +kernel))) rfl
theorem tw_1076 : (Cond.selects "PloughCall$Counsel" ⟨"PloughCall$Counsel", "soonest", "(LPloughCall$City;LPloughCall$Standing;II)I"⟩ ⟨"PloughCall$Counsel", "soonest", "(LPloughCall$City;LPloughCall$Standing;II)I"⟩) ∈ lwg := lm2 (ltb_4 (List.mem_of_getElem? (i := 238) (by decide +kernel))) rfl
theorem tw_1077 : (Cond.code ⟨"PloughCall$Counsel", "soonest", "(LPloughCall$City;LPloughCall$Standing;II)I"⟩ prog_4_method_2_code 9 (some FieldType.int)) ∈ lwg := lm2 (ltb_4 (List.mem_of_getElem? (i := 239) (by decide +kernel))) rfl
theorem tw_1078 : (Cond.methodLink "PloughCall$Counsel" 44 ⟨"PloughCall$City", "someConsulCouldName", "(I)Z"⟩) ∈ lwg := lm2 (ltb_5 (List.mem_of_getElem? (i := 0) (by decide +kernel))) rfl
theorem tw_1079 : (Cond.instanceMethod ⟨"PloughCall$City", "someConsulCouldName", "(I)Z"⟩) ∈ lwg := lm2 (ltb_5 (List.mem_of_getElem? (i := 1) (by decide +kernel))) rfl
theorem tw_1080 : (Cond.selects "PloughCall$City" ⟨"PloughCall$City", "someConsulCouldName", "(I)Z"⟩ ⟨"PloughCall$City", "someConsulCouldName", "(I)Z"⟩) ∈ lwg := lm2 (ltb_5 (List.mem_of_getElem? (i := 2) (by decide +kernel))) rfl
theorem tw_1081 : (Cond.code ⟨"PloughCall$City", "someConsulCouldName", "(I)Z"⟩ prog_3_method_17_code 3 (some FieldType.boolean)) ∈ lwg := lm2 (ltb_5 (List.mem_of_getElem? (i := 3) (by decide +kernel))) rfl
theorem tw_1082 : (Cond.methodLink "PloughCall$City" 109 ⟨"PloughCall$City", "couldName", "(II)Z"⟩) ∈ lwg := lm2 (ltb_5 (List.mem_of_getElem? (i := 4) (by decide +kernel))) rfl
theorem tw_1084 : (Cond.methodLink "PloughCall$Counsel" 55 ⟨"PloughCall$City", "monthsToEnd", "(II)I"⟩) ∈ lwg := lm2 (ltb_5 (List.mem_of_getElem? (i := 6) (by decide +kernel))) rfl
theorem tw_1085 : (Cond.methodLink "PloughCall$Counsel" 59 ⟨"PloughCall$Counsel", "wouldKeepThen", "(LPloughCall$City;LPloughCall$Standing;III)Z"⟩) ∈ lwg := lm2 (ltb_5 (List.mem_of_getElem? (i := 7) (by decide +kernel))) rfl
theorem tw_1087 : (Cond.instanceMethod ⟨"PloughCall$Counsel", "wouldKeepThen", "(LPloughCall$City;LPloughCall$Standing;III)Z"⟩) ∈ lwg := lm2 (ltb_5 (List.mem_of_getElem? (i := 9) (by decide +kernel))) rfl
theorem tw_1088 : (Cond.code ⟨"PloughCall$Counsel", "wouldKeepThen", "(LPloughCall$City;LPloughCall$Standing;III)Z"⟩ prog_4_method_3_code 7 (some FieldType.boolean)) ∈ lwg := lm2 (ltb_5 (List.mem_of_getElem? (i := 10) (by decide +kernel))) rfl
theorem tw_1089 : (Cond.methodLink "PloughCall$Counsel" 63 ⟨"PloughCall$City", "likedForEnding", "(I)I"⟩) ∈ lwg := lm2 (ltb_5 (List.mem_of_getElem? (i := 11) (by decide +kernel))) rfl
theorem tw_1090 : (Cond.methodLink "PloughCall$Counsel" 67 ⟨"PloughCall$Standing", "likedWith", "(II)I"⟩) ∈ lwg := lm2 (ltb_5 (List.mem_of_getElem? (i := 12) (by decide +kernel))) rfl
theorem tw_1091 : (Cond.methodLink "PloughCall$Counsel" 70 ⟨"PloughCall$Standing", "togetherGrown", "(LPloughCall$City;II)I"⟩) ∈ lwg := lm2 (ltb_5 (List.mem_of_getElem? (i := 13) (by decide +kernel))) rfl
theorem tw_1092 : (Cond.instanceMethod ⟨"PloughCall$Standing", "togetherGrown", "(LPloughCall$City;II)I"⟩) ∈ lwg := lm2 (ltb_5 (List.mem_of_getElem? (i := 14) (by decide +kernel))) rfl
theorem tw_1093 : (Cond.selects "PloughCall$Standing" ⟨"PloughCall$Standing", "togetherGrown", "(LPloughCall$City;II)I"⟩ ⟨"PloughCall$Standing", "togetherGrown", "(LPloughCall$City;II)I"⟩) ∈ lwg := lm2 (ltb_5 (List.mem_of_getElem? (i := 15) (by decide +kernel))) rfl
theorem tw_1094 : (Cond.code ⟨"PloughCall$Standing", "togetherGrown", "(LPloughCall$City;II)I"⟩ prog_11_method_20_code 6 (some FieldType.int)) ∈ lwg := lm2 (ltb_5 (List.mem_of_getElem? (i := 16) (by decide +kernel))) rfl
theorem tw_1095 : (Cond.methodLink "PloughCall$Counsel" 74 ⟨"PloughCall$City", "wouldKeep", "(III)Z"⟩) ∈ lwg := lm2 (ltb_5 (List.mem_of_getElem? (i := 17) (by decide +kernel))) rfl
theorem tw_1096 : (Cond.methodLink "PloughCallLaw" 91 ⟨"PloughCall", "terms", "(I)I"⟩) ∈ lwg := lm2 (ltb_5 (List.mem_of_getElem? (i := 18) (by decide +kernel))) rfl
theorem tw_1097 : (Cond.instanceMethod ⟨"PloughCall", "terms", "(I)I"⟩) ∈ lwg := lm2 (ltb_5 (List.mem_of_getElem? (i := 19) (by decide +kernel))) rfl
theorem tw_1098 : (Cond.selects "PloughCall" ⟨"PloughCall", "terms", "(I)I"⟩ ⟨"PloughCall", "terms", "(I)I"⟩) ∈ lwg := lm2 (ltb_5 (List.mem_of_getElem? (i := 20) (by decide +kernel))) rfl
theorem tw_1099 : (Cond.code ⟨"PloughCall", "terms", "(I)I"⟩ prog_1_method_17_code 3 (some FieldType.int)) ∈ lwg := lm2 (ltb_5 (List.mem_of_getElem? (i := 21) (by decide +kernel))) rfl
theorem tw_1100 : (Cond.methodLink "PloughCall" 222 ⟨"java/lang/Math", "max", "(II)I"⟩) ∈ lwg := lm2 (ltb_5 (List.mem_of_getElem? (i := 22) (by decide +kernel))) rfl
theorem tw_1101 : (Cond.methodLink "PloughCallLaw" 95 ⟨"PloughCall", "headings", "(II)I"⟩) ∈ lwg := lm2 (ltb_5 (List.mem_of_getElem? (i := 23) (by decide +kernel))) rfl
theorem tw_1102 : (Cond.instanceMethod ⟨"PloughCall", "headings", "(II)I"⟩) ∈ lwg := lm2 (ltb_5 (List.mem_of_getElem? (i := 24) (by decide +kernel))) rfl
theorem tw_1103 : (Cond.selects "PloughCall" ⟨"PloughCall", "headings", "(II)I"⟩ ⟨"PloughCall", "headings", "(II)I"⟩) ∈ lwg := lm2 (ltb_5 (List.mem_of_getElem? (i := 25) (by decide +kernel))) rfl
theorem tw_1104 : (Cond.code ⟨"PloughCall", "headings", "(II)I"⟩ prog_1_method_18_code 3 (some FieldType.int)) ∈ lwg := lm2 (ltb_5 (List.mem_of_getElem? (i := 26) (by decide +kernel))) rfl
theorem tw_1105 : (Cond.methodLink "PloughCall" 227 ⟨"PloughCall", "within", "(III)Z"⟩) ∈ lwg := lm2 (ltb_5 (List.mem_of_getElem? (i := 27) (by decide +kernel))) rfl
theorem tw_1106 : (Cond.methodLink "PloughCall" 237 ⟨"PloughCall$Counsel", "head", "(LPloughCall$City;LPloughCall$Standing;I)V"⟩) ∈ lwg := lm2 (ltb_5 (List.mem_of_getElem? (i := 28) (by decide +kernel))) rfl
theorem tw_1107 : (Cond.instanceMethod ⟨"PloughCall$Counsel", "head", "(LPloughCall$City;LPloughCall$Standing;I)V"⟩) ∈ lwg := lm2 (ltb_5 (List.mem_of_getElem? (i := 29) (by decide +kernel))) rfl
theorem tw_1108 : (Cond.selects "PloughCall$Counsel" ⟨"PloughCall$Counsel", "head", "(LPloughCall$City;LPloughCall$Standing;I)V"⟩ ⟨"PloughCall$Counsel", "head", "(LPloughCall$City;LPloughCall$Standing;I)V"⟩) ∈ lwg := lm2 (ltb_5 (List.mem_of_getElem? (i := 30) (by decide +kernel))) rfl
theorem tw_1109 : (Cond.code ⟨"PloughCall$Counsel", "head", "(LPloughCall$City;LPloughCall$Standing;I)V"⟩ prog_4_method_4_code 5 none) ∈ lwg := lm2 (ltb_5 (List.mem_of_getElem? (i := 31) (by decide +kernel))) rfl
theorem tw_1110 : (Cond.constant "PloughCall$Counsel" 78 1000000) ∈ lwg := lm2 (ltb_5 (List.mem_of_getElem? (i := 32) (by decide +kernel))) rfl
theorem tw_1111 : (Cond.methodLink "PloughCall$Counsel" 82 ⟨"PloughCall$Counsel", "pathAt", "(I)LPloughCall$Standing;"⟩) ∈ lwg := lm2 (ltb_5 (List.mem_of_getElem? (i := 33) (by decide +kernel))) rfl
theorem tw_1113 : (Cond.instanceMethod ⟨"PloughCall$Counsel", "pathAt", "(I)LPloughCall$Standing;"⟩) ∈ lwg := lm2 (ltb_5 (List.mem_of_getElem? (i := 35) (by decide +kernel))) rfl
theorem tw_1114 : (Cond.code ⟨"PloughCall$Counsel", "pathAt", "(I)LPloughCall$Standing;"⟩ prog_4_method_6_code 2 (some (FieldType.object "PloughCall$Standing"))) ∈ lwg := lm2 (ltb_5 (List.mem_of_getElem? (i := 36) (by decide +kernel))) rfl
theorem tw_1115 : (Cond.methodLink "PloughCall$Counsel" 86 ⟨"PloughCall$Standing", "copy", "(LPloughCall$Standing;)V"⟩) ∈ lwg := lm2 (ltb_5 (List.mem_of_getElem? (i := 37) (by decide +kernel))) rfl
theorem tw_1116 : (Cond.methodLink "PloughCall$Counsel" 90 ⟨"PloughCall$Counsel", "headFrom", "(LPloughCall$City;II)V"⟩) ∈ lwg := lm2 (ltb_5 (List.mem_of_getElem? (i := 38) (by decide +kernel))) rfl
theorem tw_1118 : (Cond.instanceMethod ⟨"PloughCall$Counsel", "headFrom", "(LPloughCall$City;II)V"⟩) ∈ lwg := lm2 (ltb_5 (List.mem_of_getElem? (i := 40) (by decide +kernel))) rfl
theorem tw_1119 : (Cond.code ⟨"PloughCall$Counsel", "headFrom", "(LPloughCall$City;II)V"⟩ prog_4_method_5_code 7 none) ∈ lwg := lm2 (ltb_5 (List.mem_of_getElem? (i := 41) (by decide +kernel))) rfl
theorem tw_1120 : (Cond.methodLink "PloughCall$Counsel" 94 ⟨"PloughCall$Standing", "together", "()I"⟩) ∈ lwg := lm2 (ltb_5 (List.mem_of_getElem? (i := 42) (by decide +kernel))) rfl
theorem tw_1121 : (Cond.methodLink "PloughCall$Counsel" 98 ⟨"PloughCall$Counsel", "keepIfLess", "(I)V"⟩) ∈ lwg := lm2 (ltb_5 (List.mem_of_getElem? (i := 43) (by decide +kernel))) rfl
theorem tw_1123 : (Cond.instanceMethod ⟨"PloughCall$Counsel", "keepIfLess", "(I)V"⟩) ∈ lwg := lm2 (ltb_5 (List.mem_of_getElem? (i := 45) (by decide +kernel))) rfl
theorem tw_1124 : (Cond.code ⟨"PloughCall$Counsel", "keepIfLess", "(I)V"⟩ prog_4_method_7_code 2 none) ∈ lwg := lm2 (ltb_5 (List.mem_of_getElem? (i := 46) (by decide +kernel))) rfl
theorem tw_1126 : (Cond.methodLink "PloughCall$Counsel" 105 ⟨"PloughCall$Standing", "passMonth", "(LPloughCall$City;II)I"⟩) ∈ lwg := lm2 (ltb_5 (List.mem_of_getElem? (i := 48) (by decide +kernel))) rfl
theorem tw_1128 : (Cond.methodLink "PloughCallLaw" 99 ⟨"PloughCall", "all", "(I)I"⟩) ∈ lwg := lm2 (ltb_5 (List.mem_of_getElem? (i := 50) (by decide +kernel))) rfl
theorem tw_1129 : (Cond.instanceMethod ⟨"PloughCall", "all", "(I)I"⟩) ∈ lwg := lm2 (ltb_5 (List.mem_of_getElem? (i := 51) (by decide +kernel))) rfl
theorem tw_1130 : (Cond.selects "PloughCall" ⟨"PloughCall", "all", "(I)I"⟩ ⟨"PloughCall", "all", "(I)I"⟩) ∈ lwg := lm2 (ltb_5 (List.mem_of_getElem? (i := 52) (by decide +kernel))) rfl
theorem tw_1131 : (Cond.code ⟨"PloughCall", "all", "(I)I"⟩ prog_1_method_19_code 2 (some FieldType.int)) ∈ lwg := lm2 (ltb_5 (List.mem_of_getElem? (i := 53) (by decide +kernel))) rfl
theorem tw_1132 : (Cond.methodLink "PloughCall" 247 ⟨"PloughCall$Standing", "dangersLeft", "()I"⟩) ∈ lwg := lm2 (ltb_5 (List.mem_of_getElem? (i := 54) (by decide +kernel))) rfl
theorem tw_1133 : (Cond.instanceMethod ⟨"PloughCall$Standing", "dangersLeft", "()I"⟩) ∈ lwg := lm2 (ltb_5 (List.mem_of_getElem? (i := 55) (by decide +kernel))) rfl
theorem tw_1134 : (Cond.selects "PloughCall$Standing" ⟨"PloughCall$Standing", "dangersLeft", "()I"⟩ ⟨"PloughCall$Standing", "dangersLeft", "()I"⟩) ∈ lwg := lm2 (ltb_5 (List.mem_of_getElem? (i := 56) (by decide +kernel))) rfl
theorem tw_1135 : (Cond.code ⟨"PloughCall$Standing", "dangersLeft", "()I"⟩ prog_11_method_21_code 3 (some FieldType.int)) ∈ lwg := lm2 (ltb_5 (List.mem_of_getElem? (i := 57) (by decide +kernel))) rfl
theorem tw_1136 : (Cond.methodLink "PloughCall" 253 ⟨"PloughCall$Counsel", "share", "(LPloughCall$City;LPloughCall$Standing;)V"⟩) ∈ lwg := lm2 (ltb_5 (List.mem_of_getElem? (i := 58) (by decide +kernel))) rfl
theorem tw_1137 : (Cond.instanceMethod ⟨"PloughCall$Counsel", "share", "(LPloughCall$City;LPloughCall$Standing;)V"⟩) ∈ lwg := lm2 (ltb_5 (List.mem_of_getElem? (i := 59) (by decide +kernel))) rfl
theorem tw_1138 : (Cond.selects "PloughCall$Counsel" ⟨"PloughCall$Counsel", "share", "(LPloughCall$City;LPloughCall$Standing;)V"⟩ ⟨"PloughCall$Counsel", "share", "(LPloughCall$City;LPloughCall$Standing;)V"⟩) ∈ lwg := lm2 (ltb_5 (List.mem_of_getElem? (i := 60) (by decide +kernel))) rfl
theorem tw_1139 : (Cond.code ⟨"PloughCall$Counsel", "share", "(LPloughCall$City;LPloughCall$Standing;)V"⟩ prog_4_method_8_code 6 none) ∈ lwg := lm2 (ltb_5 (List.mem_of_getElem? (i := 61) (by decide +kernel))) rfl
theorem tw_1140 : (Cond.methodLink "PloughCall$Counsel" 116 ⟨"PloughCall$Counsel", "shareFrom", "(LPloughCall$City;LPloughCall$Standing;III)V"⟩) ∈ lwg := lm2 (ltb_5 (List.mem_of_getElem? (i := 62) (by decide +kernel))) rfl
theorem tw_1142 : (Cond.instanceMethod ⟨"PloughCall$Counsel", "shareFrom", "(LPloughCall$City;LPloughCall$Standing;III)V"⟩) ∈ lwg := lm2 (ltb_5 (List.mem_of_getElem? (i := 64) (by decide +kernel))) rfl
theorem tw_1143 : (Cond.code ⟨"PloughCall$Counsel", "shareFrom", "(LPloughCall$City;LPloughCall$Standing;III)V"⟩ prog_4_method_9_code 8 none) ∈ lwg := lm2 (ltb_5 (List.mem_of_getElem? (i := 65) (by decide +kernel))) rfl
theorem tw_1144 : (Cond.methodLink "PloughCallLaw" 103 ⟨"PloughCall", "waits", "(I)I"⟩) ∈ lwg := lm2 (ltb_5 (List.mem_of_getElem? (i := 66) (by decide +kernel))) rfl
theorem tw_1145 : (Cond.instanceMethod ⟨"PloughCall", "waits", "(I)I"⟩) ∈ lwg := lm2 (ltb_5 (List.mem_of_getElem? (i := 67) (by decide +kernel))) rfl
theorem tw_1146 : (Cond.selects "PloughCall" ⟨"PloughCall", "waits", "(I)I"⟩ ⟨"PloughCall", "waits", "(I)I"⟩) ∈ lwg := lm2 (ltb_5 (List.mem_of_getElem? (i := 68) (by decide +kernel))) rfl
theorem tw_1147 : (Cond.code ⟨"PloughCall", "waits", "(I)I"⟩ prog_1_method_20_code 3 (some FieldType.int)) ∈ lwg := lm2 (ltb_5 (List.mem_of_getElem? (i := 69) (by decide +kernel))) rfl
theorem tw_1148 : (Cond.methodLink "PloughCall" 257 ⟨"PloughCall$Standing", "togetherGrown", "(LPloughCall$City;II)I"⟩) ∈ lwg := lm2 (ltb_5 (List.mem_of_getElem? (i := 70) (by decide +kernel))) rfl
theorem tw_1149 : (Cond.methodLink "PloughCallLaw" 116 ⟨"PloughCall", "falls", "(I)I"⟩) ∈ lwg := lm2 (ltb_5 (List.mem_of_getElem? (i := 71) (by decide +kernel))) rfl
theorem tw_1150 : (Cond.instanceMethod ⟨"PloughCall", "falls", "(I)I"⟩) ∈ lwg := lm2 (ltb_5 (List.mem_of_getElem? (i := 72) (by decide +kernel))) rfl
theorem tw_1151 : (Cond.selects "PloughCall" ⟨"PloughCall", "falls", "(I)I"⟩ ⟨"PloughCall", "falls", "(I)I"⟩) ∈ lwg := lm2 (ltb_5 (List.mem_of_getElem? (i := 73) (by decide +kernel))) rfl
theorem tw_1152 : (Cond.code ⟨"PloughCall", "falls", "(I)I"⟩ prog_1_method_22_code 2 (some FieldType.int)) ∈ lwg := lm2 (ltb_5 (List.mem_of_getElem? (i := 74) (by decide +kernel))) rfl
theorem tw_1153 : (Cond.methodLink "PloughCall" 273 ⟨"PloughCall$City", "hasDecrees", "(I)Z"⟩) ∈ lwg := lm2 (ltb_5 (List.mem_of_getElem? (i := 75) (by decide +kernel))) rfl
theorem tw_1154 : (Cond.instanceMethod ⟨"PloughCall$City", "hasDecrees", "(I)Z"⟩) ∈ lwg := lm2 (ltb_5 (List.mem_of_getElem? (i := 76) (by decide +kernel))) rfl
theorem tw_1155 : (Cond.selects "PloughCall$City" ⟨"PloughCall$City", "hasDecrees", "(I)Z"⟩ ⟨"PloughCall$City", "hasDecrees", "(I)Z"⟩) ∈ lwg := lm2 (ltb_5 (List.mem_of_getElem? (i := 77) (by decide +kernel))) rfl
theorem tw_1156 : (Cond.code ⟨"PloughCall$City", "hasDecrees", "(I)Z"⟩ prog_3_method_13_code 2 (some FieldType.boolean)) ∈ lwg := lm2 (ltb_5 (List.mem_of_getElem? (i := 78) (by decide +kernel))) rfl
theorem tw_1157 : (Cond.methodLink "PloughCall" 276 ⟨"PloughCall$City", "fallen", "(I)I"⟩) ∈ lwg := lm2 (ltb_5 (List.mem_of_getElem? (i := 79) (by decide +kernel))) rfl
theorem tw_1158 : (Cond.instanceMethod ⟨"PloughCall$City", "fallen", "(I)I"⟩) ∈ lwg := lm2 (ltb_5 (List.mem_of_getElem? (i := 80) (by decide +kernel))) rfl
theorem tw_1159 : (Cond.selects "PloughCall$City" ⟨"PloughCall$City", "fallen", "(I)I"⟩ ⟨"PloughCall$City", "fallen", "(I)I"⟩) ∈ lwg := lm2 (ltb_5 (List.mem_of_getElem? (i := 81) (by decide +kernel))) rfl
theorem tw_1160 : (Cond.code ⟨"PloughCall$City", "fallen", "(I)I"⟩ prog_3_method_23_code 4 (some FieldType.int)) ∈ lwg := lm2 (ltb_5 (List.mem_of_getElem? (i := 82) (by decide +kernel))) rfl
theorem tw_1161 : (Cond.methodLink "PloughCallLaw" 120 ⟨"PloughCall", "anew", "(II)I"⟩) ∈ lwg := lm2 (ltb_5 (List.mem_of_getElem? (i := 83) (by decide +kernel))) rfl
theorem tw_1162 : (Cond.instanceMethod ⟨"PloughCall", "anew", "(II)I"⟩) ∈ lwg := lm2 (ltb_5 (List.mem_of_getElem? (i := 84) (by decide +kernel))) rfl
theorem tw_1163 : (Cond.selects "PloughCall" ⟨"PloughCall", "anew", "(II)I"⟩ ⟨"PloughCall", "anew", "(II)I"⟩) ∈ lwg := lm2 (ltb_5 (List.mem_of_getElem? (i := 85) (by decide +kernel))) rfl
theorem tw_1164 : (Cond.code ⟨"PloughCall", "anew", "(II)I"⟩ prog_1_method_23_code 3 (some FieldType.int)) ∈ lwg := lm2 (ltb_5 (List.mem_of_getElem? (i := 86) (by decide +kernel))) rfl
theorem tw_1165 : (Cond.methodLink "PloughCall" 283 ⟨"PloughCall$City", "neededBy", "(I)I"⟩) ∈ lwg := lm2 (ltb_5 (List.mem_of_getElem? (i := 87) (by decide +kernel))) rfl
theorem tw_1166 : (Cond.instanceMethod ⟨"PloughCall$City", "neededBy", "(I)I"⟩) ∈ lwg := lm2 (ltb_5 (List.mem_of_getElem? (i := 88) (by decide +kernel))) rfl
theorem tw_1167 : (Cond.selects "PloughCall$City" ⟨"PloughCall$City", "neededBy", "(I)I"⟩ ⟨"PloughCall$City", "neededBy", "(I)I"⟩) ∈ lwg := lm2 (ltb_5 (List.mem_of_getElem? (i := 89) (by decide +kernel))) rfl
theorem tw_1168 : (Cond.code ⟨"PloughCall$City", "neededBy", "(I)I"⟩ prog_3_method_24_code 4 (some FieldType.int)) ∈ lwg := lm2 (ltb_5 (List.mem_of_getElem? (i := 90) (by decide +kernel))) rfl
theorem tw_1169 : (Cond.methodLink "PloughCallLaw" 124 ⟨"PloughCall", "tell", "(III)Z"⟩) ∈ lwg := lm2 (ltb_5 (List.mem_of_getElem? (i := 91) (by decide +kernel))) rfl
theorem tw_1170 : (Cond.instanceMethod ⟨"PloughCall", "tell", "(III)Z"⟩) ∈ lwg := lm2 (ltb_5 (List.mem_of_getElem? (i := 92) (by decide +kernel))) rfl
theorem tw_1171 : (Cond.selects "PloughCall" ⟨"PloughCall", "tell", "(III)Z"⟩ ⟨"PloughCall", "tell", "(III)Z"⟩) ∈ lwg := lm2 (ltb_5 (List.mem_of_getElem? (i := 93) (by decide +kernel))) rfl
theorem tw_1172 : (Cond.code ⟨"PloughCall", "tell", "(III)Z"⟩ prog_1_method_24_code 4 (some FieldType.boolean)) ∈ lwg := lm2 (ltb_5 (List.mem_of_getElem? (i := 94) (by decide +kernel))) rfl
theorem tw_1173 : (Cond.methodLink "PloughCall" 286 ⟨"PloughCall$Reports", "add", "(III)Z"⟩) ∈ lwg := lm2 (ltb_5 (List.mem_of_getElem? (i := 95) (by decide +kernel))) rfl
theorem tw_1174 : (Cond.instanceMethod ⟨"PloughCall$Reports", "add", "(III)Z"⟩) ∈ lwg := lm2 (ltb_5 (List.mem_of_getElem? (i := 96) (by decide +kernel))) rfl
theorem tw_1175 : (Cond.selects "PloughCall$Reports" ⟨"PloughCall$Reports", "add", "(III)Z"⟩ ⟨"PloughCall$Reports", "add", "(III)Z"⟩) ∈ lwg := lm2 (ltb_5 (List.mem_of_getElem? (i := 97) (by decide +kernel))) rfl
theorem tw_1176 : (Cond.code ⟨"PloughCall$Reports", "add", "(III)Z"⟩ prog_9_method_2_code 4 (some FieldType.boolean)) ∈ lwg := lm2 (ltb_5 (List.mem_of_getElem? (i := 98) (by decide +kernel))) rfl
theorem tw_1178 : (Cond.methodLink "PloughCallLaw" 129 ⟨"PloughCall", "who", "()I"⟩) ∈ lwg := lm2 (ltb_5 (List.mem_of_getElem? (i := 100) (by decide +kernel))) rfl
theorem tw_1179 : (Cond.instanceMethod ⟨"PloughCall", "who", "()I"⟩) ∈ lwg := lm2 (ltb_5 (List.mem_of_getElem? (i := 101) (by decide +kernel))) rfl
theorem tw_1180 : (Cond.selects "PloughCall" ⟨"PloughCall", "who", "()I"⟩ ⟨"PloughCall", "who", "()I"⟩) ∈ lwg := lm2 (ltb_5 (List.mem_of_getElem? (i := 102) (by decide +kernel))) rfl
theorem tw_1181 : (Cond.code ⟨"PloughCall", "who", "()I"⟩ prog_1_method_25_code 1 (some FieldType.int)) ∈ lwg := lm2 (ltb_5 (List.mem_of_getElem? (i := 103) (by decide +kernel))) rfl
theorem tw_1182 : (Cond.methodLink "PloughCall" 289 ⟨"PloughCall$Reports", "suspects", "(LPloughCall$City;)I"⟩) ∈ lwg := lm2 (ltb_5 (List.mem_of_getElem? (i := 104) (by decide +kernel))) rfl
theorem tw_1183 : (Cond.instanceMethod ⟨"PloughCall$Reports", "suspects", "(LPloughCall$City;)I"⟩) ∈ lwg := lm2 (ltb_5 (List.mem_of_getElem? (i := 105) (by decide +kernel))) rfl
theorem tw_1184 : (Cond.selects "PloughCall$Reports" ⟨"PloughCall$Reports", "suspects", "(LPloughCall$City;)I"⟩ ⟨"PloughCall$Reports", "suspects", "(LPloughCall$City;)I"⟩) ∈ lwg := lm2 (ltb_5 (List.mem_of_getElem? (i := 106) (by decide +kernel))) rfl
theorem tw_1185 : (Cond.code ⟨"PloughCall$Reports", "suspects", "(LPloughCall$City;)I"⟩ prog_9_method_4_code 4 (some FieldType.int)) ∈ lwg := lm2 (ltb_5 (List.mem_of_getElem? (i := 107) (by decide +kernel))) rfl
theorem tw_1186 : (Cond.methodLink "PloughCall$Reports" 38 ⟨"PloughCall$Reports", "fits", "(LPloughCall$City;I)Z"⟩) ∈ lwg := lm2 (ltb_5 (List.mem_of_getElem? (i := 108) (by decide +kernel))) rfl
theorem tw_1188 : (Cond.instanceMethod ⟨"PloughCall$Reports", "fits", "(LPloughCall$City;I)Z"⟩) ∈ lwg := lm2 (ltb_5 (List.mem_of_getElem? (i := 110) (by decide +kernel))) rfl
theorem tw_1189 : (Cond.code ⟨"PloughCall$Reports", "fits", "(LPloughCall$City;I)Z"⟩ prog_9_method_5_code 5 (some FieldType.boolean)) ∈ lwg := lm2 (ltb_5 (List.mem_of_getElem? (i := 111) (by decide +kernel))) rfl
theorem tw_1191 : (Cond.methodLink "PloughCall$Reports" 47 ⟨"PloughCall$City", "sizeBehind", "(III)I"⟩) ∈ lwg := lm2 (ltb_5 (List.mem_of_getElem? (i := 113) (by decide +kernel))) rfl
theorem tw_1192 : (Cond.instanceMethod ⟨"PloughCall$City", "sizeBehind", "(III)I"⟩) ∈ lwg := lm2 (ltb_5 (List.mem_of_getElem? (i := 114) (by decide +kernel))) rfl
theorem tw_1193 : (Cond.selects "PloughCall$City" ⟨"PloughCall$City", "sizeBehind", "(III)I"⟩ ⟨"PloughCall$City", "sizeBehind", "(III)I"⟩) ∈ lwg := lm2 (ltb_5 (List.mem_of_getElem? (i := 115) (by decide +kernel))) rfl
theorem tw_1194 : (Cond.code ⟨"PloughCall$City", "sizeBehind", "(III)I"⟩ prog_3_method_21_code 6 (some FieldType.int)) ∈ lwg := lm2 (ltb_5 (List.mem_of_getElem? (i := 116) (by decide +kernel))) rfl
theorem tw_1195 : (Cond.methodLink "PloughCallLaw" 133 ⟨"PloughCall", "when", "(I)I"⟩) ∈ lwg := lm2 (ltb_5 (List.mem_of_getElem? (i := 117) (by decide +kernel))) rfl
theorem tw_1196 : (Cond.instanceMethod ⟨"PloughCall", "when", "(I)I"⟩) ∈ lwg := lm2 (ltb_5 (List.mem_of_getElem? (i := 118) (by decide +kernel))) rfl
theorem tw_1197 : (Cond.selects "PloughCall" ⟨"PloughCall", "when", "(I)I"⟩ ⟨"PloughCall", "when", "(I)I"⟩) ∈ lwg := lm2 (ltb_5 (List.mem_of_getElem? (i := 119) (by decide +kernel))) rfl
theorem tw_1198 : (Cond.code ⟨"PloughCall", "when", "(I)I"⟩ prog_1_method_26_code 2 (some FieldType.int)) ∈ lwg := lm2 (ltb_5 (List.mem_of_getElem? (i := 120) (by decide +kernel))) rfl
theorem tw_1199 : (Cond.methodLink "PloughCall" 292 ⟨"PloughCall$Counsel", "parting", "(LPloughCall$City;II)I"⟩) ∈ lwg := lm2 (ltb_5 (List.mem_of_getElem? (i := 121) (by decide +kernel))) rfl
theorem tw_1200 : (Cond.instanceMethod ⟨"PloughCall$Counsel", "parting", "(LPloughCall$City;II)I"⟩) ∈ lwg := lm2 (ltb_5 (List.mem_of_getElem? (i := 122) (by decide +kernel))) rfl
theorem tw_1201 : (Cond.selects "PloughCall$Counsel" ⟨"PloughCall$Counsel", "parting", "(LPloughCall$City;II)I"⟩ ⟨"PloughCall$Counsel", "parting", "(LPloughCall$City;II)I"⟩) ∈ lwg := lm2 (ltb_5 (List.mem_of_getElem? (i := 123) (by decide +kernel))) rfl
theorem tw_1202 : (Cond.code ⟨"PloughCall$Counsel", "parting", "(LPloughCall$City;II)I"⟩ prog_4_method_13_code 9 (some FieldType.int)) ∈ lwg := lm2 (ltb_5 (List.mem_of_getElem? (i := 124) (by decide +kernel))) rfl
theorem tw_1203 : (Cond.methodLink "PloughCall$Counsel" 147 ⟨"java/lang/Integer", "bitCount", "(I)I"⟩) ∈ lwg := lm2 (ltb_5 (List.mem_of_getElem? (i := 125) (by decide +kernel))) rfl
theorem tw_1204 : (Cond.methodLink "PloughCall$Counsel" 153 ⟨"PloughCall$Counsel", "mostAlike", "(LPloughCall$City;III)I"⟩) ∈ lwg := lm2 (ltb_5 (List.mem_of_getElem? (i := 126) (by decide +kernel))) rfl
theorem tw_1206 : (Cond.instanceMethod ⟨"PloughCall$Counsel", "mostAlike", "(LPloughCall$City;III)I"⟩) ∈ lwg := lm2 (ltb_5 (List.mem_of_getElem? (i := 128) (by decide +kernel))) rfl
theorem tw_1207 : (Cond.code ⟨"PloughCall$Counsel", "mostAlike", "(LPloughCall$City;III)I"⟩ prog_4_method_14_code 8 (some FieldType.int)) ∈ lwg := lm2 (ltb_5 (List.mem_of_getElem? (i := 129) (by decide +kernel))) rfl
theorem tw_1208 : (Cond.methodLink "PloughCall$Counsel" 157 ⟨"PloughCall$City", "sizeBehind", "(III)I"⟩) ∈ lwg := lm2 (ltb_5 (List.mem_of_getElem? (i := 130) (by decide +kernel))) rfl
theorem tw_1209 : (Cond.methodLink "PloughCall$Counsel" 139 ⟨"java/lang/Math", "max", "(II)I"⟩) ∈ lwg := lm2 (ltb_5 (List.mem_of_getElem? (i := 131) (by decide +kernel))) rfl
theorem tw_1210 : (Cond.methodLink "PloughCallLaw" 140 ⟨"PloughCall", "ages", "(III)I"⟩) ∈ lwg := lm2 (ltb_5 (List.mem_of_getElem? (i := 132) (by decide +kernel))) rfl
theorem tw_1211 : (Cond.instanceMethod ⟨"PloughCall", "ages", "(III)I"⟩) ∈ lwg := lm2 (ltb_5 (List.mem_of_getElem? (i := 133) (by decide +kernel))) rfl
theorem tw_1212 : (Cond.selects "PloughCall" ⟨"PloughCall", "ages", "(III)I"⟩ ⟨"PloughCall", "ages", "(III)I"⟩) ∈ lwg := lm2 (ltb_5 (List.mem_of_getElem? (i := 134) (by decide +kernel))) rfl
theorem tw_1213 : (Cond.code ⟨"PloughCall", "ages", "(III)I"⟩ prog_1_method_28_code 4 (some FieldType.int)) ∈ lwg := lm2 (ltb_5 (List.mem_of_getElem? (i := 135) (by decide +kernel))) rfl
theorem tw_1214 : (Cond.methodLink "PloughCall" 303 ⟨"PloughCall$Standing", "copy", "(LPloughCall$Standing;)V"⟩) ∈ lwg := lm2 (ltb_5 (List.mem_of_getElem? (i := 136) (by decide +kernel))) rfl
theorem tw_1215 : (Cond.methodLink "PloughCall" 306 ⟨"PloughCall$Counsel", "live", "(LPloughCall$City;LPloughCall$Standing;II)V"⟩) ∈ lwg := lm2 (ltb_5 (List.mem_of_getElem? (i := 137) (by decide +kernel))) rfl
theorem tw_1216 : (Cond.instanceMethod ⟨"PloughCall$Counsel", "live", "(LPloughCall$City;LPloughCall$Standing;II)V"⟩) ∈ lwg := lm2 (ltb_5 (List.mem_of_getElem? (i := 138) (by decide +kernel))) rfl
theorem tw_1217 : (Cond.selects "PloughCall$Counsel" ⟨"PloughCall$Counsel", "live", "(LPloughCall$City;LPloughCall$Standing;II)V"⟩ ⟨"PloughCall$Counsel", "live", "(LPloughCall$City;LPloughCall$Standing;II)V"⟩) ∈ lwg := lm2 (ltb_5 (List.mem_of_getElem? (i := 139) (by decide +kernel))) rfl
theorem tw_1218 : (Cond.code ⟨"PloughCall$Counsel", "live", "(LPloughCall$City;LPloughCall$Standing;II)V"⟩ prog_4_method_15_code 10 none) ∈ lwg := lm2 (ltb_5 (List.mem_of_getElem? (i := 140) (by decide +kernel))) rfl
theorem tw_1219 : (Cond.methodLink "PloughCall$Counsel" 169 ⟨"PloughCall$Counsel", "drawnNext", "(J)J"⟩) ∈ lwg := lm2 (ltb_5 (List.mem_of_getElem? (i := 141) (by decide +kernel))) rfl
theorem tw_1220 : (Cond.static ⟨"PloughCall$Counsel", "drawnNext", "(J)J"⟩) ∈ lwg := lm2 (ltb_5 (List.mem_of_getElem? (i := 142) (by decide +kernel))) rfl
theorem tw_1221 : (Cond.code ⟨"PloughCall$Counsel", "drawnNext", "(J)J"⟩ prog_4_method_16_code 2 (some FieldType.long)) ∈ lwg := lm2 (ltb_5 (List.mem_of_getElem? (i := 143) (by decide +kernel))) rfl
theorem tw_1222 : (Cond.constantLong "PloughCall$Counsel" 189 1103515245) ∈ lwg := lm2 (ltb_5 (List.mem_of_getElem? (i := 144) (by decide +kernel))) rfl
theorem tw_1223 : (Cond.constantLong "PloughCall$Counsel" 191 12345) ∈ lwg := lm2 (ltb_5 (List.mem_of_getElem? (i := 145) (by decide +kernel))) rfl
theorem tw_1224 : (Cond.constantLong "PloughCall$Counsel" 193 2147483648) ∈ lwg := lm2 (ltb_5 (List.mem_of_getElem? (i := 146) (by decide +kernel))) rfl
theorem tw_1225 : (Cond.methodLink "PloughCall$Counsel" 173 ⟨"PloughCall$Counsel", "drawnBelow", "(JI)I"⟩) ∈ lwg := lm2 (ltb_5 (List.mem_of_getElem? (i := 147) (by decide +kernel))) rfl
theorem tw_1226 : (Cond.static ⟨"PloughCall$Counsel", "drawnBelow", "(JI)I"⟩) ∈ lwg := lm2 (ltb_5 (List.mem_of_getElem? (i := 148) (by decide +kernel))) rfl
theorem tw_1227 : (Cond.code ⟨"PloughCall$Counsel", "drawnBelow", "(JI)I"⟩ prog_4_method_17_code 3 (some FieldType.int)) ∈ lwg := lm2 (ltb_5 (List.mem_of_getElem? (i := 149) (by decide +kernel))) rfl
theorem tw_1228 : (Cond.constantLong "PloughCall$Counsel" 195 65536) ∈ lwg := lm2 (ltb_5 (List.mem_of_getElem? (i := 150) (by decide +kernel))) rfl
theorem tw_1229 : (Cond.methodLink "PloughCall$Counsel" 177 ⟨"PloughCall$Standing", "canName", "(LPloughCall$City;II)Z"⟩) ∈ lwg := lm2 (ltb_5 (List.mem_of_getElem? (i := 151) (by decide +kernel))) rfl
theorem tw_1230 : (Cond.methodLink "PloughCall$Counsel" 181 ⟨"PloughCall$Standing", "give", "(LPloughCall$City;I)V"⟩) ∈ lwg := lm2 (ltb_5 (List.mem_of_getElem? (i := 152) (by decide +kernel))) rfl
theorem tw_1231 : (Cond.methodLink "PloughCall" 316 ⟨"PloughCall", "sum", "([II)I"⟩) ∈ lwg := lm2 (ltb_5 (List.mem_of_getElem? (i := 153) (by decide +kernel))) rfl
theorem tw_1232 : (Cond.methodLink "PloughCallLaw" 145 ⟨"PloughCall", "mark", "(IZ)Z"⟩) ∈ lwg := lm2 (ltb_5 (List.mem_of_getElem? (i := 154) (by decide +kernel))) rfl
theorem tw_1233 : (Cond.instanceMethod ⟨"PloughCall", "mark", "(IZ)Z"⟩) ∈ lwg := lm2 (ltb_5 (List.mem_of_getElem? (i := 155) (by decide +kernel))) rfl
theorem tw_1234 : (Cond.selects "PloughCall" ⟨"PloughCall", "mark", "(IZ)Z"⟩ ⟨"PloughCall", "mark", "(IZ)Z"⟩) ∈ lwg := lm2 (ltb_5 (List.mem_of_getElem? (i := 156) (by decide +kernel))) rfl
theorem tw_1235 : (Cond.code ⟨"PloughCall", "mark", "(IZ)Z"⟩ prog_1_method_29_code 4 (some FieldType.boolean)) ∈ lwg := lm2 (ltb_5 (List.mem_of_getElem? (i := 157) (by decide +kernel))) rfl
theorem tw_1236 : (Cond.methodLink "PloughCall" 319 ⟨"PloughCall$Mark", "hold", "(LPloughCall$Standing;LPloughCall$Script;LPloughCall$Reports;)V"⟩) ∈ lwg := lm2 (ltb_5 (List.mem_of_getElem? (i := 158) (by decide +kernel))) rfl
theorem tw_1237 : (Cond.instanceMethod ⟨"PloughCall$Mark", "hold", "(LPloughCall$Standing;LPloughCall$Script;LPloughCall$Reports;)V"⟩) ∈ lwg := lm2 (ltb_5 (List.mem_of_getElem? (i := 159) (by decide +kernel))) rfl
theorem tw_1238 : (Cond.selects "PloughCall$Mark" ⟨"PloughCall$Mark", "hold", "(LPloughCall$Standing;LPloughCall$Script;LPloughCall$Reports;)V"⟩ ⟨"PloughCall$Mark", "hold", "(LPloughCall$Standing;LPloughCall$Script;LPloughCall$Reports;)V"⟩) ∈ lwg := lm2 (ltb_5 (List.mem_of_getElem? (i := 160) (by decide +kernel))) rfl
theorem tw_1239 : (Cond.code ⟨"PloughCall$Mark", "hold", "(LPloughCall$Standing;LPloughCall$Script;LPloughCall$Reports;)V"⟩ prog_6_method_2_code 4 none) ∈ lwg := lm2 (ltb_5 (List.mem_of_getElem? (i := 161) (by decide +kernel))) rfl
theorem tw_1240 : (Cond.methodLink "PloughCall$Mark" 30 ⟨"PloughCall$Standing", "copy", "(LPloughCall$Standing;)V"⟩) ∈ lwg := lm2 (ltb_5 (List.mem_of_getElem? (i := 162) (by decide +kernel))) rfl
theorem tw_1241 : (Cond.methodLink "PloughCall$Mark" 34 ⟨"PloughCall$Script", "copy", "(LPloughCall$Script;)V"⟩) ∈ lwg := lm2 (ltb_5 (List.mem_of_getElem? (i := 163) (by decide +kernel))) rfl
theorem tw_1242 : (Cond.instanceMethod ⟨"PloughCall$Script", "copy", "(LPloughCall$Script;)V"⟩) ∈ lwg := lm2 (ltb_5 (List.mem_of_getElem? (i := 164) (by decide +kernel))) rfl
theorem tw_1243 : (Cond.selects "PloughCall$Script" ⟨"PloughCall$Script", "copy", "(LPloughCall$Script;)V"⟩ ⟨"PloughCall$Script", "copy", "(LPloughCall$Script;)V"⟩) ∈ lwg := lm2 (ltb_5 (List.mem_of_getElem? (i := 165) (by decide +kernel))) rfl
theorem tw_1244 : (Cond.code ⟨"PloughCall$Script", "copy", "(LPloughCall$Script;)V"⟩ prog_10_method_3_code 2 none) ∈ lwg := lm2 (ltb_5 (List.mem_of_getElem? (i := 166) (by decide +kernel))) rfl
theorem tw_1246 : (Cond.methodLink "PloughCall$Mark" 37 ⟨"PloughCall$Reports", "copy", "(LPloughCall$Reports;)V"⟩) ∈ lwg := lm2 (ltb_5 (List.mem_of_getElem? (i := 168) (by decide +kernel))) rfl
theorem tw_1247 : (Cond.instanceMethod ⟨"PloughCall$Reports", "copy", "(LPloughCall$Reports;)V"⟩) ∈ lwg := lm2 (ltb_5 (List.mem_of_getElem? (i := 169) (by decide +kernel))) rfl
theorem tw_1248 : (Cond.selects "PloughCall$Reports" ⟨"PloughCall$Reports", "copy", "(LPloughCall$Reports;)V"⟩ ⟨"PloughCall$Reports", "copy", "(LPloughCall$Reports;)V"⟩) ∈ lwg := lm2 (ltb_5 (List.mem_of_getElem? (i := 170) (by decide +kernel))) rfl
theorem tw_1249 : (Cond.code ⟨"PloughCall$Reports", "copy", "(LPloughCall$Reports;)V"⟩ prog_9_method_3_code 2 none) ∈ lwg := lm2 (ltb_5 (List.mem_of_getElem? (i := 171) (by decide +kernel))) rfl
theorem tw_1251 : (Cond.methodLink "PloughCall" 327 ⟨"PloughCall$Script", "copy", "(LPloughCall$Script;)V"⟩) ∈ lwg := lm2 (ltb_5 (List.mem_of_getElem? (i := 173) (by decide +kernel))) rfl
theorem tw_1252 : (Cond.methodLink "PloughCall" 331 ⟨"PloughCall$Reports", "copy", "(LPloughCall$Reports;)V"⟩) ∈ lwg := lm2 (ltb_5 (List.mem_of_getElem? (i := 174) (by decide +kernel))) rfl
theorem tw_1253 : (Cond.methodLink "PloughCallLaw" 150 ⟨"PloughCall", "count", "(I)I"⟩) ∈ lwg := lm2 (ltb_5 (List.mem_of_getElem? (i := 175) (by decide +kernel))) rfl
theorem tw_1254 : (Cond.instanceMethod ⟨"PloughCall", "count", "(I)I"⟩) ∈ lwg := lm2 (ltb_5 (List.mem_of_getElem? (i := 176) (by decide +kernel))) rfl
theorem tw_1255 : (Cond.selects "PloughCall" ⟨"PloughCall", "count", "(I)I"⟩ ⟨"PloughCall", "count", "(I)I"⟩) ∈ lwg := lm2 (ltb_5 (List.mem_of_getElem? (i := 177) (by decide +kernel))) rfl
theorem tw_1256 : (Cond.code ⟨"PloughCall", "count", "(I)I"⟩ prog_1_method_30_code 2 (some FieldType.int)) ∈ lwg := lm2 (ltb_5 (List.mem_of_getElem? (i := 178) (by decide +kernel))) rfl
theorem tw_1257 : (Cond.methodLink "PloughCallLaw" 107 ⟨"PloughCallLaw", "chance", "(LPloughCall;IIII[J)I"⟩) ∈ lwg := lm2 (ltb_5 (List.mem_of_getElem? (i := 179) (by decide +kernel))) rfl
theorem tw_1258 : (Cond.static ⟨"PloughCallLaw", "chance", "(LPloughCall;IIII[J)I"⟩) ∈ lwg := lm2 (ltb_5 (List.mem_of_getElem? (i := 180) (by decide +kernel))) rfl
theorem tw_1260 : (Cond.classLink "PloughCallLaw" 13 "java/util/NoSuchElementException") ∈ lwg := lm2 (ltb_5 (List.mem_of_getElem? (i := 182) (by decide +kernel))) rfl
theorem tw_1261 : (Cond.methodLink "PloughCallLaw" 7 ⟨"PloughCall", "chance", "(IIII)I"⟩) ∈ lwg := lm2 (ltb_5 (List.mem_of_getElem? (i := 183) (by decide +kernel))) rfl
theorem tw_1262 : (Cond.instanceMethod ⟨"PloughCall", "chance", "(IIII)I"⟩) ∈ lwg := lm2 (ltb_5 (List.mem_of_getElem? (i := 184) (by decide +kernel))) rfl
theorem tw_1263 : (Cond.selects "PloughCall" ⟨"PloughCall", "chance", "(IIII)I"⟩ ⟨"PloughCall", "chance", "(IIII)I"⟩) ∈ lwg := lm2 (ltb_5 (List.mem_of_getElem? (i := 185) (by decide +kernel))) rfl
theorem tw_1264 : (Cond.code ⟨"PloughCall", "chance", "(IIII)I"⟩ prog_1_method_21_code 5 (some FieldType.int)) ∈ lwg := lm2 (ltb_5 (List.mem_of_getElem? (i := 186) (by decide +kernel))) rfl
theorem tw_1265 : (Cond.classLink "PloughCall" 260 "java/util/NoSuchElementException") ∈ lwg := lm2 (ltb_5 (List.mem_of_getElem? (i := 187) (by decide +kernel))) rfl
theorem tw_1266 : (Cond.instantiable "java/util/NoSuchElementException" 6) ∈ lwg := lm2 (ltb_5 (List.mem_of_getElem? (i := 188) (by decide +kernel))) rfl
theorem tw_1274 : (Cond.selects "java/util/NoSuchElementException" ⟨"java/lang/Throwable", "fillInStackTrace", "(I)Ljava/lang/Throwable;"⟩ ⟨"java/lang/Throwable", "fillInStackTrace", "(I)Ljava/lang/Throwable;"⟩) ∈ lwg := lm2 (ltb_5 (List.mem_of_getElem? (i := 196) (by decide +kernel))) rfl
theorem tw_1275 : (Cond.selects "java/util/NoSuchElementException" ⟨"java/lang/Throwable", "fillInStackTrace", "()Ljava/lang/Throwable;"⟩ ⟨"java/lang/Throwable", "fillInStackTrace", "()Ljava/lang/Throwable;"⟩) ∈ lwg := lm2 (ltb_5 (List.mem_of_getElem? (i := 197) (by decide +kernel))) rfl
theorem tw_1276 : (Cond.lays "java/util/NoSuchElementException" "java/lang/Throwable" "cause" "Ljava/lang/Throwable;") ∈ lwg := lm2 (ltb_5 (List.mem_of_getElem? (i := 198) (by decide +kernel))) rfl
theorem tw_1277 : (Cond.lays "java/lang/Throwable" "java/lang/Throwable" "cause" "Ljava/lang/Throwable;") ∈ lwg := lm2 (ltb_5 (List.mem_of_getElem? (i := 199) (by decide +kernel))) rfl
theorem tw_1278 : (Cond.lays "java/util/NoSuchElementException" "java/lang/Throwable" "stackTrace" "[Ljava/lang/StackTraceElement;") ∈ lwg := lm2 (ltb_5 (List.mem_of_getElem? (i := 200) (by decide +kernel))) rfl
theorem tw_1279 : (Cond.lays "java/lang/Throwable" "java/lang/Throwable" "stackTrace" "[Ljava/lang/StackTraceElement;") ∈ lwg := lm2 (ltb_5 (List.mem_of_getElem? (i := 201) (by decide +kernel))) rfl
theorem tw_1280 : (Cond.lays "java/util/NoSuchElementException" "java/lang/Throwable" "suppressedExceptions" "Ljava/util/List;") ∈ lwg := lm2 (ltb_5 (List.mem_of_getElem? (i := 202) (by decide +kernel))) rfl
theorem tw_1281 : (Cond.lays "java/lang/Throwable" "java/lang/Throwable" "suppressedExceptions" "Ljava/util/List;") ∈ lwg := lm2 (ltb_5 (List.mem_of_getElem? (i := 203) (by decide +kernel))) rfl
theorem tw_1282 : (Cond.lays "java/util/NoSuchElementException" "java/lang/Throwable" "detailMessage" "Ljava/lang/String;") ∈ lwg := lm2 (ltb_5 (List.mem_of_getElem? (i := 204) (by decide +kernel))) rfl
theorem tw_1283 : (Cond.lays "java/lang/Throwable" "java/lang/Throwable" "detailMessage" "Ljava/lang/String;") ∈ lwg := lm2 (ltb_5 (List.mem_of_getElem? (i := 205) (by decide +kernel))) rfl
theorem tw_1284 : (Cond.lays "java/util/NoSuchElementException" "java/lang/Throwable" "backtrace" "Ljava/lang/Object;") ∈ lwg := lm2 (ltb_5 (List.mem_of_getElem? (i := 206) (by decide +kernel))) rfl
theorem tw_1285 : (Cond.lays "java/lang/Throwable" "java/lang/Throwable" "backtrace" "Ljava/lang/Object;") ∈ lwg := lm2 (ltb_5 (List.mem_of_getElem? (i := 207) (by decide +kernel))) rfl
theorem tw_1286 : (Cond.fieldLink "java/lang/Throwable" 198 "java/lang/Throwable" "backtrace" "Ljava/lang/Object;") ∈ lwg := lm2 (ltb_5 (List.mem_of_getElem? (i := 208) (by decide +kernel))) rfl
theorem tw_1287 : (Cond.superclass "java/lang/Throwable" "java/lang/Object") ∈ lwg := lm2 (ltb_5 (List.mem_of_getElem? (i := 209) (by decide +kernel))) rfl
theorem tw_1288 : (Cond.instanceMethod ⟨"java/lang/Throwable", "<init>", "()V"⟩) ∈ lwg := lm2 (ltb_5 (List.mem_of_getElem? (i := 210) (by decide +kernel))) rfl
theorem tw_1289 : (Cond.code ⟨"java/lang/Throwable", "<init>", "()V"⟩ prog_24_method_1_code 1 none) ∈ lwg := lm2 (ltb_5 (List.mem_of_getElem? (i := 211) (by decide +kernel))) rfl
theorem tw_1290 : (Cond.methodLink "java/lang/Throwable" 1 ⟨"java/lang/Object", "<init>", "()V"⟩) ∈ lwg := lm2 (ltb_5 (List.mem_of_getElem? (i := 212) (by decide +kernel))) rfl
theorem tw_1291 : (Cond.fieldLink "java/lang/Throwable" 13 "java/lang/Throwable" "UNASSIGNED_STACK" "[Ljava/lang/StackTraceElement;") ∈ lwg := lm2 (ltb_5 (List.mem_of_getElem? (i := 213) (by decide +kernel))) rfl
theorem tw_1293 : (Cond.fieldLink "java/lang/Throwable" 20 "java/lang/Throwable" "SUPPRESSED_SENTINEL" "Ljava/util/List;") ∈ lwg := lm2 (ltb_5 (List.mem_of_getElem? (i := 215) (by decide +kernel))) rfl
theorem tw_1295 : (Cond.methodLink "java/lang/Throwable" 27 ⟨"java/lang/Throwable", "fillInStackTrace", "()Ljava/lang/Throwable;"⟩) ∈ lwg := lm2 (ltb_5 (List.mem_of_getElem? (i := 217) (by decide +kernel))) rfl
theorem tw_1296 : (Cond.instanceMethod ⟨"java/lang/Throwable", "fillInStackTrace", "()Ljava/lang/Throwable;"⟩) ∈ lwg := lm2 (ltb_5 (List.mem_of_getElem? (i := 218) (by decide +kernel))) rfl
theorem tw_1299 : (Cond.methodLink "java/lang/Throwable" 202 ⟨"java/lang/Throwable", "fillInStackTrace", "(I)Ljava/lang/Throwable;"⟩) ∈ lwg := lm2 (ltb_5 (List.mem_of_getElem? (i := 221) (by decide +kernel))) rfl
theorem tw_1301 : (Cond.instanceMethod ⟨"java/lang/Throwable", "fillInStackTrace", "(I)Ljava/lang/Throwable;"⟩) ∈ lwg := lm2 (ltb_5 (List.mem_of_getElem? (i := 223) (by decide +kernel))) rfl
theorem tw_1302 : (Cond.instantiable "java/lang/Throwable" 6) ∈ lwg := lm2 (ltb_5 (List.mem_of_getElem? (i := 224) (by decide +kernel))) rfl
theorem tw_1305 : (Cond.methodLink "PloughCall" 264 ⟨"java/util/NoSuchElementException", "<init>", "(Ljava/lang/String;)V"⟩) ∈ lwg := lm2 (ltb_5 (List.mem_of_getElem? (i := 227) (by decide +kernel))) rfl
theorem tw_1306 : (Cond.instanceMethod ⟨"java/util/NoSuchElementException", "<init>", "(Ljava/lang/String;)V"⟩) ∈ lwg := lm2 (ltb_5 (List.mem_of_getElem? (i := 228) (by decide +kernel))) rfl
theorem tw_1307 : (Cond.code ⟨"java/util/NoSuchElementException", "<init>", "(Ljava/lang/String;)V"⟩ prog_26_method_4_code 2 none) ∈ lwg := lm2 (ltb_5 (List.mem_of_getElem? (i := 229) (by decide +kernel))) rfl
theorem tw_1308 : (Cond.methodLink "java/util/NoSuchElementException" 13 ⟨"java/lang/RuntimeException", "<init>", "(Ljava/lang/String;)V"⟩) ∈ lwg := lm2 (ltb_5 (List.mem_of_getElem? (i := 230) (by decide +kernel))) rfl
theorem tw_1309 : (Cond.instanceMethod ⟨"java/lang/RuntimeException", "<init>", "(Ljava/lang/String;)V"⟩) ∈ lwg := lm2 (ltb_5 (List.mem_of_getElem? (i := 231) (by decide +kernel))) rfl
theorem tw_1310 : (Cond.code ⟨"java/lang/RuntimeException", "<init>", "(Ljava/lang/String;)V"⟩ prog_22_method_2_code 2 none) ∈ lwg := lm2 (ltb_5 (List.mem_of_getElem? (i := 232) (by decide +kernel))) rfl
theorem tw_1311 : (Cond.methodLink "java/lang/RuntimeException" 7 ⟨"java/lang/Exception", "<init>", "(Ljava/lang/String;)V"⟩) ∈ lwg := lm2 (ltb_5 (List.mem_of_getElem? (i := 233) (by decide +kernel))) rfl
theorem tw_1312 : (Cond.instanceMethod ⟨"java/lang/Exception", "<init>", "(Ljava/lang/String;)V"⟩) ∈ lwg := lm2 (ltb_5 (List.mem_of_getElem? (i := 234) (by decide +kernel))) rfl
theorem tw_1313 : (Cond.code ⟨"java/lang/Exception", "<init>", "(Ljava/lang/String;)V"⟩ prog_19_method_2_code 2 none) ∈ lwg := lm2 (ltb_5 (List.mem_of_getElem? (i := 235) (by decide +kernel))) rfl
theorem tw_1314 : (Cond.methodLink "java/lang/Exception" 7 ⟨"java/lang/Throwable", "<init>", "(Ljava/lang/String;)V"⟩) ∈ lwg := lm2 (ltb_5 (List.mem_of_getElem? (i := 236) (by decide +kernel))) rfl
theorem tw_1315 : (Cond.instanceMethod ⟨"java/lang/Throwable", "<init>", "(Ljava/lang/String;)V"⟩) ∈ lwg := lm2 (ltb_5 (List.mem_of_getElem? (i := 237) (by decide +kernel))) rfl
theorem tw_1316 : (Cond.code ⟨"java/lang/Throwable", "<init>", "(Ljava/lang/String;)V"⟩ prog_24_method_2_code 2 none) ∈ lwg := lm2 (ltb_5 (List.mem_of_getElem? (i := 238) (by decide +kernel))) rfl
theorem tw_1318 : (Cond.fieldLink "java/lang/Throwable" 31 "java/lang/Throwable" "detailMessage" "Ljava/lang/String;") ∈ lwg := lm2 (ltb_6 (List.mem_of_getElem? (i := 0) (by decide +kernel))) rfl
theorem tw_1319 : (Cond.fieldLink "java/lang/Throwable" 7 "java/lang/Throwable" "cause" "Ljava/lang/Throwable;") ∈ lwg := lm2 (ltb_6 (List.mem_of_getElem? (i := 1) (by decide +kernel))) rfl
theorem tw_1320 : (Cond.fieldLink "java/lang/Throwable" 17 "java/lang/Throwable" "stackTrace" "[Ljava/lang/StackTraceElement;") ∈ lwg := lm2 (ltb_6 (List.mem_of_getElem? (i := 2) (by decide +kernel))) rfl
theorem tw_1321 : (Cond.fieldLink "java/lang/Throwable" 24 "java/lang/Throwable" "suppressedExceptions" "Ljava/util/List;") ∈ lwg := lm2 (ltb_6 (List.mem_of_getElem? (i := 3) (by decide +kernel))) rfl
theorem tw_1326 : (Cond.lays "java/util/NoSuchElementException" "java/lang/Throwable" "depth" "I") ∈ lwg := lm2 (ltb_6 (List.mem_of_getElem? (i := 8) (by decide +kernel))) rfl
theorem tw_1329 : (Cond.superclass "java/util/NoSuchElementException" "java/lang/RuntimeException") ∈ lwg := lm2 (ltb_6 (List.mem_of_getElem? (i := 11) (by decide +kernel))) rfl
theorem tw_1332 : (Cond.methodLink "PloughCall" 269 ⟨"PloughCall$Counsel", "chanceToEnd", "(LPloughCall$City;IIIII)I"⟩) ∈ lwg := lm2 (ltb_6 (List.mem_of_getElem? (i := 14) (by decide +kernel))) rfl
theorem tw_1333 : (Cond.instanceMethod ⟨"PloughCall$Counsel", "chanceToEnd", "(LPloughCall$City;IIIII)I"⟩) ∈ lwg := lm2 (ltb_6 (List.mem_of_getElem? (i := 15) (by decide +kernel))) rfl
theorem tw_1334 : (Cond.selects "PloughCall$Counsel" ⟨"PloughCall$Counsel", "chanceToEnd", "(LPloughCall$City;IIIII)I"⟩ ⟨"PloughCall$Counsel", "chanceToEnd", "(LPloughCall$City;IIIII)I"⟩) ∈ lwg := lm2 (ltb_6 (List.mem_of_getElem? (i := 16) (by decide +kernel))) rfl
theorem tw_1335 : (Cond.code ⟨"PloughCall$Counsel", "chanceToEnd", "(LPloughCall$City;IIIII)I"⟩ prog_4_method_10_code 10 (some FieldType.int)) ∈ lwg := lm2 (ltb_6 (List.mem_of_getElem? (i := 17) (by decide +kernel))) rfl
theorem tw_1336 : (Cond.methodLink "PloughCall$Counsel" 123 ⟨"PloughCall$Counsel", "spread", "(LPloughCall$City;IIII)V"⟩) ∈ lwg := lm2 (ltb_6 (List.mem_of_getElem? (i := 18) (by decide +kernel))) rfl
theorem tw_1338 : (Cond.instanceMethod ⟨"PloughCall$Counsel", "spread", "(LPloughCall$City;IIII)V"⟩) ∈ lwg := lm2 (ltb_6 (List.mem_of_getElem? (i := 20) (by decide +kernel))) rfl
theorem tw_1339 : (Cond.code ⟨"PloughCall$Counsel", "spread", "(LPloughCall$City;IIII)V"⟩ prog_4_method_11_code 9 none) ∈ lwg := lm2 (ltb_6 (List.mem_of_getElem? (i := 21) (by decide +kernel))) rfl
theorem tw_1340 : (Cond.constantLong "PloughCall$Counsel" 127 10) ∈ lwg := lm2 (ltb_6 (List.mem_of_getElem? (i := 22) (by decide +kernel))) rfl
theorem tw_1341 : (Cond.methodLink "PloughCall$Counsel" 131 ⟨"PloughCall$Counsel", "addWays", "(IJ)V"⟩) ∈ lwg := lm2 (ltb_6 (List.mem_of_getElem? (i := 23) (by decide +kernel))) rfl
theorem tw_1343 : (Cond.instanceMethod ⟨"PloughCall$Counsel", "addWays", "(IJ)V"⟩) ∈ lwg := lm2 (ltb_6 (List.mem_of_getElem? (i := 25) (by decide +kernel))) rfl
theorem tw_1344 : (Cond.code ⟨"PloughCall$Counsel", "addWays", "(IJ)V"⟩ prog_4_method_12_code 4 none) ∈ lwg := lm2 (ltb_6 (List.mem_of_getElem? (i := 26) (by decide +kernel))) rfl
theorem tw_1345 : (Cond.methodLink "PloughCall$Counsel" 135 ⟨"PloughCall$City", "strength", "(III)I"⟩) ∈ lwg := lm2 (ltb_6 (List.mem_of_getElem? (i := 27) (by decide +kernel))) rfl
theorem tw_1346 : (Cond.methodLink "PloughCall$Counsel" 144 ⟨"java/lang/Math", "min", "(II)I"⟩) ∈ lwg := lm2 (ltb_6 (List.mem_of_getElem? (i := 28) (by decide +kernel))) rfl
theorem tw_1347 : (Cond.constantLong "PloughCall$Counsel" 129 1000000) ∈ lwg := lm2 (ltb_6 (List.mem_of_getElem? (i := 29) (by decide +kernel))) rfl
theorem tw_1348 : (Cond.methodLink "PloughCallLaw" 137 ⟨"PloughCallLaw", "rests", "(LPloughCall;IIII[J)I"⟩) ∈ lwg := lm2 (ltb_6 (List.mem_of_getElem? (i := 30) (by decide +kernel))) rfl
theorem tw_1349 : (Cond.static ⟨"PloughCallLaw", "rests", "(LPloughCall;IIII[J)I"⟩) ∈ lwg := lm2 (ltb_6 (List.mem_of_getElem? (i := 31) (by decide +kernel))) rfl
theorem tw_1351 : (Cond.methodLink "PloughCallLaw" 15 ⟨"PloughCall", "rests", "(IIII)I"⟩) ∈ lwg := lm2 (ltb_6 (List.mem_of_getElem? (i := 33) (by decide +kernel))) rfl
theorem tw_1352 : (Cond.instanceMethod ⟨"PloughCall", "rests", "(IIII)I"⟩) ∈ lwg := lm2 (ltb_6 (List.mem_of_getElem? (i := 34) (by decide +kernel))) rfl
theorem tw_1353 : (Cond.selects "PloughCall" ⟨"PloughCall", "rests", "(IIII)I"⟩ ⟨"PloughCall", "rests", "(IIII)I"⟩) ∈ lwg := lm2 (ltb_6 (List.mem_of_getElem? (i := 35) (by decide +kernel))) rfl
theorem tw_1354 : (Cond.code ⟨"PloughCall", "rests", "(IIII)I"⟩ prog_1_method_27_code 7 (some FieldType.int)) ∈ lwg := lm2 (ltb_6 (List.mem_of_getElem? (i := 36) (by decide +kernel))) rfl
theorem tw_1356 : (Cond.methodLink "PloughCall" 297 ⟨"PloughCall", "isAtRest", "(IIII)Z"⟩) ∈ lwg := lm2 (ltb_6 (List.mem_of_getElem? (i := 38) (by decide +kernel))) rfl
theorem tw_1357 : (Cond.static ⟨"PloughCall", "isAtRest", "(IIII)Z"⟩) ∈ lwg := lm2 (ltb_6 (List.mem_of_getElem? (i := 39) (by decide +kernel))) rfl
theorem tw_1358 : (Cond.code ⟨"PloughCall", "isAtRest", "(IIII)Z"⟩ prog_1_method_33_code 6 (some FieldType.boolean)) ∈ lwg := lm2 (ltb_6 (List.mem_of_getElem? (i := 40) (by decide +kernel))) rfl
theorem tw_1359 : (Cond.methodLink "PloughCall" 350 ⟨"PloughCall", "gets", "(IIIII)I"⟩) ∈ lwg := lm2 (ltb_6 (List.mem_of_getElem? (i := 41) (by decide +kernel))) rfl
theorem tw_1360 : (Cond.static ⟨"PloughCall", "gets", "(IIIII)I"⟩) ∈ lwg := lm2 (ltb_6 (List.mem_of_getElem? (i := 42) (by decide +kernel))) rfl
theorem tw_1361 : (Cond.code ⟨"PloughCall", "gets", "(IIIII)I"⟩ prog_1_method_34_code 5 (some FieldType.int)) ∈ lwg := lm2 (ltb_6 (List.mem_of_getElem? (i := 43) (by decide +kernel))) rfl
theorem tw_1363 : (Cond.classLink "PloughCallLaw" 19 "PloughCallModel") ∈ lwg := lm2 (ltb_6 (List.mem_of_getElem? (i := 45) (by decide +kernel))) rfl
theorem tw_1364 : (Cond.instantiable "PloughCallModel" 65) ∈ lwg := lm2 (ltb_6 (List.mem_of_getElem? (i := 46) (by decide +kernel))) rfl
theorem tw_1365 : (Cond.methodLink "PloughCallLaw" 21 ⟨"PloughCallModel", "<init>", "()V"⟩) ∈ lwg := lm2 (ltb_6 (List.mem_of_getElem? (i := 47) (by decide +kernel))) rfl
theorem tw_1366 : (Cond.instanceMethod ⟨"PloughCallModel", "<init>", "()V"⟩) ∈ lwg := lm2 (ltb_6 (List.mem_of_getElem? (i := 48) (by decide +kernel))) rfl
theorem tw_1367 : (Cond.code ⟨"PloughCallModel", "<init>", "()V"⟩ prog_15_method_1_code 1 none) ∈ lwg := lm2 (ltb_6 (List.mem_of_getElem? (i := 49) (by decide +kernel))) rfl
theorem tw_1368 : (Cond.methodLink "PloughCallModel" 1 ⟨"java/lang/Object", "<init>", "()V"⟩) ∈ lwg := lm2 (ltb_6 (List.mem_of_getElem? (i := 50) (by decide +kernel))) rfl
theorem tw_1369 : (Cond.methodLink "PloughCallModel" 150 ⟨"PloughCallModel", "fresh", "()V"⟩) ∈ lwg := lm2 (ltb_6 (List.mem_of_getElem? (i := 51) (by decide +kernel))) rfl
theorem tw_1371 : (Cond.instanceMethod ⟨"PloughCallModel", "fresh", "()V"⟩) ∈ lwg := lm2 (ltb_6 (List.mem_of_getElem? (i := 53) (by decide +kernel))) rfl
theorem tw_1372 : (Cond.code ⟨"PloughCallModel", "fresh", "()V"⟩ prog_15_method_47_code 2 none) ∈ lwg := lm2 (ltb_6 (List.mem_of_getElem? (i := 54) (by decide +kernel))) rfl
theorem tw_1373 : (Cond.fieldLink "PloughCallModel" 153 "PloughCallModel" "thrown" "I") ∈ lwg := lm2 (ltb_6 (List.mem_of_getElem? (i := 55) (by decide +kernel))) rfl
theorem tw_1374 : (Cond.fieldLink "PloughCallModel" 159 "PloughCallModel" "taped" "I") ∈ lwg := lm2 (ltb_6 (List.mem_of_getElem? (i := 56) (by decide +kernel))) rfl
theorem tw_1375 : (Cond.fieldLink "PloughCallModel" 7 "PloughCallModel" "tape" "[I") ∈ lwg := lm2 (ltb_6 (List.mem_of_getElem? (i := 57) (by decide +kernel))) rfl
theorem tw_1376 : (Cond.fieldLink "PloughCallModel" 162 "PloughCallModel" "size" "I") ∈ lwg := lm2 (ltb_6 (List.mem_of_getElem? (i := 58) (by decide +kernel))) rfl
theorem tw_1377 : (Cond.fieldLink "PloughCallModel" 165 "PloughCallModel" "place" "I") ∈ lwg := lm2 (ltb_6 (List.mem_of_getElem? (i := 59) (by decide +kernel))) rfl
theorem tw_1378 : (Cond.fieldLink "PloughCallModel" 168 "PloughCallModel" "begin" "I") ∈ lwg := lm2 (ltb_6 (List.mem_of_getElem? (i := 60) (by decide +kernel))) rfl
theorem tw_1379 : (Cond.fieldLink "PloughCallModel" 178 "PloughCallModel" "token" "I") ∈ lwg := lm2 (ltb_6 (List.mem_of_getElem? (i := 61) (by decide +kernel))) rfl
theorem tw_1380 : (Cond.fieldLink "PloughCallModel" 171 "PloughCallModel" "word" "J") ∈ lwg := lm2 (ltb_6 (List.mem_of_getElem? (i := 62) (by decide +kernel))) rfl
theorem tw_1381 : (Cond.fieldLink "PloughCallModel" 175 "PloughCallModel" "told" "I") ∈ lwg := lm2 (ltb_6 (List.mem_of_getElem? (i := 63) (by decide +kernel))) rfl
theorem tw_1382 : (Cond.fieldLink "PloughCallModel" 189 "PloughCallModel" "wrong" "I") ∈ lwg := lm2 (ltb_6 (List.mem_of_getElem? (i := 64) (by decide +kernel))) rfl
theorem tw_1383 : (Cond.fieldLink "PloughCallModel" 13 "PloughCallModel" "city" "[I") ∈ lwg := lm2 (ltb_6 (List.mem_of_getElem? (i := 65) (by decide +kernel))) rfl
theorem tw_1384 : (Cond.fieldLink "PloughCallModel" 16 "PloughCallModel" "manName" "[J") ∈ lwg := lm2 (ltb_6 (List.mem_of_getElem? (i := 66) (by decide +kernel))) rfl
theorem tw_1385 : (Cond.fieldLink "PloughCallModel" 20 "PloughCallModel" "dangerName" "[J") ∈ lwg := lm2 (ltb_6 (List.mem_of_getElem? (i := 67) (by decide +kernel))) rfl
theorem tw_1386 : (Cond.fieldLink "PloughCallModel" 23 "PloughCallModel" "decreeName" "[J") ∈ lwg := lm2 (ltb_6 (List.mem_of_getElem? (i := 68) (by decide +kernel))) rfl
theorem tw_1387 : (Cond.fieldLink "PloughCallModel" 26 "PloughCallModel" "kind" "[I") ∈ lwg := lm2 (ltb_6 (List.mem_of_getElem? (i := 69) (by decide +kernel))) rfl
theorem tw_1388 : (Cond.fieldLink "PloughCallModel" 29 "PloughCallModel" "skill" "[I") ∈ lwg := lm2 (ltb_6 (List.mem_of_getElem? (i := 70) (by decide +kernel))) rfl
theorem tw_1389 : (Cond.fieldLink "PloughCallModel" 32 "PloughCallModel" "fieldTold" "[I") ∈ lwg := lm2 (ltb_6 (List.mem_of_getElem? (i := 71) (by decide +kernel))) rfl
theorem tw_1390 : (Cond.fieldLink "PloughCallModel" 35 "PloughCallModel" "want" "[I") ∈ lwg := lm2 (ltb_6 (List.mem_of_getElem? (i := 72) (by decide +kernel))) rfl
theorem tw_1391 : (Cond.fieldLink "PloughCallModel" 38 "PloughCallModel" "hates" "[I") ∈ lwg := lm2 (ltb_6 (List.mem_of_getElem? (i := 73) (by decide +kernel))) rfl
theorem tw_1392 : (Cond.fieldLink "PloughCallModel" 41 "PloughCallModel" "restsOn" "[I") ∈ lwg := lm2 (ltb_6 (List.mem_of_getElem? (i := 74) (by decide +kernel))) rfl
theorem tw_1393 : (Cond.fieldLink "PloughCallModel" 44 "PloughCallModel" "sizeTold" "[I") ∈ lwg := lm2 (ltb_6 (List.mem_of_getElem? (i := 75) (by decide +kernel))) rfl
theorem tw_1394 : (Cond.fieldLink "PloughCallModel" 47 "PloughCallModel" "grows" "[I") ∈ lwg := lm2 (ltb_6 (List.mem_of_getElem? (i := 76) (by decide +kernel))) rfl
theorem tw_1395 : (Cond.fieldLink "PloughCallModel" 50 "PloughCallModel" "lineFrom" "[I") ∈ lwg := lm2 (ltb_6 (List.mem_of_getElem? (i := 77) (by decide +kernel))) rfl
theorem tw_1396 : (Cond.fieldLink "PloughCallModel" 53 "PloughCallModel" "lineTo" "[I") ∈ lwg := lm2 (ltb_6 (List.mem_of_getElem? (i := 78) (by decide +kernel))) rfl
theorem tw_1397 : (Cond.fieldLink "PloughCallModel" 56 "PloughCallModel" "codes" "[I") ∈ lwg := lm2 (ltb_6 (List.mem_of_getElem? (i := 79) (by decide +kernel))) rfl
theorem tw_1398 : (Cond.fieldLink "PloughCallModel" 192 "PloughCallModel" "code" "I") ∈ lwg := lm2 (ltb_6 (List.mem_of_getElem? (i := 80) (by decide +kernel))) rfl
theorem tw_1399 : (Cond.fieldLink "PloughCallModel" 199 "PloughCallModel" "lawLine" "I") ∈ lwg := lm2 (ltb_6 (List.mem_of_getElem? (i := 81) (by decide +kernel))) rfl
theorem tw_1400 : (Cond.fieldLink "PloughCallModel" 323 "PloughCallModel" "toldLines" "I") ∈ lwg := lm2 (ltb_6 (List.mem_of_getElem? (i := 82) (by decide +kernel))) rfl
theorem tw_1401 : (Cond.fieldLink "PloughCallModel" 59 "PloughCallModel" "opened" "[I") ∈ lwg := lm2 (ltb_6 (List.mem_of_getElem? (i := 83) (by decide +kernel))) rfl
theorem tw_1402 : (Cond.fieldLink "PloughCallModel" 62 "PloughCallModel" "compared" "[Z") ∈ lwg := lm2 (ltb_6 (List.mem_of_getElem? (i := 84) (by decide +kernel))) rfl
theorem tw_1403 : (Cond.fieldLink "PloughCallModel" 66 "PloughCallModel" "kept" "[I") ∈ lwg := lm2 (ltb_6 (List.mem_of_getElem? (i := 85) (by decide +kernel))) rfl
theorem tw_1404 : (Cond.fieldLink "PloughCallModel" 69 "PloughCallModel" "keptBy" "[I") ∈ lwg := lm2 (ltb_6 (List.mem_of_getElem? (i := 86) (by decide +kernel))) rfl
theorem tw_1405 : (Cond.fieldLink "PloughCallModel" 72 "PloughCallModel" "ahead" "[I") ∈ lwg := lm2 (ltb_6 (List.mem_of_getElem? (i := 87) (by decide +kernel))) rfl
theorem tw_1406 : (Cond.fieldLink "PloughCallModel" 75 "PloughCallModel" "against" "[I") ∈ lwg := lm2 (ltb_6 (List.mem_of_getElem? (i := 88) (by decide +kernel))) rfl
theorem tw_1407 : (Cond.fieldLink "PloughCallModel" 78 "PloughCallModel" "sum" "[I") ∈ lwg := lm2 (ltb_6 (List.mem_of_getElem? (i := 89) (by decide +kernel))) rfl
theorem tw_1408 : (Cond.fieldLink "PloughCallModel" 81 "PloughCallModel" "sumBy" "[I") ∈ lwg := lm2 (ltb_6 (List.mem_of_getElem? (i := 90) (by decide +kernel))) rfl
theorem tw_1409 : (Cond.fieldLink "PloughCallModel" 84 "PloughCallModel" "term" "[I") ∈ lwg := lm2 (ltb_6 (List.mem_of_getElem? (i := 91) (by decide +kernel))) rfl
theorem tw_1410 : (Cond.fieldLink "PloughCallModel" 87 "PloughCallModel" "termBy" "[I") ∈ lwg := lm2 (ltb_6 (List.mem_of_getElem? (i := 92) (by decide +kernel))) rfl
theorem tw_1411 : (Cond.fieldLink "PloughCallModel" 90 "PloughCallModel" "byNot" "[I") ∈ lwg := lm2 (ltb_6 (List.mem_of_getElem? (i := 93) (by decide +kernel))) rfl
theorem tw_1412 : (Cond.fieldLink "PloughCallModel" 93 "PloughCallModel" "valueOf" "[I") ∈ lwg := lm2 (ltb_6 (List.mem_of_getElem? (i := 94) (by decide +kernel))) rfl
theorem tw_1413 : (Cond.fieldLink "PloughCallModel" 301 "PloughCallModel" "given" "I") ∈ lwg := lm2 (ltb_6 (List.mem_of_getElem? (i := 95) (by decide +kernel))) rfl
theorem tw_1414 : (Cond.fieldLink "PloughCallModel" 321 "PloughCallModel" "fresh" "J") ∈ lwg := lm2 (ltb_6 (List.mem_of_getElem? (i := 96) (by decide +kernel))) rfl
theorem tw_1415 : (Cond.fieldLink "PloughCallModel" 336 "PloughCallModel" "consulsMany" "I") ∈ lwg := lm2 (ltb_6 (List.mem_of_getElem? (i := 97) (by decide +kernel))) rfl
theorem tw_1416 : (Cond.fieldLink "PloughCallModel" 96 "PloughCallModel" "lines" "[I") ∈ lwg := lm2 (ltb_6 (List.mem_of_getElem? (i := 98) (by decide +kernel))) rfl
theorem tw_1417 : (Cond.fieldLink "PloughCallModel" 99 "PloughCallModel" "lineWhat" "[I") ∈ lwg := lm2 (ltb_6 (List.mem_of_getElem? (i := 99) (by decide +kernel))) rfl
theorem tw_1418 : (Cond.fieldLink "PloughCallModel" 102 "PloughCallModel" "lineA" "[I") ∈ lwg := lm2 (ltb_6 (List.mem_of_getElem? (i := 100) (by decide +kernel))) rfl
theorem tw_1419 : (Cond.fieldLink "PloughCallModel" 105 "PloughCallModel" "lineB" "[I") ∈ lwg := lm2 (ltb_6 (List.mem_of_getElem? (i := 101) (by decide +kernel))) rfl
theorem tw_1420 : (Cond.fieldLink "PloughCallModel" 108 "PloughCallModel" "tolds" "[I") ∈ lwg := lm2 (ltb_6 (List.mem_of_getElem? (i := 102) (by decide +kernel))) rfl
theorem tw_1421 : (Cond.fieldLink "PloughCallModel" 111 "PloughCallModel" "toldDanger" "[I") ∈ lwg := lm2 (ltb_6 (List.mem_of_getElem? (i := 103) (by decide +kernel))) rfl
theorem tw_1422 : (Cond.fieldLink "PloughCallModel" 114 "PloughCallModel" "toldMonths" "[I") ∈ lwg := lm2 (ltb_6 (List.mem_of_getElem? (i := 104) (by decide +kernel))) rfl
theorem tw_1423 : (Cond.fieldLink "PloughCallModel" 117 "PloughCallModel" "toldSize" "[I") ∈ lwg := lm2 (ltb_6 (List.mem_of_getElem? (i := 105) (by decide +kernel))) rfl
theorem tw_1424 : (Cond.fieldLink "PloughCallModel" 120 "PloughCallModel" "s" "[I") ∈ lwg := lm2 (ltb_6 (List.mem_of_getElem? (i := 106) (by decide +kernel))) rfl
theorem tw_1425 : (Cond.fieldLink "PloughCallModel" 123 "PloughCallModel" "aside" "[I") ∈ lwg := lm2 (ltb_6 (List.mem_of_getElem? (i := 107) (by decide +kernel))) rfl
theorem tw_1426 : (Cond.fieldLink "PloughCallModel" 126 "PloughCallModel" "tried" "[I") ∈ lwg := lm2 (ltb_6 (List.mem_of_getElem? (i := 108) (by decide +kernel))) rfl
theorem tw_1427 : (Cond.fieldLink "PloughCallModel" 129 "PloughCallModel" "marked" "[I") ∈ lwg := lm2 (ltb_6 (List.mem_of_getElem? (i := 109) (by decide +kernel))) rfl
theorem tw_1428 : (Cond.fieldLink "PloughCallModel" 132 "PloughCallModel" "undone" "[I") ∈ lwg := lm2 (ltb_6 (List.mem_of_getElem? (i := 110) (by decide +kernel))) rfl
theorem tw_1429 : (Cond.fieldLink "PloughCallModel" 135 "PloughCallModel" "isLaid" "[Z") ∈ lwg := lm2 (ltb_6 (List.mem_of_getElem? (i := 111) (by decide +kernel))) rfl
theorem tw_1430 : (Cond.fieldLink "PloughCallModel" 393 "PloughCallModel" "done" "I") ∈ lwg := lm2 (ltb_6 (List.mem_of_getElem? (i := 112) (by decide +kernel))) rfl
theorem tw_1431 : (Cond.fieldLink "PloughCallModel" 138 "PloughCallModel" "heading" "[I") ∈ lwg := lm2 (ltb_6 (List.mem_of_getElem? (i := 113) (by decide +kernel))) rfl
theorem tw_1432 : (Cond.fieldLink "PloughCallModel" 141 "PloughCallModel" "bestHeading" "[I") ∈ lwg := lm2 (ltb_6 (List.mem_of_getElem? (i := 114) (by decide +kernel))) rfl
theorem tw_1433 : (Cond.fieldLink "PloughCallModel" 495 "PloughCallModel" "leastLeft" "I") ∈ lwg := lm2 (ltb_6 (List.mem_of_getElem? (i := 115) (by decide +kernel))) rfl
theorem tw_1434 : (Cond.fieldLink "PloughCallModel" 144 "PloughCallModel" "goesTo" "[I") ∈ lwg := lm2 (ltb_6 (List.mem_of_getElem? (i := 116) (by decide +kernel))) rfl
theorem tw_1435 : (Cond.fieldLink "PloughCallModel" 147 "PloughCallModel" "bestGoes" "[I") ∈ lwg := lm2 (ltb_6 (List.mem_of_getElem? (i := 117) (by decide +kernel))) rfl
theorem tw_1436 : (Cond.fieldLink "PloughCallModel" 501 "PloughCallModel" "leastMonths" "I") ∈ lwg := lm2 (ltb_6 (List.mem_of_getElem? (i := 118) (by decide +kernel))) rfl
theorem tw_1437 : (Cond.fieldLink "PloughCallModel" 538 "PloughCallModel" "g" "J") ∈ lwg := lm2 (ltb_6 (List.mem_of_getElem? (i := 119) (by decide +kernel))) rfl
theorem tw_1438 : (Cond.lays "PloughCallModel" "PloughCallModel" "thrown" "I") ∈ lwg := lm2 (ltb_6 (List.mem_of_getElem? (i := 120) (by decide +kernel))) rfl
theorem tw_1440 : (Cond.lays "PloughCallModel" "PloughCallModel" "taped" "I") ∈ lwg := lm2 (ltb_6 (List.mem_of_getElem? (i := 122) (by decide +kernel))) rfl
theorem tw_1442 : (Cond.laysFinal "PloughCallModel" "PloughCallModel" "tape" "[I") ∈ lwg := lm2 (ltb_6 (List.mem_of_getElem? (i := 124) (by decide +kernel))) rfl
theorem tw_1444 : (Cond.lays "PloughCallModel" "PloughCallModel" "size" "I") ∈ lwg := lm2 (ltb_6 (List.mem_of_getElem? (i := 126) (by decide +kernel))) rfl
theorem tw_1446 : (Cond.lays "PloughCallModel" "PloughCallModel" "place" "I") ∈ lwg := lm2 (ltb_6 (List.mem_of_getElem? (i := 128) (by decide +kernel))) rfl
theorem tw_1448 : (Cond.lays "PloughCallModel" "PloughCallModel" "begin" "I") ∈ lwg := lm2 (ltb_6 (List.mem_of_getElem? (i := 130) (by decide +kernel))) rfl
theorem tw_1450 : (Cond.lays "PloughCallModel" "PloughCallModel" "token" "I") ∈ lwg := lm2 (ltb_6 (List.mem_of_getElem? (i := 132) (by decide +kernel))) rfl
theorem tw_1452 : (Cond.lays "PloughCallModel" "PloughCallModel" "word" "J") ∈ lwg := lm2 (ltb_6 (List.mem_of_getElem? (i := 134) (by decide +kernel))) rfl
theorem tw_1454 : (Cond.lays "PloughCallModel" "PloughCallModel" "told" "I") ∈ lwg := lm2 (ltb_6 (List.mem_of_getElem? (i := 136) (by decide +kernel))) rfl
theorem tw_1456 : (Cond.lays "PloughCallModel" "PloughCallModel" "wrong" "I") ∈ lwg := lm2 (ltb_6 (List.mem_of_getElem? (i := 138) (by decide +kernel))) rfl
theorem tw_1458 : (Cond.laysFinal "PloughCallModel" "PloughCallModel" "city" "[I") ∈ lwg := lm2 (ltb_6 (List.mem_of_getElem? (i := 140) (by decide +kernel))) rfl
theorem tw_1460 : (Cond.laysFinal "PloughCallModel" "PloughCallModel" "manName" "[J") ∈ lwg := lm2 (ltb_6 (List.mem_of_getElem? (i := 142) (by decide +kernel))) rfl
theorem tw_1462 : (Cond.laysFinal "PloughCallModel" "PloughCallModel" "dangerName" "[J") ∈ lwg := lm2 (ltb_6 (List.mem_of_getElem? (i := 144) (by decide +kernel))) rfl
theorem tw_1464 : (Cond.laysFinal "PloughCallModel" "PloughCallModel" "decreeName" "[J") ∈ lwg := lm2 (ltb_6 (List.mem_of_getElem? (i := 146) (by decide +kernel))) rfl
theorem tw_1466 : (Cond.laysFinal "PloughCallModel" "PloughCallModel" "kind" "[I") ∈ lwg := lm2 (ltb_6 (List.mem_of_getElem? (i := 148) (by decide +kernel))) rfl
theorem tw_1468 : (Cond.laysFinal "PloughCallModel" "PloughCallModel" "skill" "[I") ∈ lwg := lm2 (ltb_6 (List.mem_of_getElem? (i := 150) (by decide +kernel))) rfl
theorem tw_1470 : (Cond.laysFinal "PloughCallModel" "PloughCallModel" "fieldTold" "[I") ∈ lwg := lm2 (ltb_6 (List.mem_of_getElem? (i := 152) (by decide +kernel))) rfl
theorem tw_1472 : (Cond.laysFinal "PloughCallModel" "PloughCallModel" "want" "[I") ∈ lwg := lm2 (ltb_6 (List.mem_of_getElem? (i := 154) (by decide +kernel))) rfl
theorem tw_1474 : (Cond.laysFinal "PloughCallModel" "PloughCallModel" "hates" "[I") ∈ lwg := lm2 (ltb_6 (List.mem_of_getElem? (i := 156) (by decide +kernel))) rfl
theorem tw_1476 : (Cond.laysFinal "PloughCallModel" "PloughCallModel" "restsOn" "[I") ∈ lwg := lm2 (ltb_6 (List.mem_of_getElem? (i := 158) (by decide +kernel))) rfl
theorem tw_1478 : (Cond.laysFinal "PloughCallModel" "PloughCallModel" "sizeTold" "[I") ∈ lwg := lm2 (ltb_6 (List.mem_of_getElem? (i := 160) (by decide +kernel))) rfl
theorem tw_1480 : (Cond.laysFinal "PloughCallModel" "PloughCallModel" "grows" "[I") ∈ lwg := lm2 (ltb_6 (List.mem_of_getElem? (i := 162) (by decide +kernel))) rfl
theorem tw_1482 : (Cond.laysFinal "PloughCallModel" "PloughCallModel" "lineFrom" "[I") ∈ lwg := lm2 (ltb_6 (List.mem_of_getElem? (i := 164) (by decide +kernel))) rfl
theorem tw_1484 : (Cond.laysFinal "PloughCallModel" "PloughCallModel" "lineTo" "[I") ∈ lwg := lm2 (ltb_6 (List.mem_of_getElem? (i := 166) (by decide +kernel))) rfl
theorem tw_1486 : (Cond.laysFinal "PloughCallModel" "PloughCallModel" "codes" "[I") ∈ lwg := lm2 (ltb_6 (List.mem_of_getElem? (i := 168) (by decide +kernel))) rfl
theorem tw_1488 : (Cond.lays "PloughCallModel" "PloughCallModel" "code" "I") ∈ lwg := lm2 (ltb_6 (List.mem_of_getElem? (i := 170) (by decide +kernel))) rfl
theorem tw_1490 : (Cond.lays "PloughCallModel" "PloughCallModel" "lawLine" "I") ∈ lwg := lm2 (ltb_6 (List.mem_of_getElem? (i := 172) (by decide +kernel))) rfl
theorem tw_1492 : (Cond.lays "PloughCallModel" "PloughCallModel" "toldLines" "I") ∈ lwg := lm2 (ltb_6 (List.mem_of_getElem? (i := 174) (by decide +kernel))) rfl
theorem tw_1494 : (Cond.laysFinal "PloughCallModel" "PloughCallModel" "opened" "[I") ∈ lwg := lm2 (ltb_6 (List.mem_of_getElem? (i := 176) (by decide +kernel))) rfl
theorem tw_1496 : (Cond.laysFinal "PloughCallModel" "PloughCallModel" "compared" "[Z") ∈ lwg := lm2 (ltb_6 (List.mem_of_getElem? (i := 178) (by decide +kernel))) rfl
theorem tw_1498 : (Cond.laysFinal "PloughCallModel" "PloughCallModel" "kept" "[I") ∈ lwg := lm2 (ltb_6 (List.mem_of_getElem? (i := 180) (by decide +kernel))) rfl
theorem tw_1500 : (Cond.laysFinal "PloughCallModel" "PloughCallModel" "keptBy" "[I") ∈ lwg := lm2 (ltb_6 (List.mem_of_getElem? (i := 182) (by decide +kernel))) rfl
theorem tw_1502 : (Cond.laysFinal "PloughCallModel" "PloughCallModel" "ahead" "[I") ∈ lwg := lm2 (ltb_6 (List.mem_of_getElem? (i := 184) (by decide +kernel))) rfl
theorem tw_1504 : (Cond.laysFinal "PloughCallModel" "PloughCallModel" "against" "[I") ∈ lwg := lm2 (ltb_6 (List.mem_of_getElem? (i := 186) (by decide +kernel))) rfl
theorem tw_1506 : (Cond.laysFinal "PloughCallModel" "PloughCallModel" "sum" "[I") ∈ lwg := lm2 (ltb_6 (List.mem_of_getElem? (i := 188) (by decide +kernel))) rfl
theorem tw_1508 : (Cond.laysFinal "PloughCallModel" "PloughCallModel" "sumBy" "[I") ∈ lwg := lm2 (ltb_6 (List.mem_of_getElem? (i := 190) (by decide +kernel))) rfl
theorem tw_1510 : (Cond.laysFinal "PloughCallModel" "PloughCallModel" "term" "[I") ∈ lwg := lm2 (ltb_6 (List.mem_of_getElem? (i := 192) (by decide +kernel))) rfl
theorem tw_1512 : (Cond.laysFinal "PloughCallModel" "PloughCallModel" "termBy" "[I") ∈ lwg := lm2 (ltb_6 (List.mem_of_getElem? (i := 194) (by decide +kernel))) rfl
theorem tw_1514 : (Cond.laysFinal "PloughCallModel" "PloughCallModel" "byNot" "[I") ∈ lwg := lm2 (ltb_6 (List.mem_of_getElem? (i := 196) (by decide +kernel))) rfl
theorem tw_1516 : (Cond.laysFinal "PloughCallModel" "PloughCallModel" "valueOf" "[I") ∈ lwg := lm2 (ltb_6 (List.mem_of_getElem? (i := 198) (by decide +kernel))) rfl
theorem tw_1518 : (Cond.lays "PloughCallModel" "PloughCallModel" "given" "I") ∈ lwg := lm2 (ltb_6 (List.mem_of_getElem? (i := 200) (by decide +kernel))) rfl
theorem tw_1520 : (Cond.lays "PloughCallModel" "PloughCallModel" "fresh" "J") ∈ lwg := lm2 (ltb_6 (List.mem_of_getElem? (i := 202) (by decide +kernel))) rfl
theorem tw_1522 : (Cond.lays "PloughCallModel" "PloughCallModel" "consulsMany" "I") ∈ lwg := lm2 (ltb_6 (List.mem_of_getElem? (i := 204) (by decide +kernel))) rfl
theorem tw_1524 : (Cond.laysFinal "PloughCallModel" "PloughCallModel" "lines" "[I") ∈ lwg := lm2 (ltb_6 (List.mem_of_getElem? (i := 206) (by decide +kernel))) rfl
theorem tw_1526 : (Cond.laysFinal "PloughCallModel" "PloughCallModel" "lineWhat" "[I") ∈ lwg := lm2 (ltb_6 (List.mem_of_getElem? (i := 208) (by decide +kernel))) rfl
theorem tw_1528 : (Cond.laysFinal "PloughCallModel" "PloughCallModel" "lineA" "[I") ∈ lwg := lm2 (ltb_6 (List.mem_of_getElem? (i := 210) (by decide +kernel))) rfl
theorem tw_1530 : (Cond.laysFinal "PloughCallModel" "PloughCallModel" "lineB" "[I") ∈ lwg := lm2 (ltb_6 (List.mem_of_getElem? (i := 212) (by decide +kernel))) rfl
theorem tw_1532 : (Cond.laysFinal "PloughCallModel" "PloughCallModel" "tolds" "[I") ∈ lwg := lm2 (ltb_6 (List.mem_of_getElem? (i := 214) (by decide +kernel))) rfl
theorem tw_1534 : (Cond.laysFinal "PloughCallModel" "PloughCallModel" "toldDanger" "[I") ∈ lwg := lm2 (ltb_6 (List.mem_of_getElem? (i := 216) (by decide +kernel))) rfl
theorem tw_1536 : (Cond.laysFinal "PloughCallModel" "PloughCallModel" "toldMonths" "[I") ∈ lwg := lm2 (ltb_6 (List.mem_of_getElem? (i := 218) (by decide +kernel))) rfl
theorem tw_1538 : (Cond.laysFinal "PloughCallModel" "PloughCallModel" "toldSize" "[I") ∈ lwg := lm2 (ltb_6 (List.mem_of_getElem? (i := 220) (by decide +kernel))) rfl
theorem tw_1540 : (Cond.laysFinal "PloughCallModel" "PloughCallModel" "s" "[I") ∈ lwg := lm2 (ltb_6 (List.mem_of_getElem? (i := 222) (by decide +kernel))) rfl
theorem tw_1542 : (Cond.laysFinal "PloughCallModel" "PloughCallModel" "aside" "[I") ∈ lwg := lm2 (ltb_6 (List.mem_of_getElem? (i := 224) (by decide +kernel))) rfl
theorem tw_1544 : (Cond.laysFinal "PloughCallModel" "PloughCallModel" "tried" "[I") ∈ lwg := lm2 (ltb_6 (List.mem_of_getElem? (i := 226) (by decide +kernel))) rfl
theorem tw_1546 : (Cond.laysFinal "PloughCallModel" "PloughCallModel" "marked" "[I") ∈ lwg := lm2 (ltb_6 (List.mem_of_getElem? (i := 228) (by decide +kernel))) rfl
theorem tw_1548 : (Cond.laysFinal "PloughCallModel" "PloughCallModel" "undone" "[I") ∈ lwg := lm2 (ltb_6 (List.mem_of_getElem? (i := 230) (by decide +kernel))) rfl
theorem tw_1550 : (Cond.laysFinal "PloughCallModel" "PloughCallModel" "isLaid" "[Z") ∈ lwg := lm2 (ltb_6 (List.mem_of_getElem? (i := 232) (by decide +kernel))) rfl
theorem tw_1552 : (Cond.lays "PloughCallModel" "PloughCallModel" "done" "I") ∈ lwg := lm2 (ltb_6 (List.mem_of_getElem? (i := 234) (by decide +kernel))) rfl
theorem tw_1554 : (Cond.laysFinal "PloughCallModel" "PloughCallModel" "heading" "[I") ∈ lwg := lm2 (ltb_6 (List.mem_of_getElem? (i := 236) (by decide +kernel))) rfl
theorem tw_1556 : (Cond.laysFinal "PloughCallModel" "PloughCallModel" "bestHeading" "[I") ∈ lwg := lm2 (ltb_6 (List.mem_of_getElem? (i := 238) (by decide +kernel))) rfl
theorem tw_1558 : (Cond.lays "PloughCallModel" "PloughCallModel" "leastLeft" "I") ∈ lwg := lm2 (ltb_7 (List.mem_of_getElem? (i := 0) (by decide +kernel))) rfl
theorem tw_1560 : (Cond.laysFinal "PloughCallModel" "PloughCallModel" "goesTo" "[I") ∈ lwg := lm2 (ltb_7 (List.mem_of_getElem? (i := 2) (by decide +kernel))) rfl
theorem tw_1562 : (Cond.laysFinal "PloughCallModel" "PloughCallModel" "bestGoes" "[I") ∈ lwg := lm2 (ltb_7 (List.mem_of_getElem? (i := 4) (by decide +kernel))) rfl
theorem tw_1564 : (Cond.lays "PloughCallModel" "PloughCallModel" "leastMonths" "I") ∈ lwg := lm2 (ltb_7 (List.mem_of_getElem? (i := 6) (by decide +kernel))) rfl
theorem tw_1566 : (Cond.lays "PloughCallModel" "PloughCallModel" "g" "J") ∈ lwg := lm2 (ltb_7 (List.mem_of_getElem? (i := 8) (by decide +kernel))) rfl
theorem tw_1568 : (Cond.superclass "PloughCallModel" "java/lang/Object") ∈ lwg := lm2 (ltb_7 (List.mem_of_getElem? (i := 10) (by decide +kernel))) rfl
theorem tw_1570 : (Cond.methodLink "PloughCallLaw" 113 ⟨"PloughCallModel", "thrown", "()I"⟩) ∈ lwg := lm2 (ltb_7 (List.mem_of_getElem? (i := 12) (by decide +kernel))) rfl
theorem tw_1571 : (Cond.instanceMethod ⟨"PloughCallModel", "thrown", "()I"⟩) ∈ lwg := lm2 (ltb_7 (List.mem_of_getElem? (i := 13) (by decide +kernel))) rfl
theorem tw_1572 : (Cond.selects "PloughCallModel" ⟨"PloughCallModel", "thrown", "()I"⟩ ⟨"PloughCallModel", "thrown", "()I"⟩) ∈ lwg := lm2 (ltb_7 (List.mem_of_getElem? (i := 14) (by decide +kernel))) rfl
theorem tw_1573 : (Cond.code ⟨"PloughCallModel", "thrown", "()I"⟩ prog_15_method_2_code 1 (some FieldType.int)) ∈ lwg := lm2 (ltb_7 (List.mem_of_getElem? (i := 15) (by decide +kernel))) rfl
theorem tw_1574 : (Cond.methodLink "PloughCallLaw" 28 ⟨"PloughCallModel", "feed", "(JJJ)I"⟩) ∈ lwg := lm2 (ltb_7 (List.mem_of_getElem? (i := 16) (by decide +kernel))) rfl
theorem tw_1575 : (Cond.instanceMethod ⟨"PloughCallModel", "feed", "(JJJ)I"⟩) ∈ lwg := lm2 (ltb_7 (List.mem_of_getElem? (i := 17) (by decide +kernel))) rfl
theorem tw_1576 : (Cond.selects "PloughCallModel" ⟨"PloughCallModel", "feed", "(JJJ)I"⟩ ⟨"PloughCallModel", "feed", "(JJJ)I"⟩) ∈ lwg := lm2 (ltb_7 (List.mem_of_getElem? (i := 18) (by decide +kernel))) rfl
theorem tw_1577 : (Cond.code ⟨"PloughCallModel", "feed", "(JJJ)I"⟩ prog_15_method_5_code 11 (some FieldType.int)) ∈ lwg := lm2 (ltb_7 (List.mem_of_getElem? (i := 19) (by decide +kernel))) rfl
theorem tw_1578 : (Cond.constantLong "PloughCallModel" 157 255) ∈ lwg := lm2 (ltb_7 (List.mem_of_getElem? (i := 20) (by decide +kernel))) rfl
theorem tw_1579 : (Cond.methodLink "PloughCallLaw" 33 ⟨"PloughCallModel", "city", "()I"⟩) ∈ lwg := lm2 (ltb_7 (List.mem_of_getElem? (i := 21) (by decide +kernel))) rfl
theorem tw_1580 : (Cond.instanceMethod ⟨"PloughCallModel", "city", "()I"⟩) ∈ lwg := lm2 (ltb_7 (List.mem_of_getElem? (i := 22) (by decide +kernel))) rfl
theorem tw_1581 : (Cond.selects "PloughCallModel" ⟨"PloughCallModel", "city", "()I"⟩ ⟨"PloughCallModel", "city", "()I"⟩) ∈ lwg := lm2 (ltb_7 (List.mem_of_getElem? (i := 23) (by decide +kernel))) rfl
theorem tw_1582 : (Cond.code ⟨"PloughCallModel", "city", "()I"⟩ prog_15_method_48_code 2 (some FieldType.int)) ∈ lwg := lm2 (ltb_7 (List.mem_of_getElem? (i := 24) (by decide +kernel))) rfl
theorem tw_1583 : (Cond.methodLink "PloughCallModel" 387 ⟨"PloughCallModel", "readsAll", "()Z"⟩) ∈ lwg := lm2 (ltb_7 (List.mem_of_getElem? (i := 25) (by decide +kernel))) rfl
theorem tw_1585 : (Cond.instanceMethod ⟨"PloughCallModel", "readsAll", "()Z"⟩) ∈ lwg := lm2 (ltb_7 (List.mem_of_getElem? (i := 27) (by decide +kernel))) rfl
theorem tw_1586 : (Cond.code ⟨"PloughCallModel", "readsAll", "()Z"⟩ prog_15_method_38_code 2 (some FieldType.boolean)) ∈ lwg := lm2 (ltb_7 (List.mem_of_getElem? (i := 28) (by decide +kernel))) rfl
theorem tw_1587 : (Cond.methodLink "PloughCallModel" 348 ⟨"PloughCallModel", "begins", "()V"⟩) ∈ lwg := lm2 (ltb_7 (List.mem_of_getElem? (i := 29) (by decide +kernel))) rfl
theorem tw_1589 : (Cond.instanceMethod ⟨"PloughCallModel", "begins", "()V"⟩) ∈ lwg := lm2 (ltb_7 (List.mem_of_getElem? (i := 31) (by decide +kernel))) rfl
theorem tw_1590 : (Cond.code ⟨"PloughCallModel", "begins", "()V"⟩ prog_15_method_37_code 1 none) ∈ lwg := lm2 (ltb_7 (List.mem_of_getElem? (i := 32) (by decide +kernel))) rfl
theorem tw_1591 : (Cond.methodLink "PloughCallModel" 231 ⟨"PloughCallModel", "nextToken", "()V"⟩) ∈ lwg := lm2 (ltb_7 (List.mem_of_getElem? (i := 33) (by decide +kernel))) rfl
theorem tw_1593 : (Cond.instanceMethod ⟨"PloughCallModel", "nextToken", "()V"⟩) ∈ lwg := lm2 (ltb_7 (List.mem_of_getElem? (i := 35) (by decide +kernel))) rfl
theorem tw_1594 : (Cond.code ⟨"PloughCallModel", "nextToken", "()V"⟩ prog_15_method_7_code 2 none) ∈ lwg := lm2 (ltb_7 (List.mem_of_getElem? (i := 36) (by decide +kernel))) rfl
theorem tw_1595 : (Cond.methodLink "PloughCallModel" 181 ⟨"PloughCallModel", "signAt", "(I)I"⟩) ∈ lwg := lm2 (ltb_7 (List.mem_of_getElem? (i := 37) (by decide +kernel))) rfl
theorem tw_1597 : (Cond.instanceMethod ⟨"PloughCallModel", "signAt", "(I)I"⟩) ∈ lwg := lm2 (ltb_7 (List.mem_of_getElem? (i := 39) (by decide +kernel))) rfl
theorem tw_1598 : (Cond.code ⟨"PloughCallModel", "signAt", "(I)I"⟩ prog_15_method_6_code 2 (some FieldType.int)) ∈ lwg := lm2 (ltb_7 (List.mem_of_getElem? (i := 40) (by decide +kernel))) rfl
theorem tw_1599 : (Cond.constantLong "PloughCallModel" 185 27) ∈ lwg := lm2 (ltb_7 (List.mem_of_getElem? (i := 41) (by decide +kernel))) rfl
theorem tw_1600 : (Cond.constantLong "PloughCallModel" 187 96) ∈ lwg := lm2 (ltb_7 (List.mem_of_getElem? (i := 42) (by decide +kernel))) rfl
theorem tw_1601 : (Cond.constantLong "PloughCallModel" 247 9518) ∈ lwg := lm2 (ltb_7 (List.mem_of_getElem? (i := 43) (by decide +kernel))) rfl
theorem tw_1602 : (Cond.methodLink "PloughCallModel" 216 ⟨"PloughCallModel", "isWord", "(J)Z"⟩) ∈ lwg := lm2 (ltb_7 (List.mem_of_getElem? (i := 44) (by decide +kernel))) rfl
theorem tw_1604 : (Cond.instanceMethod ⟨"PloughCallModel", "isWord", "(J)Z"⟩) ∈ lwg := lm2 (ltb_7 (List.mem_of_getElem? (i := 46) (by decide +kernel))) rfl
theorem tw_1605 : (Cond.code ⟨"PloughCallModel", "isWord", "(J)Z"⟩ prog_15_method_8_code 3 (some FieldType.boolean)) ∈ lwg := lm2 (ltb_7 (List.mem_of_getElem? (i := 47) (by decide +kernel))) rfl
theorem tw_1606 : (Cond.methodLink "PloughCallModel" 351 ⟨"PloughCallModel", "readsMan", "()Z"⟩) ∈ lwg := lm2 (ltb_7 (List.mem_of_getElem? (i := 48) (by decide +kernel))) rfl
theorem tw_1608 : (Cond.instanceMethod ⟨"PloughCallModel", "readsMan", "()Z"⟩) ∈ lwg := lm2 (ltb_7 (List.mem_of_getElem? (i := 50) (by decide +kernel))) rfl
theorem tw_1609 : (Cond.code ⟨"PloughCallModel", "readsMan", "()Z"⟩ prog_15_method_30_code 2 (some FieldType.boolean)) ∈ lwg := lm2 (ltb_7 (List.mem_of_getElem? (i := 51) (by decide +kernel))) rfl
theorem tw_1610 : (Cond.methodLink "PloughCallModel" 224 ⟨"PloughCallModel", "fails", "(I)Z"⟩) ∈ lwg := lm2 (ltb_7 (List.mem_of_getElem? (i := 52) (by decide +kernel))) rfl
theorem tw_1612 : (Cond.instanceMethod ⟨"PloughCallModel", "fails", "(I)Z"⟩) ∈ lwg := lm2 (ltb_7 (List.mem_of_getElem? (i := 54) (by decide +kernel))) rfl
theorem tw_1613 : (Cond.code ⟨"PloughCallModel", "fails", "(I)Z"⟩ prog_15_method_10_code 2 (some FieldType.boolean)) ∈ lwg := lm2 (ltb_7 (List.mem_of_getElem? (i := 55) (by decide +kernel))) rfl
theorem tw_1614 : (Cond.methodLink "PloughCallModel" 326 ⟨"PloughCallModel", "needsNew", "()Z"⟩) ∈ lwg := lm2 (ltb_7 (List.mem_of_getElem? (i := 56) (by decide +kernel))) rfl
theorem tw_1616 : (Cond.instanceMethod ⟨"PloughCallModel", "needsNew", "()Z"⟩) ∈ lwg := lm2 (ltb_7 (List.mem_of_getElem? (i := 58) (by decide +kernel))) rfl
theorem tw_1617 : (Cond.code ⟨"PloughCallModel", "needsNew", "()Z"⟩ prog_15_method_26_code 1 (some FieldType.boolean)) ∈ lwg := lm2 (ltb_7 (List.mem_of_getElem? (i := 59) (by decide +kernel))) rfl
theorem tw_1618 : (Cond.methodLink "PloughCallModel" 308 ⟨"PloughCallModel", "isKeptWord", "()Z"⟩) ∈ lwg := lm2 (ltb_7 (List.mem_of_getElem? (i := 60) (by decide +kernel))) rfl
theorem tw_1620 : (Cond.instanceMethod ⟨"PloughCallModel", "isKeptWord", "()Z"⟩) ∈ lwg := lm2 (ltb_7 (List.mem_of_getElem? (i := 62) (by decide +kernel))) rfl
theorem tw_1621 : (Cond.code ⟨"PloughCallModel", "isKeptWord", "()Z"⟩ prog_15_method_18_code 1 (some FieldType.boolean)) ∈ lwg := lm2 (ltb_7 (List.mem_of_getElem? (i := 63) (by decide +kernel))) rfl
theorem tw_1622 : (Cond.constantLong "PloughCallModel" 249 10320789) ∈ lwg := lm2 (ltb_7 (List.mem_of_getElem? (i := 64) (by decide +kernel))) rfl
theorem tw_1623 : (Cond.constantLong "PloughCallModel" 251 3369766) ∈ lwg := lm2 (ltb_7 (List.mem_of_getElem? (i := 65) (by decide +kernel))) rfl
theorem tw_1624 : (Cond.constantLong "PloughCallModel" 253 453836) ∈ lwg := lm2 (ltb_7 (List.mem_of_getElem? (i := 66) (by decide +kernel))) rfl
theorem tw_1625 : (Cond.constantLong "PloughCallModel" 255 51308328) ∈ lwg := lm2 (ltb_7 (List.mem_of_getElem? (i := 67) (by decide +kernel))) rfl
theorem tw_1626 : (Cond.constantLong "PloughCallModel" 257 4285945) ∈ lwg := lm2 (ltb_7 (List.mem_of_getElem? (i := 68) (by decide +kernel))) rfl
theorem tw_1627 : (Cond.constantLong "PloughCallModel" 259 58207887) ∈ lwg := lm2 (ltb_7 (List.mem_of_getElem? (i := 69) (by decide +kernel))) rfl
theorem tw_1628 : (Cond.constantLong "PloughCallModel" 261 381245) ∈ lwg := lm2 (ltb_7 (List.mem_of_getElem? (i := 70) (by decide +kernel))) rfl
theorem tw_1629 : (Cond.constantLong "PloughCallModel" 263 4085956) ∈ lwg := lm2 (ltb_7 (List.mem_of_getElem? (i := 71) (by decide +kernel))) rfl
theorem tw_1630 : (Cond.constantLong "PloughCallModel" 265 60125144) ∈ lwg := lm2 (ltb_7 (List.mem_of_getElem? (i := 72) (by decide +kernel))) rfl
theorem tw_1631 : (Cond.constantLong "PloughCallModel" 267 419) ∈ lwg := lm2 (ltb_7 (List.mem_of_getElem? (i := 73) (by decide +kernel))) rfl
theorem tw_1632 : (Cond.constantLong "PloughCallModel" 269 397804) ∈ lwg := lm2 (ltb_7 (List.mem_of_getElem? (i := 74) (by decide +kernel))) rfl
theorem tw_1633 : (Cond.constantLong "PloughCallModel" 271 12531826) ∈ lwg := lm2 (ltb_7 (List.mem_of_getElem? (i := 75) (by decide +kernel))) rfl
theorem tw_1634 : (Cond.constantLong "PloughCallModel" 273 5948362) ∈ lwg := lm2 (ltb_7 (List.mem_of_getElem? (i := 76) (by decide +kernel))) rfl
theorem tw_1635 : (Cond.constantLong "PloughCallModel" 275 276647) ∈ lwg := lm2 (ltb_7 (List.mem_of_getElem? (i := 77) (by decide +kernel))) rfl
theorem tw_1636 : (Cond.constantLong "PloughCallModel" 277 187455942) ∈ lwg := lm2 (ltb_7 (List.mem_of_getElem? (i := 78) (by decide +kernel))) rfl
theorem tw_1637 : (Cond.constantLong "PloughCallModel" 279 7214732) ∈ lwg := lm2 (ltb_7 (List.mem_of_getElem? (i := 79) (by decide +kernel))) rfl
theorem tw_1638 : (Cond.constantLong "PloughCallModel" 281 1689216361) ∈ lwg := lm2 (ltb_7 (List.mem_of_getElem? (i := 80) (by decide +kernel))) rfl
theorem tw_1639 : (Cond.constantLong "PloughCallModel" 283 8800) ∈ lwg := lm2 (ltb_7 (List.mem_of_getElem? (i := 81) (by decide +kernel))) rfl
theorem tw_1640 : (Cond.constantLong "PloughCallModel" 285 8740238) ∈ lwg := lm2 (ltb_7 (List.mem_of_getElem? (i := 82) (by decide +kernel))) rfl
theorem tw_1641 : (Cond.constantLong "PloughCallModel" 287 326286) ∈ lwg := lm2 (ltb_7 (List.mem_of_getElem? (i := 83) (by decide +kernel))) rfl
theorem tw_1642 : (Cond.constantLong "PloughCallModel" 289 8868856) ∈ lwg := lm2 (ltb_7 (List.mem_of_getElem? (i := 84) (by decide +kernel))) rfl
theorem tw_1643 : (Cond.constantLong "PloughCallModel" 291 180392) ∈ lwg := lm2 (ltb_7 (List.mem_of_getElem? (i := 85) (by decide +kernel))) rfl
theorem tw_1644 : (Cond.constantLong "PloughCallModel" 214 10631) ∈ lwg := lm2 (ltb_7 (List.mem_of_getElem? (i := 86) (by decide +kernel))) rfl
theorem tw_1645 : (Cond.constantLong "PloughCallModel" 234 1111) ∈ lwg := lm2 (ltb_7 (List.mem_of_getElem? (i := 87) (by decide +kernel))) rfl
theorem tw_1646 : (Cond.constantLong "PloughCallModel" 236 423) ∈ lwg := lm2 (ltb_7 (List.mem_of_getElem? (i := 88) (by decide +kernel))) rfl
theorem tw_1647 : (Cond.methodLink "PloughCallModel" 312 ⟨"PloughCallModel", "manNamed", "(I)I"⟩) ∈ lwg := lm2 (ltb_7 (List.mem_of_getElem? (i := 89) (by decide +kernel))) rfl
theorem tw_1649 : (Cond.instanceMethod ⟨"PloughCallModel", "manNamed", "(I)I"⟩) ∈ lwg := lm2 (ltb_7 (List.mem_of_getElem? (i := 91) (by decide +kernel))) rfl
theorem tw_1650 : (Cond.code ⟨"PloughCallModel", "manNamed", "(I)I"⟩ prog_15_method_20_code 2 (some FieldType.int)) ∈ lwg := lm2 (ltb_7 (List.mem_of_getElem? (i := 92) (by decide +kernel))) rfl
theorem tw_1651 : (Cond.methodLink "PloughCallModel" 293 ⟨"PloughCallModel", "named", "([JIIJ)I"⟩) ∈ lwg := lm2 (ltb_7 (List.mem_of_getElem? (i := 93) (by decide +kernel))) rfl
theorem tw_1652 : (Cond.static ⟨"PloughCallModel", "named", "([JIIJ)I"⟩) ∈ lwg := lm2 (ltb_7 (List.mem_of_getElem? (i := 94) (by decide +kernel))) rfl
theorem tw_1653 : (Cond.code ⟨"PloughCallModel", "named", "([JIIJ)I"⟩ prog_15_method_19_code 6 (some FieldType.int)) ∈ lwg := lm2 (ltb_7 (List.mem_of_getElem? (i := 95) (by decide +kernel))) rfl
theorem tw_1654 : (Cond.methodLink "PloughCallModel" 315 ⟨"PloughCallModel", "dangerNamed", "(I)I"⟩) ∈ lwg := lm2 (ltb_7 (List.mem_of_getElem? (i := 96) (by decide +kernel))) rfl
theorem tw_1656 : (Cond.instanceMethod ⟨"PloughCallModel", "dangerNamed", "(I)I"⟩) ∈ lwg := lm2 (ltb_7 (List.mem_of_getElem? (i := 98) (by decide +kernel))) rfl
theorem tw_1657 : (Cond.code ⟨"PloughCallModel", "dangerNamed", "(I)I"⟩ prog_15_method_21_code 2 (some FieldType.int)) ∈ lwg := lm2 (ltb_7 (List.mem_of_getElem? (i := 99) (by decide +kernel))) rfl
theorem tw_1658 : (Cond.methodLink "PloughCallModel" 318 ⟨"PloughCallModel", "decreeNamed", "()I"⟩) ∈ lwg := lm2 (ltb_7 (List.mem_of_getElem? (i := 100) (by decide +kernel))) rfl
theorem tw_1660 : (Cond.instanceMethod ⟨"PloughCallModel", "decreeNamed", "()I"⟩) ∈ lwg := lm2 (ltb_7 (List.mem_of_getElem? (i := 102) (by decide +kernel))) rfl
theorem tw_1661 : (Cond.code ⟨"PloughCallModel", "decreeNamed", "()I"⟩ prog_15_method_22_code 1 (some FieldType.int)) ∈ lwg := lm2 (ltb_7 (List.mem_of_getElem? (i := 103) (by decide +kernel))) rfl
theorem tw_1662 : (Cond.methodLink "PloughCallModel" 329 ⟨"PloughCallModel", "needsBoth", "(JII)Z"⟩) ∈ lwg := lm2 (ltb_7 (List.mem_of_getElem? (i := 104) (by decide +kernel))) rfl
theorem tw_1664 : (Cond.instanceMethod ⟨"PloughCallModel", "needsBoth", "(JII)Z"⟩) ∈ lwg := lm2 (ltb_7 (List.mem_of_getElem? (i := 106) (by decide +kernel))) rfl
theorem tw_1665 : (Cond.code ⟨"PloughCallModel", "needsBoth", "(JII)Z"⟩ prog_15_method_24_code 5 (some FieldType.boolean)) ∈ lwg := lm2 (ltb_7 (List.mem_of_getElem? (i := 107) (by decide +kernel))) rfl
theorem tw_1666 : (Cond.methodLink "PloughCallModel" 304 ⟨"PloughCallModel", "needsNumber", "(II)Z"⟩) ∈ lwg := lm2 (ltb_7 (List.mem_of_getElem? (i := 108) (by decide +kernel))) rfl
theorem tw_1668 : (Cond.instanceMethod ⟨"PloughCallModel", "needsNumber", "(II)Z"⟩) ∈ lwg := lm2 (ltb_7 (List.mem_of_getElem? (i := 110) (by decide +kernel))) rfl
theorem tw_1669 : (Cond.code ⟨"PloughCallModel", "needsNumber", "(II)Z"⟩ prog_15_method_23_code 3 (some FieldType.boolean)) ∈ lwg := lm2 (ltb_7 (List.mem_of_getElem? (i := 111) (by decide +kernel))) rfl
theorem tw_1670 : (Cond.methodLink "PloughCallModel" 297 ⟨"PloughCallModel", "within", "(III)Z"⟩) ∈ lwg := lm2 (ltb_7 (List.mem_of_getElem? (i := 112) (by decide +kernel))) rfl
theorem tw_1671 : (Cond.static ⟨"PloughCallModel", "within", "(III)Z"⟩) ∈ lwg := lm2 (ltb_7 (List.mem_of_getElem? (i := 113) (by decide +kernel))) rfl
theorem tw_1672 : (Cond.code ⟨"PloughCallModel", "within", "(III)Z"⟩ prog_15_method_3_code 3 (some FieldType.boolean)) ∈ lwg := lm2 (ltb_7 (List.mem_of_getElem? (i := 114) (by decide +kernel))) rfl
theorem tw_1673 : (Cond.methodLink "PloughCallModel" 333 ⟨"PloughCallModel", "closes", "()Z"⟩) ∈ lwg := lm2 (ltb_7 (List.mem_of_getElem? (i := 115) (by decide +kernel))) rfl
theorem tw_1675 : (Cond.instanceMethod ⟨"PloughCallModel", "closes", "()Z"⟩) ∈ lwg := lm2 (ltb_7 (List.mem_of_getElem? (i := 117) (by decide +kernel))) rfl
theorem tw_1676 : (Cond.code ⟨"PloughCallModel", "closes", "()Z"⟩ prog_15_method_25_code 1 (some FieldType.boolean)) ∈ lwg := lm2 (ltb_7 (List.mem_of_getElem? (i := 118) (by decide +kernel))) rfl
theorem tw_1677 : (Cond.methodLink "PloughCallModel" 220 ⟨"PloughCallModel", "isSign", "(I)Z"⟩) ∈ lwg := lm2 (ltb_7 (List.mem_of_getElem? (i := 119) (by decide +kernel))) rfl
theorem tw_1679 : (Cond.instanceMethod ⟨"PloughCallModel", "isSign", "(I)Z"⟩) ∈ lwg := lm2 (ltb_7 (List.mem_of_getElem? (i := 121) (by decide +kernel))) rfl
theorem tw_1680 : (Cond.code ⟨"PloughCallModel", "isSign", "(I)Z"⟩ prog_15_method_9_code 2 (some FieldType.boolean)) ∈ lwg := lm2 (ltb_7 (List.mem_of_getElem? (i := 122) (by decide +kernel))) rfl
theorem tw_1681 : (Cond.methodLink "PloughCallModel" 354 ⟨"PloughCallModel", "readsConsul", "()Z"⟩) ∈ lwg := lm2 (ltb_7 (List.mem_of_getElem? (i := 123) (by decide +kernel))) rfl
theorem tw_1683 : (Cond.instanceMethod ⟨"PloughCallModel", "readsConsul", "()Z"⟩) ∈ lwg := lm2 (ltb_7 (List.mem_of_getElem? (i := 125) (by decide +kernel))) rfl
theorem tw_1684 : (Cond.code ⟨"PloughCallModel", "readsConsul", "()Z"⟩ prog_15_method_31_code 1 (some FieldType.boolean)) ∈ lwg := lm2 (ltb_7 (List.mem_of_getElem? (i := 126) (by decide +kernel))) rfl
theorem tw_1685 : (Cond.methodLink "PloughCallModel" 339 ⟨"PloughCallModel", "needsMan", "(I)Z"⟩) ∈ lwg := lm2 (ltb_7 (List.mem_of_getElem? (i := 127) (by decide +kernel))) rfl
theorem tw_1687 : (Cond.instanceMethod ⟨"PloughCallModel", "needsMan", "(I)Z"⟩) ∈ lwg := lm2 (ltb_7 (List.mem_of_getElem? (i := 129) (by decide +kernel))) rfl
theorem tw_1688 : (Cond.code ⟨"PloughCallModel", "needsMan", "(I)Z"⟩ prog_15_method_27_code 2 (some FieldType.boolean)) ∈ lwg := lm2 (ltb_7 (List.mem_of_getElem? (i := 130) (by decide +kernel))) rfl
theorem tw_1689 : (Cond.methodLink "PloughCallModel" 357 ⟨"PloughCallModel", "readsHates", "()Z"⟩) ∈ lwg := lm2 (ltb_7 (List.mem_of_getElem? (i := 131) (by decide +kernel))) rfl
theorem tw_1691 : (Cond.instanceMethod ⟨"PloughCallModel", "readsHates", "()Z"⟩) ∈ lwg := lm2 (ltb_7 (List.mem_of_getElem? (i := 133) (by decide +kernel))) rfl
theorem tw_1692 : (Cond.code ⟨"PloughCallModel", "readsHates", "()Z"⟩ prog_15_method_32_code 2 (some FieldType.boolean)) ∈ lwg := lm2 (ltb_7 (List.mem_of_getElem? (i := 134) (by decide +kernel))) rfl
theorem tw_1693 : (Cond.methodLink "PloughCallModel" 360 ⟨"PloughCallModel", "readsDanger", "()Z"⟩) ∈ lwg := lm2 (ltb_7 (List.mem_of_getElem? (i := 135) (by decide +kernel))) rfl
theorem tw_1695 : (Cond.instanceMethod ⟨"PloughCallModel", "readsDanger", "()Z"⟩) ∈ lwg := lm2 (ltb_7 (List.mem_of_getElem? (i := 137) (by decide +kernel))) rfl
theorem tw_1696 : (Cond.code ⟨"PloughCallModel", "readsDanger", "()Z"⟩ prog_15_method_33_code 2 (some FieldType.boolean)) ∈ lwg := lm2 (ltb_7 (List.mem_of_getElem? (i := 138) (by decide +kernel))) rfl
theorem tw_1697 : (Cond.methodLink "PloughCallModel" 363 ⟨"PloughCallModel", "readsDecree", "()Z"⟩) ∈ lwg := lm2 (ltb_7 (List.mem_of_getElem? (i := 139) (by decide +kernel))) rfl
theorem tw_1699 : (Cond.instanceMethod ⟨"PloughCallModel", "readsDecree", "()Z"⟩) ∈ lwg := lm2 (ltb_7 (List.mem_of_getElem? (i := 141) (by decide +kernel))) rfl
theorem tw_1700 : (Cond.code ⟨"PloughCallModel", "readsDecree", "()Z"⟩ prog_15_method_34_code 5 (some FieldType.boolean)) ∈ lwg := lm2 (ltb_7 (List.mem_of_getElem? (i := 142) (by decide +kernel))) rfl
theorem tw_1701 : (Cond.methodLink "PloughCallModel" 366 ⟨"PloughCallModel", "readsTerm", "()Z"⟩) ∈ lwg := lm2 (ltb_7 (List.mem_of_getElem? (i := 143) (by decide +kernel))) rfl
theorem tw_1703 : (Cond.instanceMethod ⟨"PloughCallModel", "readsTerm", "()Z"⟩) ∈ lwg := lm2 (ltb_7 (List.mem_of_getElem? (i := 145) (by decide +kernel))) rfl
theorem tw_1704 : (Cond.code ⟨"PloughCallModel", "readsTerm", "()Z"⟩ prog_15_method_35_code 1 (some FieldType.boolean)) ∈ lwg := lm2 (ltb_7 (List.mem_of_getElem? (i := 146) (by decide +kernel))) rfl
theorem tw_1705 : (Cond.methodLink "PloughCallModel" 342 ⟨"PloughCallModel", "isTwice", "(I)Z"⟩) ∈ lwg := lm2 (ltb_7 (List.mem_of_getElem? (i := 147) (by decide +kernel))) rfl
theorem tw_1707 : (Cond.instanceMethod ⟨"PloughCallModel", "isTwice", "(I)Z"⟩) ∈ lwg := lm2 (ltb_7 (List.mem_of_getElem? (i := 149) (by decide +kernel))) rfl
theorem tw_1708 : (Cond.code ⟨"PloughCallModel", "isTwice", "(I)Z"⟩ prog_15_method_29_code 2 (some FieldType.boolean)) ∈ lwg := lm2 (ltb_7 (List.mem_of_getElem? (i := 150) (by decide +kernel))) rfl
theorem tw_1709 : (Cond.methodLink "PloughCallModel" 369 ⟨"PloughCallModel", "readsLaw", "(I)Z"⟩) ∈ lwg := lm2 (ltb_7 (List.mem_of_getElem? (i := 151) (by decide +kernel))) rfl
theorem tw_1711 : (Cond.instanceMethod ⟨"PloughCallModel", "readsLaw", "(I)Z"⟩) ∈ lwg := lm2 (ltb_7 (List.mem_of_getElem? (i := 153) (by decide +kernel))) rfl
theorem tw_1712 : (Cond.code ⟨"PloughCallModel", "readsLaw", "(I)Z"⟩ prog_15_method_36_code 2 (some FieldType.boolean)) ∈ lwg := lm2 (ltb_7 (List.mem_of_getElem? (i := 154) (by decide +kernel))) rfl
theorem tw_1713 : (Cond.methodLink "PloughCallModel" 345 ⟨"PloughCallModel", "reads", "()Z"⟩) ∈ lwg := lm2 (ltb_7 (List.mem_of_getElem? (i := 155) (by decide +kernel))) rfl
theorem tw_1715 : (Cond.instanceMethod ⟨"PloughCallModel", "reads", "()Z"⟩) ∈ lwg := lm2 (ltb_7 (List.mem_of_getElem? (i := 157) (by decide +kernel))) rfl
theorem tw_1716 : (Cond.code ⟨"PloughCallModel", "reads", "()Z"⟩ prog_15_method_13_code 6 (some FieldType.boolean)) ∈ lwg := lm2 (ltb_7 (List.mem_of_getElem? (i := 158) (by decide +kernel))) rfl
theorem tw_1717 : (Cond.methodLink "PloughCallModel" 210 ⟨"PloughCallModel", "fact", "()I"⟩) ∈ lwg := lm2 (ltb_7 (List.mem_of_getElem? (i := 159) (by decide +kernel))) rfl
theorem tw_1719 : (Cond.instanceMethod ⟨"PloughCallModel", "fact", "()I"⟩) ∈ lwg := lm2 (ltb_7 (List.mem_of_getElem? (i := 161) (by decide +kernel))) rfl
theorem tw_1720 : (Cond.code ⟨"PloughCallModel", "fact", "()I"⟩ prog_15_method_12_code 1 (some FieldType.int)) ∈ lwg := lm2 (ltb_7 (List.mem_of_getElem? (i := 162) (by decide +kernel))) rfl
theorem tw_1721 : (Cond.constantLong "PloughCallModel" 195 21470) ∈ lwg := lm2 (ltb_7 (List.mem_of_getElem? (i := 163) (by decide +kernel))) rfl
theorem tw_1722 : (Cond.constantLong "PloughCallModel" 197 4078165) ∈ lwg := lm2 (ltb_7 (List.mem_of_getElem? (i := 164) (by decide +kernel))) rfl
theorem tw_1723 : (Cond.constantLong "PloughCallModel" 202 6410291) ∈ lwg := lm2 (ltb_7 (List.mem_of_getElem? (i := 165) (by decide +kernel))) rfl
theorem tw_1724 : (Cond.constantLong "PloughCallModel" 204 230501920) ∈ lwg := lm2 (ltb_7 (List.mem_of_getElem? (i := 166) (by decide +kernel))) rfl
theorem tw_1725 : (Cond.constantLong "PloughCallModel" 206 6562597) ∈ lwg := lm2 (ltb_7 (List.mem_of_getElem? (i := 167) (by decide +kernel))) rfl
theorem tw_1726 : (Cond.constantLong "PloughCallModel" 208 240023) ∈ lwg := lm2 (ltb_7 (List.mem_of_getElem? (i := 168) (by decide +kernel))) rfl
theorem tw_1727 : (Cond.methodLink "PloughCallModel" 227 ⟨"PloughCallModel", "puts", "(I)V"⟩) ∈ lwg := lm2 (ltb_7 (List.mem_of_getElem? (i := 169) (by decide +kernel))) rfl
theorem tw_1729 : (Cond.instanceMethod ⟨"PloughCallModel", "puts", "(I)V"⟩) ∈ lwg := lm2 (ltb_7 (List.mem_of_getElem? (i := 171) (by decide +kernel))) rfl
theorem tw_1730 : (Cond.code ⟨"PloughCallModel", "puts", "(I)V"⟩ prog_15_method_11_code 2 none) ∈ lwg := lm2 (ltb_7 (List.mem_of_getElem? (i := 172) (by decide +kernel))) rfl
theorem tw_1731 : (Cond.methodLink "PloughCallModel" 390 ⟨"PloughCallModel", "lays", "()V"⟩) ∈ lwg := lm2 (ltb_7 (List.mem_of_getElem? (i := 173) (by decide +kernel))) rfl
theorem tw_1733 : (Cond.instanceMethod ⟨"PloughCallModel", "lays", "()V"⟩) ∈ lwg := lm2 (ltb_7 (List.mem_of_getElem? (i := 175) (by decide +kernel))) rfl
theorem tw_1734 : (Cond.code ⟨"PloughCallModel", "lays", "()V"⟩ prog_15_method_41_code 2 none) ∈ lwg := lm2 (ltb_7 (List.mem_of_getElem? (i := 176) (by decide +kernel))) rfl
theorem tw_1735 : (Cond.methodLink "PloughCallModel" 372 ⟨"PloughCallModel", "shifts", "([II)V"⟩) ∈ lwg := lm2 (ltb_7 (List.mem_of_getElem? (i := 177) (by decide +kernel))) rfl
theorem tw_1736 : (Cond.static ⟨"PloughCallModel", "shifts", "([II)V"⟩) ∈ lwg := lm2 (ltb_7 (List.mem_of_getElem? (i := 178) (by decide +kernel))) rfl
theorem tw_1737 : (Cond.code ⟨"PloughCallModel", "shifts", "([II)V"⟩ prog_15_method_39_code 3 none) ∈ lwg := lm2 (ltb_7 (List.mem_of_getElem? (i := 179) (by decide +kernel))) rfl
theorem tw_1738 : (Cond.methodLink "PloughCallModel" 376 ⟨"PloughCallModel", "shiftsNames", "([JI)V"⟩) ∈ lwg := lm2 (ltb_7 (List.mem_of_getElem? (i := 180) (by decide +kernel))) rfl
theorem tw_1739 : (Cond.static ⟨"PloughCallModel", "shiftsNames", "([JI)V"⟩) ∈ lwg := lm2 (ltb_7 (List.mem_of_getElem? (i := 181) (by decide +kernel))) rfl
theorem tw_1740 : (Cond.code ⟨"PloughCallModel", "shiftsNames", "([JI)V"⟩ prog_15_method_40_code 3 none) ∈ lwg := lm2 (ltb_7 (List.mem_of_getElem? (i := 182) (by decide +kernel))) rfl
theorem tw_1741 : (Cond.methodLink "PloughCallLaw" 37 ⟨"PloughCallModel", "months", "()I"⟩) ∈ lwg := lm2 (ltb_7 (List.mem_of_getElem? (i := 183) (by decide +kernel))) rfl
theorem tw_1742 : (Cond.instanceMethod ⟨"PloughCallModel", "months", "()I"⟩) ∈ lwg := lm2 (ltb_7 (List.mem_of_getElem? (i := 184) (by decide +kernel))) rfl
theorem tw_1743 : (Cond.selects "PloughCallModel" ⟨"PloughCallModel", "months", "()I"⟩ ⟨"PloughCallModel", "months", "()I"⟩) ∈ lwg := lm2 (ltb_7 (List.mem_of_getElem? (i := 185) (by decide +kernel))) rfl
theorem tw_1744 : (Cond.code ⟨"PloughCallModel", "months", "()I"⟩ prog_15_method_49_code 1 (some FieldType.int)) ∈ lwg := lm2 (ltb_7 (List.mem_of_getElem? (i := 186) (by decide +kernel))) rfl
theorem tw_1745 : (Cond.methodLink "PloughCallModel" 396 ⟨"PloughCallModel", "readsLine", "()Z"⟩) ∈ lwg := lm2 (ltb_7 (List.mem_of_getElem? (i := 187) (by decide +kernel))) rfl
theorem tw_1747 : (Cond.instanceMethod ⟨"PloughCallModel", "readsLine", "()Z"⟩) ∈ lwg := lm2 (ltb_7 (List.mem_of_getElem? (i := 189) (by decide +kernel))) rfl
theorem tw_1748 : (Cond.code ⟨"PloughCallModel", "readsLine", "()Z"⟩ prog_15_method_44_code 3 (some FieldType.boolean)) ∈ lwg := lm2 (ltb_7 (List.mem_of_getElem? (i := 190) (by decide +kernel))) rfl
theorem tw_1749 : (Cond.methodLink "PloughCallModel" 383 ⟨"PloughCallModel", "readsTwo", "(IZ)Z"⟩) ∈ lwg := lm2 (ltb_7 (List.mem_of_getElem? (i := 191) (by decide +kernel))) rfl
theorem tw_1751 : (Cond.instanceMethod ⟨"PloughCallModel", "readsTwo", "(IZ)Z"⟩) ∈ lwg := lm2 (ltb_7 (List.mem_of_getElem? (i := 193) (by decide +kernel))) rfl
theorem tw_1752 : (Cond.code ⟨"PloughCallModel", "readsTwo", "(IZ)Z"⟩ prog_15_method_43_code 3 (some FieldType.boolean)) ∈ lwg := lm2 (ltb_7 (List.mem_of_getElem? (i := 194) (by decide +kernel))) rfl
theorem tw_1753 : (Cond.methodLink "PloughCallModel" 380 ⟨"PloughCallModel", "needsDanger", "()Z"⟩) ∈ lwg := lm2 (ltb_7 (List.mem_of_getElem? (i := 195) (by decide +kernel))) rfl
theorem tw_1755 : (Cond.instanceMethod ⟨"PloughCallModel", "needsDanger", "()Z"⟩) ∈ lwg := lm2 (ltb_7 (List.mem_of_getElem? (i := 197) (by decide +kernel))) rfl
theorem tw_1756 : (Cond.code ⟨"PloughCallModel", "needsDanger", "()Z"⟩ prog_15_method_28_code 1 (some FieldType.boolean)) ∈ lwg := lm2 (ltb_7 (List.mem_of_getElem? (i := 198) (by decide +kernel))) rfl
theorem tw_1757 : (Cond.methodLink "PloughCallModel" 399 ⟨"PloughCallModel", "laysLines", "(II)V"⟩) ∈ lwg := lm2 (ltb_7 (List.mem_of_getElem? (i := 199) (by decide +kernel))) rfl
theorem tw_1759 : (Cond.instanceMethod ⟨"PloughCallModel", "laysLines", "(II)V"⟩) ∈ lwg := lm2 (ltb_7 (List.mem_of_getElem? (i := 201) (by decide +kernel))) rfl
theorem tw_1760 : (Cond.code ⟨"PloughCallModel", "laysLines", "(II)V"⟩ prog_15_method_45_code 4 none) ∈ lwg := lm2 (ltb_7 (List.mem_of_getElem? (i := 202) (by decide +kernel))) rfl
theorem tw_1761 : (Cond.methodLink "PloughCallLaw" 42 ⟨"PloughCallModel", "man", "(II)I"⟩) ∈ lwg := lm2 (ltb_7 (List.mem_of_getElem? (i := 203) (by decide +kernel))) rfl
theorem tw_1762 : (Cond.instanceMethod ⟨"PloughCallModel", "man", "(II)I"⟩) ∈ lwg := lm2 (ltb_7 (List.mem_of_getElem? (i := 204) (by decide +kernel))) rfl
theorem tw_1763 : (Cond.selects "PloughCallModel" ⟨"PloughCallModel", "man", "(II)I"⟩ ⟨"PloughCallModel", "man", "(II)I"⟩) ∈ lwg := lm2 (ltb_7 (List.mem_of_getElem? (i := 205) (by decide +kernel))) rfl
theorem tw_1764 : (Cond.code ⟨"PloughCallModel", "man", "(II)I"⟩ prog_15_method_64_code 3 (some FieldType.int)) ∈ lwg := lm2 (ltb_7 (List.mem_of_getElem? (i := 206) (by decide +kernel))) rfl
theorem tw_1765 : (Cond.methodLink "PloughCallModel" 443 ⟨"PloughCallModel", "isMan", "(I)Z"⟩) ∈ lwg := lm2 (ltb_7 (List.mem_of_getElem? (i := 207) (by decide +kernel))) rfl
theorem tw_1767 : (Cond.instanceMethod ⟨"PloughCallModel", "isMan", "(I)Z"⟩) ∈ lwg := lm2 (ltb_7 (List.mem_of_getElem? (i := 209) (by decide +kernel))) rfl
theorem tw_1768 : (Cond.code ⟨"PloughCallModel", "isMan", "(I)Z"⟩ prog_15_method_50_code 2 (some FieldType.boolean)) ∈ lwg := lm2 (ltb_7 (List.mem_of_getElem? (i := 210) (by decide +kernel))) rfl
theorem tw_1769 : (Cond.methodLink "PloughCallModel" 410 ⟨"PloughCallModel", "isConsul", "(I)Z"⟩) ∈ lwg := lm2 (ltb_7 (List.mem_of_getElem? (i := 211) (by decide +kernel))) rfl
theorem tw_1771 : (Cond.instanceMethod ⟨"PloughCallModel", "isConsul", "(I)Z"⟩) ∈ lwg := lm2 (ltb_7 (List.mem_of_getElem? (i := 213) (by decide +kernel))) rfl
theorem tw_1772 : (Cond.code ⟨"PloughCallModel", "isConsul", "(I)Z"⟩ prog_15_method_52_code 2 (some FieldType.boolean)) ∈ lwg := lm2 (ltb_7 (List.mem_of_getElem? (i := 214) (by decide +kernel))) rfl
theorem tw_1773 : (Cond.methodLink "PloughCallLaw" 46 ⟨"PloughCallModel", "danger", "(II)I"⟩) ∈ lwg := lm2 (ltb_7 (List.mem_of_getElem? (i := 215) (by decide +kernel))) rfl
theorem tw_1774 : (Cond.instanceMethod ⟨"PloughCallModel", "danger", "(II)I"⟩) ∈ lwg := lm2 (ltb_7 (List.mem_of_getElem? (i := 216) (by decide +kernel))) rfl
theorem tw_1775 : (Cond.selects "PloughCallModel" ⟨"PloughCallModel", "danger", "(II)I"⟩ ⟨"PloughCallModel", "danger", "(II)I"⟩) ∈ lwg := lm2 (ltb_7 (List.mem_of_getElem? (i := 217) (by decide +kernel))) rfl
theorem tw_1776 : (Cond.code ⟨"PloughCallModel", "danger", "(II)I"⟩ prog_15_method_65_code 3 (some FieldType.int)) ∈ lwg := lm2 (ltb_7 (List.mem_of_getElem? (i := 218) (by decide +kernel))) rfl
theorem tw_1777 : (Cond.methodLink "PloughCallModel" 446 ⟨"PloughCallModel", "isDanger", "(I)Z"⟩) ∈ lwg := lm2 (ltb_7 (List.mem_of_getElem? (i := 219) (by decide +kernel))) rfl
theorem tw_1779 : (Cond.instanceMethod ⟨"PloughCallModel", "isDanger", "(I)Z"⟩) ∈ lwg := lm2 (ltb_7 (List.mem_of_getElem? (i := 221) (by decide +kernel))) rfl
theorem tw_1780 : (Cond.code ⟨"PloughCallModel", "isDanger", "(I)Z"⟩ prog_15_method_51_code 2 (some FieldType.boolean)) ∈ lwg := lm2 (ltb_7 (List.mem_of_getElem? (i := 222) (by decide +kernel))) rfl
theorem tw_1781 : (Cond.methodLink "PloughCallLaw" 51 ⟨"PloughCallModel", "may", "(II)Z"⟩) ∈ lwg := lm2 (ltb_7 (List.mem_of_getElem? (i := 223) (by decide +kernel))) rfl
theorem tw_1782 : (Cond.instanceMethod ⟨"PloughCallModel", "may", "(II)Z"⟩) ∈ lwg := lm2 (ltb_7 (List.mem_of_getElem? (i := 224) (by decide +kernel))) rfl
theorem tw_1783 : (Cond.selects "PloughCallModel" ⟨"PloughCallModel", "may", "(II)Z"⟩ ⟨"PloughCallModel", "may", "(II)Z"⟩) ∈ lwg := lm2 (ltb_7 (List.mem_of_getElem? (i := 225) (by decide +kernel))) rfl
theorem tw_1784 : (Cond.code ⟨"PloughCallModel", "may", "(II)Z"⟩ prog_15_method_66_code 3 (some FieldType.boolean)) ∈ lwg := lm2 (ltb_7 (List.mem_of_getElem? (i := 226) (by decide +kernel))) rfl
theorem tw_1785 : (Cond.methodLink "PloughCallModel" 449 ⟨"PloughCallModel", "couldName", "(II)Z"⟩) ∈ lwg := lm2 (ltb_7 (List.mem_of_getElem? (i := 227) (by decide +kernel))) rfl
theorem tw_1787 : (Cond.instanceMethod ⟨"PloughCallModel", "couldName", "(II)Z"⟩) ∈ lwg := lm2 (ltb_7 (List.mem_of_getElem? (i := 229) (by decide +kernel))) rfl
theorem tw_1788 : (Cond.code ⟨"PloughCallModel", "couldName", "(II)Z"⟩ prog_15_method_56_code 3 (some FieldType.boolean)) ∈ lwg := lm2 (ltb_7 (List.mem_of_getElem? (i := 230) (by decide +kernel))) rfl
theorem tw_1789 : (Cond.methodLink "PloughCallLaw" 55 ⟨"PloughCallModel", "name", "(II)Z"⟩) ∈ lwg := lm2 (ltb_7 (List.mem_of_getElem? (i := 231) (by decide +kernel))) rfl
theorem tw_1790 : (Cond.instanceMethod ⟨"PloughCallModel", "name", "(II)Z"⟩) ∈ lwg := lm2 (ltb_7 (List.mem_of_getElem? (i := 232) (by decide +kernel))) rfl
theorem tw_1791 : (Cond.selects "PloughCallModel" ⟨"PloughCallModel", "name", "(II)Z"⟩ ⟨"PloughCallModel", "name", "(II)Z"⟩) ∈ lwg := lm2 (ltb_7 (List.mem_of_getElem? (i := 233) (by decide +kernel))) rfl
theorem tw_1792 : (Cond.code ⟨"PloughCallModel", "name", "(II)Z"⟩ prog_15_method_68_code 3 (some FieldType.boolean)) ∈ lwg := lm2 (ltb_7 (List.mem_of_getElem? (i := 234) (by decide +kernel))) rfl
theorem tw_1793 : (Cond.methodLink "PloughCallModel" 456 ⟨"PloughCallModel", "holds", "()V"⟩) ∈ lwg := lm2 (ltb_7 (List.mem_of_getElem? (i := 235) (by decide +kernel))) rfl
theorem tw_1795 : (Cond.instanceMethod ⟨"PloughCallModel", "holds", "()V"⟩) ∈ lwg := lm2 (ltb_7 (List.mem_of_getElem? (i := 237) (by decide +kernel))) rfl
theorem tw_1796 : (Cond.code ⟨"PloughCallModel", "holds", "()V"⟩ prog_15_method_67_code 2 none) ∈ lwg := lm2 (ltb_7 (List.mem_of_getElem? (i := 238) (by decide +kernel))) rfl
theorem tw_1797 : (Cond.methodLink "PloughCallModel" 452 ⟨"PloughCallModel", "copies", "([II[II)V"⟩) ∈ lwg := lm2 (ltb_7 (List.mem_of_getElem? (i := 239) (by decide +kernel))) rfl
theorem tw_1798 : (Cond.static ⟨"PloughCallModel", "copies", "([II[II)V"⟩) ∈ lwg := lm2 (ltb_8 (List.mem_of_getElem? (i := 0) (by decide +kernel))) rfl
theorem tw_1799 : (Cond.code ⟨"PloughCallModel", "copies", "([II[II)V"⟩ prog_15_method_42_code 5 none) ∈ lwg := lm2 (ltb_8 (List.mem_of_getElem? (i := 1) (by decide +kernel))) rfl
theorem tw_1800 : (Cond.methodLink "PloughCallModel" 459 ⟨"PloughCallModel", "laysPower", "(I)V"⟩) ∈ lwg := lm2 (ltb_8 (List.mem_of_getElem? (i := 2) (by decide +kernel))) rfl
theorem tw_1802 : (Cond.instanceMethod ⟨"PloughCallModel", "laysPower", "(I)V"⟩) ∈ lwg := lm2 (ltb_8 (List.mem_of_getElem? (i := 4) (by decide +kernel))) rfl
theorem tw_1803 : (Cond.code ⟨"PloughCallModel", "laysPower", "(I)V"⟩ prog_15_method_58_code 2 none) ∈ lwg := lm2 (ltb_8 (List.mem_of_getElem? (i := 5) (by decide +kernel))) rfl
theorem tw_1804 : (Cond.methodLink "PloughCallModel" 413 ⟨"PloughCallModel", "goesHome", "()V"⟩) ∈ lwg := lm2 (ltb_8 (List.mem_of_getElem? (i := 6) (by decide +kernel))) rfl
theorem tw_1806 : (Cond.instanceMethod ⟨"PloughCallModel", "goesHome", "()V"⟩) ∈ lwg := lm2 (ltb_8 (List.mem_of_getElem? (i := 8) (by decide +kernel))) rfl
theorem tw_1807 : (Cond.code ⟨"PloughCallModel", "goesHome", "()V"⟩ prog_15_method_57_code 1 none) ∈ lwg := lm2 (ltb_8 (List.mem_of_getElem? (i := 9) (by decide +kernel))) rfl
theorem tw_1808 : (Cond.methodLink "PloughCallLaw" 60 ⟨"PloughCallModel", "master", "(I)Z"⟩) ∈ lwg := lm2 (ltb_8 (List.mem_of_getElem? (i := 10) (by decide +kernel))) rfl
theorem tw_1809 : (Cond.instanceMethod ⟨"PloughCallModel", "master", "(I)Z"⟩) ∈ lwg := lm2 (ltb_8 (List.mem_of_getElem? (i := 11) (by decide +kernel))) rfl
theorem tw_1810 : (Cond.selects "PloughCallModel" ⟨"PloughCallModel", "master", "(I)Z"⟩ ⟨"PloughCallModel", "master", "(I)Z"⟩) ∈ lwg := lm2 (ltb_8 (List.mem_of_getElem? (i := 12) (by decide +kernel))) rfl
theorem tw_1811 : (Cond.code ⟨"PloughCallModel", "master", "(I)Z"⟩ prog_15_method_69_code 2 (some FieldType.boolean)) ∈ lwg := lm2 (ltb_8 (List.mem_of_getElem? (i := 13) (by decide +kernel))) rfl
theorem tw_1812 : (Cond.methodLink "PloughCallModel" 462 ⟨"PloughCallModel", "canBeMaster", "(I)Z"⟩) ∈ lwg := lm2 (ltb_8 (List.mem_of_getElem? (i := 14) (by decide +kernel))) rfl
theorem tw_1814 : (Cond.instanceMethod ⟨"PloughCallModel", "canBeMaster", "(I)Z"⟩) ∈ lwg := lm2 (ltb_8 (List.mem_of_getElem? (i := 16) (by decide +kernel))) rfl
theorem tw_1815 : (Cond.code ⟨"PloughCallModel", "canBeMaster", "(I)Z"⟩ prog_15_method_59_code 2 (some FieldType.boolean)) ∈ lwg := lm2 (ltb_8 (List.mem_of_getElem? (i := 17) (by decide +kernel))) rfl
theorem tw_1816 : (Cond.methodLink "PloughCallLaw" 65 ⟨"PloughCallModel", "month", "(I)I"⟩) ∈ lwg := lm2 (ltb_8 (List.mem_of_getElem? (i := 18) (by decide +kernel))) rfl
theorem tw_1817 : (Cond.instanceMethod ⟨"PloughCallModel", "month", "(I)I"⟩) ∈ lwg := lm2 (ltb_8 (List.mem_of_getElem? (i := 19) (by decide +kernel))) rfl
theorem tw_1818 : (Cond.selects "PloughCallModel" ⟨"PloughCallModel", "month", "(I)I"⟩ ⟨"PloughCallModel", "month", "(I)I"⟩) ∈ lwg := lm2 (ltb_8 (List.mem_of_getElem? (i := 20) (by decide +kernel))) rfl
theorem tw_1819 : (Cond.code ⟨"PloughCallModel", "month", "(I)I"⟩ prog_15_method_70_code 2 (some FieldType.int)) ∈ lwg := lm2 (ltb_8 (List.mem_of_getElem? (i := 21) (by decide +kernel))) rfl
theorem tw_1820 : (Cond.methodLink "PloughCallModel" 465 ⟨"PloughCallModel", "passes", "(II)I"⟩) ∈ lwg := lm2 (ltb_8 (List.mem_of_getElem? (i := 22) (by decide +kernel))) rfl
theorem tw_1822 : (Cond.instanceMethod ⟨"PloughCallModel", "passes", "(II)I"⟩) ∈ lwg := lm2 (ltb_8 (List.mem_of_getElem? (i := 24) (by decide +kernel))) rfl
theorem tw_1823 : (Cond.code ⟨"PloughCallModel", "passes", "(II)I"⟩ prog_15_method_62_code 8 (some FieldType.int)) ∈ lwg := lm2 (ltb_8 (List.mem_of_getElem? (i := 25) (by decide +kernel))) rfl
theorem tw_1824 : (Cond.methodLink "PloughCallModel" 425 ⟨"PloughCallModel", "worksBy", "(III)I"⟩) ∈ lwg := lm2 (ltb_8 (List.mem_of_getElem? (i := 26) (by decide +kernel))) rfl
theorem tw_1826 : (Cond.instanceMethod ⟨"PloughCallModel", "worksBy", "(III)I"⟩) ∈ lwg := lm2 (ltb_8 (List.mem_of_getElem? (i := 28) (by decide +kernel))) rfl
theorem tw_1827 : (Cond.code ⟨"PloughCallModel", "worksBy", "(III)I"⟩ prog_15_method_54_code 5 (some FieldType.int)) ∈ lwg := lm2 (ltb_8 (List.mem_of_getElem? (i := 29) (by decide +kernel))) rfl
theorem tw_1828 : (Cond.methodLink "PloughCallModel" 403 ⟨"PloughCallModel", "worked", "(I)I"⟩) ∈ lwg := lm2 (ltb_8 (List.mem_of_getElem? (i := 30) (by decide +kernel))) rfl
theorem tw_1830 : (Cond.instanceMethod ⟨"PloughCallModel", "worked", "(I)I"⟩) ∈ lwg := lm2 (ltb_8 (List.mem_of_getElem? (i := 32) (by decide +kernel))) rfl
theorem tw_1831 : (Cond.code ⟨"PloughCallModel", "worked", "(I)I"⟩ prog_15_method_17_code 6 (some FieldType.int)) ∈ lwg := lm2 (ltb_8 (List.mem_of_getElem? (i := 33) (by decide +kernel))) rfl
theorem tw_1832 : (Cond.methodLink "PloughCallModel" 241 ⟨"PloughCallModel", "opens", "(I)V"⟩) ∈ lwg := lm2 (ltb_8 (List.mem_of_getElem? (i := 34) (by decide +kernel))) rfl
theorem tw_1834 : (Cond.instanceMethod ⟨"PloughCallModel", "opens", "(I)V"⟩) ∈ lwg := lm2 (ltb_8 (List.mem_of_getElem? (i := 36) (by decide +kernel))) rfl
theorem tw_1835 : (Cond.code ⟨"PloughCallModel", "opens", "(I)V"⟩ prog_15_method_14_code 2 none) ∈ lwg := lm2 (ltb_8 (List.mem_of_getElem? (i := 37) (by decide +kernel))) rfl
theorem tw_1836 : (Cond.methodLink "PloughCallModel" 238 ⟨"PloughCallModel", "sums", "(I)V"⟩) ∈ lwg := lm2 (ltb_8 (List.mem_of_getElem? (i := 38) (by decide +kernel))) rfl
theorem tw_1838 : (Cond.instanceMethod ⟨"PloughCallModel", "sums", "(I)V"⟩) ∈ lwg := lm2 (ltb_8 (List.mem_of_getElem? (i := 40) (by decide +kernel))) rfl
theorem tw_1839 : (Cond.code ⟨"PloughCallModel", "sums", "(I)V"⟩ prog_15_method_15_code 2 none) ∈ lwg := lm2 (ltb_8 (List.mem_of_getElem? (i := 41) (by decide +kernel))) rfl
theorem tw_1840 : (Cond.methodLink "PloughCallModel" 244 ⟨"PloughCallModel", "tests", "(I)V"⟩) ∈ lwg := lm2 (ltb_8 (List.mem_of_getElem? (i := 42) (by decide +kernel))) rfl
theorem tw_1842 : (Cond.instanceMethod ⟨"PloughCallModel", "tests", "(I)V"⟩) ∈ lwg := lm2 (ltb_8 (List.mem_of_getElem? (i := 44) (by decide +kernel))) rfl
theorem tw_1843 : (Cond.code ⟨"PloughCallModel", "tests", "(I)V"⟩ prog_15_method_16_code 3 none) ∈ lwg := lm2 (ltb_8 (List.mem_of_getElem? (i := 45) (by decide +kernel))) rfl
theorem tw_1844 : (Cond.methodLink "PloughCallModel" 406 ⟨"PloughCallModel", "between", "(III)I"⟩) ∈ lwg := lm2 (ltb_8 (List.mem_of_getElem? (i := 46) (by decide +kernel))) rfl
theorem tw_1845 : (Cond.static ⟨"PloughCallModel", "between", "(III)I"⟩) ∈ lwg := lm2 (ltb_8 (List.mem_of_getElem? (i := 47) (by decide +kernel))) rfl
theorem tw_1846 : (Cond.code ⟨"PloughCallModel", "between", "(III)I"⟩ prog_15_method_4_code 3 (some FieldType.int)) ∈ lwg := lm2 (ltb_8 (List.mem_of_getElem? (i := 48) (by decide +kernel))) rfl
theorem tw_1847 : (Cond.methodLink "PloughCallModel" 428 ⟨"PloughCallModel", "lessens", "(II)V"⟩) ∈ lwg := lm2 (ltb_8 (List.mem_of_getElem? (i := 49) (by decide +kernel))) rfl
theorem tw_1849 : (Cond.instanceMethod ⟨"PloughCallModel", "lessens", "(II)V"⟩) ∈ lwg := lm2 (ltb_8 (List.mem_of_getElem? (i := 51) (by decide +kernel))) rfl
theorem tw_1850 : (Cond.code ⟨"PloughCallModel", "lessens", "(II)V"⟩ prog_15_method_61_code 3 none) ∈ lwg := lm2 (ltb_8 (List.mem_of_getElem? (i := 52) (by decide +kernel))) rfl
theorem tw_1851 : (Cond.methodLink "PloughCallModel" 422 ⟨"java/lang/Math", "max", "(II)I"⟩) ∈ lwg := lm2 (ltb_8 (List.mem_of_getElem? (i := 53) (by decide +kernel))) rfl
theorem tw_1852 : (Cond.methodLink "PloughCallModel" 431 ⟨"PloughCallModel", "likes", "(II)V"⟩) ∈ lwg := lm2 (ltb_8 (List.mem_of_getElem? (i := 54) (by decide +kernel))) rfl
theorem tw_1854 : (Cond.instanceMethod ⟨"PloughCallModel", "likes", "(II)V"⟩) ∈ lwg := lm2 (ltb_8 (List.mem_of_getElem? (i := 56) (by decide +kernel))) rfl
theorem tw_1855 : (Cond.code ⟨"PloughCallModel", "likes", "(II)V"⟩ prog_15_method_60_code 3 none) ∈ lwg := lm2 (ltb_8 (List.mem_of_getElem? (i := 57) (by decide +kernel))) rfl
theorem tw_1856 : (Cond.methodLink "PloughCallModel" 416 ⟨"java/lang/Math", "min", "(II)I"⟩) ∈ lwg := lm2 (ltb_8 (List.mem_of_getElem? (i := 58) (by decide +kernel))) rfl
theorem tw_1857 : (Cond.methodLink "PloughCallModel" 434 ⟨"PloughCallModel", "endsMonth", "(II)V"⟩) ∈ lwg := lm2 (ltb_8 (List.mem_of_getElem? (i := 59) (by decide +kernel))) rfl
theorem tw_1859 : (Cond.instanceMethod ⟨"PloughCallModel", "endsMonth", "(II)V"⟩) ∈ lwg := lm2 (ltb_8 (List.mem_of_getElem? (i := 61) (by decide +kernel))) rfl
theorem tw_1860 : (Cond.code ⟨"PloughCallModel", "endsMonth", "(II)V"⟩ prog_15_method_63_code 3 none) ∈ lwg := lm2 (ltb_8 (List.mem_of_getElem? (i := 62) (by decide +kernel))) rfl
theorem tw_1861 : (Cond.methodLink "PloughCallModel" 437 ⟨"PloughCallModel", "together", "()I"⟩) ∈ lwg := lm2 (ltb_8 (List.mem_of_getElem? (i := 63) (by decide +kernel))) rfl
theorem tw_1863 : (Cond.instanceMethod ⟨"PloughCallModel", "together", "()I"⟩) ∈ lwg := lm2 (ltb_8 (List.mem_of_getElem? (i := 65) (by decide +kernel))) rfl
theorem tw_1864 : (Cond.code ⟨"PloughCallModel", "together", "()I"⟩ prog_15_method_53_code 3 (some FieldType.int)) ∈ lwg := lm2 (ltb_8 (List.mem_of_getElem? (i := 66) (by decide +kernel))) rfl
theorem tw_1865 : (Cond.methodLink "PloughCallModel" 440 ⟨"PloughCallModel", "keepsBy", "(III)Z"⟩) ∈ lwg := lm2 (ltb_8 (List.mem_of_getElem? (i := 67) (by decide +kernel))) rfl
theorem tw_1867 : (Cond.instanceMethod ⟨"PloughCallModel", "keepsBy", "(III)Z"⟩) ∈ lwg := lm2 (ltb_8 (List.mem_of_getElem? (i := 69) (by decide +kernel))) rfl
theorem tw_1868 : (Cond.code ⟨"PloughCallModel", "keepsBy", "(III)Z"⟩ prog_15_method_55_code 5 (some FieldType.boolean)) ∈ lwg := lm2 (ltb_8 (List.mem_of_getElem? (i := 70) (by decide +kernel))) rfl
theorem tw_1869 : (Cond.methodLink "PloughCallLaw" 69 ⟨"PloughCallModel", "disobey", "(II)I"⟩) ∈ lwg := lm2 (ltb_8 (List.mem_of_getElem? (i := 71) (by decide +kernel))) rfl
theorem tw_1870 : (Cond.instanceMethod ⟨"PloughCallModel", "disobey", "(II)I"⟩) ∈ lwg := lm2 (ltb_8 (List.mem_of_getElem? (i := 72) (by decide +kernel))) rfl
theorem tw_1871 : (Cond.selects "PloughCallModel" ⟨"PloughCallModel", "disobey", "(II)I"⟩ ⟨"PloughCallModel", "disobey", "(II)I"⟩) ∈ lwg := lm2 (ltb_8 (List.mem_of_getElem? (i := 73) (by decide +kernel))) rfl
theorem tw_1872 : (Cond.code ⟨"PloughCallModel", "disobey", "(II)I"⟩ prog_15_method_72_code 3 (some FieldType.int)) ∈ lwg := lm2 (ltb_8 (List.mem_of_getElem? (i := 74) (by decide +kernel))) rfl
theorem tw_1873 : (Cond.methodLink "PloughCallModel" 468 ⟨"PloughCallModel", "canDisobey", "()Z"⟩) ∈ lwg := lm2 (ltb_8 (List.mem_of_getElem? (i := 75) (by decide +kernel))) rfl
theorem tw_1875 : (Cond.instanceMethod ⟨"PloughCallModel", "canDisobey", "()Z"⟩) ∈ lwg := lm2 (ltb_8 (List.mem_of_getElem? (i := 77) (by decide +kernel))) rfl
theorem tw_1876 : (Cond.code ⟨"PloughCallModel", "canDisobey", "()Z"⟩ prog_15_method_71_code 1 (some FieldType.boolean)) ∈ lwg := lm2 (ltb_8 (List.mem_of_getElem? (i := 78) (by decide +kernel))) rfl
theorem tw_1877 : (Cond.methodLink "PloughCallLaw" 73 ⟨"PloughCallModel", "lay", "()I"⟩) ∈ lwg := lm2 (ltb_8 (List.mem_of_getElem? (i := 79) (by decide +kernel))) rfl
theorem tw_1878 : (Cond.instanceMethod ⟨"PloughCallModel", "lay", "()I"⟩) ∈ lwg := lm2 (ltb_8 (List.mem_of_getElem? (i := 80) (by decide +kernel))) rfl
theorem tw_1879 : (Cond.selects "PloughCallModel" ⟨"PloughCallModel", "lay", "()I"⟩ ⟨"PloughCallModel", "lay", "()I"⟩) ∈ lwg := lm2 (ltb_8 (List.mem_of_getElem? (i := 81) (by decide +kernel))) rfl
theorem tw_1880 : (Cond.code ⟨"PloughCallModel", "lay", "()I"⟩ prog_15_method_75_code 1 (some FieldType.int)) ∈ lwg := lm2 (ltb_8 (List.mem_of_getElem? (i := 82) (by decide +kernel))) rfl
theorem tw_1881 : (Cond.methodLink "PloughCallModel" 471 ⟨"PloughCallModel", "canLay", "()Z"⟩) ∈ lwg := lm2 (ltb_8 (List.mem_of_getElem? (i := 83) (by decide +kernel))) rfl
theorem tw_1883 : (Cond.instanceMethod ⟨"PloughCallModel", "canLay", "()Z"⟩) ∈ lwg := lm2 (ltb_8 (List.mem_of_getElem? (i := 85) (by decide +kernel))) rfl
theorem tw_1884 : (Cond.code ⟨"PloughCallModel", "canLay", "()Z"⟩ prog_15_method_73_code 1 (some FieldType.boolean)) ∈ lwg := lm2 (ltb_8 (List.mem_of_getElem? (i := 86) (by decide +kernel))) rfl
theorem tw_1885 : (Cond.methodLink "PloughCallModel" 474 ⟨"PloughCallModel", "laysDown", "()I"⟩) ∈ lwg := lm2 (ltb_8 (List.mem_of_getElem? (i := 87) (by decide +kernel))) rfl
theorem tw_1887 : (Cond.instanceMethod ⟨"PloughCallModel", "laysDown", "()I"⟩) ∈ lwg := lm2 (ltb_8 (List.mem_of_getElem? (i := 89) (by decide +kernel))) rfl
theorem tw_1888 : (Cond.code ⟨"PloughCallModel", "laysDown", "()I"⟩ prog_15_method_74_code 2 (some FieldType.int)) ∈ lwg := lm2 (ltb_8 (List.mem_of_getElem? (i := 90) (by decide +kernel))) rfl
theorem tw_1889 : (Cond.methodLink "PloughCallLaw" 78 ⟨"PloughCallModel", "undo", "()Z"⟩) ∈ lwg := lm2 (ltb_8 (List.mem_of_getElem? (i := 91) (by decide +kernel))) rfl
theorem tw_1890 : (Cond.instanceMethod ⟨"PloughCallModel", "undo", "()Z"⟩) ∈ lwg := lm2 (ltb_8 (List.mem_of_getElem? (i := 92) (by decide +kernel))) rfl
theorem tw_1891 : (Cond.selects "PloughCallModel" ⟨"PloughCallModel", "undo", "()Z"⟩ ⟨"PloughCallModel", "undo", "()Z"⟩) ∈ lwg := lm2 (ltb_8 (List.mem_of_getElem? (i := 93) (by decide +kernel))) rfl
theorem tw_1892 : (Cond.code ⟨"PloughCallModel", "undo", "()Z"⟩ prog_15_method_76_code 1 (some FieldType.boolean)) ∈ lwg := lm2 (ltb_8 (List.mem_of_getElem? (i := 94) (by decide +kernel))) rfl
theorem tw_1893 : (Cond.methodLink "PloughCallLaw" 82 ⟨"PloughCallModel", "judged", "(I)I"⟩) ∈ lwg := lm2 (ltb_8 (List.mem_of_getElem? (i := 95) (by decide +kernel))) rfl
theorem tw_1894 : (Cond.instanceMethod ⟨"PloughCallModel", "judged", "(I)I"⟩) ∈ lwg := lm2 (ltb_8 (List.mem_of_getElem? (i := 96) (by decide +kernel))) rfl
theorem tw_1895 : (Cond.selects "PloughCallModel" ⟨"PloughCallModel", "judged", "(I)I"⟩ ⟨"PloughCallModel", "judged", "(I)I"⟩) ∈ lwg := lm2 (ltb_8 (List.mem_of_getElem? (i := 97) (by decide +kernel))) rfl
theorem tw_1896 : (Cond.code ⟨"PloughCallModel", "judged", "(I)I"⟩ prog_15_method_78_code 5 (some FieldType.int)) ∈ lwg := lm2 (ltb_8 (List.mem_of_getElem? (i := 98) (by decide +kernel))) rfl
theorem tw_1897 : (Cond.methodLink "PloughCallModel" 477 ⟨"PloughCallModel", "goes", "(I)Z"⟩) ∈ lwg := lm2 (ltb_8 (List.mem_of_getElem? (i := 99) (by decide +kernel))) rfl
theorem tw_1899 : (Cond.instanceMethod ⟨"PloughCallModel", "goes", "(I)Z"⟩) ∈ lwg := lm2 (ltb_8 (List.mem_of_getElem? (i := 101) (by decide +kernel))) rfl
theorem tw_1900 : (Cond.code ⟨"PloughCallModel", "goes", "(I)Z"⟩ prog_15_method_77_code 5 (some FieldType.boolean)) ∈ lwg := lm2 (ltb_8 (List.mem_of_getElem? (i := 102) (by decide +kernel))) rfl
theorem tw_1901 : (Cond.methodLink "PloughCallLaw" 86 ⟨"PloughCallModel", "soon", "(II)I"⟩) ∈ lwg := lm2 (ltb_8 (List.mem_of_getElem? (i := 103) (by decide +kernel))) rfl
theorem tw_1902 : (Cond.instanceMethod ⟨"PloughCallModel", "soon", "(II)I"⟩) ∈ lwg := lm2 (ltb_8 (List.mem_of_getElem? (i := 104) (by decide +kernel))) rfl
theorem tw_1903 : (Cond.selects "PloughCallModel" ⟨"PloughCallModel", "soon", "(II)I"⟩ ⟨"PloughCallModel", "soon", "(II)I"⟩) ∈ lwg := lm2 (ltb_8 (List.mem_of_getElem? (i := 105) (by decide +kernel))) rfl
theorem tw_1904 : (Cond.code ⟨"PloughCallModel", "soon", "(II)I"⟩ prog_15_method_80_code 3 (some FieldType.int)) ∈ lwg := lm2 (ltb_8 (List.mem_of_getElem? (i := 106) (by decide +kernel))) rfl
theorem tw_1905 : (Cond.methodLink "PloughCallModel" 480 ⟨"PloughCallModel", "soonOf", "(II)I"⟩) ∈ lwg := lm2 (ltb_8 (List.mem_of_getElem? (i := 107) (by decide +kernel))) rfl
theorem tw_1907 : (Cond.instanceMethod ⟨"PloughCallModel", "soonOf", "(II)I"⟩) ∈ lwg := lm2 (ltb_8 (List.mem_of_getElem? (i := 109) (by decide +kernel))) rfl
theorem tw_1908 : (Cond.code ⟨"PloughCallModel", "soonOf", "(II)I"⟩ prog_15_method_79_code 5 (some FieldType.int)) ∈ lwg := lm2 (ltb_8 (List.mem_of_getElem? (i := 110) (by decide +kernel))) rfl
theorem tw_1909 : (Cond.methodLink "PloughCallLaw" 90 ⟨"PloughCallModel", "whom", "(I)I"⟩) ∈ lwg := lm2 (ltb_8 (List.mem_of_getElem? (i := 111) (by decide +kernel))) rfl
theorem tw_1910 : (Cond.instanceMethod ⟨"PloughCallModel", "whom", "(I)I"⟩) ∈ lwg := lm2 (ltb_8 (List.mem_of_getElem? (i := 112) (by decide +kernel))) rfl
theorem tw_1911 : (Cond.selects "PloughCallModel" ⟨"PloughCallModel", "whom", "(I)I"⟩ ⟨"PloughCallModel", "whom", "(I)I"⟩) ∈ lwg := lm2 (ltb_8 (List.mem_of_getElem? (i := 113) (by decide +kernel))) rfl
theorem tw_1912 : (Cond.code ⟨"PloughCallModel", "whom", "(I)I"⟩ prog_15_method_85_code 2 (some FieldType.int)) ∈ lwg := lm2 (ltb_8 (List.mem_of_getElem? (i := 114) (by decide +kernel))) rfl
theorem tw_1913 : (Cond.methodLink "PloughCallModel" 492 ⟨"PloughCallModel", "whomFor", "(II)I"⟩) ∈ lwg := lm2 (ltb_8 (List.mem_of_getElem? (i := 115) (by decide +kernel))) rfl
theorem tw_1915 : (Cond.instanceMethod ⟨"PloughCallModel", "whomFor", "(II)I"⟩) ∈ lwg := lm2 (ltb_8 (List.mem_of_getElem? (i := 117) (by decide +kernel))) rfl
theorem tw_1916 : (Cond.code ⟨"PloughCallModel", "whomFor", "(II)I"⟩ prog_15_method_84_code 7 (some FieldType.int)) ∈ lwg := lm2 (ltb_8 (List.mem_of_getElem? (i := 118) (by decide +kernel))) rfl
theorem tw_1917 : (Cond.methodLink "PloughCallModel" 486 ⟨"PloughCallModel", "isNamedBySome", "(I)Z"⟩) ∈ lwg := lm2 (ltb_8 (List.mem_of_getElem? (i := 119) (by decide +kernel))) rfl
theorem tw_1919 : (Cond.instanceMethod ⟨"PloughCallModel", "isNamedBySome", "(I)Z"⟩) ∈ lwg := lm2 (ltb_8 (List.mem_of_getElem? (i := 121) (by decide +kernel))) rfl
theorem tw_1920 : (Cond.code ⟨"PloughCallModel", "isNamedBySome", "(I)Z"⟩ prog_15_method_81_code 3 (some FieldType.boolean)) ∈ lwg := lm2 (ltb_8 (List.mem_of_getElem? (i := 122) (by decide +kernel))) rfl
theorem tw_1921 : (Cond.methodLink "PloughCallModel" 489 ⟨"PloughCallModel", "wouldKeep", "(III)Z"⟩) ∈ lwg := lm2 (ltb_8 (List.mem_of_getElem? (i := 123) (by decide +kernel))) rfl
theorem tw_1923 : (Cond.instanceMethod ⟨"PloughCallModel", "wouldKeep", "(III)Z"⟩) ∈ lwg := lm2 (ltb_8 (List.mem_of_getElem? (i := 125) (by decide +kernel))) rfl
theorem tw_1924 : (Cond.code ⟨"PloughCallModel", "wouldKeep", "(III)Z"⟩ prog_15_method_83_code 7 (some FieldType.boolean)) ∈ lwg := lm2 (ltb_8 (List.mem_of_getElem? (i := 126) (by decide +kernel))) rfl
theorem tw_1925 : (Cond.methodLink "PloughCallModel" 483 ⟨"PloughCallModel", "grownBy", "(II)I"⟩) ∈ lwg := lm2 (ltb_8 (List.mem_of_getElem? (i := 127) (by decide +kernel))) rfl
theorem tw_1927 : (Cond.instanceMethod ⟨"PloughCallModel", "grownBy", "(II)I"⟩) ∈ lwg := lm2 (ltb_8 (List.mem_of_getElem? (i := 129) (by decide +kernel))) rfl
theorem tw_1928 : (Cond.code ⟨"PloughCallModel", "grownBy", "(II)I"⟩ prog_15_method_82_code 3 (some FieldType.int)) ∈ lwg := lm2 (ltb_8 (List.mem_of_getElem? (i := 130) (by decide +kernel))) rfl
theorem tw_1929 : (Cond.methodLink "PloughCallLaw" 94 ⟨"PloughCallModel", "terms", "(I)I"⟩) ∈ lwg := lm2 (ltb_8 (List.mem_of_getElem? (i := 131) (by decide +kernel))) rfl
theorem tw_1930 : (Cond.instanceMethod ⟨"PloughCallModel", "terms", "(I)I"⟩) ∈ lwg := lm2 (ltb_8 (List.mem_of_getElem? (i := 132) (by decide +kernel))) rfl
theorem tw_1931 : (Cond.selects "PloughCallModel" ⟨"PloughCallModel", "terms", "(I)I"⟩ ⟨"PloughCallModel", "terms", "(I)I"⟩) ∈ lwg := lm2 (ltb_8 (List.mem_of_getElem? (i := 133) (by decide +kernel))) rfl
theorem tw_1932 : (Cond.code ⟨"PloughCallModel", "terms", "(I)I"⟩ prog_15_method_86_code 3 (some FieldType.int)) ∈ lwg := lm2 (ltb_8 (List.mem_of_getElem? (i := 134) (by decide +kernel))) rfl
theorem tw_1933 : (Cond.methodLink "PloughCallLaw" 98 ⟨"PloughCallModel", "headings", "(II)I"⟩) ∈ lwg := lm2 (ltb_8 (List.mem_of_getElem? (i := 135) (by decide +kernel))) rfl
theorem tw_1934 : (Cond.instanceMethod ⟨"PloughCallModel", "headings", "(II)I"⟩) ∈ lwg := lm2 (ltb_8 (List.mem_of_getElem? (i := 136) (by decide +kernel))) rfl
theorem tw_1935 : (Cond.selects "PloughCallModel" ⟨"PloughCallModel", "headings", "(II)I"⟩ ⟨"PloughCallModel", "headings", "(II)I"⟩) ∈ lwg := lm2 (ltb_8 (List.mem_of_getElem? (i := 137) (by decide +kernel))) rfl
theorem tw_1936 : (Cond.code ⟨"PloughCallModel", "headings", "(II)I"⟩ prog_15_method_88_code 3 (some FieldType.int)) ∈ lwg := lm2 (ltb_8 (List.mem_of_getElem? (i := 138) (by decide +kernel))) rfl
theorem tw_1937 : (Cond.methodLink "PloughCallModel" 498 ⟨"PloughCallModel", "heads", "(II)V"⟩) ∈ lwg := lm2 (ltb_8 (List.mem_of_getElem? (i := 139) (by decide +kernel))) rfl
theorem tw_1939 : (Cond.instanceMethod ⟨"PloughCallModel", "heads", "(II)V"⟩) ∈ lwg := lm2 (ltb_8 (List.mem_of_getElem? (i := 141) (by decide +kernel))) rfl
theorem tw_1940 : (Cond.code ⟨"PloughCallModel", "heads", "(II)V"⟩ prog_15_method_87_code 5 none) ∈ lwg := lm2 (ltb_8 (List.mem_of_getElem? (i := 142) (by decide +kernel))) rfl
theorem tw_1941 : (Cond.methodLink "PloughCallLaw" 102 ⟨"PloughCallModel", "all", "(I)I"⟩) ∈ lwg := lm2 (ltb_8 (List.mem_of_getElem? (i := 143) (by decide +kernel))) rfl
theorem tw_1942 : (Cond.instanceMethod ⟨"PloughCallModel", "all", "(I)I"⟩) ∈ lwg := lm2 (ltb_8 (List.mem_of_getElem? (i := 144) (by decide +kernel))) rfl
theorem tw_1943 : (Cond.selects "PloughCallModel" ⟨"PloughCallModel", "all", "(I)I"⟩ ⟨"PloughCallModel", "all", "(I)I"⟩) ∈ lwg := lm2 (ltb_8 (List.mem_of_getElem? (i := 145) (by decide +kernel))) rfl
theorem tw_1944 : (Cond.code ⟨"PloughCallModel", "all", "(I)I"⟩ prog_15_method_90_code 2 (some FieldType.int)) ∈ lwg := lm2 (ltb_8 (List.mem_of_getElem? (i := 146) (by decide +kernel))) rfl
theorem tw_1945 : (Cond.methodLink "PloughCallModel" 504 ⟨"PloughCallModel", "gives", "(III)V"⟩) ∈ lwg := lm2 (ltb_8 (List.mem_of_getElem? (i := 147) (by decide +kernel))) rfl
theorem tw_1947 : (Cond.instanceMethod ⟨"PloughCallModel", "gives", "(III)V"⟩) ∈ lwg := lm2 (ltb_8 (List.mem_of_getElem? (i := 149) (by decide +kernel))) rfl
theorem tw_1948 : (Cond.code ⟨"PloughCallModel", "gives", "(III)V"⟩ prog_15_method_89_code 6 none) ∈ lwg := lm2 (ltb_8 (List.mem_of_getElem? (i := 150) (by decide +kernel))) rfl
theorem tw_1949 : (Cond.methodLink "PloughCallLaw" 106 ⟨"PloughCallModel", "waits", "(I)I"⟩) ∈ lwg := lm2 (ltb_8 (List.mem_of_getElem? (i := 151) (by decide +kernel))) rfl
theorem tw_1950 : (Cond.instanceMethod ⟨"PloughCallModel", "waits", "(I)I"⟩) ∈ lwg := lm2 (ltb_8 (List.mem_of_getElem? (i := 152) (by decide +kernel))) rfl
theorem tw_1951 : (Cond.selects "PloughCallModel" ⟨"PloughCallModel", "waits", "(I)I"⟩ ⟨"PloughCallModel", "waits", "(I)I"⟩) ∈ lwg := lm2 (ltb_8 (List.mem_of_getElem? (i := 153) (by decide +kernel))) rfl
theorem tw_1952 : (Cond.code ⟨"PloughCallModel", "waits", "(I)I"⟩ prog_15_method_91_code 5 (some FieldType.int)) ∈ lwg := lm2 (ltb_8 (List.mem_of_getElem? (i := 154) (by decide +kernel))) rfl
theorem tw_1953 : (Cond.methodLink "PloughCallLaw" 112 ⟨"PloughCallModel", "chance", "(IIII)I"⟩) ∈ lwg := lm2 (ltb_8 (List.mem_of_getElem? (i := 155) (by decide +kernel))) rfl
theorem tw_1954 : (Cond.instanceMethod ⟨"PloughCallModel", "chance", "(IIII)I"⟩) ∈ lwg := lm2 (ltb_8 (List.mem_of_getElem? (i := 156) (by decide +kernel))) rfl
theorem tw_1955 : (Cond.selects "PloughCallModel" ⟨"PloughCallModel", "chance", "(IIII)I"⟩ ⟨"PloughCallModel", "chance", "(IIII)I"⟩) ∈ lwg := lm2 (ltb_8 (List.mem_of_getElem? (i := 157) (by decide +kernel))) rfl
theorem tw_1956 : (Cond.code ⟨"PloughCallModel", "chance", "(IIII)I"⟩ prog_15_method_93_code 8 (some FieldType.int)) ∈ lwg := lm2 (ltb_8 (List.mem_of_getElem? (i := 158) (by decide +kernel))) rfl
theorem tw_1957 : (Cond.constantLong "PloughCallModel" 508 10) ∈ lwg := lm2 (ltb_8 (List.mem_of_getElem? (i := 159) (by decide +kernel))) rfl
theorem tw_1958 : (Cond.methodLink "PloughCallModel" 510 ⟨"PloughCallModel", "endsBy", "(IIIIII)J"⟩) ∈ lwg := lm2 (ltb_8 (List.mem_of_getElem? (i := 160) (by decide +kernel))) rfl
theorem tw_1960 : (Cond.instanceMethod ⟨"PloughCallModel", "endsBy", "(IIIIII)J"⟩) ∈ lwg := lm2 (ltb_8 (List.mem_of_getElem? (i := 162) (by decide +kernel))) rfl
theorem tw_1961 : (Cond.code ⟨"PloughCallModel", "endsBy", "(IIIIII)J"⟩ prog_15_method_92_code 11 (some FieldType.long)) ∈ lwg := lm2 (ltb_8 (List.mem_of_getElem? (i := 163) (by decide +kernel))) rfl
theorem tw_1962 : (Cond.constantLong "PloughCallModel" 514 1000000) ∈ lwg := lm2 (ltb_8 (List.mem_of_getElem? (i := 164) (by decide +kernel))) rfl
theorem tw_1963 : (Cond.methodLink "PloughCallLaw" 119 ⟨"PloughCallModel", "falls", "(I)I"⟩) ∈ lwg := lm2 (ltb_8 (List.mem_of_getElem? (i := 165) (by decide +kernel))) rfl
theorem tw_1964 : (Cond.instanceMethod ⟨"PloughCallModel", "falls", "(I)I"⟩) ∈ lwg := lm2 (ltb_8 (List.mem_of_getElem? (i := 166) (by decide +kernel))) rfl
theorem tw_1965 : (Cond.selects "PloughCallModel" ⟨"PloughCallModel", "falls", "(I)I"⟩ ⟨"PloughCallModel", "falls", "(I)I"⟩) ∈ lwg := lm2 (ltb_8 (List.mem_of_getElem? (i := 167) (by decide +kernel))) rfl
theorem tw_1966 : (Cond.code ⟨"PloughCallModel", "falls", "(I)I"⟩ prog_15_method_96_code 2 (some FieldType.int)) ∈ lwg := lm2 (ltb_8 (List.mem_of_getElem? (i := 168) (by decide +kernel))) rfl
theorem tw_1967 : (Cond.methodLink "PloughCallModel" 516 ⟨"PloughCallModel", "areDecrees", "(I)Z"⟩) ∈ lwg := lm2 (ltb_8 (List.mem_of_getElem? (i := 169) (by decide +kernel))) rfl
theorem tw_1969 : (Cond.instanceMethod ⟨"PloughCallModel", "areDecrees", "(I)Z"⟩) ∈ lwg := lm2 (ltb_8 (List.mem_of_getElem? (i := 171) (by decide +kernel))) rfl
theorem tw_1970 : (Cond.code ⟨"PloughCallModel", "areDecrees", "(I)Z"⟩ prog_15_method_95_code 2 (some FieldType.boolean)) ∈ lwg := lm2 (ltb_8 (List.mem_of_getElem? (i := 172) (by decide +kernel))) rfl
theorem tw_1971 : (Cond.methodLink "PloughCallModel" 519 ⟨"PloughCallModel", "fallen", "(I)I"⟩) ∈ lwg := lm2 (ltb_8 (List.mem_of_getElem? (i := 173) (by decide +kernel))) rfl
theorem tw_1973 : (Cond.instanceMethod ⟨"PloughCallModel", "fallen", "(I)I"⟩) ∈ lwg := lm2 (ltb_8 (List.mem_of_getElem? (i := 175) (by decide +kernel))) rfl
theorem tw_1974 : (Cond.code ⟨"PloughCallModel", "fallen", "(I)I"⟩ prog_15_method_94_code 4 (some FieldType.int)) ∈ lwg := lm2 (ltb_8 (List.mem_of_getElem? (i := 176) (by decide +kernel))) rfl
theorem tw_1975 : (Cond.methodLink "PloughCallLaw" 123 ⟨"PloughCallModel", "anew", "(II)I"⟩) ∈ lwg := lm2 (ltb_8 (List.mem_of_getElem? (i := 177) (by decide +kernel))) rfl
theorem tw_1976 : (Cond.instanceMethod ⟨"PloughCallModel", "anew", "(II)I"⟩) ∈ lwg := lm2 (ltb_8 (List.mem_of_getElem? (i := 178) (by decide +kernel))) rfl
theorem tw_1977 : (Cond.selects "PloughCallModel" ⟨"PloughCallModel", "anew", "(II)I"⟩ ⟨"PloughCallModel", "anew", "(II)I"⟩) ∈ lwg := lm2 (ltb_8 (List.mem_of_getElem? (i := 179) (by decide +kernel))) rfl
theorem tw_1978 : (Cond.code ⟨"PloughCallModel", "anew", "(II)I"⟩ prog_15_method_97_code 5 (some FieldType.int)) ∈ lwg := lm2 (ltb_8 (List.mem_of_getElem? (i := 180) (by decide +kernel))) rfl
theorem tw_1979 : (Cond.methodLink "PloughCallLaw" 128 ⟨"PloughCallModel", "tell", "(III)Z"⟩) ∈ lwg := lm2 (ltb_8 (List.mem_of_getElem? (i := 181) (by decide +kernel))) rfl
theorem tw_1980 : (Cond.instanceMethod ⟨"PloughCallModel", "tell", "(III)Z"⟩) ∈ lwg := lm2 (ltb_8 (List.mem_of_getElem? (i := 182) (by decide +kernel))) rfl
theorem tw_1981 : (Cond.selects "PloughCallModel" ⟨"PloughCallModel", "tell", "(III)Z"⟩ ⟨"PloughCallModel", "tell", "(III)Z"⟩) ∈ lwg := lm2 (ltb_8 (List.mem_of_getElem? (i := 183) (by decide +kernel))) rfl
theorem tw_1982 : (Cond.code ⟨"PloughCallModel", "tell", "(III)Z"⟩ prog_15_method_98_code 4 (some FieldType.boolean)) ∈ lwg := lm2 (ltb_8 (List.mem_of_getElem? (i := 184) (by decide +kernel))) rfl
theorem tw_1983 : (Cond.methodLink "PloughCallLaw" 132 ⟨"PloughCallModel", "who", "()I"⟩) ∈ lwg := lm2 (ltb_8 (List.mem_of_getElem? (i := 185) (by decide +kernel))) rfl
theorem tw_1984 : (Cond.instanceMethod ⟨"PloughCallModel", "who", "()I"⟩) ∈ lwg := lm2 (ltb_8 (List.mem_of_getElem? (i := 186) (by decide +kernel))) rfl
theorem tw_1985 : (Cond.selects "PloughCallModel" ⟨"PloughCallModel", "who", "()I"⟩ ⟨"PloughCallModel", "who", "()I"⟩) ∈ lwg := lm2 (ltb_8 (List.mem_of_getElem? (i := 187) (by decide +kernel))) rfl
theorem tw_1986 : (Cond.code ⟨"PloughCallModel", "who", "()I"⟩ prog_15_method_102_code 1 (some FieldType.int)) ∈ lwg := lm2 (ltb_8 (List.mem_of_getElem? (i := 188) (by decide +kernel))) rfl
theorem tw_1987 : (Cond.methodLink "PloughCallModel" 528 ⟨"PloughCallModel", "allWho", "()I"⟩) ∈ lwg := lm2 (ltb_8 (List.mem_of_getElem? (i := 189) (by decide +kernel))) rfl
theorem tw_1989 : (Cond.instanceMethod ⟨"PloughCallModel", "allWho", "()I"⟩) ∈ lwg := lm2 (ltb_8 (List.mem_of_getElem? (i := 191) (by decide +kernel))) rfl
theorem tw_1990 : (Cond.code ⟨"PloughCallModel", "allWho", "()I"⟩ prog_15_method_101_code 3 (some FieldType.int)) ∈ lwg := lm2 (ltb_8 (List.mem_of_getElem? (i := 192) (by decide +kernel))) rfl
theorem tw_1991 : (Cond.methodLink "PloughCallModel" 525 ⟨"PloughCallModel", "isAsTold", "(I)Z"⟩) ∈ lwg := lm2 (ltb_8 (List.mem_of_getElem? (i := 193) (by decide +kernel))) rfl
theorem tw_1993 : (Cond.instanceMethod ⟨"PloughCallModel", "isAsTold", "(I)Z"⟩) ∈ lwg := lm2 (ltb_8 (List.mem_of_getElem? (i := 195) (by decide +kernel))) rfl
theorem tw_1994 : (Cond.code ⟨"PloughCallModel", "isAsTold", "(I)Z"⟩ prog_15_method_100_code 3 (some FieldType.boolean)) ∈ lwg := lm2 (ltb_8 (List.mem_of_getElem? (i := 196) (by decide +kernel))) rfl
theorem tw_1995 : (Cond.methodLink "PloughCallModel" 522 ⟨"PloughCallModel", "sizeBy", "(III)I"⟩) ∈ lwg := lm2 (ltb_8 (List.mem_of_getElem? (i := 197) (by decide +kernel))) rfl
theorem tw_1997 : (Cond.instanceMethod ⟨"PloughCallModel", "sizeBy", "(III)I"⟩) ∈ lwg := lm2 (ltb_8 (List.mem_of_getElem? (i := 199) (by decide +kernel))) rfl
theorem tw_1998 : (Cond.code ⟨"PloughCallModel", "sizeBy", "(III)I"⟩ prog_15_method_99_code 6 (some FieldType.int)) ∈ lwg := lm2 (ltb_8 (List.mem_of_getElem? (i := 200) (by decide +kernel))) rfl
theorem tw_1999 : (Cond.methodLink "PloughCallLaw" 136 ⟨"PloughCallModel", "when", "(I)I"⟩) ∈ lwg := lm2 (ltb_8 (List.mem_of_getElem? (i := 201) (by decide +kernel))) rfl
theorem tw_2000 : (Cond.instanceMethod ⟨"PloughCallModel", "when", "(I)I"⟩) ∈ lwg := lm2 (ltb_8 (List.mem_of_getElem? (i := 202) (by decide +kernel))) rfl
theorem tw_2001 : (Cond.selects "PloughCallModel" ⟨"PloughCallModel", "when", "(I)I"⟩ ⟨"PloughCallModel", "when", "(I)I"⟩) ∈ lwg := lm2 (ltb_8 (List.mem_of_getElem? (i := 203) (by decide +kernel))) rfl
theorem tw_2002 : (Cond.code ⟨"PloughCallModel", "when", "(I)I"⟩ prog_15_method_104_code 7 (some FieldType.int)) ∈ lwg := lm2 (ltb_8 (List.mem_of_getElem? (i := 204) (by decide +kernel))) rfl
theorem tw_2003 : (Cond.methodLink "PloughCallModel" 531 ⟨"PloughCallModel", "mostAlike", "(III)I"⟩) ∈ lwg := lm2 (ltb_8 (List.mem_of_getElem? (i := 205) (by decide +kernel))) rfl
theorem tw_2005 : (Cond.instanceMethod ⟨"PloughCallModel", "mostAlike", "(III)I"⟩) ∈ lwg := lm2 (ltb_8 (List.mem_of_getElem? (i := 207) (by decide +kernel))) rfl
theorem tw_2006 : (Cond.code ⟨"PloughCallModel", "mostAlike", "(III)I"⟩ prog_15_method_103_code 8 (some FieldType.int)) ∈ lwg := lm2 (ltb_8 (List.mem_of_getElem? (i := 208) (by decide +kernel))) rfl
theorem tw_2007 : (Cond.methodLink "PloughCallLaw" 139 ⟨"PloughCallModel", "rests", "(IIII)I"⟩) ∈ lwg := lm2 (ltb_8 (List.mem_of_getElem? (i := 209) (by decide +kernel))) rfl
theorem tw_2008 : (Cond.instanceMethod ⟨"PloughCallModel", "rests", "(IIII)I"⟩) ∈ lwg := lm2 (ltb_8 (List.mem_of_getElem? (i := 210) (by decide +kernel))) rfl
theorem tw_2009 : (Cond.selects "PloughCallModel" ⟨"PloughCallModel", "rests", "(IIII)I"⟩ ⟨"PloughCallModel", "rests", "(IIII)I"⟩) ∈ lwg := lm2 (ltb_8 (List.mem_of_getElem? (i := 211) (by decide +kernel))) rfl
theorem tw_2010 : (Cond.code ⟨"PloughCallModel", "rests", "(IIII)I"⟩ prog_15_method_106_code 9 (some FieldType.int)) ∈ lwg := lm2 (ltb_8 (List.mem_of_getElem? (i := 212) (by decide +kernel))) rfl
theorem tw_2011 : (Cond.methodLink "PloughCallModel" 534 ⟨"PloughCallModel", "getsBy", "(IIIII)I"⟩) ∈ lwg := lm2 (ltb_8 (List.mem_of_getElem? (i := 213) (by decide +kernel))) rfl
theorem tw_2012 : (Cond.static ⟨"PloughCallModel", "getsBy", "(IIIII)I"⟩) ∈ lwg := lm2 (ltb_8 (List.mem_of_getElem? (i := 214) (by decide +kernel))) rfl
theorem tw_2013 : (Cond.code ⟨"PloughCallModel", "getsBy", "(IIIII)I"⟩ prog_15_method_105_code 5 (some FieldType.int)) ∈ lwg := lm2 (ltb_8 (List.mem_of_getElem? (i := 215) (by decide +kernel))) rfl
theorem tw_2014 : (Cond.methodLink "PloughCallLaw" 144 ⟨"PloughCallModel", "ages", "(III)I"⟩) ∈ lwg := lm2 (ltb_8 (List.mem_of_getElem? (i := 216) (by decide +kernel))) rfl
theorem tw_2015 : (Cond.instanceMethod ⟨"PloughCallModel", "ages", "(III)I"⟩) ∈ lwg := lm2 (ltb_8 (List.mem_of_getElem? (i := 217) (by decide +kernel))) rfl
theorem tw_2016 : (Cond.selects "PloughCallModel" ⟨"PloughCallModel", "ages", "(III)I"⟩ ⟨"PloughCallModel", "ages", "(III)I"⟩) ∈ lwg := lm2 (ltb_8 (List.mem_of_getElem? (i := 218) (by decide +kernel))) rfl
theorem tw_2017 : (Cond.code ⟨"PloughCallModel", "ages", "(III)I"⟩ prog_15_method_109_code 8 (some FieldType.int)) ∈ lwg := lm2 (ltb_8 (List.mem_of_getElem? (i := 219) (by decide +kernel))) rfl
theorem tw_2018 : (Cond.methodLink "PloughCallModel" 552 ⟨"PloughCallModel", "livesMonth", "()I"⟩) ∈ lwg := lm2 (ltb_8 (List.mem_of_getElem? (i := 220) (by decide +kernel))) rfl
theorem tw_2020 : (Cond.instanceMethod ⟨"PloughCallModel", "livesMonth", "()I"⟩) ∈ lwg := lm2 (ltb_8 (List.mem_of_getElem? (i := 222) (by decide +kernel))) rfl
theorem tw_2021 : (Cond.code ⟨"PloughCallModel", "livesMonth", "()I"⟩ prog_15_method_108_code 3 (some FieldType.int)) ∈ lwg := lm2 (ltb_8 (List.mem_of_getElem? (i := 223) (by decide +kernel))) rfl
theorem tw_2022 : (Cond.methodLink "PloughCallModel" 549 ⟨"PloughCallModel", "draws", "(I)I"⟩) ∈ lwg := lm2 (ltb_8 (List.mem_of_getElem? (i := 224) (by decide +kernel))) rfl
theorem tw_2024 : (Cond.instanceMethod ⟨"PloughCallModel", "draws", "(I)I"⟩) ∈ lwg := lm2 (ltb_8 (List.mem_of_getElem? (i := 226) (by decide +kernel))) rfl
theorem tw_2025 : (Cond.code ⟨"PloughCallModel", "draws", "(I)I"⟩ prog_15_method_107_code 2 (some FieldType.int)) ∈ lwg := lm2 (ltb_8 (List.mem_of_getElem? (i := 227) (by decide +kernel))) rfl
theorem tw_2026 : (Cond.constantLong "PloughCallModel" 541 1103515245) ∈ lwg := lm2 (ltb_8 (List.mem_of_getElem? (i := 228) (by decide +kernel))) rfl
theorem tw_2027 : (Cond.constantLong "PloughCallModel" 543 12345) ∈ lwg := lm2 (ltb_8 (List.mem_of_getElem? (i := 229) (by decide +kernel))) rfl
theorem tw_2028 : (Cond.constantLong "PloughCallModel" 545 2147483648) ∈ lwg := lm2 (ltb_8 (List.mem_of_getElem? (i := 230) (by decide +kernel))) rfl
theorem tw_2029 : (Cond.constantLong "PloughCallModel" 547 65536) ∈ lwg := lm2 (ltb_8 (List.mem_of_getElem? (i := 231) (by decide +kernel))) rfl
theorem tw_2030 : (Cond.methodLink "PloughCallLaw" 149 ⟨"PloughCallModel", "mark", "(IZ)Z"⟩) ∈ lwg := lm2 (ltb_8 (List.mem_of_getElem? (i := 232) (by decide +kernel))) rfl
theorem tw_2031 : (Cond.instanceMethod ⟨"PloughCallModel", "mark", "(IZ)Z"⟩) ∈ lwg := lm2 (ltb_8 (List.mem_of_getElem? (i := 233) (by decide +kernel))) rfl
theorem tw_2032 : (Cond.selects "PloughCallModel" ⟨"PloughCallModel", "mark", "(IZ)Z"⟩ ⟨"PloughCallModel", "mark", "(IZ)Z"⟩) ∈ lwg := lm2 (ltb_8 (List.mem_of_getElem? (i := 234) (by decide +kernel))) rfl
theorem tw_2033 : (Cond.code ⟨"PloughCallModel", "mark", "(IZ)Z"⟩ prog_15_method_110_code 5 (some FieldType.boolean)) ∈ lwg := lm2 (ltb_8 (List.mem_of_getElem? (i := 235) (by decide +kernel))) rfl
theorem tw_2034 : (Cond.methodLink "PloughCallModel" 555 ⟨"PloughCallModel", "laysTold", "(II)V"⟩) ∈ lwg := lm2 (ltb_8 (List.mem_of_getElem? (i := 236) (by decide +kernel))) rfl
theorem tw_2036 : (Cond.instanceMethod ⟨"PloughCallModel", "laysTold", "(II)V"⟩) ∈ lwg := lm2 (ltb_8 (List.mem_of_getElem? (i := 238) (by decide +kernel))) rfl
theorem tw_2037 : (Cond.code ⟨"PloughCallModel", "laysTold", "(II)V"⟩ prog_15_method_46_code 4 none) ∈ lwg := lm2 (ltb_8 (List.mem_of_getElem? (i := 239) (by decide +kernel))) rfl
theorem tw_2038 : (Cond.methodLink "PloughCallLaw" 153 ⟨"PloughCallModel", "count", "(I)I"⟩) ∈ lwg := lm2 (ltb_9 (List.mem_of_getElem? (i := 0) (by decide +kernel))) rfl
theorem tw_2039 : (Cond.instanceMethod ⟨"PloughCallModel", "count", "(I)I"⟩) ∈ lwg := lm2 (ltb_9 (List.mem_of_getElem? (i := 1) (by decide +kernel))) rfl
theorem tw_2040 : (Cond.selects "PloughCallModel" ⟨"PloughCallModel", "count", "(I)I"⟩ ⟨"PloughCallModel", "count", "(I)I"⟩) ∈ lwg := lm2 (ltb_9 (List.mem_of_getElem? (i := 2) (by decide +kernel))) rfl
theorem tw_2041 : (Cond.code ⟨"PloughCallModel", "count", "(I)I"⟩ prog_15_method_111_code 2 (some FieldType.int)) ∈ lwg := lm2 (ltb_9 (List.mem_of_getElem? (i := 3) (by decide +kernel))) rfl
theorem tw_2042 : (Cond.constantLong "PloughCallLaw" 22 4294967295) ∈ lwg := lm2 (ltb_9 (List.mem_of_getElem? (i := 4) (by decide +kernel))) rfl
theorem tw_2060 : (Cond.fieldLink "PloughCall$Word" 123 "PloughCall$Word" "letters" "J") ∈ lwg := lm2 (ltb_9 (List.mem_of_getElem? (i := 22) (by decide +kernel))) rfl
theorem tw_2061 : (Cond.fieldLink "java/lang/Enum" 7 "java/lang/Enum" "ordinal" "I") ∈ lwg := lm2 (ltb_9 (List.mem_of_getElem? (i := 23) (by decide +kernel))) rfl
theorem nw_0 : (Cond.methodLinkNest "PloughCall" 9 ⟨"PloughCall$Tape", "<init>", "()V"⟩ "PloughCall") ∈ nstW := List.mem_of_getElem? (i := 0) (by decide +kernel)
theorem nw_1 : (Cond.fieldLinkNest "PloughCall" 87 "PloughCall$Tape" "length" "I" "PloughCall") ∈ nstW := List.mem_of_getElem? (i := 1) (by decide +kernel)
theorem nw_2 : (Cond.fieldLinkNest "PloughCall$Reader" 55 "PloughCall$Tape" "place" "I" "PloughCall") ∈ nstW := List.mem_of_getElem? (i := 2) (by decide +kernel)
theorem nw_3 : (Cond.fieldLinkNest "PloughCall$Reader" 33 "PloughCall$Tape" "kind" "I" "PloughCall") ∈ nstW := List.mem_of_getElem? (i := 3) (by decide +kernel)
theorem nw_4 : (Cond.fieldLinkNest "PloughCall$Reader" 274 "PloughCall$Tape" "value" "I" "PloughCall") ∈ nstW := List.mem_of_getElem? (i := 4) (by decide +kernel)
theorem nw_5 : (Cond.fieldLinkNest "PloughCall$Reader" 106 "PloughCall$Tape" "letters" "J" "PloughCall") ∈ nstW := List.mem_of_getElem? (i := 5) (by decide +kernel)
theorem nw_6 : (Cond.fieldLinkNest "PloughCall$Reader" 58 "PloughCall$Tape" "word" "LPloughCall$Word;" "PloughCall") ∈ nstW := List.mem_of_getElem? (i := 6) (by decide +kernel)
theorem nw_7 : (Cond.methodLinkNest "PloughCall$Counsel" 37 ⟨"PloughCall$Standing", "<init>", "()V"⟩ "PloughCall") ∈ nstW := List.mem_of_getElem? (i := 7) (by decide +kernel)
theorem nw_8 : (Cond.fieldLinkNest "PloughCall" 337 "PloughCall$Standing" "month" "I" "PloughCall") ∈ nstW := List.mem_of_getElem? (i := 8) (by decide +kernel)
theorem nw_9 : (Cond.fieldLinkNest "PloughCall$Counsel" 166 "PloughCall$Standing" "power" "I" "PloughCall") ∈ nstW := List.mem_of_getElem? (i := 9) (by decide +kernel)
theorem nw_10 : (Cond.fieldLinkNest "PloughCall" 231 "PloughCall$Standing" "power" "I" "PloughCall") ∈ nstW := List.mem_of_getElem? (i := 10) (by decide +kernel)
theorem nw_11 : (Cond.fieldLinkNest "PloughCall$Script" 51 "PloughCall$Standing" "master" "I" "PloughCall") ∈ nstW := List.mem_of_getElem? (i := 11) (by decide +kernel)
theorem nw_12 : (Cond.fieldLinkNest "PloughCall" 177 "PloughCall$Standing" "master" "I" "PloughCall") ∈ nstW := List.mem_of_getElem? (i := 12) (by decide +kernel)
theorem nw_13 : (Cond.fieldLinkNest "PloughCall" 340 "PloughCall$Standing" "left" "I" "PloughCall") ∈ nstW := List.mem_of_getElem? (i := 13) (by decide +kernel)
theorem nw_14 : (Cond.fieldLinkNest "PloughCall$Counsel" 185 "PloughCall$Standing" "kept" "Z" "PloughCall") ∈ nstW := List.mem_of_getElem? (i := 14) (by decide +kernel)
theorem nw_15 : (Cond.fieldLinkNest "PloughCall" 343 "PloughCall$Standing" "kept" "Z" "PloughCall") ∈ nstW := List.mem_of_getElem? (i := 15) (by decide +kernel)
theorem nw_16 : (Cond.fieldLinkNest "PloughCall$Counsel" 48 "PloughCall$Standing" "sizes" "[I" "PloughCall") ∈ nstW := List.mem_of_getElem? (i := 16) (by decide +kernel)
theorem nw_17 : (Cond.fieldLinkNest "PloughCall" 150 "PloughCall$Standing" "sizes" "[I" "PloughCall") ∈ nstW := List.mem_of_getElem? (i := 17) (by decide +kernel)
theorem nw_18 : (Cond.fieldLinkNest "PloughCall" 138 "PloughCall$Standing" "fields" "[I" "PloughCall") ∈ nstW := List.mem_of_getElem? (i := 18) (by decide +kernel)
theorem nw_19 : (Cond.fieldLinkNest "PloughCall" 141 "PloughCall$Standing" "liked" "[I" "PloughCall") ∈ nstW := List.mem_of_getElem? (i := 19) (by decide +kernel)
theorem nw_20 : (Cond.fieldLinkNest "PloughCall" 244 "PloughCall$Counsel" "leastRow" "[I" "PloughCall") ∈ nstW := List.mem_of_getElem? (i := 20) (by decide +kernel)
theorem nw_21 : (Cond.fieldLinkNest "PloughCall" 241 "PloughCall$Counsel" "least" "I" "PloughCall") ∈ nstW := List.mem_of_getElem? (i := 21) (by decide +kernel)
theorem nw_22 : (Cond.fieldLinkNest "PloughCall" 310 "PloughCall$Counsel" "ended" "I" "PloughCall") ∈ nstW := List.mem_of_getElem? (i := 22) (by decide +kernel)
theorem nw_23 : (Cond.fieldLinkNest "PloughCall" 313 "PloughCall$Counsel" "monthsKept" "I" "PloughCall") ∈ nstW := List.mem_of_getElem? (i := 23) (by decide +kernel)
theorem nw_24 : (Cond.methodLinkNest "PloughCall" 34 ⟨"PloughCall$Standing", "<init>", "()V"⟩ "PloughCall") ∈ nstW := List.mem_of_getElem? (i := 24) (by decide +kernel)
theorem nw_25 : (Cond.methodLinkNest "PloughCall$Past" 17 ⟨"PloughCall$Standing", "<init>", "()V"⟩ "PloughCall") ∈ nstW := List.mem_of_getElem? (i := 25) (by decide +kernel)
theorem nw_26 : (Cond.fieldLinkNest "PloughCall" 105 "PloughCall$Past" "steps" "I" "PloughCall") ∈ nstW := List.mem_of_getElem? (i := 26) (by decide +kernel)
theorem nw_27 : (Cond.methodLinkNest "PloughCall" 51 ⟨"PloughCall$Reports", "<init>", "()V"⟩ "PloughCall") ∈ nstW := List.mem_of_getElem? (i := 27) (by decide +kernel)
theorem nw_28 : (Cond.fieldLinkNest "PloughCall" 102 "PloughCall$Reports" "told" "I" "PloughCall") ∈ nstW := List.mem_of_getElem? (i := 28) (by decide +kernel)
theorem nw_29 : (Cond.methodLinkNest "PloughCall" 64 ⟨"PloughCall$City", "<init>", "()V"⟩ "PloughCall") ∈ nstW := List.mem_of_getElem? (i := 29) (by decide +kernel)
theorem nw_30 : (Cond.methodLinkNest "PloughCall$City" 52 ⟨"PloughCall$Laws", "<init>", "()V"⟩ "PloughCall") ∈ nstW := List.mem_of_getElem? (i := 30) (by decide +kernel)
theorem nw_31 : (Cond.fieldLinkNest "PloughCall$Reader" 231 "PloughCall$Laws" "size" "I" "PloughCall") ∈ nstW := List.mem_of_getElem? (i := 31) (by decide +kernel)
theorem nw_32 : (Cond.fieldLinkNest "PloughCall$Counsel" 38 "PloughCall$City" "men" "I" "PloughCall") ∈ nstW := List.mem_of_getElem? (i := 32) (by decide +kernel)
theorem nw_33 : (Cond.fieldLinkNest "PloughCall$Standing" 48 "PloughCall$City" "men" "I" "PloughCall") ∈ nstW := List.mem_of_getElem? (i := 33) (by decide +kernel)
theorem nw_34 : (Cond.fieldLinkNest "PloughCall$Reports" 33 "PloughCall$City" "men" "I" "PloughCall") ∈ nstW := List.mem_of_getElem? (i := 34) (by decide +kernel)
theorem nw_35 : (Cond.fieldLinkNest "PloughCall$Reader" 100 "PloughCall$City" "men" "I" "PloughCall") ∈ nstW := List.mem_of_getElem? (i := 35) (by decide +kernel)
theorem nw_36 : (Cond.fieldLinkNest "PloughCall" 250 "PloughCall$City" "men" "I" "PloughCall") ∈ nstW := List.mem_of_getElem? (i := 36) (by decide +kernel)
theorem nw_37 : (Cond.fieldLinkNest "PloughCall$Reader" 148 "PloughCall$City" "consuls" "I" "PloughCall") ∈ nstW := List.mem_of_getElem? (i := 37) (by decide +kernel)
theorem nw_38 : (Cond.fieldLinkNest "PloughCall" 334 "PloughCall$City" "consuls" "I" "PloughCall") ∈ nstW := List.mem_of_getElem? (i := 38) (by decide +kernel)
theorem nw_39 : (Cond.fieldLinkNest "PloughCall$Standing" 34 "PloughCall$City" "dangers" "I" "PloughCall") ∈ nstW := List.mem_of_getElem? (i := 39) (by decide +kernel)
theorem nw_40 : (Cond.fieldLinkNest "PloughCall$Counsel" 102 "PloughCall$City" "dangers" "I" "PloughCall") ∈ nstW := List.mem_of_getElem? (i := 40) (by decide +kernel)
theorem nw_41 : (Cond.fieldLinkNest "PloughCall$Reader" 179 "PloughCall$City" "dangers" "I" "PloughCall") ∈ nstW := List.mem_of_getElem? (i := 41) (by decide +kernel)
theorem nw_42 : (Cond.fieldLinkNest "PloughCall" 234 "PloughCall$City" "dangers" "I" "PloughCall") ∈ nstW := List.mem_of_getElem? (i := 42) (by decide +kernel)
theorem nw_43 : (Cond.fieldLinkNest "PloughCall$Reader" 192 "PloughCall$City" "decrees" "I" "PloughCall") ∈ nstW := List.mem_of_getElem? (i := 43) (by decide +kernel)
theorem nw_44 : (Cond.fieldLinkNest "PloughCall" 280 "PloughCall$City" "decrees" "I" "PloughCall") ∈ nstW := List.mem_of_getElem? (i := 44) (by decide +kernel)
theorem nw_45 : (Cond.fieldLinkNest "PloughCall$Standing" 80 "PloughCall$City" "term" "I" "PloughCall") ∈ nstW := List.mem_of_getElem? (i := 45) (by decide +kernel)
theorem nw_46 : (Cond.fieldLinkNest "PloughCall$Reader" 219 "PloughCall$City" "term" "I" "PloughCall") ∈ nstW := List.mem_of_getElem? (i := 46) (by decide +kernel)
theorem nw_47 : (Cond.fieldLinkNest "PloughCall" 215 "PloughCall$City" "term" "I" "PloughCall") ∈ nstW := List.mem_of_getElem? (i := 47) (by decide +kernel)
theorem nw_48 : (Cond.fieldLinkNest "PloughCall$Reader" 212 "PloughCall$City" "termTold" "Z" "PloughCall") ∈ nstW := List.mem_of_getElem? (i := 48) (by decide +kernel)
theorem nw_49 : (Cond.fieldLinkNest "PloughCall" 124 "PloughCall$City" "kinds" "[I" "PloughCall") ∈ nstW := List.mem_of_getElem? (i := 49) (by decide +kernel)
theorem nw_50 : (Cond.fieldLinkNest "PloughCall$Standing" 128 "PloughCall$City" "kinds" "[I" "PloughCall") ∈ nstW := List.mem_of_getElem? (i := 50) (by decide +kernel)
theorem nw_51 : (Cond.fieldLinkNest "PloughCall" 132 "PloughCall$City" "skills" "[I" "PloughCall") ∈ nstW := List.mem_of_getElem? (i := 51) (by decide +kernel)
theorem nw_52 : (Cond.fieldLinkNest "PloughCall$Standing" 103 "PloughCall$City" "skills" "[I" "PloughCall") ∈ nstW := List.mem_of_getElem? (i := 52) (by decide +kernel)
theorem nw_53 : (Cond.fieldLinkNest "PloughCall$Standing" 51 "PloughCall$City" "fields" "[I" "PloughCall") ∈ nstW := List.mem_of_getElem? (i := 53) (by decide +kernel)
theorem nw_54 : (Cond.fieldLinkNest "PloughCall" 135 "PloughCall$City" "wants" "[I" "PloughCall") ∈ nstW := List.mem_of_getElem? (i := 54) (by decide +kernel)
theorem nw_55 : (Cond.fieldLinkNest "PloughCall$Reader" 168 "PloughCall$City" "hated" "[I" "PloughCall") ∈ nstW := List.mem_of_getElem? (i := 55) (by decide +kernel)
theorem nw_56 : (Cond.fieldLinkNest "PloughCall$Standing" 39 "PloughCall$City" "sizes" "[I" "PloughCall") ∈ nstW := List.mem_of_getElem? (i := 56) (by decide +kernel)
theorem nw_57 : (Cond.fieldLinkNest "PloughCall$Reports" 42 "PloughCall$City" "sizes" "[I" "PloughCall") ∈ nstW := List.mem_of_getElem? (i := 57) (by decide +kernel)
theorem nw_58 : (Cond.fieldLinkNest "PloughCall" 156 "PloughCall$City" "sizes" "[I" "PloughCall") ∈ nstW := List.mem_of_getElem? (i := 58) (by decide +kernel)
theorem nw_59 : (Cond.fieldLinkNest "PloughCall$Counsel" 152 "PloughCall$City" "sizes" "[I" "PloughCall") ∈ nstW := List.mem_of_getElem? (i := 59) (by decide +kernel)
theorem nw_60 : (Cond.fieldLinkNest "PloughCall" 153 "PloughCall$City" "grows" "[I" "PloughCall") ∈ nstW := List.mem_of_getElem? (i := 60) (by decide +kernel)
theorem nw_61 : (Cond.fieldLinkNest "PloughCall$Counsel" 120 "PloughCall$City" "grows" "[I" "PloughCall") ∈ nstW := List.mem_of_getElem? (i := 61) (by decide +kernel)
theorem nw_62 : (Cond.fieldLinkNest "PloughCall$Standing" 118 "PloughCall$City" "grows" "[I" "PloughCall") ∈ nstW := List.mem_of_getElem? (i := 62) (by decide +kernel)
theorem nw_63 : (Cond.fieldLinkNest "PloughCall$Reader" 222 "PloughCall$City" "laws" "LPloughCall$Laws;" "PloughCall") ∈ nstW := List.mem_of_getElem? (i := 63) (by decide +kernel)
theorem nw_64 : (Cond.methodLinkNest "PloughCall" 74 ⟨"PloughCall$Script", "<init>", "()V"⟩ "PloughCall") ∈ nstW := List.mem_of_getElem? (i := 64) (by decide +kernel)
theorem nw_65 : (Cond.fieldLinkNest "PloughCall$Reader" 47 "PloughCall$Script" "lines" "I" "PloughCall") ∈ nstW := List.mem_of_getElem? (i := 65) (by decide +kernel)
theorem nw_66 : (Cond.fieldLinkNest "PloughCall" 99 "PloughCall$Script" "lines" "I" "PloughCall") ∈ nstW := List.mem_of_getElem? (i := 66) (by decide +kernel)
theorem nw_67 : (Cond.methodLinkNest "PloughCall" 82 ⟨"PloughCall$Mark", "<init>", "()V"⟩ "PloughCall") ∈ nstW := List.mem_of_getElem? (i := 67) (by decide +kernel)
theorem nw_68 : (Cond.methodLinkNest "PloughCall$Mark" 9 ⟨"PloughCall$Standing", "<init>", "()V"⟩ "PloughCall") ∈ nstW := List.mem_of_getElem? (i := 68) (by decide +kernel)
theorem nw_69 : (Cond.methodLinkNest "PloughCall$Mark" 18 ⟨"PloughCall$Script", "<init>", "()V"⟩ "PloughCall") ∈ nstW := List.mem_of_getElem? (i := 69) (by decide +kernel)
theorem nw_70 : (Cond.methodLinkNest "PloughCall$Mark" 25 ⟨"PloughCall$Reports", "<init>", "()V"⟩ "PloughCall") ∈ nstW := List.mem_of_getElem? (i := 70) (by decide +kernel)
theorem nw_71 : (Cond.fieldLinkNest "PloughCall" 112 "PloughCall$Mark" "laid" "Z" "PloughCall") ∈ nstW := List.mem_of_getElem? (i := 71) (by decide +kernel)
theorem nw_72 : (Cond.fieldLinkNest "PloughCall" 323 "PloughCall$Mark" "standing" "LPloughCall$Standing;" "PloughCall") ∈ nstW := List.mem_of_getElem? (i := 72) (by decide +kernel)
theorem nw_73 : (Cond.fieldLinkNest "PloughCall" 326 "PloughCall$Mark" "script" "LPloughCall$Script;" "PloughCall") ∈ nstW := List.mem_of_getElem? (i := 73) (by decide +kernel)
theorem nw_74 : (Cond.fieldLinkNest "PloughCall" 330 "PloughCall$Mark" "reports" "LPloughCall$Reports;" "PloughCall") ∈ nstW := List.mem_of_getElem? (i := 74) (by decide +kernel)
theorem nw_75 : (Cond.methodLinkNest "PloughCall$Tape" 15 ⟨"PloughCall", "within", "(III)Z"⟩ "PloughCall") ∈ nstW := List.mem_of_getElem? (i := 75) (by decide +kernel)
theorem nw_76 : (Cond.methodLinkNest "PloughCall$Tape" 23 ⟨"PloughCall", "put", "([III)V"⟩ "PloughCall") ∈ nstW := List.mem_of_getElem? (i := 76) (by decide +kernel)
theorem nw_77 : (Cond.methodLinkNest "PloughCall$City" 73 ⟨"PloughCall", "put", "([III)V"⟩ "PloughCall") ∈ nstW := List.mem_of_getElem? (i := 77) (by decide +kernel)
theorem nw_78 : (Cond.methodLinkNest "PloughCall$Tape" 36 ⟨"PloughCall", "at", "([II)I"⟩ "PloughCall") ∈ nstW := List.mem_of_getElem? (i := 78) (by decide +kernel)
theorem nw_79 : (Cond.methodLinkNest "PloughCall$Reader" 277 ⟨"PloughCall", "within", "(III)Z"⟩ "PloughCall") ∈ nstW := List.mem_of_getElem? (i := 79) (by decide +kernel)
theorem nw_80 : (Cond.methodLinkNest "PloughCall$City" 98 ⟨"PloughCall", "at", "([II)I"⟩ "PloughCall") ∈ nstW := List.mem_of_getElem? (i := 80) (by decide +kernel)
theorem nw_81 : (Cond.methodLinkNest "PloughCall$Reader" 171 ⟨"PloughCall", "at", "([II)I"⟩ "PloughCall") ∈ nstW := List.mem_of_getElem? (i := 81) (by decide +kernel)
theorem nw_82 : (Cond.methodLinkNest "PloughCall$Reader" 175 ⟨"PloughCall", "put", "([III)V"⟩ "PloughCall") ∈ nstW := List.mem_of_getElem? (i := 82) (by decide +kernel)
theorem nw_83 : (Cond.methodLinkNest "PloughCall$Laws" 34 ⟨"PloughCall", "put", "([III)V"⟩ "PloughCall") ∈ nstW := List.mem_of_getElem? (i := 83) (by decide +kernel)
theorem nw_84 : (Cond.methodLinkNest "PloughCall$Standing" 40 ⟨"PloughCall", "at", "([II)I"⟩ "PloughCall") ∈ nstW := List.mem_of_getElem? (i := 84) (by decide +kernel)
theorem nw_85 : (Cond.methodLinkNest "PloughCall$Standing" 44 ⟨"PloughCall", "put", "([III)V"⟩ "PloughCall") ∈ nstW := List.mem_of_getElem? (i := 85) (by decide +kernel)
theorem nw_86 : (Cond.methodLinkNest "PloughCall$Script" 25 ⟨"PloughCall", "put", "([III)V"⟩ "PloughCall") ∈ nstW := List.mem_of_getElem? (i := 86) (by decide +kernel)
theorem nw_87 : (Cond.methodLinkNest "PloughCall$Standing" 62 ⟨"PloughCall", "copyRow", "([I[I)V"⟩ "PloughCall") ∈ nstW := List.mem_of_getElem? (i := 87) (by decide +kernel)
theorem nw_88 : (Cond.methodLinkNest "PloughCall$Laws" 38 ⟨"PloughCall", "at", "([II)I"⟩ "PloughCall") ∈ nstW := List.mem_of_getElem? (i := 88) (by decide +kernel)
theorem nw_89 : (Cond.methodLinkNest "PloughCall$Standing" 142 ⟨"PloughCall", "sum", "([II)I"⟩ "PloughCall") ∈ nstW := List.mem_of_getElem? (i := 89) (by decide +kernel)
theorem nw_90 : (Cond.methodLinkNest "PloughCall$Script" 33 ⟨"PloughCall", "at", "([II)I"⟩ "PloughCall") ∈ nstW := List.mem_of_getElem? (i := 90) (by decide +kernel)
theorem nw_91 : (Cond.methodLinkNest "PloughCall$Counsel" 51 ⟨"PloughCall", "at", "([II)I"⟩ "PloughCall") ∈ nstW := List.mem_of_getElem? (i := 91) (by decide +kernel)
theorem nw_92 : (Cond.methodLinkNest "PloughCall$Counsel" 112 ⟨"PloughCall", "copyRow", "([I[I)V"⟩ "PloughCall") ∈ nstW := List.mem_of_getElem? (i := 92) (by decide +kernel)
theorem nw_93 : (Cond.methodLinkNest "PloughCall$Counsel" 108 ⟨"PloughCall", "put", "([III)V"⟩ "PloughCall") ∈ nstW := List.mem_of_getElem? (i := 93) (by decide +kernel)
theorem nw_94 : (Cond.methodLinkNest "PloughCall$Reports" 25 ⟨"PloughCall", "put", "([III)V"⟩ "PloughCall") ∈ nstW := List.mem_of_getElem? (i := 94) (by decide +kernel)
theorem nw_95 : (Cond.methodLinkNest "PloughCall$Reports" 43 ⟨"PloughCall", "at", "([II)I"⟩ "PloughCall") ∈ nstW := List.mem_of_getElem? (i := 95) (by decide +kernel)
theorem nw_96 : (Cond.methodLinkNest "PloughCall$Script" 29 ⟨"PloughCall", "copyRow", "([I[I)V"⟩ "PloughCall") ∈ nstW := List.mem_of_getElem? (i := 96) (by decide +kernel)
theorem nw_97 : (Cond.methodLinkNest "PloughCall$Reports" 29 ⟨"PloughCall", "copyRow", "([I[I)V"⟩ "PloughCall") ∈ nstW := List.mem_of_getElem? (i := 97) (by decide +kernel)
theorem nw_98 : (Cond.fieldLinkNest "PloughCall$Tape" 74 "PloughCall$Word" "reserved" "Z" "PloughCall") ∈ nstW := List.mem_of_getElem? (i := 98) (by decide +kernel)
