-- ===== PART A: goes FIRST, ahead of the names: the tables' words, and 'selects' of the private methods out of them =====
/-- a private method of a class that the tables say can be made, by its rows of tables_1 -/
def lw_okq (q : MethodName × Nat) : Prop := (q.1.cls ≠ "java/lang/invoke/MethodHandle" ∧ q.1.cls ≠ "java/lang/invoke/VarHandle") ∧ Cond.instantiable q.1.cls q.2 ∈ tables_1 ∧ Cond.privateMethod q.1 ∈ tables_1 ∧ Cond.instanceMethod q.1 ∈ tables_1
theorem lw_p0 : lw_okq (⟨"PloughCall$Tape", "readWord", "()V"⟩, 8) := ⟨⟨by decide +kernel, by decide +kernel⟩, List.mem_of_getElem? (i := 31) (by decide +kernel), List.mem_of_getElem? (i := 476) (by decide +kernel), List.mem_of_getElem? (i := 477) (by decide +kernel)⟩
theorem lw_p1 : lw_okq (⟨"PloughCall$Tape", "readNumber", "()V"⟩, 8) := ⟨⟨by decide +kernel, by decide +kernel⟩, List.mem_of_getElem? (i := 31) (by decide +kernel), List.mem_of_getElem? (i := 489) (by decide +kernel), List.mem_of_getElem? (i := 490) (by decide +kernel)⟩
theorem lw_p2 : lw_okq (⟨"PloughCall$Reader", "cityLine", "()Z"⟩, 4) := ⟨⟨by decide +kernel, by decide +kernel⟩, List.mem_of_getElem? (i := 69) (by decide +kernel), List.mem_of_getElem? (i := 496) (by decide +kernel), List.mem_of_getElem? (i := 497) (by decide +kernel)⟩
theorem lw_p3 : lw_okq (⟨"PloughCall$Reader", "wrong", "(I)Z"⟩, 4) := ⟨⟨by decide +kernel, by decide +kernel⟩, List.mem_of_getElem? (i := 69) (by decide +kernel), List.mem_of_getElem? (i := 500) (by decide +kernel), List.mem_of_getElem? (i := 501) (by decide +kernel)⟩
theorem lw_p4 : lw_okq (⟨"PloughCall$Reader", "manLine", "()Z"⟩, 4) := ⟨⟨by decide +kernel, by decide +kernel⟩, List.mem_of_getElem? (i := 69) (by decide +kernel), List.mem_of_getElem? (i := 512) (by decide +kernel), List.mem_of_getElem? (i := 513) (by decide +kernel)⟩
theorem lw_p5 : lw_okq (⟨"PloughCall$Reader", "freshName", "()Z"⟩, 4) := ⟨⟨by decide +kernel, by decide +kernel⟩, List.mem_of_getElem? (i := 69) (by decide +kernel), List.mem_of_getElem? (i := 517) (by decide +kernel), List.mem_of_getElem? (i := 518) (by decide +kernel)⟩
theorem lw_p6 : lw_okq (⟨"PloughCall$Reader", "kindSpelt", "()I"⟩, 4) := ⟨⟨by decide +kernel, by decide +kernel⟩, List.mem_of_getElem? (i := 69) (by decide +kernel), List.mem_of_getElem? (i := 544) (by decide +kernel), List.mem_of_getElem? (i := 545) (by decide +kernel)⟩
theorem lw_p7 : lw_okq (⟨"PloughCall$Reader", "labelled", "(LPloughCall$Word;II)I"⟩, 4) := ⟨⟨by decide +kernel, by decide +kernel⟩, List.mem_of_getElem? (i := 69) (by decide +kernel), List.mem_of_getElem? (i := 558) (by decide +kernel), List.mem_of_getElem? (i := 559) (by decide +kernel)⟩
theorem lw_p8 : lw_okq (⟨"PloughCall$Reader", "lineEnds", "()Z"⟩, 4) := ⟨⟨by decide +kernel, by decide +kernel⟩, List.mem_of_getElem? (i := 69) (by decide +kernel), List.mem_of_getElem? (i := 567) (by decide +kernel), List.mem_of_getElem? (i := 568) (by decide +kernel)⟩
theorem lw_p9 : lw_okq (⟨"PloughCall$Reader", "consulLine", "()Z"⟩, 4) := ⟨⟨by decide +kernel, by decide +kernel⟩, List.mem_of_getElem? (i := 69) (by decide +kernel), List.mem_of_getElem? (i := 579) (by decide +kernel), List.mem_of_getElem? (i := 580) (by decide +kernel)⟩
theorem lw_p10 : lw_okq (⟨"PloughCall$Reader", "toldOne", "(Z)I"⟩, 4) := ⟨⟨by decide +kernel, by decide +kernel⟩, List.mem_of_getElem? (i := 69) (by decide +kernel), List.mem_of_getElem? (i := 589) (by decide +kernel), List.mem_of_getElem? (i := 590) (by decide +kernel)⟩
theorem lw_p11 : lw_okq (⟨"PloughCall$Reader", "hatesLine", "()Z"⟩, 4) := ⟨⟨by decide +kernel, by decide +kernel⟩, List.mem_of_getElem? (i := 69) (by decide +kernel), List.mem_of_getElem? (i := 603) (by decide +kernel), List.mem_of_getElem? (i := 604) (by decide +kernel)⟩
theorem lw_p12 : lw_okq (⟨"PloughCall$Reader", "dangerLine", "()Z"⟩, 4) := ⟨⟨by decide +kernel, by decide +kernel⟩, List.mem_of_getElem? (i := 69) (by decide +kernel), List.mem_of_getElem? (i := 614) (by decide +kernel), List.mem_of_getElem? (i := 615) (by decide +kernel)⟩
theorem lw_p13 : lw_okq (⟨"PloughCall$Reader", "decreeLine", "()Z"⟩, 4) := ⟨⟨by decide +kernel, by decide +kernel⟩, List.mem_of_getElem? (i := 69) (by decide +kernel), List.mem_of_getElem? (i := 626) (by decide +kernel), List.mem_of_getElem? (i := 627) (by decide +kernel)⟩
theorem lw_p14 : lw_okq (⟨"PloughCall$Reader", "groundsTold", "()I"⟩, 4) := ⟨⟨by decide +kernel, by decide +kernel⟩, List.mem_of_getElem? (i := 69) (by decide +kernel), List.mem_of_getElem? (i := 632) (by decide +kernel), List.mem_of_getElem? (i := 633) (by decide +kernel)⟩
theorem lw_p15 : lw_okq (⟨"PloughCall$Reader", "termLine", "()Z"⟩, 4) := ⟨⟨by decide +kernel, by decide +kernel⟩, List.mem_of_getElem? (i := 69) (by decide +kernel), List.mem_of_getElem? (i := 641) (by decide +kernel), List.mem_of_getElem? (i := 642) (by decide +kernel)⟩
def lw_privs_1 : List (MethodName × Nat) := [(⟨"PloughCall$Tape", "readWord", "()V"⟩, 8), (⟨"PloughCall$Tape", "readNumber", "()V"⟩, 8), (⟨"PloughCall$Reader", "cityLine", "()Z"⟩, 4), (⟨"PloughCall$Reader", "wrong", "(I)Z"⟩, 4), (⟨"PloughCall$Reader", "manLine", "()Z"⟩, 4), (⟨"PloughCall$Reader", "freshName", "()Z"⟩, 4), (⟨"PloughCall$Reader", "kindSpelt", "()I"⟩, 4), (⟨"PloughCall$Reader", "labelled", "(LPloughCall$Word;II)I"⟩, 4), (⟨"PloughCall$Reader", "lineEnds", "()Z"⟩, 4), (⟨"PloughCall$Reader", "consulLine", "()Z"⟩, 4), (⟨"PloughCall$Reader", "toldOne", "(Z)I"⟩, 4), (⟨"PloughCall$Reader", "hatesLine", "()Z"⟩, 4), (⟨"PloughCall$Reader", "dangerLine", "()Z"⟩, 4), (⟨"PloughCall$Reader", "decreeLine", "()Z"⟩, 4), (⟨"PloughCall$Reader", "groundsTold", "()I"⟩, 4), (⟨"PloughCall$Reader", "termLine", "()Z"⟩, 4)]
theorem lw_r1 : ∀ q ∈ lw_privs_1, lw_okq q := List.forall_mem_cons.mpr ⟨lw_p0, List.forall_mem_cons.mpr ⟨lw_p1, List.forall_mem_cons.mpr ⟨lw_p2, List.forall_mem_cons.mpr ⟨lw_p3, List.forall_mem_cons.mpr ⟨lw_p4, List.forall_mem_cons.mpr ⟨lw_p5, List.forall_mem_cons.mpr ⟨lw_p6, List.forall_mem_cons.mpr ⟨lw_p7, List.forall_mem_cons.mpr ⟨lw_p8, List.forall_mem_cons.mpr ⟨lw_p9, List.forall_mem_cons.mpr ⟨lw_p10, List.forall_mem_cons.mpr ⟨lw_p11, List.forall_mem_cons.mpr ⟨lw_p12, List.forall_mem_cons.mpr ⟨lw_p13, List.forall_mem_cons.mpr ⟨lw_p14, List.forall_mem_cons.mpr ⟨lw_p15, fun _ h => absurd h List.not_mem_nil⟩⟩⟩⟩⟩⟩⟩⟩⟩⟩⟩⟩⟩⟩⟩⟩
theorem lw_p16 : lw_okq (⟨"PloughCall$Reader", "lawLine", "(Z)Z"⟩, 4) := ⟨⟨by decide +kernel, by decide +kernel⟩, List.mem_of_getElem? (i := 69) (by decide +kernel), List.mem_of_getElem? (i := 647) (by decide +kernel), List.mem_of_getElem? (i := 648) (by decide +kernel)⟩
theorem lw_p17 : lw_okq (⟨"PloughCall$Reader", "expression", "(ZI)Z"⟩, 4) := ⟨⟨by decide +kernel, by decide +kernel⟩, List.mem_of_getElem? (i := 69) (by decide +kernel), List.mem_of_getElem? (i := 655) (by decide +kernel), List.mem_of_getElem? (i := 656) (by decide +kernel)⟩
theorem lw_p18 : lw_okq (⟨"PloughCall$Reader", "comparison", "(ZI)Z"⟩, 4) := ⟨⟨by decide +kernel, by decide +kernel⟩, List.mem_of_getElem? (i := 69) (by decide +kernel), List.mem_of_getElem? (i := 659) (by decide +kernel), List.mem_of_getElem? (i := 660) (by decide +kernel)⟩
theorem lw_p19 : lw_okq (⟨"PloughCall$Reader", "total", "(ZI)Z"⟩, 4) := ⟨⟨by decide +kernel, by decide +kernel⟩, List.mem_of_getElem? (i := 69) (by decide +kernel), List.mem_of_getElem? (i := 663) (by decide +kernel), List.mem_of_getElem? (i := 664) (by decide +kernel)⟩
theorem lw_p20 : lw_okq (⟨"PloughCall$Reader", "product", "(ZI)Z"⟩, 4) := ⟨⟨by decide +kernel, by decide +kernel⟩, List.mem_of_getElem? (i := 69) (by decide +kernel), List.mem_of_getElem? (i := 667) (by decide +kernel), List.mem_of_getElem? (i := 668) (by decide +kernel)⟩
theorem lw_p21 : lw_okq (⟨"PloughCall$Reader", "part", "(ZI)Z"⟩, 4) := ⟨⟨by decide +kernel, by decide +kernel⟩, List.mem_of_getElem? (i := 69) (by decide +kernel), List.mem_of_getElem? (i := 671) (by decide +kernel), List.mem_of_getElem? (i := 672) (by decide +kernel)⟩
theorem lw_p22 : lw_okq (⟨"PloughCall$Reader", "factSpelt", "(Z)I"⟩, 4) := ⟨⟨by decide +kernel, by decide +kernel⟩, List.mem_of_getElem? (i := 69) (by decide +kernel), List.mem_of_getElem? (i := 675) (by decide +kernel), List.mem_of_getElem? (i := 676) (by decide +kernel)⟩
theorem lw_p23 : lw_okq (⟨"PloughCall$Standing", "release", "()V"⟩, 9) := ⟨⟨by decide +kernel, by decide +kernel⟩, List.mem_of_getElem? (i := 95) (by decide +kernel), List.mem_of_getElem? (i := 714) (by decide +kernel), List.mem_of_getElem? (i := 715) (by decide +kernel)⟩
theorem lw_p24 : lw_okq (⟨"PloughCall", "markAt", "(I)LPloughCall$Mark;"⟩, 14) := ⟨⟨by decide +kernel, by decide +kernel⟩, List.mem_of_getElem? (i := 23) (by decide +kernel), List.mem_of_getElem? (i := 720) (by decide +kernel), List.mem_of_getElem? (i := 721) (by decide +kernel)⟩
theorem lw_p25 : lw_okq (⟨"PloughCall$Reader", "monthsLine", "()Z"⟩, 4) := ⟨⟨by decide +kernel, by decide +kernel⟩, List.mem_of_getElem? (i := 69) (by decide +kernel), List.mem_of_getElem? (i := 732) (by decide +kernel), List.mem_of_getElem? (i := 733) (by decide +kernel)⟩
theorem lw_p26 : lw_okq (⟨"PloughCall$Reader", "lineSpelt", "()I"⟩, 4) := ⟨⟨by decide +kernel, by decide +kernel⟩, List.mem_of_getElem? (i := 69) (by decide +kernel), List.mem_of_getElem? (i := 736) (by decide +kernel), List.mem_of_getElem? (i := 737) (by decide +kernel)⟩
theorem lw_p27 : lw_okq (⟨"PloughCall$Past", "beforeAt", "(I)LPloughCall$Standing;"⟩, 3) := ⟨⟨by decide +kernel, by decide +kernel⟩, List.mem_of_getElem? (i := 179) (by decide +kernel), List.mem_of_getElem? (i := 793) (by decide +kernel), List.mem_of_getElem? (i := 794) (by decide +kernel)⟩
theorem lw_p28 : lw_okq (⟨"PloughCall$Standing", "grow", "(LPloughCall$City;II)V"⟩, 9) := ⟨⟨by decide +kernel, by decide +kernel⟩, List.mem_of_getElem? (i := 95) (by decide +kernel), List.mem_of_getElem? (i := 829) (by decide +kernel), List.mem_of_getElem? (i := 830) (by decide +kernel)⟩
theorem lw_p29 : lw_okq (⟨"PloughCall$Standing", "grown", "(LPloughCall$City;II)I"⟩, 9) := ⟨⟨by decide +kernel, by decide +kernel⟩, List.mem_of_getElem? (i := 95) (by decide +kernel), List.mem_of_getElem? (i := 833) (by decide +kernel), List.mem_of_getElem? (i := 834) (by decide +kernel)⟩
theorem lw_p30 : lw_okq (⟨"PloughCall$Standing", "turn", "(LPloughCall$City;II)I"⟩, 9) := ⟨⟨by decide +kernel, by decide +kernel⟩, List.mem_of_getElem? (i := 95) (by decide +kernel), List.mem_of_getElem? (i := 838) (by decide +kernel), List.mem_of_getElem? (i := 839) (by decide +kernel)⟩
theorem lw_p31 : lw_okq (⟨"PloughCall$Standing", "lessen", "(II)I"⟩, 9) := ⟨⟨by decide +kernel, by decide +kernel⟩, List.mem_of_getElem? (i := 95) (by decide +kernel), List.mem_of_getElem? (i := 862) (by decide +kernel), List.mem_of_getElem? (i := 863) (by decide +kernel)⟩
def lw_privs_2 : List (MethodName × Nat) := [(⟨"PloughCall$Reader", "lawLine", "(Z)Z"⟩, 4), (⟨"PloughCall$Reader", "expression", "(ZI)Z"⟩, 4), (⟨"PloughCall$Reader", "comparison", "(ZI)Z"⟩, 4), (⟨"PloughCall$Reader", "total", "(ZI)Z"⟩, 4), (⟨"PloughCall$Reader", "product", "(ZI)Z"⟩, 4), (⟨"PloughCall$Reader", "part", "(ZI)Z"⟩, 4), (⟨"PloughCall$Reader", "factSpelt", "(Z)I"⟩, 4), (⟨"PloughCall$Standing", "release", "()V"⟩, 9), (⟨"PloughCall", "markAt", "(I)LPloughCall$Mark;"⟩, 14), (⟨"PloughCall$Reader", "monthsLine", "()Z"⟩, 4), (⟨"PloughCall$Reader", "lineSpelt", "()I"⟩, 4), (⟨"PloughCall$Past", "beforeAt", "(I)LPloughCall$Standing;"⟩, 3), (⟨"PloughCall$Standing", "grow", "(LPloughCall$City;II)V"⟩, 9), (⟨"PloughCall$Standing", "grown", "(LPloughCall$City;II)I"⟩, 9), (⟨"PloughCall$Standing", "turn", "(LPloughCall$City;II)I"⟩, 9), (⟨"PloughCall$Standing", "lessen", "(II)I"⟩, 9)]
theorem lw_r2 : ∀ q ∈ lw_privs_2, lw_okq q := List.forall_mem_cons.mpr ⟨lw_p16, List.forall_mem_cons.mpr ⟨lw_p17, List.forall_mem_cons.mpr ⟨lw_p18, List.forall_mem_cons.mpr ⟨lw_p19, List.forall_mem_cons.mpr ⟨lw_p20, List.forall_mem_cons.mpr ⟨lw_p21, List.forall_mem_cons.mpr ⟨lw_p22, List.forall_mem_cons.mpr ⟨lw_p23, List.forall_mem_cons.mpr ⟨lw_p24, List.forall_mem_cons.mpr ⟨lw_p25, List.forall_mem_cons.mpr ⟨lw_p26, List.forall_mem_cons.mpr ⟨lw_p27, List.forall_mem_cons.mpr ⟨lw_p28, List.forall_mem_cons.mpr ⟨lw_p29, List.forall_mem_cons.mpr ⟨lw_p30, List.forall_mem_cons.mpr ⟨lw_p31, fun _ h => absurd h List.not_mem_nil⟩⟩⟩⟩⟩⟩⟩⟩⟩⟩⟩⟩⟩⟩⟩⟩
theorem lw_p32 : lw_okq (⟨"PloughCall$Standing", "like", "(II)V"⟩, 9) := ⟨⟨by decide +kernel, by decide +kernel⟩, List.mem_of_getElem? (i := 95) (by decide +kernel), List.mem_of_getElem? (i := 867) (by decide +kernel), List.mem_of_getElem? (i := 868) (by decide +kernel)⟩
theorem lw_p33 : lw_okq (⟨"PloughCall$Standing", "closeMonth", "(LPloughCall$City;I)V"⟩, 9) := ⟨⟨by decide +kernel, by decide +kernel⟩, List.mem_of_getElem? (i := 95) (by decide +kernel), List.mem_of_getElem? (i := 875) (by decide +kernel), List.mem_of_getElem? (i := 876) (by decide +kernel)⟩
theorem lw_p34 : lw_okq (⟨"PloughCall", "judge", "()V"⟩, 14) := ⟨⟨by decide +kernel, by decide +kernel⟩, List.mem_of_getElem? (i := 23) (by decide +kernel), List.mem_of_getElem? (i := 927) (by decide +kernel), List.mem_of_getElem? (i := 928) (by decide +kernel)⟩
theorem lw_p35 : lw_okq (⟨"PloughCall$Counsel", "wouldKeepThen", "(LPloughCall$City;LPloughCall$Standing;III)Z"⟩, 10) := ⟨⟨by decide +kernel, by decide +kernel⟩, List.mem_of_getElem? (i := 88) (by decide +kernel), List.mem_of_getElem? (i := 968) (by decide +kernel), List.mem_of_getElem? (i := 969) (by decide +kernel)⟩
theorem lw_p36 : lw_okq (⟨"PloughCall$Counsel", "pathAt", "(I)LPloughCall$Standing;"⟩, 10) := ⟨⟨by decide +kernel, by decide +kernel⟩, List.mem_of_getElem? (i := 88) (by decide +kernel), List.mem_of_getElem? (i := 994) (by decide +kernel), List.mem_of_getElem? (i := 995) (by decide +kernel)⟩
theorem lw_p37 : lw_okq (⟨"PloughCall$Counsel", "headFrom", "(LPloughCall$City;II)V"⟩, 10) := ⟨⟨by decide +kernel, by decide +kernel⟩, List.mem_of_getElem? (i := 88) (by decide +kernel), List.mem_of_getElem? (i := 999) (by decide +kernel), List.mem_of_getElem? (i := 1000) (by decide +kernel)⟩
theorem lw_p38 : lw_okq (⟨"PloughCall$Counsel", "keepIfLess", "(I)V"⟩, 10) := ⟨⟨by decide +kernel, by decide +kernel⟩, List.mem_of_getElem? (i := 88) (by decide +kernel), List.mem_of_getElem? (i := 1004) (by decide +kernel), List.mem_of_getElem? (i := 1005) (by decide +kernel)⟩
theorem lw_p39 : lw_okq (⟨"PloughCall$Counsel", "shareFrom", "(LPloughCall$City;LPloughCall$Standing;III)V"⟩, 10) := ⟨⟨by decide +kernel, by decide +kernel⟩, List.mem_of_getElem? (i := 88) (by decide +kernel), List.mem_of_getElem? (i := 1023) (by decide +kernel), List.mem_of_getElem? (i := 1024) (by decide +kernel)⟩
theorem lw_p40 : lw_okq (⟨"PloughCall$Reports", "fits", "(LPloughCall$City;I)Z"⟩, 4) := ⟨⟨by decide +kernel, by decide +kernel⟩, List.mem_of_getElem? (i := 198) (by decide +kernel), List.mem_of_getElem? (i := 1069) (by decide +kernel), List.mem_of_getElem? (i := 1070) (by decide +kernel)⟩
theorem lw_p41 : lw_okq (⟨"PloughCall$Counsel", "mostAlike", "(LPloughCall$City;III)I"⟩, 10) := ⟨⟨by decide +kernel, by decide +kernel⟩, List.mem_of_getElem? (i := 88) (by decide +kernel), List.mem_of_getElem? (i := 1087) (by decide +kernel), List.mem_of_getElem? (i := 1088) (by decide +kernel)⟩
theorem lw_p42 : lw_okq (⟨"java/lang/Throwable", "fillInStackTrace", "(I)Ljava/lang/Throwable;"⟩, 6) := ⟨⟨by decide +kernel, by decide +kernel⟩, List.mem_of_getElem? (i := 1184) (by decide +kernel), List.mem_of_getElem? (i := 1182) (by decide +kernel), List.mem_of_getElem? (i := 1183) (by decide +kernel)⟩
theorem lw_p43 : lw_okq (⟨"PloughCall$Counsel", "spread", "(LPloughCall$City;IIII)V"⟩, 10) := ⟨⟨by decide +kernel, by decide +kernel⟩, List.mem_of_getElem? (i := 88) (by decide +kernel), List.mem_of_getElem? (i := 1219) (by decide +kernel), List.mem_of_getElem? (i := 1220) (by decide +kernel)⟩
theorem lw_p44 : lw_okq (⟨"PloughCall$Counsel", "addWays", "(IJ)V"⟩, 10) := ⟨⟨by decide +kernel, by decide +kernel⟩, List.mem_of_getElem? (i := 88) (by decide +kernel), List.mem_of_getElem? (i := 1224) (by decide +kernel), List.mem_of_getElem? (i := 1225) (by decide +kernel)⟩
theorem lw_p45 : lw_okq (⟨"PloughCallModel", "fresh", "()V"⟩, 65) := ⟨⟨by decide +kernel, by decide +kernel⟩, List.mem_of_getElem? (i := 1246) (by decide +kernel), List.mem_of_getElem? (i := 1252) (by decide +kernel), List.mem_of_getElem? (i := 1253) (by decide +kernel)⟩
theorem lw_p46 : lw_okq (⟨"PloughCallModel", "readsAll", "()Z"⟩, 65) := ⟨⟨by decide +kernel, by decide +kernel⟩, List.mem_of_getElem? (i := 1246) (by decide +kernel), List.mem_of_getElem? (i := 1466) (by decide +kernel), List.mem_of_getElem? (i := 1467) (by decide +kernel)⟩
theorem lw_p47 : lw_okq (⟨"PloughCallModel", "begins", "()V"⟩, 65) := ⟨⟨by decide +kernel, by decide +kernel⟩, List.mem_of_getElem? (i := 1246) (by decide +kernel), List.mem_of_getElem? (i := 1470) (by decide +kernel), List.mem_of_getElem? (i := 1471) (by decide +kernel)⟩
def lw_privs_3 : List (MethodName × Nat) := [(⟨"PloughCall$Standing", "like", "(II)V"⟩, 9), (⟨"PloughCall$Standing", "closeMonth", "(LPloughCall$City;I)V"⟩, 9), (⟨"PloughCall", "judge", "()V"⟩, 14), (⟨"PloughCall$Counsel", "wouldKeepThen", "(LPloughCall$City;LPloughCall$Standing;III)Z"⟩, 10), (⟨"PloughCall$Counsel", "pathAt", "(I)LPloughCall$Standing;"⟩, 10), (⟨"PloughCall$Counsel", "headFrom", "(LPloughCall$City;II)V"⟩, 10), (⟨"PloughCall$Counsel", "keepIfLess", "(I)V"⟩, 10), (⟨"PloughCall$Counsel", "shareFrom", "(LPloughCall$City;LPloughCall$Standing;III)V"⟩, 10), (⟨"PloughCall$Reports", "fits", "(LPloughCall$City;I)Z"⟩, 4), (⟨"PloughCall$Counsel", "mostAlike", "(LPloughCall$City;III)I"⟩, 10), (⟨"java/lang/Throwable", "fillInStackTrace", "(I)Ljava/lang/Throwable;"⟩, 6), (⟨"PloughCall$Counsel", "spread", "(LPloughCall$City;IIII)V"⟩, 10), (⟨"PloughCall$Counsel", "addWays", "(IJ)V"⟩, 10), (⟨"PloughCallModel", "fresh", "()V"⟩, 65), (⟨"PloughCallModel", "readsAll", "()Z"⟩, 65), (⟨"PloughCallModel", "begins", "()V"⟩, 65)]
theorem lw_r3 : ∀ q ∈ lw_privs_3, lw_okq q := List.forall_mem_cons.mpr ⟨lw_p32, List.forall_mem_cons.mpr ⟨lw_p33, List.forall_mem_cons.mpr ⟨lw_p34, List.forall_mem_cons.mpr ⟨lw_p35, List.forall_mem_cons.mpr ⟨lw_p36, List.forall_mem_cons.mpr ⟨lw_p37, List.forall_mem_cons.mpr ⟨lw_p38, List.forall_mem_cons.mpr ⟨lw_p39, List.forall_mem_cons.mpr ⟨lw_p40, List.forall_mem_cons.mpr ⟨lw_p41, List.forall_mem_cons.mpr ⟨lw_p42, List.forall_mem_cons.mpr ⟨lw_p43, List.forall_mem_cons.mpr ⟨lw_p44, List.forall_mem_cons.mpr ⟨lw_p45, List.forall_mem_cons.mpr ⟨lw_p46, List.forall_mem_cons.mpr ⟨lw_p47, fun _ h => absurd h List.not_mem_nil⟩⟩⟩⟩⟩⟩⟩⟩⟩⟩⟩⟩⟩⟩⟩⟩
theorem lw_p48 : lw_okq (⟨"PloughCallModel", "nextToken", "()V"⟩, 65) := ⟨⟨by decide +kernel, by decide +kernel⟩, List.mem_of_getElem? (i := 1246) (by decide +kernel), List.mem_of_getElem? (i := 1474) (by decide +kernel), List.mem_of_getElem? (i := 1475) (by decide +kernel)⟩
theorem lw_p49 : lw_okq (⟨"PloughCallModel", "signAt", "(I)I"⟩, 65) := ⟨⟨by decide +kernel, by decide +kernel⟩, List.mem_of_getElem? (i := 1246) (by decide +kernel), List.mem_of_getElem? (i := 1478) (by decide +kernel), List.mem_of_getElem? (i := 1479) (by decide +kernel)⟩
theorem lw_p50 : lw_okq (⟨"PloughCallModel", "isWord", "(J)Z"⟩, 65) := ⟨⟨by decide +kernel, by decide +kernel⟩, List.mem_of_getElem? (i := 1246) (by decide +kernel), List.mem_of_getElem? (i := 1485) (by decide +kernel), List.mem_of_getElem? (i := 1486) (by decide +kernel)⟩
theorem lw_p51 : lw_okq (⟨"PloughCallModel", "readsMan", "()Z"⟩, 65) := ⟨⟨by decide +kernel, by decide +kernel⟩, List.mem_of_getElem? (i := 1246) (by decide +kernel), List.mem_of_getElem? (i := 1489) (by decide +kernel), List.mem_of_getElem? (i := 1490) (by decide +kernel)⟩
theorem lw_p52 : lw_okq (⟨"PloughCallModel", "fails", "(I)Z"⟩, 65) := ⟨⟨by decide +kernel, by decide +kernel⟩, List.mem_of_getElem? (i := 1246) (by decide +kernel), List.mem_of_getElem? (i := 1493) (by decide +kernel), List.mem_of_getElem? (i := 1494) (by decide +kernel)⟩
theorem lw_p53 : lw_okq (⟨"PloughCallModel", "needsNew", "()Z"⟩, 65) := ⟨⟨by decide +kernel, by decide +kernel⟩, List.mem_of_getElem? (i := 1246) (by decide +kernel), List.mem_of_getElem? (i := 1497) (by decide +kernel), List.mem_of_getElem? (i := 1498) (by decide +kernel)⟩
theorem lw_p54 : lw_okq (⟨"PloughCallModel", "isKeptWord", "()Z"⟩, 65) := ⟨⟨by decide +kernel, by decide +kernel⟩, List.mem_of_getElem? (i := 1246) (by decide +kernel), List.mem_of_getElem? (i := 1501) (by decide +kernel), List.mem_of_getElem? (i := 1502) (by decide +kernel)⟩
theorem lw_p55 : lw_okq (⟨"PloughCallModel", "manNamed", "(I)I"⟩, 65) := ⟨⟨by decide +kernel, by decide +kernel⟩, List.mem_of_getElem? (i := 1246) (by decide +kernel), List.mem_of_getElem? (i := 1530) (by decide +kernel), List.mem_of_getElem? (i := 1531) (by decide +kernel)⟩
theorem lw_p56 : lw_okq (⟨"PloughCallModel", "dangerNamed", "(I)I"⟩, 65) := ⟨⟨by decide +kernel, by decide +kernel⟩, List.mem_of_getElem? (i := 1246) (by decide +kernel), List.mem_of_getElem? (i := 1537) (by decide +kernel), List.mem_of_getElem? (i := 1538) (by decide +kernel)⟩
theorem lw_p57 : lw_okq (⟨"PloughCallModel", "decreeNamed", "()I"⟩, 65) := ⟨⟨by decide +kernel, by decide +kernel⟩, List.mem_of_getElem? (i := 1246) (by decide +kernel), List.mem_of_getElem? (i := 1541) (by decide +kernel), List.mem_of_getElem? (i := 1542) (by decide +kernel)⟩
theorem lw_p58 : lw_okq (⟨"PloughCallModel", "needsBoth", "(JII)Z"⟩, 65) := ⟨⟨by decide +kernel, by decide +kernel⟩, List.mem_of_getElem? (i := 1246) (by decide +kernel), List.mem_of_getElem? (i := 1545) (by decide +kernel), List.mem_of_getElem? (i := 1546) (by decide +kernel)⟩
theorem lw_p59 : lw_okq (⟨"PloughCallModel", "needsNumber", "(II)Z"⟩, 65) := ⟨⟨by decide +kernel, by decide +kernel⟩, List.mem_of_getElem? (i := 1246) (by decide +kernel), List.mem_of_getElem? (i := 1549) (by decide +kernel), List.mem_of_getElem? (i := 1550) (by decide +kernel)⟩
theorem lw_p60 : lw_okq (⟨"PloughCallModel", "closes", "()Z"⟩, 65) := ⟨⟨by decide +kernel, by decide +kernel⟩, List.mem_of_getElem? (i := 1246) (by decide +kernel), List.mem_of_getElem? (i := 1556) (by decide +kernel), List.mem_of_getElem? (i := 1557) (by decide +kernel)⟩
theorem lw_p61 : lw_okq (⟨"PloughCallModel", "isSign", "(I)Z"⟩, 65) := ⟨⟨by decide +kernel, by decide +kernel⟩, List.mem_of_getElem? (i := 1246) (by decide +kernel), List.mem_of_getElem? (i := 1560) (by decide +kernel), List.mem_of_getElem? (i := 1561) (by decide +kernel)⟩
theorem lw_p62 : lw_okq (⟨"PloughCallModel", "readsConsul", "()Z"⟩, 65) := ⟨⟨by decide +kernel, by decide +kernel⟩, List.mem_of_getElem? (i := 1246) (by decide +kernel), List.mem_of_getElem? (i := 1564) (by decide +kernel), List.mem_of_getElem? (i := 1565) (by decide +kernel)⟩
theorem lw_p63 : lw_okq (⟨"PloughCallModel", "needsMan", "(I)Z"⟩, 65) := ⟨⟨by decide +kernel, by decide +kernel⟩, List.mem_of_getElem? (i := 1246) (by decide +kernel), List.mem_of_getElem? (i := 1568) (by decide +kernel), List.mem_of_getElem? (i := 1569) (by decide +kernel)⟩
def lw_privs_4 : List (MethodName × Nat) := [(⟨"PloughCallModel", "nextToken", "()V"⟩, 65), (⟨"PloughCallModel", "signAt", "(I)I"⟩, 65), (⟨"PloughCallModel", "isWord", "(J)Z"⟩, 65), (⟨"PloughCallModel", "readsMan", "()Z"⟩, 65), (⟨"PloughCallModel", "fails", "(I)Z"⟩, 65), (⟨"PloughCallModel", "needsNew", "()Z"⟩, 65), (⟨"PloughCallModel", "isKeptWord", "()Z"⟩, 65), (⟨"PloughCallModel", "manNamed", "(I)I"⟩, 65), (⟨"PloughCallModel", "dangerNamed", "(I)I"⟩, 65), (⟨"PloughCallModel", "decreeNamed", "()I"⟩, 65), (⟨"PloughCallModel", "needsBoth", "(JII)Z"⟩, 65), (⟨"PloughCallModel", "needsNumber", "(II)Z"⟩, 65), (⟨"PloughCallModel", "closes", "()Z"⟩, 65), (⟨"PloughCallModel", "isSign", "(I)Z"⟩, 65), (⟨"PloughCallModel", "readsConsul", "()Z"⟩, 65), (⟨"PloughCallModel", "needsMan", "(I)Z"⟩, 65)]
theorem lw_r4 : ∀ q ∈ lw_privs_4, lw_okq q := List.forall_mem_cons.mpr ⟨lw_p48, List.forall_mem_cons.mpr ⟨lw_p49, List.forall_mem_cons.mpr ⟨lw_p50, List.forall_mem_cons.mpr ⟨lw_p51, List.forall_mem_cons.mpr ⟨lw_p52, List.forall_mem_cons.mpr ⟨lw_p53, List.forall_mem_cons.mpr ⟨lw_p54, List.forall_mem_cons.mpr ⟨lw_p55, List.forall_mem_cons.mpr ⟨lw_p56, List.forall_mem_cons.mpr ⟨lw_p57, List.forall_mem_cons.mpr ⟨lw_p58, List.forall_mem_cons.mpr ⟨lw_p59, List.forall_mem_cons.mpr ⟨lw_p60, List.forall_mem_cons.mpr ⟨lw_p61, List.forall_mem_cons.mpr ⟨lw_p62, List.forall_mem_cons.mpr ⟨lw_p63, fun _ h => absurd h List.not_mem_nil⟩⟩⟩⟩⟩⟩⟩⟩⟩⟩⟩⟩⟩⟩⟩⟩
theorem lw_p64 : lw_okq (⟨"PloughCallModel", "readsHates", "()Z"⟩, 65) := ⟨⟨by decide +kernel, by decide +kernel⟩, List.mem_of_getElem? (i := 1246) (by decide +kernel), List.mem_of_getElem? (i := 1572) (by decide +kernel), List.mem_of_getElem? (i := 1573) (by decide +kernel)⟩
theorem lw_p65 : lw_okq (⟨"PloughCallModel", "readsDanger", "()Z"⟩, 65) := ⟨⟨by decide +kernel, by decide +kernel⟩, List.mem_of_getElem? (i := 1246) (by decide +kernel), List.mem_of_getElem? (i := 1576) (by decide +kernel), List.mem_of_getElem? (i := 1577) (by decide +kernel)⟩
theorem lw_p66 : lw_okq (⟨"PloughCallModel", "readsDecree", "()Z"⟩, 65) := ⟨⟨by decide +kernel, by decide +kernel⟩, List.mem_of_getElem? (i := 1246) (by decide +kernel), List.mem_of_getElem? (i := 1580) (by decide +kernel), List.mem_of_getElem? (i := 1581) (by decide +kernel)⟩
theorem lw_p67 : lw_okq (⟨"PloughCallModel", "readsTerm", "()Z"⟩, 65) := ⟨⟨by decide +kernel, by decide +kernel⟩, List.mem_of_getElem? (i := 1246) (by decide +kernel), List.mem_of_getElem? (i := 1584) (by decide +kernel), List.mem_of_getElem? (i := 1585) (by decide +kernel)⟩
theorem lw_p68 : lw_okq (⟨"PloughCallModel", "isTwice", "(I)Z"⟩, 65) := ⟨⟨by decide +kernel, by decide +kernel⟩, List.mem_of_getElem? (i := 1246) (by decide +kernel), List.mem_of_getElem? (i := 1588) (by decide +kernel), List.mem_of_getElem? (i := 1589) (by decide +kernel)⟩
theorem lw_p69 : lw_okq (⟨"PloughCallModel", "readsLaw", "(I)Z"⟩, 65) := ⟨⟨by decide +kernel, by decide +kernel⟩, List.mem_of_getElem? (i := 1246) (by decide +kernel), List.mem_of_getElem? (i := 1592) (by decide +kernel), List.mem_of_getElem? (i := 1593) (by decide +kernel)⟩
theorem lw_p70 : lw_okq (⟨"PloughCallModel", "reads", "()Z"⟩, 65) := ⟨⟨by decide +kernel, by decide +kernel⟩, List.mem_of_getElem? (i := 1246) (by decide +kernel), List.mem_of_getElem? (i := 1596) (by decide +kernel), List.mem_of_getElem? (i := 1597) (by decide +kernel)⟩
theorem lw_p71 : lw_okq (⟨"PloughCallModel", "fact", "()I"⟩, 65) := ⟨⟨by decide +kernel, by decide +kernel⟩, List.mem_of_getElem? (i := 1246) (by decide +kernel), List.mem_of_getElem? (i := 1600) (by decide +kernel), List.mem_of_getElem? (i := 1601) (by decide +kernel)⟩
theorem lw_p72 : lw_okq (⟨"PloughCallModel", "puts", "(I)V"⟩, 65) := ⟨⟨by decide +kernel, by decide +kernel⟩, List.mem_of_getElem? (i := 1246) (by decide +kernel), List.mem_of_getElem? (i := 1610) (by decide +kernel), List.mem_of_getElem? (i := 1611) (by decide +kernel)⟩
theorem lw_p73 : lw_okq (⟨"PloughCallModel", "lays", "()V"⟩, 65) := ⟨⟨by decide +kernel, by decide +kernel⟩, List.mem_of_getElem? (i := 1246) (by decide +kernel), List.mem_of_getElem? (i := 1614) (by decide +kernel), List.mem_of_getElem? (i := 1615) (by decide +kernel)⟩
theorem lw_p74 : lw_okq (⟨"PloughCallModel", "readsLine", "()Z"⟩, 65) := ⟨⟨by decide +kernel, by decide +kernel⟩, List.mem_of_getElem? (i := 1246) (by decide +kernel), List.mem_of_getElem? (i := 1628) (by decide +kernel), List.mem_of_getElem? (i := 1629) (by decide +kernel)⟩
theorem lw_p75 : lw_okq (⟨"PloughCallModel", "readsTwo", "(IZ)Z"⟩, 65) := ⟨⟨by decide +kernel, by decide +kernel⟩, List.mem_of_getElem? (i := 1246) (by decide +kernel), List.mem_of_getElem? (i := 1632) (by decide +kernel), List.mem_of_getElem? (i := 1633) (by decide +kernel)⟩
theorem lw_p76 : lw_okq (⟨"PloughCallModel", "needsDanger", "()Z"⟩, 65) := ⟨⟨by decide +kernel, by decide +kernel⟩, List.mem_of_getElem? (i := 1246) (by decide +kernel), List.mem_of_getElem? (i := 1636) (by decide +kernel), List.mem_of_getElem? (i := 1637) (by decide +kernel)⟩
theorem lw_p77 : lw_okq (⟨"PloughCallModel", "laysLines", "(II)V"⟩, 65) := ⟨⟨by decide +kernel, by decide +kernel⟩, List.mem_of_getElem? (i := 1246) (by decide +kernel), List.mem_of_getElem? (i := 1640) (by decide +kernel), List.mem_of_getElem? (i := 1641) (by decide +kernel)⟩
theorem lw_p78 : lw_okq (⟨"PloughCallModel", "isMan", "(I)Z"⟩, 65) := ⟨⟨by decide +kernel, by decide +kernel⟩, List.mem_of_getElem? (i := 1246) (by decide +kernel), List.mem_of_getElem? (i := 1648) (by decide +kernel), List.mem_of_getElem? (i := 1649) (by decide +kernel)⟩
theorem lw_p79 : lw_okq (⟨"PloughCallModel", "isConsul", "(I)Z"⟩, 65) := ⟨⟨by decide +kernel, by decide +kernel⟩, List.mem_of_getElem? (i := 1246) (by decide +kernel), List.mem_of_getElem? (i := 1652) (by decide +kernel), List.mem_of_getElem? (i := 1653) (by decide +kernel)⟩
def lw_privs_5 : List (MethodName × Nat) := [(⟨"PloughCallModel", "readsHates", "()Z"⟩, 65), (⟨"PloughCallModel", "readsDanger", "()Z"⟩, 65), (⟨"PloughCallModel", "readsDecree", "()Z"⟩, 65), (⟨"PloughCallModel", "readsTerm", "()Z"⟩, 65), (⟨"PloughCallModel", "isTwice", "(I)Z"⟩, 65), (⟨"PloughCallModel", "readsLaw", "(I)Z"⟩, 65), (⟨"PloughCallModel", "reads", "()Z"⟩, 65), (⟨"PloughCallModel", "fact", "()I"⟩, 65), (⟨"PloughCallModel", "puts", "(I)V"⟩, 65), (⟨"PloughCallModel", "lays", "()V"⟩, 65), (⟨"PloughCallModel", "readsLine", "()Z"⟩, 65), (⟨"PloughCallModel", "readsTwo", "(IZ)Z"⟩, 65), (⟨"PloughCallModel", "needsDanger", "()Z"⟩, 65), (⟨"PloughCallModel", "laysLines", "(II)V"⟩, 65), (⟨"PloughCallModel", "isMan", "(I)Z"⟩, 65), (⟨"PloughCallModel", "isConsul", "(I)Z"⟩, 65)]
theorem lw_r5 : ∀ q ∈ lw_privs_5, lw_okq q := List.forall_mem_cons.mpr ⟨lw_p64, List.forall_mem_cons.mpr ⟨lw_p65, List.forall_mem_cons.mpr ⟨lw_p66, List.forall_mem_cons.mpr ⟨lw_p67, List.forall_mem_cons.mpr ⟨lw_p68, List.forall_mem_cons.mpr ⟨lw_p69, List.forall_mem_cons.mpr ⟨lw_p70, List.forall_mem_cons.mpr ⟨lw_p71, List.forall_mem_cons.mpr ⟨lw_p72, List.forall_mem_cons.mpr ⟨lw_p73, List.forall_mem_cons.mpr ⟨lw_p74, List.forall_mem_cons.mpr ⟨lw_p75, List.forall_mem_cons.mpr ⟨lw_p76, List.forall_mem_cons.mpr ⟨lw_p77, List.forall_mem_cons.mpr ⟨lw_p78, List.forall_mem_cons.mpr ⟨lw_p79, fun _ h => absurd h List.not_mem_nil⟩⟩⟩⟩⟩⟩⟩⟩⟩⟩⟩⟩⟩⟩⟩⟩
theorem lw_p80 : lw_okq (⟨"PloughCallModel", "isDanger", "(I)Z"⟩, 65) := ⟨⟨by decide +kernel, by decide +kernel⟩, List.mem_of_getElem? (i := 1246) (by decide +kernel), List.mem_of_getElem? (i := 1660) (by decide +kernel), List.mem_of_getElem? (i := 1661) (by decide +kernel)⟩
theorem lw_p81 : lw_okq (⟨"PloughCallModel", "couldName", "(II)Z"⟩, 65) := ⟨⟨by decide +kernel, by decide +kernel⟩, List.mem_of_getElem? (i := 1246) (by decide +kernel), List.mem_of_getElem? (i := 1668) (by decide +kernel), List.mem_of_getElem? (i := 1669) (by decide +kernel)⟩
theorem lw_p82 : lw_okq (⟨"PloughCallModel", "holds", "()V"⟩, 65) := ⟨⟨by decide +kernel, by decide +kernel⟩, List.mem_of_getElem? (i := 1246) (by decide +kernel), List.mem_of_getElem? (i := 1676) (by decide +kernel), List.mem_of_getElem? (i := 1677) (by decide +kernel)⟩
theorem lw_p83 : lw_okq (⟨"PloughCallModel", "laysPower", "(I)V"⟩, 65) := ⟨⟨by decide +kernel, by decide +kernel⟩, List.mem_of_getElem? (i := 1246) (by decide +kernel), List.mem_of_getElem? (i := 1683) (by decide +kernel), List.mem_of_getElem? (i := 1684) (by decide +kernel)⟩
theorem lw_p84 : lw_okq (⟨"PloughCallModel", "goesHome", "()V"⟩, 65) := ⟨⟨by decide +kernel, by decide +kernel⟩, List.mem_of_getElem? (i := 1246) (by decide +kernel), List.mem_of_getElem? (i := 1687) (by decide +kernel), List.mem_of_getElem? (i := 1688) (by decide +kernel)⟩
theorem lw_p85 : lw_okq (⟨"PloughCallModel", "canBeMaster", "(I)Z"⟩, 65) := ⟨⟨by decide +kernel, by decide +kernel⟩, List.mem_of_getElem? (i := 1246) (by decide +kernel), List.mem_of_getElem? (i := 1695) (by decide +kernel), List.mem_of_getElem? (i := 1696) (by decide +kernel)⟩
theorem lw_p86 : lw_okq (⟨"PloughCallModel", "passes", "(II)I"⟩, 65) := ⟨⟨by decide +kernel, by decide +kernel⟩, List.mem_of_getElem? (i := 1246) (by decide +kernel), List.mem_of_getElem? (i := 1703) (by decide +kernel), List.mem_of_getElem? (i := 1704) (by decide +kernel)⟩
theorem lw_p87 : lw_okq (⟨"PloughCallModel", "worksBy", "(III)I"⟩, 65) := ⟨⟨by decide +kernel, by decide +kernel⟩, List.mem_of_getElem? (i := 1246) (by decide +kernel), List.mem_of_getElem? (i := 1707) (by decide +kernel), List.mem_of_getElem? (i := 1708) (by decide +kernel)⟩
theorem lw_p88 : lw_okq (⟨"PloughCallModel", "worked", "(I)I"⟩, 65) := ⟨⟨by decide +kernel, by decide +kernel⟩, List.mem_of_getElem? (i := 1246) (by decide +kernel), List.mem_of_getElem? (i := 1711) (by decide +kernel), List.mem_of_getElem? (i := 1712) (by decide +kernel)⟩
theorem lw_p89 : lw_okq (⟨"PloughCallModel", "opens", "(I)V"⟩, 65) := ⟨⟨by decide +kernel, by decide +kernel⟩, List.mem_of_getElem? (i := 1246) (by decide +kernel), List.mem_of_getElem? (i := 1715) (by decide +kernel), List.mem_of_getElem? (i := 1716) (by decide +kernel)⟩
theorem lw_p90 : lw_okq (⟨"PloughCallModel", "sums", "(I)V"⟩, 65) := ⟨⟨by decide +kernel, by decide +kernel⟩, List.mem_of_getElem? (i := 1246) (by decide +kernel), List.mem_of_getElem? (i := 1719) (by decide +kernel), List.mem_of_getElem? (i := 1720) (by decide +kernel)⟩
theorem lw_p91 : lw_okq (⟨"PloughCallModel", "tests", "(I)V"⟩, 65) := ⟨⟨by decide +kernel, by decide +kernel⟩, List.mem_of_getElem? (i := 1246) (by decide +kernel), List.mem_of_getElem? (i := 1723) (by decide +kernel), List.mem_of_getElem? (i := 1724) (by decide +kernel)⟩
theorem lw_p92 : lw_okq (⟨"PloughCallModel", "lessens", "(II)V"⟩, 65) := ⟨⟨by decide +kernel, by decide +kernel⟩, List.mem_of_getElem? (i := 1246) (by decide +kernel), List.mem_of_getElem? (i := 1730) (by decide +kernel), List.mem_of_getElem? (i := 1731) (by decide +kernel)⟩
theorem lw_p93 : lw_okq (⟨"PloughCallModel", "likes", "(II)V"⟩, 65) := ⟨⟨by decide +kernel, by decide +kernel⟩, List.mem_of_getElem? (i := 1246) (by decide +kernel), List.mem_of_getElem? (i := 1735) (by decide +kernel), List.mem_of_getElem? (i := 1736) (by decide +kernel)⟩
theorem lw_p94 : lw_okq (⟨"PloughCallModel", "endsMonth", "(II)V"⟩, 65) := ⟨⟨by decide +kernel, by decide +kernel⟩, List.mem_of_getElem? (i := 1246) (by decide +kernel), List.mem_of_getElem? (i := 1740) (by decide +kernel), List.mem_of_getElem? (i := 1741) (by decide +kernel)⟩
theorem lw_p95 : lw_okq (⟨"PloughCallModel", "together", "()I"⟩, 65) := ⟨⟨by decide +kernel, by decide +kernel⟩, List.mem_of_getElem? (i := 1246) (by decide +kernel), List.mem_of_getElem? (i := 1744) (by decide +kernel), List.mem_of_getElem? (i := 1745) (by decide +kernel)⟩
def lw_privs_6 : List (MethodName × Nat) := [(⟨"PloughCallModel", "isDanger", "(I)Z"⟩, 65), (⟨"PloughCallModel", "couldName", "(II)Z"⟩, 65), (⟨"PloughCallModel", "holds", "()V"⟩, 65), (⟨"PloughCallModel", "laysPower", "(I)V"⟩, 65), (⟨"PloughCallModel", "goesHome", "()V"⟩, 65), (⟨"PloughCallModel", "canBeMaster", "(I)Z"⟩, 65), (⟨"PloughCallModel", "passes", "(II)I"⟩, 65), (⟨"PloughCallModel", "worksBy", "(III)I"⟩, 65), (⟨"PloughCallModel", "worked", "(I)I"⟩, 65), (⟨"PloughCallModel", "opens", "(I)V"⟩, 65), (⟨"PloughCallModel", "sums", "(I)V"⟩, 65), (⟨"PloughCallModel", "tests", "(I)V"⟩, 65), (⟨"PloughCallModel", "lessens", "(II)V"⟩, 65), (⟨"PloughCallModel", "likes", "(II)V"⟩, 65), (⟨"PloughCallModel", "endsMonth", "(II)V"⟩, 65), (⟨"PloughCallModel", "together", "()I"⟩, 65)]
theorem lw_r6 : ∀ q ∈ lw_privs_6, lw_okq q := List.forall_mem_cons.mpr ⟨lw_p80, List.forall_mem_cons.mpr ⟨lw_p81, List.forall_mem_cons.mpr ⟨lw_p82, List.forall_mem_cons.mpr ⟨lw_p83, List.forall_mem_cons.mpr ⟨lw_p84, List.forall_mem_cons.mpr ⟨lw_p85, List.forall_mem_cons.mpr ⟨lw_p86, List.forall_mem_cons.mpr ⟨lw_p87, List.forall_mem_cons.mpr ⟨lw_p88, List.forall_mem_cons.mpr ⟨lw_p89, List.forall_mem_cons.mpr ⟨lw_p90, List.forall_mem_cons.mpr ⟨lw_p91, List.forall_mem_cons.mpr ⟨lw_p92, List.forall_mem_cons.mpr ⟨lw_p93, List.forall_mem_cons.mpr ⟨lw_p94, List.forall_mem_cons.mpr ⟨lw_p95, fun _ h => absurd h List.not_mem_nil⟩⟩⟩⟩⟩⟩⟩⟩⟩⟩⟩⟩⟩⟩⟩⟩
theorem lw_p96 : lw_okq (⟨"PloughCallModel", "keepsBy", "(III)Z"⟩, 65) := ⟨⟨by decide +kernel, by decide +kernel⟩, List.mem_of_getElem? (i := 1246) (by decide +kernel), List.mem_of_getElem? (i := 1748) (by decide +kernel), List.mem_of_getElem? (i := 1749) (by decide +kernel)⟩
theorem lw_p97 : lw_okq (⟨"PloughCallModel", "canDisobey", "()Z"⟩, 65) := ⟨⟨by decide +kernel, by decide +kernel⟩, List.mem_of_getElem? (i := 1246) (by decide +kernel), List.mem_of_getElem? (i := 1756) (by decide +kernel), List.mem_of_getElem? (i := 1757) (by decide +kernel)⟩
theorem lw_p98 : lw_okq (⟨"PloughCallModel", "canLay", "()Z"⟩, 65) := ⟨⟨by decide +kernel, by decide +kernel⟩, List.mem_of_getElem? (i := 1246) (by decide +kernel), List.mem_of_getElem? (i := 1764) (by decide +kernel), List.mem_of_getElem? (i := 1765) (by decide +kernel)⟩
theorem lw_p99 : lw_okq (⟨"PloughCallModel", "laysDown", "()I"⟩, 65) := ⟨⟨by decide +kernel, by decide +kernel⟩, List.mem_of_getElem? (i := 1246) (by decide +kernel), List.mem_of_getElem? (i := 1768) (by decide +kernel), List.mem_of_getElem? (i := 1769) (by decide +kernel)⟩
theorem lw_p100 : lw_okq (⟨"PloughCallModel", "goes", "(I)Z"⟩, 65) := ⟨⟨by decide +kernel, by decide +kernel⟩, List.mem_of_getElem? (i := 1246) (by decide +kernel), List.mem_of_getElem? (i := 1780) (by decide +kernel), List.mem_of_getElem? (i := 1781) (by decide +kernel)⟩
theorem lw_p101 : lw_okq (⟨"PloughCallModel", "soonOf", "(II)I"⟩, 65) := ⟨⟨by decide +kernel, by decide +kernel⟩, List.mem_of_getElem? (i := 1246) (by decide +kernel), List.mem_of_getElem? (i := 1788) (by decide +kernel), List.mem_of_getElem? (i := 1789) (by decide +kernel)⟩
theorem lw_p102 : lw_okq (⟨"PloughCallModel", "whomFor", "(II)I"⟩, 65) := ⟨⟨by decide +kernel, by decide +kernel⟩, List.mem_of_getElem? (i := 1246) (by decide +kernel), List.mem_of_getElem? (i := 1796) (by decide +kernel), List.mem_of_getElem? (i := 1797) (by decide +kernel)⟩
theorem lw_p103 : lw_okq (⟨"PloughCallModel", "isNamedBySome", "(I)Z"⟩, 65) := ⟨⟨by decide +kernel, by decide +kernel⟩, List.mem_of_getElem? (i := 1246) (by decide +kernel), List.mem_of_getElem? (i := 1800) (by decide +kernel), List.mem_of_getElem? (i := 1801) (by decide +kernel)⟩
theorem lw_p104 : lw_okq (⟨"PloughCallModel", "wouldKeep", "(III)Z"⟩, 65) := ⟨⟨by decide +kernel, by decide +kernel⟩, List.mem_of_getElem? (i := 1246) (by decide +kernel), List.mem_of_getElem? (i := 1804) (by decide +kernel), List.mem_of_getElem? (i := 1805) (by decide +kernel)⟩
theorem lw_p105 : lw_okq (⟨"PloughCallModel", "grownBy", "(II)I"⟩, 65) := ⟨⟨by decide +kernel, by decide +kernel⟩, List.mem_of_getElem? (i := 1246) (by decide +kernel), List.mem_of_getElem? (i := 1808) (by decide +kernel), List.mem_of_getElem? (i := 1809) (by decide +kernel)⟩
theorem lw_p106 : lw_okq (⟨"PloughCallModel", "heads", "(II)V"⟩, 65) := ⟨⟨by decide +kernel, by decide +kernel⟩, List.mem_of_getElem? (i := 1246) (by decide +kernel), List.mem_of_getElem? (i := 1820) (by decide +kernel), List.mem_of_getElem? (i := 1821) (by decide +kernel)⟩
theorem lw_p107 : lw_okq (⟨"PloughCallModel", "gives", "(III)V"⟩, 65) := ⟨⟨by decide +kernel, by decide +kernel⟩, List.mem_of_getElem? (i := 1246) (by decide +kernel), List.mem_of_getElem? (i := 1828) (by decide +kernel), List.mem_of_getElem? (i := 1829) (by decide +kernel)⟩
theorem lw_p108 : lw_okq (⟨"PloughCallModel", "endsBy", "(IIIIII)J"⟩, 65) := ⟨⟨by decide +kernel, by decide +kernel⟩, List.mem_of_getElem? (i := 1246) (by decide +kernel), List.mem_of_getElem? (i := 1841) (by decide +kernel), List.mem_of_getElem? (i := 1842) (by decide +kernel)⟩
theorem lw_p109 : lw_okq (⟨"PloughCallModel", "areDecrees", "(I)Z"⟩, 65) := ⟨⟨by decide +kernel, by decide +kernel⟩, List.mem_of_getElem? (i := 1246) (by decide +kernel), List.mem_of_getElem? (i := 1850) (by decide +kernel), List.mem_of_getElem? (i := 1851) (by decide +kernel)⟩
theorem lw_p110 : lw_okq (⟨"PloughCallModel", "fallen", "(I)I"⟩, 65) := ⟨⟨by decide +kernel, by decide +kernel⟩, List.mem_of_getElem? (i := 1246) (by decide +kernel), List.mem_of_getElem? (i := 1854) (by decide +kernel), List.mem_of_getElem? (i := 1855) (by decide +kernel)⟩
theorem lw_p111 : lw_okq (⟨"PloughCallModel", "allWho", "()I"⟩, 65) := ⟨⟨by decide +kernel, by decide +kernel⟩, List.mem_of_getElem? (i := 1246) (by decide +kernel), List.mem_of_getElem? (i := 1870) (by decide +kernel), List.mem_of_getElem? (i := 1871) (by decide +kernel)⟩
def lw_privs_7 : List (MethodName × Nat) := [(⟨"PloughCallModel", "keepsBy", "(III)Z"⟩, 65), (⟨"PloughCallModel", "canDisobey", "()Z"⟩, 65), (⟨"PloughCallModel", "canLay", "()Z"⟩, 65), (⟨"PloughCallModel", "laysDown", "()I"⟩, 65), (⟨"PloughCallModel", "goes", "(I)Z"⟩, 65), (⟨"PloughCallModel", "soonOf", "(II)I"⟩, 65), (⟨"PloughCallModel", "whomFor", "(II)I"⟩, 65), (⟨"PloughCallModel", "isNamedBySome", "(I)Z"⟩, 65), (⟨"PloughCallModel", "wouldKeep", "(III)Z"⟩, 65), (⟨"PloughCallModel", "grownBy", "(II)I"⟩, 65), (⟨"PloughCallModel", "heads", "(II)V"⟩, 65), (⟨"PloughCallModel", "gives", "(III)V"⟩, 65), (⟨"PloughCallModel", "endsBy", "(IIIIII)J"⟩, 65), (⟨"PloughCallModel", "areDecrees", "(I)Z"⟩, 65), (⟨"PloughCallModel", "fallen", "(I)I"⟩, 65), (⟨"PloughCallModel", "allWho", "()I"⟩, 65)]
theorem lw_r7 : ∀ q ∈ lw_privs_7, lw_okq q := List.forall_mem_cons.mpr ⟨lw_p96, List.forall_mem_cons.mpr ⟨lw_p97, List.forall_mem_cons.mpr ⟨lw_p98, List.forall_mem_cons.mpr ⟨lw_p99, List.forall_mem_cons.mpr ⟨lw_p100, List.forall_mem_cons.mpr ⟨lw_p101, List.forall_mem_cons.mpr ⟨lw_p102, List.forall_mem_cons.mpr ⟨lw_p103, List.forall_mem_cons.mpr ⟨lw_p104, List.forall_mem_cons.mpr ⟨lw_p105, List.forall_mem_cons.mpr ⟨lw_p106, List.forall_mem_cons.mpr ⟨lw_p107, List.forall_mem_cons.mpr ⟨lw_p108, List.forall_mem_cons.mpr ⟨lw_p109, List.forall_mem_cons.mpr ⟨lw_p110, List.forall_mem_cons.mpr ⟨lw_p111, fun _ h => absurd h List.not_mem_nil⟩⟩⟩⟩⟩⟩⟩⟩⟩⟩⟩⟩⟩⟩⟩⟩
theorem lw_p112 : lw_okq (⟨"PloughCallModel", "isAsTold", "(I)Z"⟩, 65) := ⟨⟨by decide +kernel, by decide +kernel⟩, List.mem_of_getElem? (i := 1246) (by decide +kernel), List.mem_of_getElem? (i := 1874) (by decide +kernel), List.mem_of_getElem? (i := 1875) (by decide +kernel)⟩
theorem lw_p113 : lw_okq (⟨"PloughCallModel", "sizeBy", "(III)I"⟩, 65) := ⟨⟨by decide +kernel, by decide +kernel⟩, List.mem_of_getElem? (i := 1246) (by decide +kernel), List.mem_of_getElem? (i := 1878) (by decide +kernel), List.mem_of_getElem? (i := 1879) (by decide +kernel)⟩
theorem lw_p114 : lw_okq (⟨"PloughCallModel", "mostAlike", "(III)I"⟩, 65) := ⟨⟨by decide +kernel, by decide +kernel⟩, List.mem_of_getElem? (i := 1246) (by decide +kernel), List.mem_of_getElem? (i := 1886) (by decide +kernel), List.mem_of_getElem? (i := 1887) (by decide +kernel)⟩
theorem lw_p115 : lw_okq (⟨"PloughCallModel", "livesMonth", "()I"⟩, 65) := ⟨⟨by decide +kernel, by decide +kernel⟩, List.mem_of_getElem? (i := 1246) (by decide +kernel), List.mem_of_getElem? (i := 1901) (by decide +kernel), List.mem_of_getElem? (i := 1902) (by decide +kernel)⟩
theorem lw_p116 : lw_okq (⟨"PloughCallModel", "draws", "(I)I"⟩, 65) := ⟨⟨by decide +kernel, by decide +kernel⟩, List.mem_of_getElem? (i := 1246) (by decide +kernel), List.mem_of_getElem? (i := 1905) (by decide +kernel), List.mem_of_getElem? (i := 1906) (by decide +kernel)⟩
theorem lw_p117 : lw_okq (⟨"PloughCallModel", "laysTold", "(II)V"⟩, 65) := ⟨⟨by decide +kernel, by decide +kernel⟩, List.mem_of_getElem? (i := 1246) (by decide +kernel), List.mem_of_getElem? (i := 1917) (by decide +kernel), List.mem_of_getElem? (i := 1918) (by decide +kernel)⟩
def lw_privs_8 : List (MethodName × Nat) := [(⟨"PloughCallModel", "isAsTold", "(I)Z"⟩, 65), (⟨"PloughCallModel", "sizeBy", "(III)I"⟩, 65), (⟨"PloughCallModel", "mostAlike", "(III)I"⟩, 65), (⟨"PloughCallModel", "livesMonth", "()I"⟩, 65), (⟨"PloughCallModel", "draws", "(I)I"⟩, 65), (⟨"PloughCallModel", "laysTold", "(II)V"⟩, 65)]
theorem lw_r8 : ∀ q ∈ lw_privs_8, lw_okq q := List.forall_mem_cons.mpr ⟨lw_p112, List.forall_mem_cons.mpr ⟨lw_p113, List.forall_mem_cons.mpr ⟨lw_p114, List.forall_mem_cons.mpr ⟨lw_p115, List.forall_mem_cons.mpr ⟨lw_p116, List.forall_mem_cons.mpr ⟨lw_p117, fun _ h => absurd h List.not_mem_nil⟩⟩⟩⟩⟩⟩
def lw_privs : List (MethodName × Nat) := lw_privs_1 ++ (lw_privs_2 ++ (lw_privs_3 ++ (lw_privs_4 ++ (lw_privs_5 ++ (lw_privs_6 ++ (lw_privs_7 ++ (lw_privs_8)))))))
def lw_tbl : List Cond := k2_sels lw_privs ++ tables_1
theorem lw_privs_ok : ∀ q ∈ lw_privs, lw_okq q := by
  show ∀ q ∈ lw_privs_1 ++ (lw_privs_2 ++ (lw_privs_3 ++ (lw_privs_4 ++ (lw_privs_5 ++ (lw_privs_6 ++ (lw_privs_7 ++ (lw_privs_8))))))), lw_okq q
  exact List.forall_mem_append.mpr ⟨lw_r1, List.forall_mem_append.mpr ⟨lw_r2, List.forall_mem_append.mpr ⟨lw_r3, List.forall_mem_append.mpr ⟨lw_r4, List.forall_mem_append.mpr ⟨lw_r5, List.forall_mem_append.mpr ⟨lw_r6, List.forall_mem_append.mpr ⟨lw_r7, lw_r8⟩⟩⟩⟩⟩⟩⟩

def RX0 : String := "PloughCall$1"
def TX0 : u_T := fun k => match k with
  | _ => ("", "", "", false)
def tyX0 : Nat → FieldType := fun k => match k with
  | _ => .int
theorem nmX0 : ∀ a, a < 0 → ∀ b, b < 0 → a ≠ b → (TX0 a).2.1 ≠ (TX0 b).2.1 := by decide +kernel
theorem tyX0_ok : ∀ k, k < 0 → parseFieldDescriptor (TX0 k).2.2.1 = some (tyX0 k) := by decide +kernel
def RX1 : String := "PloughCall$City"
def TX1 : u_T := fun k => match k with
  | 0 => ("PloughCall$City", "men", "I", false)
  | 1 => ("PloughCall$City", "consuls", "I", false)
  | 2 => ("PloughCall$City", "dangers", "I", false)
  | 3 => ("PloughCall$City", "decrees", "I", false)
  | 4 => ("PloughCall$City", "term", "I", false)
  | 5 => ("PloughCall$City", "termTold", "Z", false)
  | 6 => ("PloughCall$City", "manNames", "[J", true)
  | 7 => ("PloughCall$City", "kinds", "[I", true)
  | 8 => ("PloughCall$City", "skills", "[I", true)
  | 9 => ("PloughCall$City", "fields", "[I", true)
  | 10 => ("PloughCall$City", "wants", "[I", true)
  | 11 => ("PloughCall$City", "hated", "[I", true)
  | 12 => ("PloughCall$City", "dangerNames", "[J", true)
  | 13 => ("PloughCall$City", "sizes", "[I", true)
  | 14 => ("PloughCall$City", "grows", "[I", true)
  | 15 => ("PloughCall$City", "decreeNames", "[J", true)
  | 16 => ("PloughCall$City", "grounds", "[I", true)
  | _ => ("PloughCall$City", "laws", "LPloughCall$Laws;", true)
def tyX1 : Nat → FieldType := fun k => match k with
  | 0 => .int
  | 1 => .int
  | 2 => .int
  | 3 => .int
  | 4 => .int
  | 5 => .boolean
  | 6 => .array .long
  | 7 => .array .int
  | 8 => .array .int
  | 9 => .array .int
  | 10 => .array .int
  | 11 => .array .int
  | 12 => .array .long
  | 13 => .array .int
  | 14 => .array .int
  | 15 => .array .long
  | 16 => .array .int
  | _ => .object "PloughCall$Laws"
theorem nmX1 : ∀ a, a < 18 → ∀ b, b < 18 → a ≠ b → (TX1 a).2.1 ≠ (TX1 b).2.1 := by decide +kernel
theorem tyX1_ok : ∀ k, k < 18 → parseFieldDescriptor (TX1 k).2.2.1 = some (tyX1 k) := by decide +kernel
abbrev cX1_init : ByteArray := prog_3_method_1_code
def yX1_init : MethodName := ⟨RX1, "<init>", "()V"⟩
abbrev cX1_clear : ByteArray := prog_3_method_2_code
def yX1_clear : MethodName := ⟨RX1, "clear", "()V"⟩
abbrev cX1_addMan : ByteArray := prog_3_method_3_code
def yX1_addMan : MethodName := ⟨RX1, "addMan", "(JIIII)V"⟩
abbrev cX1_addDanger : ByteArray := prog_3_method_4_code
def yX1_addDanger : MethodName := ⟨RX1, "addDanger", "(JII)V"⟩
abbrev cX1_addDecree : ByteArray := prog_3_method_5_code
def yX1_addDecree : MethodName := ⟨RX1, "addDecree", "(JI)V"⟩
abbrev cX1_manNamed : ByteArray := prog_3_method_6_code
def yX1_manNamed : MethodName := ⟨RX1, "manNamed", "(J)I"⟩
abbrev cX1_dangerNamed : ByteArray := prog_3_method_7_code
def yX1_dangerNamed : MethodName := ⟨RX1, "dangerNamed", "(J)I"⟩
abbrev cX1_decreeNamed : ByteArray := prog_3_method_8_code
def yX1_decreeNamed : MethodName := ⟨RX1, "decreeNamed", "(J)I"⟩
abbrev cX1_isNamed : ByteArray := prog_3_method_9_code
def yX1_isNamed : MethodName := ⟨RX1, "isNamed", "(J)Z"⟩
abbrev cX1_placeOf : ByteArray := prog_3_method_10_code
def yX1_placeOf : MethodName := ⟨RX1, "placeOf", "([JIJ)I"⟩
abbrev cX1_hasMan : ByteArray := prog_3_method_11_code
def yX1_hasMan : MethodName := ⟨RX1, "hasMan", "(I)Z"⟩
abbrev cX1_hasDanger : ByteArray := prog_3_method_12_code
def yX1_hasDanger : MethodName := ⟨RX1, "hasDanger", "(I)Z"⟩
abbrev cX1_hasDecrees : ByteArray := prog_3_method_13_code
def yX1_hasDecrees : MethodName := ⟨RX1, "hasDecrees", "(I)Z"⟩
abbrev cX1_isConsul : ByteArray := prog_3_method_14_code
def yX1_isConsul : MethodName := ⟨RX1, "isConsul", "(I)Z"⟩
abbrev cX1_doesHate : ByteArray := prog_3_method_15_code
def yX1_doesHate : MethodName := ⟨RX1, "doesHate", "(II)Z"⟩
abbrev cX1_couldName : ByteArray := prog_3_method_16_code
def yX1_couldName : MethodName := ⟨RX1, "couldName", "(II)Z"⟩
abbrev cX1_someConsulCouldName : ByteArray := prog_3_method_17_code
def yX1_someConsulCouldName : MethodName := ⟨RX1, "someConsulCouldName", "(I)Z"⟩
abbrev cX1_strength : ByteArray := prog_3_method_18_code
def yX1_strength : MethodName := ⟨RX1, "strength", "(III)I"⟩
abbrev cX1_wouldKeep : ByteArray := prog_3_method_19_code
def yX1_wouldKeep : MethodName := ⟨RX1, "wouldKeep", "(III)Z"⟩
abbrev cX1_likedForEnding : ByteArray := prog_3_method_20_code
def yX1_likedForEnding : MethodName := ⟨RX1, "likedForEnding", "(I)I"⟩
abbrev cX1_sizeBehind : ByteArray := prog_3_method_21_code
def yX1_sizeBehind : MethodName := ⟨RX1, "sizeBehind", "(III)I"⟩
abbrev cX1_monthsToEnd : ByteArray := prog_3_method_22_code
def yX1_monthsToEnd : MethodName := ⟨RX1, "monthsToEnd", "(II)I"⟩
abbrev cX1_fallen : ByteArray := prog_3_method_23_code
def yX1_fallen : MethodName := ⟨RX1, "fallen", "(I)I"⟩
abbrev cX1_neededBy : ByteArray := prog_3_method_24_code
def yX1_neededBy : MethodName := ⟨RX1, "neededBy", "(I)I"⟩
def RX2 : String := "PloughCall$Counsel"
def TX2 : u_T := fun k => match k with
  | 0 => ("PloughCall$Counsel", "path", "[LPloughCall$Standing;", true)
  | 1 => ("PloughCall$Counsel", "row", "[I", true)
  | 2 => ("PloughCall$Counsel", "leastRow", "[I", true)
  | 3 => ("PloughCall$Counsel", "needed", "[I", true)
  | 4 => ("PloughCall$Counsel", "likeSizes", "[I", true)
  | 5 => ("PloughCall$Counsel", "ways", "[J", false)
  | 6 => ("PloughCall$Counsel", "nextWays", "[J", false)
  | 7 => ("PloughCall$Counsel", "least", "I", false)
  | 8 => ("PloughCall$Counsel", "ended", "I", false)
  | _ => ("PloughCall$Counsel", "monthsKept", "I", false)
def tyX2 : Nat → FieldType := fun k => match k with
  | 0 => .array (.object "PloughCall$Standing")
  | 1 => .array .int
  | 2 => .array .int
  | 3 => .array .int
  | 4 => .array .int
  | 5 => .array .long
  | 6 => .array .long
  | 7 => .int
  | 8 => .int
  | _ => .int
theorem nmX2 : ∀ a, a < 10 → ∀ b, b < 10 → a ≠ b → (TX2 a).2.1 ≠ (TX2 b).2.1 := by decide +kernel
theorem tyX2_ok : ∀ k, k < 10 → parseFieldDescriptor (TX2 k).2.2.1 = some (tyX2 k) := by decide +kernel
abbrev cX2_init : ByteArray := prog_4_method_1_code
def yX2_init : MethodName := ⟨RX2, "<init>", "()V"⟩
abbrev cX2_soonest : ByteArray := prog_4_method_2_code
def yX2_soonest : MethodName := ⟨RX2, "soonest", "(LPloughCall$City;LPloughCall$Standing;II)I"⟩
abbrev cX2_wouldKeepThen : ByteArray := prog_4_method_3_code
def yX2_wouldKeepThen : MethodName := ⟨RX2, "wouldKeepThen", "(LPloughCall$City;LPloughCall$Standing;III)Z"⟩
abbrev cX2_head : ByteArray := prog_4_method_4_code
def yX2_head : MethodName := ⟨RX2, "head", "(LPloughCall$City;LPloughCall$Standing;I)V"⟩
abbrev cX2_headFrom : ByteArray := prog_4_method_5_code
def yX2_headFrom : MethodName := ⟨RX2, "headFrom", "(LPloughCall$City;II)V"⟩
abbrev cX2_pathAt : ByteArray := prog_4_method_6_code
def yX2_pathAt : MethodName := ⟨RX2, "pathAt", "(I)LPloughCall$Standing;"⟩
abbrev cX2_keepIfLess : ByteArray := prog_4_method_7_code
def yX2_keepIfLess : MethodName := ⟨RX2, "keepIfLess", "(I)V"⟩
abbrev cX2_share : ByteArray := prog_4_method_8_code
def yX2_share : MethodName := ⟨RX2, "share", "(LPloughCall$City;LPloughCall$Standing;)V"⟩
abbrev cX2_shareFrom : ByteArray := prog_4_method_9_code
def yX2_shareFrom : MethodName := ⟨RX2, "shareFrom", "(LPloughCall$City;LPloughCall$Standing;III)V"⟩
abbrev cX2_chanceToEnd : ByteArray := prog_4_method_10_code
def yX2_chanceToEnd : MethodName := ⟨RX2, "chanceToEnd", "(LPloughCall$City;IIIII)I"⟩
abbrev cX2_spread : ByteArray := prog_4_method_11_code
def yX2_spread : MethodName := ⟨RX2, "spread", "(LPloughCall$City;IIII)V"⟩
abbrev cX2_addWays : ByteArray := prog_4_method_12_code
def yX2_addWays : MethodName := ⟨RX2, "addWays", "(IJ)V"⟩
abbrev cX2_parting : ByteArray := prog_4_method_13_code
def yX2_parting : MethodName := ⟨RX2, "parting", "(LPloughCall$City;II)I"⟩
abbrev cX2_mostAlike : ByteArray := prog_4_method_14_code
def yX2_mostAlike : MethodName := ⟨RX2, "mostAlike", "(LPloughCall$City;III)I"⟩
abbrev cX2_live : ByteArray := prog_4_method_15_code
def yX2_live : MethodName := ⟨RX2, "live", "(LPloughCall$City;LPloughCall$Standing;II)V"⟩
abbrev cX2_drawnNext : ByteArray := prog_4_method_16_code
def yX2_drawnNext : MethodName := ⟨RX2, "drawnNext", "(J)J"⟩
abbrev cX2_drawnBelow : ByteArray := prog_4_method_17_code
def yX2_drawnBelow : MethodName := ⟨RX2, "drawnBelow", "(JI)I"⟩
def RX3 : String := "PloughCall$Laws"
def TX3 : u_T := fun k => match k with
  | 0 => ("PloughCall$Laws", "ops", "[I", true)
  | 1 => ("PloughCall$Laws", "stack", "[I", true)
  | 2 => ("PloughCall$Laws", "size", "I", false)
  | 3 => ("PloughCall$Laws", "worksFrom", "I", false)
  | 4 => ("PloughCall$Laws", "worksTo", "I", false)
  | 5 => ("PloughCall$Laws", "keepsFrom", "I", false)
  | _ => ("PloughCall$Laws", "keepsTo", "I", false)
def tyX3 : Nat → FieldType := fun k => match k with
  | 0 => .array .int
  | 1 => .array .int
  | 2 => .int
  | 3 => .int
  | 4 => .int
  | 5 => .int
  | _ => .int
theorem nmX3 : ∀ a, a < 7 → ∀ b, b < 7 → a ≠ b → (TX3 a).2.1 ≠ (TX3 b).2.1 := by decide +kernel
theorem tyX3_ok : ∀ k, k < 7 → parseFieldDescriptor (TX3 k).2.2.1 = some (tyX3 k) := by decide +kernel
abbrev cX3_init : ByteArray := prog_5_method_1_code
def yX3_init : MethodName := ⟨RX3, "<init>", "()V"⟩
abbrev cX3_clear : ByteArray := prog_5_method_2_code
def yX3_clear : MethodName := ⟨RX3, "clear", "()V"⟩
abbrev cX3_add : ByteArray := prog_5_method_3_code
def yX3_add : MethodName := ⟨RX3, "add", "(I)V"⟩
abbrev cX3_isTold : ByteArray := prog_5_method_4_code
def yX3_isTold : MethodName := ⟨RX3, "isTold", "(Z)Z"⟩
abbrev cX3_close : ByteArray := prog_5_method_5_code
def yX3_close : MethodName := ⟨RX3, "close", "(ZI)V"⟩
abbrev cX3_worth : ByteArray := prog_5_method_6_code
def yX3_worth : MethodName := ⟨RX3, "worth", "(ZIIII)I"⟩
abbrev cX3_alone : ByteArray := prog_5_method_7_code
def yX3_alone : MethodName := ⟨RX3, "alone", "(IIIII)I"⟩
abbrev cX3_joined : ByteArray := prog_5_method_8_code
def yX3_joined : MethodName := ⟨RX3, "joined", "(III)I"⟩
def RX4 : String := "PloughCall$Mark"
def TX4 : u_T := fun k => match k with
  | 0 => ("PloughCall$Mark", "laid", "Z", false)
  | 1 => ("PloughCall$Mark", "standing", "LPloughCall$Standing;", true)
  | 2 => ("PloughCall$Mark", "script", "LPloughCall$Script;", true)
  | _ => ("PloughCall$Mark", "reports", "LPloughCall$Reports;", true)
def tyX4 : Nat → FieldType := fun k => match k with
  | 0 => .boolean
  | 1 => .object "PloughCall$Standing"
  | 2 => .object "PloughCall$Script"
  | _ => .object "PloughCall$Reports"
theorem nmX4 : ∀ a, a < 4 → ∀ b, b < 4 → a ≠ b → (TX4 a).2.1 ≠ (TX4 b).2.1 := by decide +kernel
theorem tyX4_ok : ∀ k, k < 4 → parseFieldDescriptor (TX4 k).2.2.1 = some (tyX4 k) := by decide +kernel
abbrev cX4_init : ByteArray := prog_6_method_1_code
def yX4_init : MethodName := ⟨RX4, "<init>", "()V"⟩
abbrev cX4_hold : ByteArray := prog_6_method_2_code
def yX4_hold : MethodName := ⟨RX4, "hold", "(LPloughCall$Standing;LPloughCall$Script;LPloughCall$Reports;)V"⟩
def RX5 : String := "PloughCall$Past"
def TX5 : u_T := fun k => match k with
  | 0 => ("PloughCall$Past", "befores", "[LPloughCall$Standing;", true)
  | 1 => ("PloughCall$Past", "steps", "I", false)
  | _ => ("PloughCall$Past", "next", "I", false)
def tyX5 : Nat → FieldType := fun k => match k with
  | 0 => .array (.object "PloughCall$Standing")
  | 1 => .int
  | _ => .int
theorem nmX5 : ∀ a, a < 3 → ∀ b, b < 3 → a ≠ b → (TX5 a).2.1 ≠ (TX5 b).2.1 := by decide +kernel
theorem tyX5_ok : ∀ k, k < 3 → parseFieldDescriptor (TX5 k).2.2.1 = some (tyX5 k) := by decide +kernel
abbrev cX5_init : ByteArray := prog_7_method_1_code
def yX5_init : MethodName := ⟨RX5, "<init>", "()V"⟩
abbrev cX5_push : ByteArray := prog_7_method_2_code
def yX5_push : MethodName := ⟨RX5, "push", "(LPloughCall$Standing;)V"⟩
abbrev cX5_pop : ByteArray := prog_7_method_3_code
def yX5_pop : MethodName := ⟨RX5, "pop", "(LPloughCall$Standing;)Z"⟩
abbrev cX5_beforeAt : ByteArray := prog_7_method_4_code
def yX5_beforeAt : MethodName := ⟨RX5, "beforeAt", "(I)LPloughCall$Standing;"⟩
def RX6 : String := "PloughCall$Reader"
def TX6 : u_T := fun k => match k with
  | 0 => ("PloughCall$Reader", "tape", "LPloughCall$Tape;", true)
  | 1 => ("PloughCall$Reader", "city", "LPloughCall$City;", false)
  | 2 => ("PloughCall$Reader", "script", "LPloughCall$Script;", false)
  | _ => ("PloughCall$Reader", "fault", "I", false)
def tyX6 : Nat → FieldType := fun k => match k with
  | 0 => .object "PloughCall$Tape"
  | 1 => .object "PloughCall$City"
  | 2 => .object "PloughCall$Script"
  | _ => .int
theorem nmX6 : ∀ a, a < 4 → ∀ b, b < 4 → a ≠ b → (TX6 a).2.1 ≠ (TX6 b).2.1 := by decide +kernel
theorem tyX6_ok : ∀ k, k < 4 → parseFieldDescriptor (TX6 k).2.2.1 = some (tyX6 k) := by decide +kernel
abbrev cX6_init : ByteArray := prog_8_method_1_code
def yX6_init : MethodName := ⟨RX6, "<init>", "(LPloughCall$Tape;)V"⟩
abbrev cX6_readCity : ByteArray := prog_8_method_2_code
def yX6_readCity : MethodName := ⟨RX6, "readCity", "(LPloughCall$City;)I"⟩
abbrev cX6_readMonths : ByteArray := prog_8_method_3_code
def yX6_readMonths : MethodName := ⟨RX6, "readMonths", "(LPloughCall$City;LPloughCall$Script;)I"⟩
abbrev cX6_wrong : ByteArray := prog_8_method_4_code
def yX6_wrong : MethodName := ⟨RX6, "wrong", "(I)Z"⟩
abbrev cX6_cityLine : ByteArray := prog_8_method_5_code
def yX6_cityLine : MethodName := ⟨RX6, "cityLine", "()Z"⟩
abbrev cX6_manLine : ByteArray := prog_8_method_6_code
def yX6_manLine : MethodName := ⟨RX6, "manLine", "()Z"⟩
abbrev cX6_kindSpelt : ByteArray := prog_8_method_7_code
def yX6_kindSpelt : MethodName := ⟨RX6, "kindSpelt", "()I"⟩
abbrev cX6_consulLine : ByteArray := prog_8_method_8_code
def yX6_consulLine : MethodName := ⟨RX6, "consulLine", "()Z"⟩
abbrev cX6_hatesLine : ByteArray := prog_8_method_9_code
def yX6_hatesLine : MethodName := ⟨RX6, "hatesLine", "()Z"⟩
abbrev cX6_dangerLine : ByteArray := prog_8_method_10_code
def yX6_dangerLine : MethodName := ⟨RX6, "dangerLine", "()Z"⟩
abbrev cX6_decreeLine : ByteArray := prog_8_method_11_code
def yX6_decreeLine : MethodName := ⟨RX6, "decreeLine", "()Z"⟩
abbrev cX6_groundsTold : ByteArray := prog_8_method_12_code
def yX6_groundsTold : MethodName := ⟨RX6, "groundsTold", "()I"⟩
abbrev cX6_termLine : ByteArray := prog_8_method_13_code
def yX6_termLine : MethodName := ⟨RX6, "termLine", "()Z"⟩
abbrev cX6_lawLine : ByteArray := prog_8_method_14_code
def yX6_lawLine : MethodName := ⟨RX6, "lawLine", "(Z)Z"⟩
abbrev cX6_monthsLine : ByteArray := prog_8_method_15_code
def yX6_monthsLine : MethodName := ⟨RX6, "monthsLine", "()Z"⟩
abbrev cX6_lineSpelt : ByteArray := prog_8_method_16_code
def yX6_lineSpelt : MethodName := ⟨RX6, "lineSpelt", "()I"⟩
abbrev cX6_freshName : ByteArray := prog_8_method_17_code
def yX6_freshName : MethodName := ⟨RX6, "freshName", "()Z"⟩
abbrev cX6_toldOne : ByteArray := prog_8_method_18_code
def yX6_toldOne : MethodName := ⟨RX6, "toldOne", "(Z)I"⟩
abbrev cX6_labelled : ByteArray := prog_8_method_19_code
def yX6_labelled : MethodName := ⟨RX6, "labelled", "(LPloughCall$Word;II)I"⟩
abbrev cX6_lineEnds : ByteArray := prog_8_method_20_code
def yX6_lineEnds : MethodName := ⟨RX6, "lineEnds", "()Z"⟩
abbrev cX6_expression : ByteArray := prog_8_method_21_code
def yX6_expression : MethodName := ⟨RX6, "expression", "(ZI)Z"⟩
abbrev cX6_comparison : ByteArray := prog_8_method_22_code
def yX6_comparison : MethodName := ⟨RX6, "comparison", "(ZI)Z"⟩
abbrev cX6_total : ByteArray := prog_8_method_23_code
def yX6_total : MethodName := ⟨RX6, "total", "(ZI)Z"⟩
abbrev cX6_product : ByteArray := prog_8_method_24_code
def yX6_product : MethodName := ⟨RX6, "product", "(ZI)Z"⟩
abbrev cX6_part : ByteArray := prog_8_method_25_code
def yX6_part : MethodName := ⟨RX6, "part", "(ZI)Z"⟩
abbrev cX6_factSpelt : ByteArray := prog_8_method_26_code
def yX6_factSpelt : MethodName := ⟨RX6, "factSpelt", "(Z)I"⟩
def RX7 : String := "PloughCall$Reports"
def TX7 : u_T := fun k => match k with
  | 0 => ("PloughCall$Reports", "told", "I", false)
  | 1 => ("PloughCall$Reports", "dangers", "[I", true)
  | 2 => ("PloughCall$Reports", "months", "[I", true)
  | _ => ("PloughCall$Reports", "sizes", "[I", true)
def tyX7 : Nat → FieldType := fun k => match k with
  | 0 => .int
  | 1 => .array .int
  | 2 => .array .int
  | _ => .array .int
theorem nmX7 : ∀ a, a < 4 → ∀ b, b < 4 → a ≠ b → (TX7 a).2.1 ≠ (TX7 b).2.1 := by decide +kernel
theorem tyX7_ok : ∀ k, k < 4 → parseFieldDescriptor (TX7 k).2.2.1 = some (tyX7 k) := by decide +kernel
abbrev cX7_init : ByteArray := prog_9_method_1_code
def yX7_init : MethodName := ⟨RX7, "<init>", "()V"⟩
abbrev cX7_add : ByteArray := prog_9_method_2_code
def yX7_add : MethodName := ⟨RX7, "add", "(III)Z"⟩
abbrev cX7_copy : ByteArray := prog_9_method_3_code
def yX7_copy : MethodName := ⟨RX7, "copy", "(LPloughCall$Reports;)V"⟩
abbrev cX7_suspects : ByteArray := prog_9_method_4_code
def yX7_suspects : MethodName := ⟨RX7, "suspects", "(LPloughCall$City;)I"⟩
abbrev cX7_fits : ByteArray := prog_9_method_5_code
def yX7_fits : MethodName := ⟨RX7, "fits", "(LPloughCall$City;I)Z"⟩
def RX8 : String := "PloughCall$Script"
def TX8 : u_T := fun k => match k with
  | 0 => ("PloughCall$Script", "lines", "I", false)
  | 1 => ("PloughCall$Script", "kinds", "[I", true)
  | 2 => ("PloughCall$Script", "firsts", "[I", true)
  | _ => ("PloughCall$Script", "seconds", "[I", true)
def tyX8 : Nat → FieldType := fun k => match k with
  | 0 => .int
  | 1 => .array .int
  | 2 => .array .int
  | _ => .array .int
theorem nmX8 : ∀ a, a < 4 → ∀ b, b < 4 → a ≠ b → (TX8 a).2.1 ≠ (TX8 b).2.1 := by decide +kernel
theorem tyX8_ok : ∀ k, k < 4 → parseFieldDescriptor (TX8 k).2.2.1 = some (tyX8 k) := by decide +kernel
abbrev cX8_init : ByteArray := prog_10_method_1_code
def yX8_init : MethodName := ⟨RX8, "<init>", "()V"⟩
abbrev cX8_add : ByteArray := prog_10_method_2_code
def yX8_add : MethodName := ⟨RX8, "add", "(III)V"⟩
abbrev cX8_copy : ByteArray := prog_10_method_3_code
def yX8_copy : MethodName := ⟨RX8, "copy", "(LPloughCall$Script;)V"⟩
abbrev cX8_play : ByteArray := prog_10_method_4_code
def yX8_play : MethodName := ⟨RX8, "play", "(LPloughCall$City;LPloughCall$Standing;I)Z"⟩
def RX9 : String := "PloughCall$Standing"
def TX9 : u_T := fun k => match k with
  | 0 => ("PloughCall$Standing", "month", "I", false)
  | 1 => ("PloughCall$Standing", "power", "I", false)
  | 2 => ("PloughCall$Standing", "master", "I", false)
  | 3 => ("PloughCall$Standing", "left", "I", false)
  | 4 => ("PloughCall$Standing", "kept", "Z", false)
  | 5 => ("PloughCall$Standing", "passed", "I", false)
  | 6 => ("PloughCall$Standing", "sizes", "[I", true)
  | 7 => ("PloughCall$Standing", "fields", "[I", true)
  | _ => ("PloughCall$Standing", "liked", "[I", true)
def tyX9 : Nat → FieldType := fun k => match k with
  | 0 => .int
  | 1 => .int
  | 2 => .int
  | 3 => .int
  | 4 => .boolean
  | 5 => .int
  | 6 => .array .int
  | 7 => .array .int
  | _ => .array .int
theorem nmX9 : ∀ a, a < 9 → ∀ b, b < 9 → a ≠ b → (TX9 a).2.1 ≠ (TX9 b).2.1 := by decide +kernel
theorem tyX9_ok : ∀ k, k < 9 → parseFieldDescriptor (TX9 k).2.2.1 = some (tyX9 k) := by decide +kernel
abbrev cX9_init : ByteArray := prog_11_method_1_code
def yX9_init : MethodName := ⟨RX9, "<init>", "()V"⟩
abbrev cX9_begin : ByteArray := prog_11_method_2_code
def yX9_begin : MethodName := ⟨RX9, "begin", "(LPloughCall$City;)V"⟩
abbrev cX9_copy : ByteArray := prog_11_method_3_code
def yX9_copy : MethodName := ⟨RX9, "copy", "(LPloughCall$Standing;)V"⟩
abbrev cX9_release : ByteArray := prog_11_method_4_code
def yX9_release : MethodName := ⟨RX9, "release", "()V"⟩
abbrev cX9_canName : ByteArray := prog_11_method_5_code
def yX9_canName : MethodName := ⟨RX9, "canName", "(LPloughCall$City;II)Z"⟩
abbrev cX9_canMaster : ByteArray := prog_11_method_6_code
def yX9_canMaster : MethodName := ⟨RX9, "canMaster", "(LPloughCall$City;I)Z"⟩
abbrev cX9_canDisobey : ByteArray := prog_11_method_7_code
def yX9_canDisobey : MethodName := ⟨RX9, "canDisobey", "(LPloughCall$City;II)Z"⟩
abbrev cX9_canLay : ByteArray := prog_11_method_8_code
def yX9_canLay : MethodName := ⟨RX9, "canLay", "()Z"⟩
abbrev cX9_give : ByteArray := prog_11_method_9_code
def yX9_give : MethodName := ⟨RX9, "give", "(LPloughCall$City;I)V"⟩
abbrev cX9_layDown : ByteArray := prog_11_method_10_code
def yX9_layDown : MethodName := ⟨RX9, "layDown", "()I"⟩
abbrev cX9_passMonth : ByteArray := prog_11_method_11_code
def yX9_passMonth : MethodName := ⟨RX9, "passMonth", "(LPloughCall$City;II)I"⟩
abbrev cX9_turn : ByteArray := prog_11_method_12_code
def yX9_turn : MethodName := ⟨RX9, "turn", "(LPloughCall$City;II)I"⟩
abbrev cX9_lessen : ByteArray := prog_11_method_13_code
def yX9_lessen : MethodName := ⟨RX9, "lessen", "(II)I"⟩
abbrev cX9_grow : ByteArray := prog_11_method_14_code
def yX9_grow : MethodName := ⟨RX9, "grow", "(LPloughCall$City;II)V"⟩
abbrev cX9_grown : ByteArray := prog_11_method_15_code
def yX9_grown : MethodName := ⟨RX9, "grown", "(LPloughCall$City;II)I"⟩
abbrev cX9_closeMonth : ByteArray := prog_11_method_16_code
def yX9_closeMonth : MethodName := ⟨RX9, "closeMonth", "(LPloughCall$City;I)V"⟩
abbrev cX9_like : ByteArray := prog_11_method_17_code
def yX9_like : MethodName := ⟨RX9, "like", "(II)V"⟩
abbrev cX9_likedWith : ByteArray := prog_11_method_18_code
def yX9_likedWith : MethodName := ⟨RX9, "likedWith", "(II)I"⟩
abbrev cX9_together : ByteArray := prog_11_method_19_code
def yX9_together : MethodName := ⟨RX9, "together", "()I"⟩
abbrev cX9_togetherGrown : ByteArray := prog_11_method_20_code
def yX9_togetherGrown : MethodName := ⟨RX9, "togetherGrown", "(LPloughCall$City;II)I"⟩
abbrev cX9_dangersLeft : ByteArray := prog_11_method_21_code
def yX9_dangersLeft : MethodName := ⟨RX9, "dangersLeft", "()I"⟩
def RX10 : String := "PloughCall$Tape"
def TX10 : u_T := fun k => match k with
  | 0 => ("PloughCall$Tape", "signs", "[I", true)
  | 1 => ("PloughCall$Tape", "length", "I", false)
  | 2 => ("PloughCall$Tape", "place", "I", false)
  | 3 => ("PloughCall$Tape", "behind", "I", false)
  | 4 => ("PloughCall$Tape", "kind", "I", false)
  | 5 => ("PloughCall$Tape", "value", "I", false)
  | 6 => ("PloughCall$Tape", "letters", "J", false)
  | _ => ("PloughCall$Tape", "word", "LPloughCall$Word;", false)
def tyX10 : Nat → FieldType := fun k => match k with
  | 0 => .array .int
  | 1 => .int
  | 2 => .int
  | 3 => .int
  | 4 => .int
  | 5 => .int
  | 6 => .long
  | _ => .object "PloughCall$Word"
theorem nmX10 : ∀ a, a < 8 → ∀ b, b < 8 → a ≠ b → (TX10 a).2.1 ≠ (TX10 b).2.1 := by decide +kernel
theorem tyX10_ok : ∀ k, k < 8 → parseFieldDescriptor (TX10 k).2.2.1 = some (tyX10 k) := by decide +kernel
abbrev cX10_init : ByteArray := prog_12_method_1_code
def yX10_init : MethodName := ⟨RX10, "<init>", "()V"⟩
abbrev cX10_addBytes : ByteArray := prog_12_method_2_code
def yX10_addBytes : MethodName := ⟨RX10, "addBytes", "(J)V"⟩
abbrev cX10_open : ByteArray := prog_12_method_3_code
def yX10_open : MethodName := ⟨RX10, "open", "()V"⟩
abbrev cX10_empty : ByteArray := prog_12_method_4_code
def yX10_empty : MethodName := ⟨RX10, "empty", "()V"⟩
abbrev cX10_advance : ByteArray := prog_12_method_5_code
def yX10_advance : MethodName := ⟨RX10, "advance", "()V"⟩
abbrev cX10_readWord : ByteArray := prog_12_method_6_code
def yX10_readWord : MethodName := ⟨RX10, "readWord", "()V"⟩
abbrev cX10_readNumber : ByteArray := prog_12_method_7_code
def yX10_readNumber : MethodName := ⟨RX10, "readNumber", "()V"⟩
abbrev cX10_isOwnToken : ByteArray := prog_12_method_8_code
def yX10_isOwnToken : MethodName := ⟨RX10, "isOwnToken", "(I)Z"⟩
abbrev cX10_isSign : ByteArray := prog_12_method_9_code
def yX10_isSign : MethodName := ⟨RX10, "isSign", "(C)Z"⟩
abbrev cX10_isName : ByteArray := prog_12_method_10_code
def yX10_isName : MethodName := ⟨RX10, "isName", "()Z"⟩
def RX11 : String := "PloughCall$Word"
def TX11 : u_T := fun k => match k with
  | _ => ("", "", "", false)
def tyX11 : Nat → FieldType := fun k => match k with
  | _ => .int
theorem nmX11 : ∀ a, a < 0 → ∀ b, b < 0 → a ≠ b → (TX11 a).2.1 ≠ (TX11 b).2.1 := by decide +kernel
theorem tyX11_ok : ∀ k, k < 0 → parseFieldDescriptor (TX11 k).2.2.1 = some (tyX11 k) := by decide +kernel
abbrev cX11_withLetter : ByteArray := prog_13_method_5_code
def yX11_withLetter : MethodName := ⟨RX11, "withLetter", "(JI)J"⟩
abbrev cX11_spelt : ByteArray := prog_13_method_6_code
def yX11_spelt : MethodName := ⟨RX11, "spelt", "(J)LPloughCall$Word;"⟩
def RX12 : String := "PloughCall"
def TX12 : u_T := fun k => match k with
  | 0 => ("PloughCall", "tape", "LPloughCall$Tape;", true)
  | 1 => ("PloughCall", "reader", "LPloughCall$Reader;", true)
  | 2 => ("PloughCall", "counsel", "LPloughCall$Counsel;", true)
  | 3 => ("PloughCall", "now", "LPloughCall$Standing;", true)
  | 4 => ("PloughCall", "trial", "LPloughCall$Standing;", true)
  | 5 => ("PloughCall", "past", "LPloughCall$Past;", true)
  | 6 => ("PloughCall", "reports", "LPloughCall$Reports;", true)
  | 7 => ("PloughCall", "marks", "[LPloughCall$Mark;", true)
  | 8 => ("PloughCall", "city", "LPloughCall$City;", false)
  | 9 => ("PloughCall", "spareCity", "LPloughCall$City;", false)
  | 10 => ("PloughCall", "script", "LPloughCall$Script;", false)
  | 11 => ("PloughCall", "spareScript", "LPloughCall$Script;", false)
  | 12 => ("PloughCall", "firstRefused", "I", false)
  | _ => ("PloughCall", "firstKept", "I", false)
def tyX12 : Nat → FieldType := fun k => match k with
  | 0 => .object "PloughCall$Tape"
  | 1 => .object "PloughCall$Reader"
  | 2 => .object "PloughCall$Counsel"
  | 3 => .object "PloughCall$Standing"
  | 4 => .object "PloughCall$Standing"
  | 5 => .object "PloughCall$Past"
  | 6 => .object "PloughCall$Reports"
  | 7 => .array (.object "PloughCall$Mark")
  | 8 => .object "PloughCall$City"
  | 9 => .object "PloughCall$City"
  | 10 => .object "PloughCall$Script"
  | 11 => .object "PloughCall$Script"
  | 12 => .int
  | _ => .int
theorem nmX12 : ∀ a, a < 14 → ∀ b, b < 14 → a ≠ b → (TX12 a).2.1 ≠ (TX12 b).2.1 := by decide +kernel
theorem tyX12_ok : ∀ k, k < 14 → parseFieldDescriptor (TX12 k).2.2.1 = some (tyX12 k) := by decide +kernel
abbrev cX12_init : ByteArray := prog_1_method_1_code
def yX12_init : MethodName := ⟨RX12, "<init>", "()V"⟩
abbrev cX12_feed : ByteArray := prog_1_method_2_code
def yX12_feed : MethodName := ⟨RX12, "feed", "(JJJ)I"⟩
abbrev cX12_city : ByteArray := prog_1_method_3_code
def yX12_city : MethodName := ⟨RX12, "city", "()I"⟩
abbrev cX12_months : ByteArray := prog_1_method_4_code
def yX12_months : MethodName := ⟨RX12, "months", "()I"⟩
abbrev cX12_man : ByteArray := prog_1_method_5_code
def yX12_man : MethodName := ⟨RX12, "man", "(II)I"⟩
abbrev cX12_danger : ByteArray := prog_1_method_6_code
def yX12_danger : MethodName := ⟨RX12, "danger", "(II)I"⟩
abbrev cX12_may : ByteArray := prog_1_method_7_code
def yX12_may : MethodName := ⟨RX12, "may", "(II)Z"⟩
abbrev cX12_name : ByteArray := prog_1_method_8_code
def yX12_name : MethodName := ⟨RX12, "name", "(II)Z"⟩
abbrev cX12_master : ByteArray := prog_1_method_9_code
def yX12_master : MethodName := ⟨RX12, "master", "(I)Z"⟩
abbrev cX12_month : ByteArray := prog_1_method_10_code
def yX12_month : MethodName := ⟨RX12, "month", "(I)I"⟩
abbrev cX12_disobey : ByteArray := prog_1_method_11_code
def yX12_disobey : MethodName := ⟨RX12, "disobey", "(II)I"⟩
abbrev cX12_lay : ByteArray := prog_1_method_12_code
def yX12_lay : MethodName := ⟨RX12, "lay", "()I"⟩
abbrev cX12_undo : ByteArray := prog_1_method_13_code
def yX12_undo : MethodName := ⟨RX12, "undo", "()Z"⟩
abbrev cX12_judged : ByteArray := prog_1_method_14_code
def yX12_judged : MethodName := ⟨RX12, "judged", "(I)I"⟩
abbrev cX12_soon : ByteArray := prog_1_method_15_code
def yX12_soon : MethodName := ⟨RX12, "soon", "(II)I"⟩
abbrev cX12_whom : ByteArray := prog_1_method_16_code
def yX12_whom : MethodName := ⟨RX12, "whom", "(I)I"⟩
abbrev cX12_terms : ByteArray := prog_1_method_17_code
def yX12_terms : MethodName := ⟨RX12, "terms", "(I)I"⟩
abbrev cX12_headings : ByteArray := prog_1_method_18_code
def yX12_headings : MethodName := ⟨RX12, "headings", "(II)I"⟩
abbrev cX12_all : ByteArray := prog_1_method_19_code
def yX12_all : MethodName := ⟨RX12, "all", "(I)I"⟩
abbrev cX12_waits : ByteArray := prog_1_method_20_code
def yX12_waits : MethodName := ⟨RX12, "waits", "(I)I"⟩
abbrev cX12_chance : ByteArray := prog_1_method_21_code
def yX12_chance : MethodName := ⟨RX12, "chance", "(IIII)I"⟩
abbrev cX12_falls : ByteArray := prog_1_method_22_code
def yX12_falls : MethodName := ⟨RX12, "falls", "(I)I"⟩
abbrev cX12_anew : ByteArray := prog_1_method_23_code
def yX12_anew : MethodName := ⟨RX12, "anew", "(II)I"⟩
abbrev cX12_tell : ByteArray := prog_1_method_24_code
def yX12_tell : MethodName := ⟨RX12, "tell", "(III)Z"⟩
abbrev cX12_who : ByteArray := prog_1_method_25_code
def yX12_who : MethodName := ⟨RX12, "who", "()I"⟩
abbrev cX12_when : ByteArray := prog_1_method_26_code
def yX12_when : MethodName := ⟨RX12, "when", "(I)I"⟩
abbrev cX12_rests : ByteArray := prog_1_method_27_code
def yX12_rests : MethodName := ⟨RX12, "rests", "(IIII)I"⟩
abbrev cX12_ages : ByteArray := prog_1_method_28_code
def yX12_ages : MethodName := ⟨RX12, "ages", "(III)I"⟩
abbrev cX12_mark : ByteArray := prog_1_method_29_code
def yX12_mark : MethodName := ⟨RX12, "mark", "(IZ)Z"⟩
abbrev cX12_count : ByteArray := prog_1_method_30_code
def yX12_count : MethodName := ⟨RX12, "count", "(I)I"⟩
abbrev cX12_markAt : ByteArray := prog_1_method_31_code
def yX12_markAt : MethodName := ⟨RX12, "markAt", "(I)LPloughCall$Mark;"⟩
abbrev cX12_judge : ByteArray := prog_1_method_32_code
def yX12_judge : MethodName := ⟨RX12, "judge", "()V"⟩
abbrev cX12_isAtRest : ByteArray := prog_1_method_33_code
def yX12_isAtRest : MethodName := ⟨RX12, "isAtRest", "(IIII)Z"⟩
abbrev cX12_gets : ByteArray := prog_1_method_34_code
def yX12_gets : MethodName := ⟨RX12, "gets", "(IIIII)I"⟩
abbrev cX12_within : ByteArray := prog_1_method_35_code
def yX12_within : MethodName := ⟨RX12, "within", "(III)Z"⟩
abbrev cX12_at : ByteArray := prog_1_method_36_code
def yX12_at : MethodName := ⟨RX12, "at", "([II)I"⟩
abbrev cX12_put : ByteArray := prog_1_method_37_code
def yX12_put : MethodName := ⟨RX12, "put", "([III)V"⟩
abbrev cX12_copyRow : ByteArray := prog_1_method_38_code
def yX12_copyRow : MethodName := ⟨RX12, "copyRow", "([I[I)V"⟩
abbrev cX12_sum : ByteArray := prog_1_method_39_code
def yX12_sum : MethodName := ⟨RX12, "sum", "([II)I"⟩
def RX13 : String := "PloughCallModel"
def TX13 : u_T := fun k => match k with
  | 0 => ("PloughCallModel", "thrown", "I", false)
  | 1 => ("PloughCallModel", "taped", "I", false)
  | 2 => ("PloughCallModel", "tape", "[I", true)
  | 3 => ("PloughCallModel", "size", "I", false)
  | 4 => ("PloughCallModel", "place", "I", false)
  | 5 => ("PloughCallModel", "begin", "I", false)
  | 6 => ("PloughCallModel", "token", "I", false)
  | 7 => ("PloughCallModel", "word", "J", false)
  | 8 => ("PloughCallModel", "told", "I", false)
  | 9 => ("PloughCallModel", "wrong", "I", false)
  | 10 => ("PloughCallModel", "city", "[I", true)
  | 11 => ("PloughCallModel", "manName", "[J", true)
  | 12 => ("PloughCallModel", "dangerName", "[J", true)
  | 13 => ("PloughCallModel", "decreeName", "[J", true)
  | 14 => ("PloughCallModel", "kind", "[I", true)
  | 15 => ("PloughCallModel", "skill", "[I", true)
  | 16 => ("PloughCallModel", "fieldTold", "[I", true)
  | 17 => ("PloughCallModel", "want", "[I", true)
  | 18 => ("PloughCallModel", "hates", "[I", true)
  | 19 => ("PloughCallModel", "restsOn", "[I", true)
  | 20 => ("PloughCallModel", "sizeTold", "[I", true)
  | 21 => ("PloughCallModel", "grows", "[I", true)
  | 22 => ("PloughCallModel", "lineFrom", "[I", true)
  | 23 => ("PloughCallModel", "lineTo", "[I", true)
  | 24 => ("PloughCallModel", "codes", "[I", true)
  | 25 => ("PloughCallModel", "code", "I", false)
  | 26 => ("PloughCallModel", "lawLine", "I", false)
  | 27 => ("PloughCallModel", "toldLines", "I", false)
  | 28 => ("PloughCallModel", "opened", "[I", true)
  | 29 => ("PloughCallModel", "compared", "[Z", true)
  | 30 => ("PloughCallModel", "kept", "[I", true)
  | 31 => ("PloughCallModel", "keptBy", "[I", true)
  | 32 => ("PloughCallModel", "ahead", "[I", true)
  | 33 => ("PloughCallModel", "against", "[I", true)
  | 34 => ("PloughCallModel", "sum", "[I", true)
  | 35 => ("PloughCallModel", "sumBy", "[I", true)
  | 36 => ("PloughCallModel", "term", "[I", true)
  | 37 => ("PloughCallModel", "termBy", "[I", true)
  | 38 => ("PloughCallModel", "byNot", "[I", true)
  | 39 => ("PloughCallModel", "valueOf", "[I", true)
  | 40 => ("PloughCallModel", "given", "I", false)
  | 41 => ("PloughCallModel", "fresh", "J", false)
  | 42 => ("PloughCallModel", "consulsMany", "I", false)
  | 43 => ("PloughCallModel", "lines", "[I", true)
  | 44 => ("PloughCallModel", "lineWhat", "[I", true)
  | 45 => ("PloughCallModel", "lineA", "[I", true)
  | 46 => ("PloughCallModel", "lineB", "[I", true)
  | 47 => ("PloughCallModel", "tolds", "[I", true)
  | 48 => ("PloughCallModel", "toldDanger", "[I", true)
  | 49 => ("PloughCallModel", "toldMonths", "[I", true)
  | 50 => ("PloughCallModel", "toldSize", "[I", true)
  | 51 => ("PloughCallModel", "s", "[I", true)
  | 52 => ("PloughCallModel", "aside", "[I", true)
  | 53 => ("PloughCallModel", "tried", "[I", true)
  | 54 => ("PloughCallModel", "marked", "[I", true)
  | 55 => ("PloughCallModel", "undone", "[I", true)
  | 56 => ("PloughCallModel", "isLaid", "[Z", true)
  | 57 => ("PloughCallModel", "done", "I", false)
  | 58 => ("PloughCallModel", "heading", "[I", true)
  | 59 => ("PloughCallModel", "bestHeading", "[I", true)
  | 60 => ("PloughCallModel", "leastLeft", "I", false)
  | 61 => ("PloughCallModel", "goesTo", "[I", true)
  | 62 => ("PloughCallModel", "bestGoes", "[I", true)
  | 63 => ("PloughCallModel", "leastMonths", "I", false)
  | _ => ("PloughCallModel", "g", "J", false)
def tyX13 : Nat → FieldType := fun k => match k with
  | 0 => .int
  | 1 => .int
  | 2 => .array .int
  | 3 => .int
  | 4 => .int
  | 5 => .int
  | 6 => .int
  | 7 => .long
  | 8 => .int
  | 9 => .int
  | 10 => .array .int
  | 11 => .array .long
  | 12 => .array .long
  | 13 => .array .long
  | 14 => .array .int
  | 15 => .array .int
  | 16 => .array .int
  | 17 => .array .int
  | 18 => .array .int
  | 19 => .array .int
  | 20 => .array .int
  | 21 => .array .int
  | 22 => .array .int
  | 23 => .array .int
  | 24 => .array .int
  | 25 => .int
  | 26 => .int
  | 27 => .int
  | 28 => .array .int
  | 29 => .array .boolean
  | 30 => .array .int
  | 31 => .array .int
  | 32 => .array .int
  | 33 => .array .int
  | 34 => .array .int
  | 35 => .array .int
  | 36 => .array .int
  | 37 => .array .int
  | 38 => .array .int
  | 39 => .array .int
  | 40 => .int
  | 41 => .long
  | 42 => .int
  | 43 => .array .int
  | 44 => .array .int
  | 45 => .array .int
  | 46 => .array .int
  | 47 => .array .int
  | 48 => .array .int
  | 49 => .array .int
  | 50 => .array .int
  | 51 => .array .int
  | 52 => .array .int
  | 53 => .array .int
  | 54 => .array .int
  | 55 => .array .int
  | 56 => .array .boolean
  | 57 => .int
  | 58 => .array .int
  | 59 => .array .int
  | 60 => .int
  | 61 => .array .int
  | 62 => .array .int
  | 63 => .int
  | _ => .long
theorem nmX13 : ∀ a, a < 65 → ∀ b, b < 65 → a ≠ b → (TX13 a).2.1 ≠ (TX13 b).2.1 := by decide +kernel
theorem tyX13_ok : ∀ k, k < 65 → parseFieldDescriptor (TX13 k).2.2.1 = some (tyX13 k) := by decide +kernel
abbrev cX13_init : ByteArray := prog_15_method_1_code
def yX13_init : MethodName := ⟨RX13, "<init>", "()V"⟩
abbrev cX13_thrown : ByteArray := prog_15_method_2_code
def yX13_thrown : MethodName := ⟨RX13, "thrown", "()I"⟩
abbrev cX13_within : ByteArray := prog_15_method_3_code
def yX13_within : MethodName := ⟨RX13, "within", "(III)Z"⟩
abbrev cX13_between : ByteArray := prog_15_method_4_code
def yX13_between : MethodName := ⟨RX13, "between", "(III)I"⟩
abbrev cX13_feed : ByteArray := prog_15_method_5_code
def yX13_feed : MethodName := ⟨RX13, "feed", "(JJJ)I"⟩
abbrev cX13_signAt : ByteArray := prog_15_method_6_code
def yX13_signAt : MethodName := ⟨RX13, "signAt", "(I)I"⟩
abbrev cX13_nextToken : ByteArray := prog_15_method_7_code
def yX13_nextToken : MethodName := ⟨RX13, "nextToken", "()V"⟩
abbrev cX13_isWord : ByteArray := prog_15_method_8_code
def yX13_isWord : MethodName := ⟨RX13, "isWord", "(J)Z"⟩
abbrev cX13_isSign : ByteArray := prog_15_method_9_code
def yX13_isSign : MethodName := ⟨RX13, "isSign", "(I)Z"⟩
abbrev cX13_fails : ByteArray := prog_15_method_10_code
def yX13_fails : MethodName := ⟨RX13, "fails", "(I)Z"⟩
abbrev cX13_puts : ByteArray := prog_15_method_11_code
def yX13_puts : MethodName := ⟨RX13, "puts", "(I)V"⟩
abbrev cX13_fact : ByteArray := prog_15_method_12_code
def yX13_fact : MethodName := ⟨RX13, "fact", "()I"⟩
abbrev cX13_reads : ByteArray := prog_15_method_13_code
def yX13_reads : MethodName := ⟨RX13, "reads", "()Z"⟩
abbrev cX13_opens : ByteArray := prog_15_method_14_code
def yX13_opens : MethodName := ⟨RX13, "opens", "(I)V"⟩
abbrev cX13_sums : ByteArray := prog_15_method_15_code
def yX13_sums : MethodName := ⟨RX13, "sums", "(I)V"⟩
abbrev cX13_tests : ByteArray := prog_15_method_16_code
def yX13_tests : MethodName := ⟨RX13, "tests", "(I)V"⟩
abbrev cX13_worked : ByteArray := prog_15_method_17_code
def yX13_worked : MethodName := ⟨RX13, "worked", "(I)I"⟩
abbrev cX13_isKeptWord : ByteArray := prog_15_method_18_code
def yX13_isKeptWord : MethodName := ⟨RX13, "isKeptWord", "()Z"⟩
abbrev cX13_named : ByteArray := prog_15_method_19_code
def yX13_named : MethodName := ⟨RX13, "named", "([JIIJ)I"⟩
abbrev cX13_manNamed : ByteArray := prog_15_method_20_code
def yX13_manNamed : MethodName := ⟨RX13, "manNamed", "(I)I"⟩
abbrev cX13_dangerNamed : ByteArray := prog_15_method_21_code
def yX13_dangerNamed : MethodName := ⟨RX13, "dangerNamed", "(I)I"⟩
abbrev cX13_decreeNamed : ByteArray := prog_15_method_22_code
def yX13_decreeNamed : MethodName := ⟨RX13, "decreeNamed", "()I"⟩
abbrev cX13_needsNumber : ByteArray := prog_15_method_23_code
def yX13_needsNumber : MethodName := ⟨RX13, "needsNumber", "(II)Z"⟩
abbrev cX13_needsBoth : ByteArray := prog_15_method_24_code
def yX13_needsBoth : MethodName := ⟨RX13, "needsBoth", "(JII)Z"⟩
abbrev cX13_closes : ByteArray := prog_15_method_25_code
def yX13_closes : MethodName := ⟨RX13, "closes", "()Z"⟩
abbrev cX13_needsNew : ByteArray := prog_15_method_26_code
def yX13_needsNew : MethodName := ⟨RX13, "needsNew", "()Z"⟩
abbrev cX13_needsMan : ByteArray := prog_15_method_27_code
def yX13_needsMan : MethodName := ⟨RX13, "needsMan", "(I)Z"⟩
abbrev cX13_needsDanger : ByteArray := prog_15_method_28_code
def yX13_needsDanger : MethodName := ⟨RX13, "needsDanger", "()Z"⟩
abbrev cX13_isTwice : ByteArray := prog_15_method_29_code
def yX13_isTwice : MethodName := ⟨RX13, "isTwice", "(I)Z"⟩
abbrev cX13_readsMan : ByteArray := prog_15_method_30_code
def yX13_readsMan : MethodName := ⟨RX13, "readsMan", "()Z"⟩
abbrev cX13_readsConsul : ByteArray := prog_15_method_31_code
def yX13_readsConsul : MethodName := ⟨RX13, "readsConsul", "()Z"⟩
abbrev cX13_readsHates : ByteArray := prog_15_method_32_code
def yX13_readsHates : MethodName := ⟨RX13, "readsHates", "()Z"⟩
abbrev cX13_readsDanger : ByteArray := prog_15_method_33_code
def yX13_readsDanger : MethodName := ⟨RX13, "readsDanger", "()Z"⟩
abbrev cX13_readsDecree : ByteArray := prog_15_method_34_code
def yX13_readsDecree : MethodName := ⟨RX13, "readsDecree", "()Z"⟩
abbrev cX13_readsTerm : ByteArray := prog_15_method_35_code
def yX13_readsTerm : MethodName := ⟨RX13, "readsTerm", "()Z"⟩
abbrev cX13_readsLaw : ByteArray := prog_15_method_36_code
def yX13_readsLaw : MethodName := ⟨RX13, "readsLaw", "(I)Z"⟩
abbrev cX13_begins : ByteArray := prog_15_method_37_code
def yX13_begins : MethodName := ⟨RX13, "begins", "()V"⟩
abbrev cX13_readsAll : ByteArray := prog_15_method_38_code
def yX13_readsAll : MethodName := ⟨RX13, "readsAll", "()Z"⟩
abbrev cX13_shifts : ByteArray := prog_15_method_39_code
def yX13_shifts : MethodName := ⟨RX13, "shifts", "([II)V"⟩
abbrev cX13_shiftsNames : ByteArray := prog_15_method_40_code
def yX13_shiftsNames : MethodName := ⟨RX13, "shiftsNames", "([JI)V"⟩
abbrev cX13_lays : ByteArray := prog_15_method_41_code
def yX13_lays : MethodName := ⟨RX13, "lays", "()V"⟩
abbrev cX13_copies : ByteArray := prog_15_method_42_code
def yX13_copies : MethodName := ⟨RX13, "copies", "([II[II)V"⟩
abbrev cX13_readsTwo : ByteArray := prog_15_method_43_code
def yX13_readsTwo : MethodName := ⟨RX13, "readsTwo", "(IZ)Z"⟩
abbrev cX13_readsLine : ByteArray := prog_15_method_44_code
def yX13_readsLine : MethodName := ⟨RX13, "readsLine", "()Z"⟩
abbrev cX13_laysLines : ByteArray := prog_15_method_45_code
def yX13_laysLines : MethodName := ⟨RX13, "laysLines", "(II)V"⟩
abbrev cX13_laysTold : ByteArray := prog_15_method_46_code
def yX13_laysTold : MethodName := ⟨RX13, "laysTold", "(II)V"⟩
abbrev cX13_fresh : ByteArray := prog_15_method_47_code
def yX13_fresh : MethodName := ⟨RX13, "fresh", "()V"⟩
abbrev cX13_city : ByteArray := prog_15_method_48_code
def yX13_city : MethodName := ⟨RX13, "city", "()I"⟩
abbrev cX13_months : ByteArray := prog_15_method_49_code
def yX13_months : MethodName := ⟨RX13, "months", "()I"⟩
abbrev cX13_isMan : ByteArray := prog_15_method_50_code
def yX13_isMan : MethodName := ⟨RX13, "isMan", "(I)Z"⟩
abbrev cX13_isDanger : ByteArray := prog_15_method_51_code
def yX13_isDanger : MethodName := ⟨RX13, "isDanger", "(I)Z"⟩
abbrev cX13_isConsul : ByteArray := prog_15_method_52_code
def yX13_isConsul : MethodName := ⟨RX13, "isConsul", "(I)Z"⟩
abbrev cX13_together : ByteArray := prog_15_method_53_code
def yX13_together : MethodName := ⟨RX13, "together", "()I"⟩
abbrev cX13_worksBy : ByteArray := prog_15_method_54_code
def yX13_worksBy : MethodName := ⟨RX13, "worksBy", "(III)I"⟩
abbrev cX13_keepsBy : ByteArray := prog_15_method_55_code
def yX13_keepsBy : MethodName := ⟨RX13, "keepsBy", "(III)Z"⟩
abbrev cX13_couldName : ByteArray := prog_15_method_56_code
def yX13_couldName : MethodName := ⟨RX13, "couldName", "(II)Z"⟩
abbrev cX13_goesHome : ByteArray := prog_15_method_57_code
def yX13_goesHome : MethodName := ⟨RX13, "goesHome", "()V"⟩
abbrev cX13_laysPower : ByteArray := prog_15_method_58_code
def yX13_laysPower : MethodName := ⟨RX13, "laysPower", "(I)V"⟩
abbrev cX13_canBeMaster : ByteArray := prog_15_method_59_code
def yX13_canBeMaster : MethodName := ⟨RX13, "canBeMaster", "(I)Z"⟩
abbrev cX13_likes : ByteArray := prog_15_method_60_code
def yX13_likes : MethodName := ⟨RX13, "likes", "(II)V"⟩
abbrev cX13_lessens : ByteArray := prog_15_method_61_code
def yX13_lessens : MethodName := ⟨RX13, "lessens", "(II)V"⟩
abbrev cX13_passes : ByteArray := prog_15_method_62_code
def yX13_passes : MethodName := ⟨RX13, "passes", "(II)I"⟩
abbrev cX13_endsMonth : ByteArray := prog_15_method_63_code
def yX13_endsMonth : MethodName := ⟨RX13, "endsMonth", "(II)V"⟩
abbrev cX13_man : ByteArray := prog_15_method_64_code
def yX13_man : MethodName := ⟨RX13, "man", "(II)I"⟩
abbrev cX13_danger : ByteArray := prog_15_method_65_code
def yX13_danger : MethodName := ⟨RX13, "danger", "(II)I"⟩
abbrev cX13_may : ByteArray := prog_15_method_66_code
def yX13_may : MethodName := ⟨RX13, "may", "(II)Z"⟩
abbrev cX13_holds : ByteArray := prog_15_method_67_code
def yX13_holds : MethodName := ⟨RX13, "holds", "()V"⟩
abbrev cX13_name : ByteArray := prog_15_method_68_code
def yX13_name : MethodName := ⟨RX13, "name", "(II)Z"⟩
abbrev cX13_master : ByteArray := prog_15_method_69_code
def yX13_master : MethodName := ⟨RX13, "master", "(I)Z"⟩
abbrev cX13_month : ByteArray := prog_15_method_70_code
def yX13_month : MethodName := ⟨RX13, "month", "(I)I"⟩
abbrev cX13_canDisobey : ByteArray := prog_15_method_71_code
def yX13_canDisobey : MethodName := ⟨RX13, "canDisobey", "()Z"⟩
abbrev cX13_disobey : ByteArray := prog_15_method_72_code
def yX13_disobey : MethodName := ⟨RX13, "disobey", "(II)I"⟩
abbrev cX13_canLay : ByteArray := prog_15_method_73_code
def yX13_canLay : MethodName := ⟨RX13, "canLay", "()Z"⟩
abbrev cX13_laysDown : ByteArray := prog_15_method_74_code
def yX13_laysDown : MethodName := ⟨RX13, "laysDown", "()I"⟩
abbrev cX13_lay : ByteArray := prog_15_method_75_code
def yX13_lay : MethodName := ⟨RX13, "lay", "()I"⟩
abbrev cX13_undo : ByteArray := prog_15_method_76_code
def yX13_undo : MethodName := ⟨RX13, "undo", "()Z"⟩
abbrev cX13_goes : ByteArray := prog_15_method_77_code
def yX13_goes : MethodName := ⟨RX13, "goes", "(I)Z"⟩
abbrev cX13_judged : ByteArray := prog_15_method_78_code
def yX13_judged : MethodName := ⟨RX13, "judged", "(I)I"⟩
abbrev cX13_soonOf : ByteArray := prog_15_method_79_code
def yX13_soonOf : MethodName := ⟨RX13, "soonOf", "(II)I"⟩
abbrev cX13_soon : ByteArray := prog_15_method_80_code
def yX13_soon : MethodName := ⟨RX13, "soon", "(II)I"⟩
abbrev cX13_isNamedBySome : ByteArray := prog_15_method_81_code
def yX13_isNamedBySome : MethodName := ⟨RX13, "isNamedBySome", "(I)Z"⟩
abbrev cX13_grownBy : ByteArray := prog_15_method_82_code
def yX13_grownBy : MethodName := ⟨RX13, "grownBy", "(II)I"⟩
abbrev cX13_wouldKeep : ByteArray := prog_15_method_83_code
def yX13_wouldKeep : MethodName := ⟨RX13, "wouldKeep", "(III)Z"⟩
abbrev cX13_whomFor : ByteArray := prog_15_method_84_code
def yX13_whomFor : MethodName := ⟨RX13, "whomFor", "(II)I"⟩
abbrev cX13_whom : ByteArray := prog_15_method_85_code
def yX13_whom : MethodName := ⟨RX13, "whom", "(I)I"⟩
abbrev cX13_terms : ByteArray := prog_15_method_86_code
def yX13_terms : MethodName := ⟨RX13, "terms", "(I)I"⟩
abbrev cX13_heads : ByteArray := prog_15_method_87_code
def yX13_heads : MethodName := ⟨RX13, "heads", "(II)V"⟩
abbrev cX13_headings : ByteArray := prog_15_method_88_code
def yX13_headings : MethodName := ⟨RX13, "headings", "(II)I"⟩
abbrev cX13_gives : ByteArray := prog_15_method_89_code
def yX13_gives : MethodName := ⟨RX13, "gives", "(III)V"⟩
abbrev cX13_all : ByteArray := prog_15_method_90_code
def yX13_all : MethodName := ⟨RX13, "all", "(I)I"⟩
abbrev cX13_waits : ByteArray := prog_15_method_91_code
def yX13_waits : MethodName := ⟨RX13, "waits", "(I)I"⟩
abbrev cX13_endsBy : ByteArray := prog_15_method_92_code
def yX13_endsBy : MethodName := ⟨RX13, "endsBy", "(IIIIII)J"⟩
abbrev cX13_chance : ByteArray := prog_15_method_93_code
def yX13_chance : MethodName := ⟨RX13, "chance", "(IIII)I"⟩
abbrev cX13_fallen : ByteArray := prog_15_method_94_code
def yX13_fallen : MethodName := ⟨RX13, "fallen", "(I)I"⟩
abbrev cX13_areDecrees : ByteArray := prog_15_method_95_code
def yX13_areDecrees : MethodName := ⟨RX13, "areDecrees", "(I)Z"⟩
abbrev cX13_falls : ByteArray := prog_15_method_96_code
def yX13_falls : MethodName := ⟨RX13, "falls", "(I)I"⟩
abbrev cX13_anew : ByteArray := prog_15_method_97_code
def yX13_anew : MethodName := ⟨RX13, "anew", "(II)I"⟩
abbrev cX13_tell : ByteArray := prog_15_method_98_code
def yX13_tell : MethodName := ⟨RX13, "tell", "(III)Z"⟩
abbrev cX13_sizeBy : ByteArray := prog_15_method_99_code
def yX13_sizeBy : MethodName := ⟨RX13, "sizeBy", "(III)I"⟩
abbrev cX13_isAsTold : ByteArray := prog_15_method_100_code
def yX13_isAsTold : MethodName := ⟨RX13, "isAsTold", "(I)Z"⟩
abbrev cX13_allWho : ByteArray := prog_15_method_101_code
def yX13_allWho : MethodName := ⟨RX13, "allWho", "()I"⟩
abbrev cX13_who : ByteArray := prog_15_method_102_code
def yX13_who : MethodName := ⟨RX13, "who", "()I"⟩
abbrev cX13_mostAlike : ByteArray := prog_15_method_103_code
def yX13_mostAlike : MethodName := ⟨RX13, "mostAlike", "(III)I"⟩
abbrev cX13_when : ByteArray := prog_15_method_104_code
def yX13_when : MethodName := ⟨RX13, "when", "(I)I"⟩
abbrev cX13_getsBy : ByteArray := prog_15_method_105_code
def yX13_getsBy : MethodName := ⟨RX13, "getsBy", "(IIIII)I"⟩
abbrev cX13_rests : ByteArray := prog_15_method_106_code
def yX13_rests : MethodName := ⟨RX13, "rests", "(IIII)I"⟩
abbrev cX13_draws : ByteArray := prog_15_method_107_code
def yX13_draws : MethodName := ⟨RX13, "draws", "(I)I"⟩
abbrev cX13_livesMonth : ByteArray := prog_15_method_108_code
def yX13_livesMonth : MethodName := ⟨RX13, "livesMonth", "()I"⟩
abbrev cX13_ages : ByteArray := prog_15_method_109_code
def yX13_ages : MethodName := ⟨RX13, "ages", "(III)I"⟩
abbrev cX13_mark : ByteArray := prog_15_method_110_code
def yX13_mark : MethodName := ⟨RX13, "mark", "(IZ)Z"⟩
abbrev cX13_count : ByteArray := prog_15_method_111_code
def yX13_count : MethodName := ⟨RX13, "count", "(I)I"⟩
abbrev vwCl : List vw_C := [(RX1, TX1, 18), (RX2, TX2, 10), (RX3, TX3, 7), (RX4, TX4, 4), (RX5, TX5, 3), (RX6, TX6, 4), (RX7, TX7, 4), (RX8, TX8, 4), (RX9, TX9, 9), (RX10, TX10, 8), (RX12, TX12, 14), (RX13, TX13, 65)]
