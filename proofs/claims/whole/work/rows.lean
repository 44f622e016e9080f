section
-- ===== PART A: goes FIRST, ahead of the names: the tables' words, and 'selects' of the private methods out of them =====
/-- a private method of a class that the tables say can be made, by its rows of tables_1 -/
def lw_okq (q : MethodName × Nat) : Prop := (q.1.cls ≠ "java/lang/invoke/MethodHandle" ∧ q.1.cls ≠ "java/lang/invoke/VarHandle") ∧ Cond.instantiable q.1.cls q.2 ∈ tables_1 ∧ Cond.privateMethod q.1 ∈ tables_1 ∧ Cond.instanceMethod q.1 ∈ tables_1
theorem lw_p0 : lw_okq (⟨"TankNumbers$Natural", "append", "(I)V"⟩, 2) := ⟨⟨by decide +kernel, by decide +kernel⟩, List.mem_of_getElem? (i := 84) (by decide +kernel), List.mem_of_getElem? (i := 304) (by decide +kernel), List.mem_of_getElem? (i := 305) (by decide +kernel)⟩
theorem lw_p1 : lw_okq (⟨"TankNumbers$Natural", "trim", "()V"⟩, 2) := ⟨⟨by decide +kernel, by decide +kernel⟩, List.mem_of_getElem? (i := 84) (by decide +kernel), List.mem_of_getElem? (i := 308) (by decide +kernel), List.mem_of_getElem? (i := 309) (by decide +kernel)⟩
theorem lw_p2 : lw_okq (⟨"TankNumbers", "weigh", "(IIII)Z"⟩, 11) := ⟨⟨by decide +kernel, by decide +kernel⟩, List.mem_of_getElem? (i := 19) (by decide +kernel), List.mem_of_getElem? (i := 425) (by decide +kernel), List.mem_of_getElem? (i := 426) (by decide +kernel)⟩
theorem lw_p3 : lw_okq (⟨"TankNumbers$Sureness", "begin", "()V"⟩, 6) := ⟨⟨by decide +kernel, by decide +kernel⟩, List.mem_of_getElem? (i := 78) (by decide +kernel), List.mem_of_getElem? (i := 444) (by decide +kernel), List.mem_of_getElem? (i := 445) (by decide +kernel)⟩
theorem lw_p4 : lw_okq (⟨"TankNumbers$Sureness", "step", "(I)V"⟩, 6) := ⟨⟨by decide +kernel, by decide +kernel⟩, List.mem_of_getElem? (i := 78) (by decide +kernel), List.mem_of_getElem? (i := 454) (by decide +kernel), List.mem_of_getElem? (i := 455) (by decide +kernel)⟩
theorem lw_p5 : lw_okq (⟨"TankNumbers$Fraction", "lower", "()V"⟩, 4) := ⟨⟨by decide +kernel, by decide +kernel⟩, List.mem_of_getElem? (i := 291) (by decide +kernel), List.mem_of_getElem? (i := 487) (by decide +kernel), List.mem_of_getElem? (i := 488) (by decide +kernel)⟩
theorem lw_p6 : lw_okq (⟨"TankNumbers$Fraction", "measureOdd", "()V"⟩, 4) := ⟨⟨by decide +kernel, by decide +kernel⟩, List.mem_of_getElem? (i := 291) (by decide +kernel), List.mem_of_getElem? (i := 508) (by decide +kernel), List.mem_of_getElem? (i := 509) (by decide +kernel)⟩
theorem lw_p7 : lw_okq (⟨"TankNumbers$Natural", "takeTimes", "(LTankNumbers$Natural;II)V"⟩, 2) := ⟨⟨by decide +kernel, by decide +kernel⟩, List.mem_of_getElem? (i := 84) (by decide +kernel), List.mem_of_getElem? (i := 530) (by decide +kernel), List.mem_of_getElem? (i := 531) (by decide +kernel)⟩
theorem lw_p8 : lw_okq (⟨"TankNumbers$MouldOdds", "weigh", "(III)V"⟩, 2) := ⟨⟨by decide +kernel, by decide +kernel⟩, List.mem_of_getElem? (i := 119) (by decide +kernel), List.mem_of_getElem? (i := 592) (by decide +kernel), List.mem_of_getElem? (i := 593) (by decide +kernel)⟩
theorem lw_p9 : lw_okq (⟨"TankNumbers$Words", "searchAll", "()V"⟩, 14) := ⟨⟨by decide +kernel, by decide +kernel⟩, List.mem_of_getElem? (i := 134) (by decide +kernel), List.mem_of_getElem? (i := 647) (by decide +kernel), List.mem_of_getElem? (i := 648) (by decide +kernel)⟩
theorem lw_p10 : lw_okq (⟨"TankNumbers$Words", "startOrder", "()V"⟩, 14) := ⟨⟨by decide +kernel, by decide +kernel⟩, List.mem_of_getElem? (i := 134) (by decide +kernel), List.mem_of_getElem? (i := 652) (by decide +kernel), List.mem_of_getElem? (i := 653) (by decide +kernel)⟩
theorem lw_p11 : lw_okq (⟨"TankNumbers$Words", "orderWords", "()V"⟩, 14) := ⟨⟨by decide +kernel, by decide +kernel⟩, List.mem_of_getElem? (i := 134) (by decide +kernel), List.mem_of_getElem? (i := 656) (by decide +kernel), List.mem_of_getElem? (i := 657) (by decide +kernel)⟩
theorem lw_p12 : lw_okq (⟨"TankNumbers$Words", "orderRow", "(II)V"⟩, 14) := ⟨⟨by decide +kernel, by decide +kernel⟩, List.mem_of_getElem? (i := 134) (by decide +kernel), List.mem_of_getElem? (i := 660) (by decide +kernel), List.mem_of_getElem? (i := 661) (by decide +kernel)⟩
theorem lw_p13 : lw_okq (⟨"TankNumbers$Words", "ripeAt", "(I)I"⟩, 14) := ⟨⟨by decide +kernel, by decide +kernel⟩, List.mem_of_getElem? (i := 134) (by decide +kernel), List.mem_of_getElem? (i := 667) (by decide +kernel), List.mem_of_getElem? (i := 668) (by decide +kernel)⟩
theorem lw_p14 : lw_okq (⟨"TankNumbers$Words", "note", "(I)V"⟩, 14) := ⟨⟨by decide +kernel, by decide +kernel⟩, List.mem_of_getElem? (i := 134) (by decide +kernel), List.mem_of_getElem? (i := 675) (by decide +kernel), List.mem_of_getElem? (i := 676) (by decide +kernel)⟩
theorem lw_p15 : lw_okq (⟨"TankNumbers$Words", "holdAt", "(I)Z"⟩, 14) := ⟨⟨by decide +kernel, by decide +kernel⟩, List.mem_of_getElem? (i := 134) (by decide +kernel), List.mem_of_getElem? (i := 679) (by decide +kernel), List.mem_of_getElem? (i := 680) (by decide +kernel)⟩
def lw_privs_1 : List (MethodName × Nat) := [(⟨"TankNumbers$Natural", "append", "(I)V"⟩, 2), (⟨"TankNumbers$Natural", "trim", "()V"⟩, 2), (⟨"TankNumbers", "weigh", "(IIII)Z"⟩, 11), (⟨"TankNumbers$Sureness", "begin", "()V"⟩, 6), (⟨"TankNumbers$Sureness", "step", "(I)V"⟩, 6), (⟨"TankNumbers$Fraction", "lower", "()V"⟩, 4), (⟨"TankNumbers$Fraction", "measureOdd", "()V"⟩, 4), (⟨"TankNumbers$Natural", "takeTimes", "(LTankNumbers$Natural;II)V"⟩, 2), (⟨"TankNumbers$MouldOdds", "weigh", "(III)V"⟩, 2), (⟨"TankNumbers$Words", "searchAll", "()V"⟩, 14), (⟨"TankNumbers$Words", "startOrder", "()V"⟩, 14), (⟨"TankNumbers$Words", "orderWords", "()V"⟩, 14), (⟨"TankNumbers$Words", "orderRow", "(II)V"⟩, 14), (⟨"TankNumbers$Words", "ripeAt", "(I)I"⟩, 14), (⟨"TankNumbers$Words", "note", "(I)V"⟩, 14), (⟨"TankNumbers$Words", "holdAt", "(I)Z"⟩, 14)]
theorem lw_r1 : ∀ q ∈ lw_privs_1, lw_okq q := List.forall_mem_cons.mpr ⟨lw_p0, List.forall_mem_cons.mpr ⟨lw_p1, List.forall_mem_cons.mpr ⟨lw_p2, List.forall_mem_cons.mpr ⟨lw_p3, List.forall_mem_cons.mpr ⟨lw_p4, List.forall_mem_cons.mpr ⟨lw_p5, List.forall_mem_cons.mpr ⟨lw_p6, List.forall_mem_cons.mpr ⟨lw_p7, List.forall_mem_cons.mpr ⟨lw_p8, List.forall_mem_cons.mpr ⟨lw_p9, List.forall_mem_cons.mpr ⟨lw_p10, List.forall_mem_cons.mpr ⟨lw_p11, List.forall_mem_cons.mpr ⟨lw_p12, List.forall_mem_cons.mpr ⟨lw_p13, List.forall_mem_cons.mpr ⟨lw_p14, List.forall_mem_cons.mpr ⟨lw_p15, fun _ h => absurd h List.not_mem_nil⟩⟩⟩⟩⟩⟩⟩⟩⟩⟩⟩⟩⟩⟩⟩⟩
theorem lw_p16 : lw_okq (⟨"TankNumbers$Words", "valueOf", "(II)I"⟩, 14) := ⟨⟨by decide +kernel, by decide +kernel⟩, List.mem_of_getElem? (i := 134) (by decide +kernel), List.mem_of_getElem? (i := 683) (by decide +kernel), List.mem_of_getElem? (i := 684) (by decide +kernel)⟩
theorem lw_p17 : lw_okq (⟨"TankNumbers$Dates", "putInLine", "(I)V"⟩, 7) := ⟨⟨by decide +kernel, by decide +kernel⟩, List.mem_of_getElem? (i := 184) (by decide +kernel), List.mem_of_getElem? (i := 715) (by decide +kernel), List.mem_of_getElem? (i := 716) (by decide +kernel)⟩
theorem lw_p18 : lw_okq (⟨"TankNumbers$Dates", "fallsAt", "(I)Z"⟩, 7) := ⟨⟨by decide +kernel, by decide +kernel⟩, List.mem_of_getElem? (i := 184) (by decide +kernel), List.mem_of_getElem? (i := 723) (by decide +kernel), List.mem_of_getElem? (i := 724) (by decide +kernel)⟩
theorem lw_p19 : lw_okq (⟨"TankNumbers$Dates", "measureGap", "(I)V"⟩, 7) := ⟨⟨by decide +kernel, by decide +kernel⟩, List.mem_of_getElem? (i := 184) (by decide +kernel), List.mem_of_getElem? (i := 740) (by decide +kernel), List.mem_of_getElem? (i := 741) (by decide +kernel)⟩
theorem lw_p20 : lw_okq (⟨"TankNumbers$Dates", "waysWithoutGap", "(II)J"⟩, 7) := ⟨⟨by decide +kernel, by decide +kernel⟩, List.mem_of_getElem? (i := 184) (by decide +kernel), List.mem_of_getElem? (i := 752) (by decide +kernel), List.mem_of_getElem? (i := 753) (by decide +kernel)⟩
theorem lw_p21 : lw_okq (⟨"TankNumbers$Dates", "sumNear", "(II)V"⟩, 7) := ⟨⟨by decide +kernel, by decide +kernel⟩, List.mem_of_getElem? (i := 184) (by decide +kernel), List.mem_of_getElem? (i := 756) (by decide +kernel), List.mem_of_getElem? (i := 757) (by decide +kernel)⟩
theorem lw_p22 : lw_okq (⟨"TankNumbers$Dates", "waysToJoin", "(I)J"⟩, 7) := ⟨⟨by decide +kernel, by decide +kernel⟩, List.mem_of_getElem? (i := 184) (by decide +kernel), List.mem_of_getElem? (i := 764) (by decide +kernel), List.mem_of_getElem? (i := 765) (by decide +kernel)⟩
theorem lw_p23 : lw_okq (⟨"TankNumbersModel", "sets", "(IJ)V"⟩, 36) := ⟨⟨by decide +kernel, by decide +kernel⟩, List.mem_of_getElem? (i := 888) (by decide +kernel), List.mem_of_getElem? (i := 894) (by decide +kernel), List.mem_of_getElem? (i := 895) (by decide +kernel)⟩
theorem lw_p24 : lw_okq (⟨"TankNumbersModel", "trims", "(I)V"⟩, 36) := ⟨⟨by decide +kernel, by decide +kernel⟩, List.mem_of_getElem? (i := 888) (by decide +kernel), List.mem_of_getElem? (i := 899) (by decide +kernel), List.mem_of_getElem? (i := 900) (by decide +kernel)⟩
theorem lw_p25 : lw_okq (⟨"TankNumbersModel", "isFind", "(I)Z"⟩, 36) := ⟨⟨by decide +kernel, by decide +kernel⟩, List.mem_of_getElem? (i := 888) (by decide +kernel), List.mem_of_getElem? (i := 1040) (by decide +kernel), List.mem_of_getElem? (i := 1041) (by decide +kernel)⟩
theorem lw_p26 : lw_okq (⟨"TankNumbersModel", "of", "(II)I"⟩, 36) := ⟨⟨by decide +kernel, by decide +kernel⟩, List.mem_of_getElem? (i := 888) (by decide +kernel), List.mem_of_getElem? (i := 1044) (by decide +kernel), List.mem_of_getElem? (i := 1045) (by decide +kernel)⟩
theorem lw_p27 : lw_okq (⟨"TankNumbersModel", "numbersOf", "(II)I"⟩, 36) := ⟨⟨by decide +kernel, by decide +kernel⟩, List.mem_of_getElem? (i := 888) (by decide +kernel), List.mem_of_getElem? (i := 1053) (by decide +kernel), List.mem_of_getElem? (i := 1054) (by decide +kernel)⟩
theorem lw_p28 : lw_okq (⟨"TankNumbersModel", "finds0", "(II)V"⟩, 36) := ⟨⟨by decide +kernel, by decide +kernel⟩, List.mem_of_getElem? (i := 888) (by decide +kernel), List.mem_of_getElem? (i := 1057) (by decide +kernel), List.mem_of_getElem? (i := 1058) (by decide +kernel)⟩
theorem lw_p29 : lw_okq (⟨"TankNumbersModel", "counts", "(II)Z"⟩, 36) := ⟨⟨by decide +kernel, by decide +kernel⟩, List.mem_of_getElem? (i := 888) (by decide +kernel), List.mem_of_getElem? (i := 1061) (by decide +kernel), List.mem_of_getElem? (i := 1062) (by decide +kernel)⟩
theorem lw_p30 : lw_okq (⟨"TankNumbersModel", "fitsNow", "(II)Z"⟩, 36) := ⟨⟨by decide +kernel, by decide +kernel⟩, List.mem_of_getElem? (i := 888) (by decide +kernel), List.mem_of_getElem? (i := 1076) (by decide +kernel), List.mem_of_getElem? (i := 1077) (by decide +kernel)⟩
theorem lw_p31 : lw_okq (⟨"TankNumbersModel", "ready", "(IIIZ)I"⟩, 36) := ⟨⟨by decide +kernel, by decide +kernel⟩, List.mem_of_getElem? (i := 888) (by decide +kernel), List.mem_of_getElem? (i := 1090) (by decide +kernel), List.mem_of_getElem? (i := 1091) (by decide +kernel)⟩
def lw_privs_2 : List (MethodName × Nat) := [(⟨"TankNumbers$Words", "valueOf", "(II)I"⟩, 14), (⟨"TankNumbers$Dates", "putInLine", "(I)V"⟩, 7), (⟨"TankNumbers$Dates", "fallsAt", "(I)Z"⟩, 7), (⟨"TankNumbers$Dates", "measureGap", "(I)V"⟩, 7), (⟨"TankNumbers$Dates", "waysWithoutGap", "(II)J"⟩, 7), (⟨"TankNumbers$Dates", "sumNear", "(II)V"⟩, 7), (⟨"TankNumbers$Dates", "waysToJoin", "(I)J"⟩, 7), (⟨"TankNumbersModel", "sets", "(IJ)V"⟩, 36), (⟨"TankNumbersModel", "trims", "(I)V"⟩, 36), (⟨"TankNumbersModel", "isFind", "(I)Z"⟩, 36), (⟨"TankNumbersModel", "of", "(II)I"⟩, 36), (⟨"TankNumbersModel", "numbersOf", "(II)I"⟩, 36), (⟨"TankNumbersModel", "finds0", "(II)V"⟩, 36), (⟨"TankNumbersModel", "counts", "(II)Z"⟩, 36), (⟨"TankNumbersModel", "fitsNow", "(II)Z"⟩, 36), (⟨"TankNumbersModel", "ready", "(IIIZ)I"⟩, 36)]
theorem lw_r2 : ∀ q ∈ lw_privs_2, lw_okq q := List.forall_mem_cons.mpr ⟨lw_p16, List.forall_mem_cons.mpr ⟨lw_p17, List.forall_mem_cons.mpr ⟨lw_p18, List.forall_mem_cons.mpr ⟨lw_p19, List.forall_mem_cons.mpr ⟨lw_p20, List.forall_mem_cons.mpr ⟨lw_p21, List.forall_mem_cons.mpr ⟨lw_p22, List.forall_mem_cons.mpr ⟨lw_p23, List.forall_mem_cons.mpr ⟨lw_p24, List.forall_mem_cons.mpr ⟨lw_p25, List.forall_mem_cons.mpr ⟨lw_p26, List.forall_mem_cons.mpr ⟨lw_p27, List.forall_mem_cons.mpr ⟨lw_p28, List.forall_mem_cons.mpr ⟨lw_p29, List.forall_mem_cons.mpr ⟨lw_p30, List.forall_mem_cons.mpr ⟨lw_p31, fun _ h => absurd h List.not_mem_nil⟩⟩⟩⟩⟩⟩⟩⟩⟩⟩⟩⟩⟩⟩⟩⟩
theorem lw_p32 : lw_okq (⟨"TankNumbersModel", "mayBe", "(II)Z"⟩, 36) := ⟨⟨by decide +kernel, by decide +kernel⟩, List.mem_of_getElem? (i := 888) (by decide +kernel), List.mem_of_getElem? (i := 1094) (by decide +kernel), List.mem_of_getElem? (i := 1095) (by decide +kernel)⟩
theorem lw_p33 : lw_okq (⟨"TankNumbersModel", "weighs", "(II)V"⟩, 36) := ⟨⟨by decide +kernel, by decide +kernel⟩, List.mem_of_getElem? (i := 888) (by decide +kernel), List.mem_of_getElem? (i := 1098) (by decide +kernel), List.mem_of_getElem? (i := 1099) (by decide +kernel)⟩
theorem lw_p34 : lw_okq (⟨"TankNumbersModel", "greatest", "(II)I"⟩, 36) := ⟨⟨by decide +kernel, by decide +kernel⟩, List.mem_of_getElem? (i := 888) (by decide +kernel), List.mem_of_getElem? (i := 1102) (by decide +kernel), List.mem_of_getElem? (i := 1103) (by decide +kernel)⟩
theorem lw_p35 : lw_okq (⟨"TankNumbersModel", "times", "(II)V"⟩, 36) := ⟨⟨by decide +kernel, by decide +kernel⟩, List.mem_of_getElem? (i := 888) (by decide +kernel), List.mem_of_getElem? (i := 1106) (by decide +kernel), List.mem_of_getElem? (i := 1107) (by decide +kernel)⟩
theorem lw_p36 : lw_okq (⟨"TankNumbersModel", "keeps", "([III)V"⟩, 36) := ⟨⟨by decide +kernel, by decide +kernel⟩, List.mem_of_getElem? (i := 888) (by decide +kernel), List.mem_of_getElem? (i := 1110) (by decide +kernel), List.mem_of_getElem? (i := 1111) (by decide +kernel)⟩
theorem lw_p37 : lw_okq (⟨"TankNumbersModel", "divides", "(II)V"⟩, 36) := ⟨⟨by decide +kernel, by decide +kernel⟩, List.mem_of_getElem? (i := 888) (by decide +kernel), List.mem_of_getElem? (i := 1114) (by decide +kernel), List.mem_of_getElem? (i := 1115) (by decide +kernel)⟩
theorem lw_p38 : lw_okq (⟨"TankNumbersModel", "adds", "(II)V"⟩, 36) := ⟨⟨by decide +kernel, by decide +kernel⟩, List.mem_of_getElem? (i := 888) (by decide +kernel), List.mem_of_getElem? (i := 1118) (by decide +kernel), List.mem_of_getElem? (i := 1119) (by decide +kernel)⟩
theorem lw_p39 : lw_okq (⟨"TankNumbersModel", "gets", "(I[II)V"⟩, 36) := ⟨⟨by decide +kernel, by decide +kernel⟩, List.mem_of_getElem? (i := 888) (by decide +kernel), List.mem_of_getElem? (i := 1123) (by decide +kernel), List.mem_of_getElem? (i := 1124) (by decide +kernel)⟩
theorem lw_p40 : lw_okq (⟨"TankNumbersModel", "lowers", "()V"⟩, 36) := ⟨⟨by decide +kernel, by decide +kernel⟩, List.mem_of_getElem? (i := 888) (by decide +kernel), List.mem_of_getElem? (i := 1127) (by decide +kernel), List.mem_of_getElem? (i := 1128) (by decide +kernel)⟩
theorem lw_p41 : lw_okq (⟨"TankNumbersModel", "isEven", "(I)Z"⟩, 36) := ⟨⟨by decide +kernel, by decide +kernel⟩, List.mem_of_getElem? (i := 888) (by decide +kernel), List.mem_of_getElem? (i := 1131) (by decide +kernel), List.mem_of_getElem? (i := 1132) (by decide +kernel)⟩
theorem lw_p42 : lw_okq (⟨"TankNumbersModel", "halves", "(I)V"⟩, 36) := ⟨⟨by decide +kernel, by decide +kernel⟩, List.mem_of_getElem? (i := 888) (by decide +kernel), List.mem_of_getElem? (i := 1135) (by decide +kernel), List.mem_of_getElem? (i := 1136) (by decide +kernel)⟩
theorem lw_p43 : lw_okq (⟨"TankNumbersModel", "takes", "(II)V"⟩, 36) := ⟨⟨by decide +kernel, by decide +kernel⟩, List.mem_of_getElem? (i := 888) (by decide +kernel), List.mem_of_getElem? (i := 1139) (by decide +kernel), List.mem_of_getElem? (i := 1140) (by decide +kernel)⟩
theorem lw_p44 : lw_okq (⟨"TankNumbersModel", "against", "(II)I"⟩, 36) := ⟨⟨by decide +kernel, by decide +kernel⟩, List.mem_of_getElem? (i := 888) (by decide +kernel), List.mem_of_getElem? (i := 1143) (by decide +kernel), List.mem_of_getElem? (i := 1144) (by decide +kernel)⟩
theorem lw_p45 : lw_okq (⟨"TankNumbersModel", "lessens", "(II)V"⟩, 36) := ⟨⟨by decide +kernel, by decide +kernel⟩, List.mem_of_getElem? (i := 888) (by decide +kernel), List.mem_of_getElem? (i := 1147) (by decide +kernel), List.mem_of_getElem? (i := 1148) (by decide +kernel)⟩
theorem lw_p46 : lw_okq (⟨"TankNumbersModel", "parts", "(I)V"⟩, 36) := ⟨⟨by decide +kernel, by decide +kernel⟩, List.mem_of_getElem? (i := 888) (by decide +kernel), List.mem_of_getElem? (i := 1151) (by decide +kernel), List.mem_of_getElem? (i := 1152) (by decide +kernel)⟩
theorem lw_p47 : lw_okq (⟨"TankNumbersModel", "spans", "(II)V"⟩, 36) := ⟨⟨by decide +kernel, by decide +kernel⟩, List.mem_of_getElem? (i := 888) (by decide +kernel), List.mem_of_getElem? (i := 1167) (by decide +kernel), List.mem_of_getElem? (i := 1168) (by decide +kernel)⟩
def lw_privs_3 : List (MethodName × Nat) := [(⟨"TankNumbersModel", "mayBe", "(II)Z"⟩, 36), (⟨"TankNumbersModel", "weighs", "(II)V"⟩, 36), (⟨"TankNumbersModel", "greatest", "(II)I"⟩, 36), (⟨"TankNumbersModel", "times", "(II)V"⟩, 36), (⟨"TankNumbersModel", "keeps", "([III)V"⟩, 36), (⟨"TankNumbersModel", "divides", "(II)V"⟩, 36), (⟨"TankNumbersModel", "adds", "(II)V"⟩, 36), (⟨"TankNumbersModel", "gets", "(I[II)V"⟩, 36), (⟨"TankNumbersModel", "lowers", "()V"⟩, 36), (⟨"TankNumbersModel", "isEven", "(I)Z"⟩, 36), (⟨"TankNumbersModel", "halves", "(I)V"⟩, 36), (⟨"TankNumbersModel", "takes", "(II)V"⟩, 36), (⟨"TankNumbersModel", "against", "(II)I"⟩, 36), (⟨"TankNumbersModel", "lessens", "(II)V"⟩, 36), (⟨"TankNumbersModel", "parts", "(I)V"⟩, 36), (⟨"TankNumbersModel", "spans", "(II)V"⟩, 36)]
theorem lw_r3 : ∀ q ∈ lw_privs_3, lw_okq q := List.forall_mem_cons.mpr ⟨lw_p32, List.forall_mem_cons.mpr ⟨lw_p33, List.forall_mem_cons.mpr ⟨lw_p34, List.forall_mem_cons.mpr ⟨lw_p35, List.forall_mem_cons.mpr ⟨lw_p36, List.forall_mem_cons.mpr ⟨lw_p37, List.forall_mem_cons.mpr ⟨lw_p38, List.forall_mem_cons.mpr ⟨lw_p39, List.forall_mem_cons.mpr ⟨lw_p40, List.forall_mem_cons.mpr ⟨lw_p41, List.forall_mem_cons.mpr ⟨lw_p42, List.forall_mem_cons.mpr ⟨lw_p43, List.forall_mem_cons.mpr ⟨lw_p44, List.forall_mem_cons.mpr ⟨lw_p45, List.forall_mem_cons.mpr ⟨lw_p46, List.forall_mem_cons.mpr ⟨lw_p47, fun _ h => absurd h List.not_mem_nil⟩⟩⟩⟩⟩⟩⟩⟩⟩⟩⟩⟩⟩⟩⟩⟩
theorem lw_p48 : lw_okq (⟨"TankNumbersModel", "mouldsOf", "(II)I"⟩, 36) := ⟨⟨by decide +kernel, by decide +kernel⟩, List.mem_of_getElem? (i := 888) (by decide +kernel), List.mem_of_getElem? (i := 1183) (by decide +kernel), List.mem_of_getElem? (i := 1184) (by decide +kernel)⟩
theorem lw_p49 : lw_okq (⟨"TankNumbersModel", "weighsMoulds", "(IIII)V"⟩, 36) := ⟨⟨by decide +kernel, by decide +kernel⟩, List.mem_of_getElem? (i := 888) (by decide +kernel), List.mem_of_getElem? (i := 1192) (by decide +kernel), List.mem_of_getElem? (i := 1193) (by decide +kernel)⟩
theorem lw_p50 : lw_okq (⟨"TankNumbersModel", "findKeys", "(II)V"⟩, 36) := ⟨⟨by decide +kernel, by decide +kernel⟩, List.mem_of_getElem? (i := 888) (by decide +kernel), List.mem_of_getElem? (i := 1220) (by decide +kernel), List.mem_of_getElem? (i := 1221) (by decide +kernel)⟩
theorem lw_p51 : lw_okq (⟨"TankNumbersModel", "holds", "()Z"⟩, 36) := ⟨⟨by decide +kernel, by decide +kernel⟩, List.mem_of_getElem? (i := 888) (by decide +kernel), List.mem_of_getElem? (i := 1224) (by decide +kernel), List.mem_of_getElem? (i := 1225) (by decide +kernel)⟩
theorem lw_p52 : lw_okq (⟨"TankNumbersModel", "valueOf", "(II)I"⟩, 36) := ⟨⟨by decide +kernel, by decide +kernel⟩, List.mem_of_getElem? (i := 888) (by decide +kernel), List.mem_of_getElem? (i := 1228) (by decide +kernel), List.mem_of_getElem? (i := 1229) (by decide +kernel)⟩
theorem lw_p53 : lw_okq (⟨"TankNumbersModel", "notes", "()V"⟩, 36) := ⟨⟨by decide +kernel, by decide +kernel⟩, List.mem_of_getElem? (i := 888) (by decide +kernel), List.mem_of_getElem? (i := 1232) (by decide +kernel), List.mem_of_getElem? (i := 1233) (by decide +kernel)⟩
theorem lw_p54 : lw_okq (⟨"TankNumbersModel", "runsOf", "(II)I"⟩, 36) := ⟨⟨by decide +kernel, by decide +kernel⟩, List.mem_of_getElem? (i := 888) (by decide +kernel), List.mem_of_getElem? (i := 1248) (by decide +kernel), List.mem_of_getElem? (i := 1249) (by decide +kernel)⟩
theorem lw_p55 : lw_okq (⟨"TankNumbersModel", "dates", "(II)V"⟩, 36) := ⟨⟨by decide +kernel, by decide +kernel⟩, List.mem_of_getElem? (i := 888) (by decide +kernel), List.mem_of_getElem? (i := 1252) (by decide +kernel), List.mem_of_getElem? (i := 1253) (by decide +kernel)⟩
theorem lw_p56 : lw_okq (⟨"TankNumbersModel", "gaps", "(IIZ)I"⟩, 36) := ⟨⟨by decide +kernel, by decide +kernel⟩, List.mem_of_getElem? (i := 888) (by decide +kernel), List.mem_of_getElem? (i := 1260) (by decide +kernel), List.mem_of_getElem? (i := 1261) (by decide +kernel)⟩
theorem lw_p57 : lw_okq (⟨"TankNumbersModel", "findGap", "(I)V"⟩, 36) := ⟨⟨by decide +kernel, by decide +kernel⟩, List.mem_of_getElem? (i := 888) (by decide +kernel), List.mem_of_getElem? (i := 1265) (by decide +kernel), List.mem_of_getElem? (i := 1266) (by decide +kernel)⟩
theorem lw_p58 : lw_okq (⟨"TankNumbersModel", "findSets", "(II)V"⟩, 36) := ⟨⟨by decide +kernel, by decide +kernel⟩, List.mem_of_getElem? (i := 888) (by decide +kernel), List.mem_of_getElem? (i := 1273) (by decide +kernel), List.mem_of_getElem? (i := 1274) (by decide +kernel)⟩
theorem lw_p59 : lw_okq (⟨"TankNumbersModel", "tells", "(JJ)I"⟩, 36) := ⟨⟨by decide +kernel, by decide +kernel⟩, List.mem_of_getElem? (i := 888) (by decide +kernel), List.mem_of_getElem? (i := 1277) (by decide +kernel), List.mem_of_getElem? (i := 1278) (by decide +kernel)⟩
theorem lw_p60 : lw_okq (⟨"TankNumbersModel", "sums", "(I)V"⟩, 36) := ⟨⟨by decide +kernel, by decide +kernel⟩, List.mem_of_getElem? (i := 888) (by decide +kernel), List.mem_of_getElem? (i := 1289) (by decide +kernel), List.mem_of_getElem? (i := 1290) (by decide +kernel)⟩
theorem lw_p61 : lw_okq (⟨"TankNumbersModel", "countOf", "(I)I"⟩, 36) := ⟨⟨by decide +kernel, by decide +kernel⟩, List.mem_of_getElem? (i := 888) (by decide +kernel), List.mem_of_getElem? (i := 1317) (by decide +kernel), List.mem_of_getElem? (i := 1318) (by decide +kernel)⟩
def lw_privs_4 : List (MethodName × Nat) := [(⟨"TankNumbersModel", "mouldsOf", "(II)I"⟩, 36), (⟨"TankNumbersModel", "weighsMoulds", "(IIII)V"⟩, 36), (⟨"TankNumbersModel", "findKeys", "(II)V"⟩, 36), (⟨"TankNumbersModel", "holds", "()Z"⟩, 36), (⟨"TankNumbersModel", "valueOf", "(II)I"⟩, 36), (⟨"TankNumbersModel", "notes", "()V"⟩, 36), (⟨"TankNumbersModel", "runsOf", "(II)I"⟩, 36), (⟨"TankNumbersModel", "dates", "(II)V"⟩, 36), (⟨"TankNumbersModel", "gaps", "(IIZ)I"⟩, 36), (⟨"TankNumbersModel", "findGap", "(I)V"⟩, 36), (⟨"TankNumbersModel", "findSets", "(II)V"⟩, 36), (⟨"TankNumbersModel", "tells", "(JJ)I"⟩, 36), (⟨"TankNumbersModel", "sums", "(I)V"⟩, 36), (⟨"TankNumbersModel", "countOf", "(I)I"⟩, 36)]
theorem lw_r4 : ∀ q ∈ lw_privs_4, lw_okq q := List.forall_mem_cons.mpr ⟨lw_p48, List.forall_mem_cons.mpr ⟨lw_p49, List.forall_mem_cons.mpr ⟨lw_p50, List.forall_mem_cons.mpr ⟨lw_p51, List.forall_mem_cons.mpr ⟨lw_p52, List.forall_mem_cons.mpr ⟨lw_p53, List.forall_mem_cons.mpr ⟨lw_p54, List.forall_mem_cons.mpr ⟨lw_p55, List.forall_mem_cons.mpr ⟨lw_p56, List.forall_mem_cons.mpr ⟨lw_p57, List.forall_mem_cons.mpr ⟨lw_p58, List.forall_mem_cons.mpr ⟨lw_p59, List.forall_mem_cons.mpr ⟨lw_p60, List.forall_mem_cons.mpr ⟨lw_p61, fun _ h => absurd h List.not_mem_nil⟩⟩⟩⟩⟩⟩⟩⟩⟩⟩⟩⟩⟩⟩
def lw_privs : List (MethodName × Nat) := lw_privs_1 ++ (lw_privs_2 ++ (lw_privs_3 ++ (lw_privs_4)))
def lw_tbl : List Cond := k2_sels lw_privs ++ tables_1
theorem lw_privs_ok : ∀ q ∈ lw_privs, lw_okq q := by
  show ∀ q ∈ lw_privs_1 ++ (lw_privs_2 ++ (lw_privs_3 ++ (lw_privs_4))), lw_okq q
  exact List.forall_mem_append.mpr ⟨lw_r1, List.forall_mem_append.mpr ⟨lw_r2, List.forall_mem_append.mpr ⟨lw_r3, lw_r4⟩⟩⟩
end
section
def RX0 : String := "TankNumbers$Agents"
def TX0 : u_T := fun k => match k with
  | 0 => ("TankNumbers$Agents", "agent", "[I", true)
  | 1 => ("TankNumbers$Agents", "said", "[I", true)
  | 2 => ("TankNumbers$Agents", "so", "[I", true)
  | 3 => ("TankNumbers$Agents", "size", "I", false)
  | 4 => ("TankNumbers$Agents", "pairs", "I", false)
  | 5 => ("TankNumbers$Agents", "allSaid", "J", false)
  | 6 => ("TankNumbers$Agents", "allSo", "J", false)
  | _ => ("TankNumbers$Agents", "allOff", "J", false)
def tyX0 : Nat → FieldType := fun k => match k with
  | 0 => .array .int
  | 1 => .array .int
  | 2 => .array .int
  | 3 => .int
  | 4 => .int
  | 5 => .long
  | 6 => .long
  | _ => .long
theorem nmX0 : ∀ a, a < 8 → ∀ b, b < 8 → a ≠ b → (TX0 a).2.1 ≠ (TX0 b).2.1 := by decide +kernel
theorem tyX0_ok : ∀ k, k < 8 → parseFieldDescriptor (TX0 k).2.2.1 = some (tyX0 k) := by decide +kernel
abbrev cX0_init : ByteArray := prog_2_method_1_code
def yX0_init : MethodName := ⟨RX0, "<init>", "()V"⟩
abbrev cX0_add : ByteArray := prog_2_method_2_code
def yX0_add : MethodName := ⟨RX0, "add", "(III)I"⟩
abbrev cX0_sumUp : ByteArray := prog_2_method_3_code
def yX0_sumUp : MethodName := ⟨RX0, "sumUp", "(I)V"⟩
abbrev cX0_mix : ByteArray := prog_2_method_4_code
def yX0_mix : MethodName := ⟨RX0, "mix", "(J)J"⟩
def RX1 : String := "TankNumbers$Books"
def TX1 : u_T := fun k => match k with
  | 0 => ("TankNumbers$Books", "many", "[I", true)
  | 1 => ("TankNumbers$Books", "first", "[I", true)
  | _ => ("TankNumbers$Books", "step", "[I", true)
def tyX1 : Nat → FieldType := fun k => match k with
  | 0 => .array .int
  | 1 => .array .int
  | _ => .array .int
theorem nmX1 : ∀ a, a < 3 → ∀ b, b < 3 → a ≠ b → (TX1 a).2.1 ≠ (TX1 b).2.1 := by decide +kernel
theorem tyX1_ok : ∀ k, k < 3 → parseFieldDescriptor (TX1 k).2.2.1 = some (tyX1 k) := by decide +kernel
abbrev cX1_init : ByteArray := prog_3_method_1_code
def yX1_init : MethodName := ⟨RX1, "<init>", "()V"⟩
abbrev cX1_write : ByteArray := prog_3_method_2_code
def yX1_write : MethodName := ⟨RX1, "write", "(IIII)I"⟩
abbrev cX1_has : ByteArray := prog_3_method_3_code
def yX1_has : MethodName := ⟨RX1, "has", "(I)Z"⟩
abbrev cX1_written : ByteArray := prog_3_method_4_code
def yX1_written : MethodName := ⟨RX1, "written", "()I"⟩
abbrev cX1_mix : ByteArray := prog_3_method_5_code
def yX1_mix : MethodName := ⟨RX1, "mix", "(J)J"⟩
def RX2 : String := "TankNumbers$Dates"
def TX2 : u_T := fun k => match k with
  | 0 => ("TankNumbers$Dates", "line", "[I", true)
  | 1 => ("TankNumbers$Dates", "lined", "I", false)
  | 2 => ("TankNumbers$Dates", "met", "I", false)
  | 3 => ("TankNumbers$Dates", "gapLength", "I", false)
  | 4 => ("TankNumbers$Dates", "gapStart", "I", false)
  | 5 => ("TankNumbers$Dates", "ways", "[[J", true)
  | _ => ("TankNumbers$Dates", "near", "[J", true)
def tyX2 : Nat → FieldType := fun k => match k with
  | 0 => .array .int
  | 1 => .int
  | 2 => .int
  | 3 => .int
  | 4 => .int
  | 5 => .array (.array .long)
  | _ => .array .long
theorem nmX2 : ∀ a, a < 7 → ∀ b, b < 7 → a ≠ b → (TX2 a).2.1 ≠ (TX2 b).2.1 := by decide +kernel
theorem tyX2_ok : ∀ k, k < 7 → parseFieldDescriptor (TX2 k).2.2.1 = some (tyX2 k) := by decide +kernel
abbrev cX2_init : ByteArray := prog_4_method_1_code
def yX2_init : MethodName := ⟨RX2, "<init>", "()V"⟩
abbrev cX2_lineUp : ByteArray := prog_4_method_2_code
def yX2_lineUp : MethodName := ⟨RX2, "lineUp", "(LTankNumbers$Finds;I)V"⟩
abbrev cX2_putInLine : ByteArray := prog_4_method_3_code
def yX2_putInLine : MethodName := ⟨RX2, "putInLine", "(I)V"⟩
abbrev cX2_fallsAt : ByteArray := prog_4_method_4_code
def yX2_fallsAt : MethodName := ⟨RX2, "fallsAt", "(I)Z"⟩
abbrev cX2_runsMet : ByteArray := prog_4_method_5_code
def yX2_runsMet : MethodName := ⟨RX2, "runsMet", "()I"⟩
abbrev cX2_firstNewRun : ByteArray := prog_4_method_6_code
def yX2_firstNewRun : MethodName := ⟨RX2, "firstNewRun", "()I"⟩
abbrev cX2_mark : ByteArray := prog_4_method_7_code
def yX2_mark : MethodName := ⟨RX2, "mark", "(LTankNumbers$Finds;II)I"⟩
abbrev cX2_measureGap : ByteArray := prog_4_method_8_code
def yX2_measureGap : MethodName := ⟨RX2, "measureGap", "(I)V"⟩
abbrev cX2_likelihood : ByteArray := prog_4_method_9_code
def yX2_likelihood : MethodName := ⟨RX2, "likelihood", "(IILTankNumbers$Fraction;)V"⟩
abbrev cX2_waysWithoutGap : ByteArray := prog_4_method_10_code
def yX2_waysWithoutGap : MethodName := ⟨RX2, "waysWithoutGap", "(II)J"⟩
abbrev cX2_sumNear : ByteArray := prog_4_method_11_code
def yX2_sumNear : MethodName := ⟨RX2, "sumNear", "(II)V"⟩
abbrev cX2_waysToJoin : ByteArray := prog_4_method_12_code
def yX2_waysToJoin : MethodName := ⟨RX2, "waysToJoin", "(I)J"⟩
def RX3 : String := "TankNumbers$Finds"
def TX3 : u_T := fun k => match k with
  | 0 => ("TankNumbers$Finds", "maker", "[I", true)
  | 1 => ("TankNumbers$Finds", "number", "[I", true)
  | 2 => ("TankNumbers$Finds", "week", "[I", true)
  | 3 => ("TankNumbers$Finds", "mould", "[I", true)
  | 4 => ("TankNumbers$Finds", "front", "[I", true)
  | 5 => ("TankNumbers$Finds", "doubted", "[Z", true)
  | _ => ("TankNumbers$Finds", "size", "I", false)
def tyX3 : Nat → FieldType := fun k => match k with
  | 0 => .array .int
  | 1 => .array .int
  | 2 => .array .int
  | 3 => .array .int
  | 4 => .array .int
  | 5 => .array .boolean
  | _ => .int
theorem nmX3 : ∀ a, a < 7 → ∀ b, b < 7 → a ≠ b → (TX3 a).2.1 ≠ (TX3 b).2.1 := by decide +kernel
theorem tyX3_ok : ∀ k, k < 7 → parseFieldDescriptor (TX3 k).2.2.1 = some (tyX3 k) := by decide +kernel
abbrev cX3_init : ByteArray := prog_5_method_1_code
def yX3_init : MethodName := ⟨RX3, "<init>", "()V"⟩
abbrev cX3_add : ByteArray := prog_5_method_2_code
def yX3_add : MethodName := ⟨RX3, "add", "(IIIII)I"⟩
abbrev cX3_countsFor : ByteArray := prog_5_method_3_code
def yX3_countsFor : MethodName := ⟨RX3, "countsFor", "(II)Z"⟩
abbrev cX3_gather : ByteArray := prog_5_method_4_code
def yX3_gather : MethodName := ⟨RX3, "gather", "(IILTankNumbers$Marks;)V"⟩
abbrev cX3_withMould : ByteArray := prog_5_method_5_code
def yX3_withMould : MethodName := ⟨RX3, "withMould", "(I)I"⟩
abbrev cX3_unlikeMoulds : ByteArray := prog_5_method_6_code
def yX3_unlikeMoulds : MethodName := ⟨RX3, "unlikeMoulds", "(I)I"⟩
abbrev cX3_foundAt : ByteArray := prog_5_method_7_code
def yX3_foundAt : MethodName := ⟨RX3, "foundAt", "(I)I"⟩
abbrev cX3_allDoubted : ByteArray := prog_5_method_8_code
def yX3_allDoubted : MethodName := ⟨RX3, "allDoubted", "()I"⟩
abbrev cX3_mix : ByteArray := prog_5_method_9_code
def yX3_mix : MethodName := ⟨RX3, "mix", "(J)J"⟩
def RX4 : String := "TankNumbers$Fraction"
def TX4 : u_T := fun k => match k with
  | 0 => ("TankNumbers$Fraction", "above", "LTankNumbers$Natural;", true)
  | 1 => ("TankNumbers$Fraction", "below", "LTankNumbers$Natural;", true)
  | 2 => ("TankNumbers$Fraction", "left", "LTankNumbers$Natural;", true)
  | _ => ("TankNumbers$Fraction", "right", "LTankNumbers$Natural;", true)
def tyX4 : Nat → FieldType := fun k => match k with
  | 0 => .object "TankNumbers$Natural"
  | 1 => .object "TankNumbers$Natural"
  | 2 => .object "TankNumbers$Natural"
  | _ => .object "TankNumbers$Natural"
theorem nmX4 : ∀ a, a < 4 → ∀ b, b < 4 → a ≠ b → (TX4 a).2.1 ≠ (TX4 b).2.1 := by decide +kernel
theorem tyX4_ok : ∀ k, k < 4 → parseFieldDescriptor (TX4 k).2.2.1 = some (tyX4 k) := by decide +kernel
abbrev cX4_init : ByteArray := prog_6_method_1_code
def yX4_init : MethodName := ⟨RX4, "<init>", "()V"⟩
abbrev cX4_become : ByteArray := prog_6_method_2_code
def yX4_become : MethodName := ⟨RX4, "become", "(JJ)V"⟩
abbrev cX4_become_ : ByteArray := prog_6_method_3_code
def yX4_become_ : MethodName := ⟨RX4, "become", "(LTankNumbers$Natural;LTankNumbers$Natural;)V"⟩
abbrev cX4_becomeOneBy : ByteArray := prog_6_method_4_code
def yX4_becomeOneBy : MethodName := ⟨RX4, "becomeOneBy", "(LTankNumbers$Natural;)V"⟩
abbrev cX4_times : ByteArray := prog_6_method_5_code
def yX4_times : MethodName := ⟨RX4, "times", "(I)V"⟩
abbrev cX4_lower : ByteArray := prog_6_method_6_code
def yX4_lower : MethodName := ⟨RX4, "lower", "()V"⟩
abbrev cX4_measureOdd : ByteArray := prog_6_method_7_code
def yX4_measureOdd : MethodName := ⟨RX4, "measureOdd", "()V"⟩
def RX5 : String := "TankNumbers$Fronts"
def TX5 : u_T := fun k => match k with
  | 0 => ("TankNumbers$Fronts", "above", "[I", true)
  | _ => ("TankNumbers$Fronts", "below", "[I", true)
def tyX5 : Nat → FieldType := fun k => match k with
  | 0 => .array .int
  | _ => .array .int
theorem nmX5 : ∀ a, a < 2 → ∀ b, b < 2 → a ≠ b → (TX5 a).2.1 ≠ (TX5 b).2.1 := by decide +kernel
theorem tyX5_ok : ∀ k, k < 2 → parseFieldDescriptor (TX5 k).2.2.1 = some (tyX5 k) := by decide +kernel
abbrev cX5_init : ByteArray := prog_7_method_1_code
def yX5_init : MethodName := ⟨RX5, "<init>", "()V"⟩
abbrev cX5_lossAt : ByteArray := prog_7_method_2_code
def yX5_lossAt : MethodName := ⟨RX5, "lossAt", "(ILTankNumbers$Finds;LTankNumbers$Fraction;)V"⟩
abbrev cX5_mix : ByteArray := prog_7_method_3_code
def yX5_mix : MethodName := ⟨RX5, "mix", "(J)J"⟩
def RX6 : String := "TankNumbers$Marks"
def TX6 : u_T := fun k => match k with
  | 0 => ("TankNumbers$Marks", "row", "[I", true)
  | _ => ("TankNumbers$Marks", "size", "I", false)
def tyX6 : Nat → FieldType := fun k => match k with
  | 0 => .array .int
  | _ => .int
theorem nmX6 : ∀ a, a < 2 → ∀ b, b < 2 → a ≠ b → (TX6 a).2.1 ≠ (TX6 b).2.1 := by decide +kernel
theorem tyX6_ok : ∀ k, k < 2 → parseFieldDescriptor (TX6 k).2.2.1 = some (tyX6 k) := by decide +kernel
abbrev cX6_init : ByteArray := prog_8_method_1_code
def yX6_init : MethodName := ⟨RX6, "<init>", "()V"⟩
abbrev cX6_clear : ByteArray := prog_8_method_2_code
def yX6_clear : MethodName := ⟨RX6, "clear", "()V"⟩
abbrev cX6_put : ByteArray := prog_8_method_3_code
def yX6_put : MethodName := ⟨RX6, "put", "(I)V"⟩
abbrev cX6_commonStep : ByteArray := prog_8_method_4_code
def yX6_commonStep : MethodName := ⟨RX6, "commonStep", "()I"⟩
abbrev cX6_suit : ByteArray := prog_8_method_5_code
def yX6_suit : MethodName := ⟨RX6, "suit", "(II)Z"⟩
abbrev cX6_topPlace : ByteArray := prog_8_method_6_code
def yX6_topPlace : MethodName := ⟨RX6, "topPlace", "(II)I"⟩
abbrev cX6_littleMore : ByteArray := prog_8_method_7_code
def yX6_littleMore : MethodName := ⟨RX6, "littleMore", "(II)I"⟩
def RX7 : String := "TankNumbers$MouldOdds"
def TX7 : u_T := fun k => match k with
  | 0 => ("TankNumbers$MouldOdds", "term", "LTankNumbers$Natural;", true)
  | _ => ("TankNumbers$MouldOdds", "whole", "LTankNumbers$Natural;", true)
def tyX7 : Nat → FieldType := fun k => match k with
  | 0 => .object "TankNumbers$Natural"
  | _ => .object "TankNumbers$Natural"
theorem nmX7 : ∀ a, a < 2 → ∀ b, b < 2 → a ≠ b → (TX7 a).2.1 ≠ (TX7 b).2.1 := by decide +kernel
theorem tyX7_ok : ∀ k, k < 2 → parseFieldDescriptor (TX7 k).2.2.1 = some (tyX7 k) := by decide +kernel
abbrev cX7_init : ByteArray := prog_9_method_1_code
def yX7_init : MethodName := ⟨RX7, "<init>", "()V"⟩
abbrev cX7_share : ByteArray := prog_9_method_2_code
def yX7_share : MethodName := ⟨RX7, "share", "(IIILTankNumbers$Fraction;)V"⟩
abbrev cX7_weigh : ByteArray := prog_9_method_3_code
def yX7_weigh : MethodName := ⟨RX7, "weigh", "(III)V"⟩
def RX8 : String := "TankNumbers$Natural"
def TX8 : u_T := fun k => match k with
  | 0 => ("TankNumbers$Natural", "limbs", "[I", true)
  | _ => ("TankNumbers$Natural", "size", "I", false)
def tyX8 : Nat → FieldType := fun k => match k with
  | 0 => .array .int
  | _ => .int
theorem nmX8 : ∀ a, a < 2 → ∀ b, b < 2 → a ≠ b → (TX8 a).2.1 ≠ (TX8 b).2.1 := by decide +kernel
theorem tyX8_ok : ∀ k, k < 2 → parseFieldDescriptor (TX8 k).2.2.1 = some (tyX8 k) := by decide +kernel
abbrev cX8_init : ByteArray := prog_10_method_1_code
def yX8_init : MethodName := ⟨RX8, "<init>", "()V"⟩
abbrev cX8_at : ByteArray := prog_10_method_2_code
def yX8_at : MethodName := ⟨RX8, "at", "(I)I"⟩
abbrev cX8_become : ByteArray := prog_10_method_3_code
def yX8_become : MethodName := ⟨RX8, "become", "(J)V"⟩
abbrev cX8_copy : ByteArray := prog_10_method_4_code
def yX8_copy : MethodName := ⟨RX8, "copy", "(LTankNumbers$Natural;)V"⟩
abbrev cX8_add : ByteArray := prog_10_method_5_code
def yX8_add : MethodName := ⟨RX8, "add", "(LTankNumbers$Natural;)V"⟩
abbrev cX8_subtract : ByteArray := prog_10_method_6_code
def yX8_subtract : MethodName := ⟨RX8, "subtract", "(LTankNumbers$Natural;)V"⟩
abbrev cX8_multiply : ByteArray := prog_10_method_7_code
def yX8_multiply : MethodName := ⟨RX8, "multiply", "(I)V"⟩
abbrev cX8_remainder : ByteArray := prog_10_method_8_code
def yX8_remainder : MethodName := ⟨RX8, "remainder", "(I)I"⟩
abbrev cX8_divide : ByteArray := prog_10_method_9_code
def yX8_divide : MethodName := ⟨RX8, "divide", "(I)V"⟩
abbrev cX8_divideByOdd : ByteArray := prog_10_method_10_code
def yX8_divideByOdd : MethodName := ⟨RX8, "divideByOdd", "(LTankNumbers$Natural;)V"⟩
abbrev cX8_takeTimes : ByteArray := prog_10_method_11_code
def yX8_takeTimes : MethodName := ⟨RX8, "takeTimes", "(LTankNumbers$Natural;II)V"⟩
abbrev cX8_inverseOf : ByteArray := prog_10_method_12_code
def yX8_inverseOf : MethodName := ⟨RX8, "inverseOf", "(I)I"⟩
abbrev cX8_twos : ByteArray := prog_10_method_13_code
def yX8_twos : MethodName := ⟨RX8, "twos", "()I"⟩
abbrev cX8_dropBits : ByteArray := prog_10_method_14_code
def yX8_dropBits : MethodName := ⟨RX8, "dropBits", "(I)V"⟩
abbrev cX8_compareWith : ByteArray := prog_10_method_15_code
def yX8_compareWith : MethodName := ⟨RX8, "compareWith", "(LTankNumbers$Natural;)I"⟩
abbrev cX8_mix : ByteArray := prog_10_method_16_code
def yX8_mix : MethodName := ⟨RX8, "mix", "(J)J"⟩
abbrev cX8_append : ByteArray := prog_10_method_17_code
def yX8_append : MethodName := ⟨RX8, "append", "(I)V"⟩
abbrev cX8_trim : ByteArray := prog_10_method_18_code
def yX8_trim : MethodName := ⟨RX8, "trim", "()V"⟩
def RX9 : String := "TankNumbers$Sureness"
def TX9 : u_T := fun k => match k with
  | 0 => ("TankNumbers$Sureness", "weight", "LTankNumbers$Natural;", true)
  | 1 => ("TankNumbers$Sureness", "whole", "LTankNumbers$Natural;", true)
  | 2 => ("TankNumbers$Sureness", "part", "LTankNumbers$Natural;", true)
  | 3 => ("TankNumbers$Sureness", "found", "I", false)
  | 4 => ("TankNumbers$Sureness", "lowest", "I", false)
  | _ => ("TankNumbers$Sureness", "highest", "I", false)
def tyX9 : Nat → FieldType := fun k => match k with
  | 0 => .object "TankNumbers$Natural"
  | 1 => .object "TankNumbers$Natural"
  | 2 => .object "TankNumbers$Natural"
  | 3 => .int
  | 4 => .int
  | _ => .int
theorem nmX9 : ∀ a, a < 6 → ∀ b, b < 6 → a ≠ b → (TX9 a).2.1 ≠ (TX9 b).2.1 := by decide +kernel
theorem tyX9_ok : ∀ k, k < 6 → parseFieldDescriptor (TX9 k).2.2.1 = some (tyX9 k) := by decide +kernel
abbrev cX9_init : ByteArray := prog_11_method_1_code
def yX9_init : MethodName := ⟨RX9, "<init>", "()V"⟩
abbrev cX9_prepare : ByteArray := prog_11_method_2_code
def yX9_prepare : MethodName := ⟨RX9, "prepare", "(III)V"⟩
abbrev cX9_share : ByteArray := prog_11_method_3_code
def yX9_share : MethodName := ⟨RX9, "share", "(IILTankNumbers$Fraction;)V"⟩
abbrev cX9_spanEnd : ByteArray := prog_11_method_4_code
def yX9_spanEnd : MethodName := ⟨RX9, "spanEnd", "(II)I"⟩
abbrev cX9_begin : ByteArray := prog_11_method_5_code
def yX9_begin : MethodName := ⟨RX9, "begin", "()V"⟩
abbrev cX9_step : ByteArray := prog_11_method_6_code
def yX9_step : MethodName := ⟨RX9, "step", "(I)V"⟩
def RX10 : String := "TankNumbers$Words"
def TX10 : u_T := fun k => match k with
  | 0 => ("TankNumbers$Words", "length", "[I", true)
  | 1 => ("TankNumbers$Words", "letters", "[I", true)
  | 2 => ("TankNumbers$Words", "low", "[I", true)
  | 3 => ("TankNumbers$Words", "high", "[I", true)
  | 4 => ("TankNumbers$Words", "size", "I", false)
  | 5 => ("TankNumbers$Words", "searched", "Z", false)
  | 6 => ("TankNumbers$Words", "found", "I", false)
  | 7 => ("TankNumbers$Words", "bits", "[I", true)
  | 8 => ("TankNumbers$Words", "order", "[I", true)
  | 9 => ("TankNumbers$Words", "depthOf", "[I", true)
  | 10 => ("TankNumbers$Words", "ordered", "I", false)
  | 11 => ("TankNumbers$Words", "figure", "[I", true)
  | 12 => ("TankNumbers$Words", "ripe", "[I", true)
  | _ => ("TankNumbers$Words", "ripeUpTo", "[I", true)
def tyX10 : Nat → FieldType := fun k => match k with
  | 0 => .array .int
  | 1 => .array .int
  | 2 => .array .int
  | 3 => .array .int
  | 4 => .int
  | 5 => .boolean
  | 6 => .int
  | 7 => .array .int
  | 8 => .array .int
  | 9 => .array .int
  | 10 => .int
  | 11 => .array .int
  | 12 => .array .int
  | _ => .array .int
theorem nmX10 : ∀ a, a < 14 → ∀ b, b < 14 → a ≠ b → (TX10 a).2.1 ≠ (TX10 b).2.1 := by decide +kernel
theorem tyX10_ok : ∀ k, k < 14 → parseFieldDescriptor (TX10 k).2.2.1 = some (tyX10 k) := by decide +kernel
abbrev cX10_init : ByteArray := prog_12_method_1_code
def yX10_init : MethodName := ⟨RX10, "<init>", "()V"⟩
abbrev cX10_isRow : ByteArray := prog_12_method_2_code
def yX10_isRow : MethodName := ⟨RX10, "isRow", "(II)Z"⟩
abbrev cX10_add : ByteArray := prog_12_method_3_code
def yX10_add : MethodName := ⟨RX10, "add", "(IIII)I"⟩
abbrev cX10_clear : ByteArray := prog_12_method_4_code
def yX10_clear : MethodName := ⟨RX10, "clear", "()I"⟩
abbrev cX10_ways : ByteArray := prog_12_method_5_code
def yX10_ways : MethodName := ⟨RX10, "ways", "()I"⟩
abbrev cX10_figuresOf : ByteArray := prog_12_method_6_code
def yX10_figuresOf : MethodName := ⟨RX10, "figuresOf", "(I)I"⟩
abbrev cX10_extreme : ByteArray := prog_12_method_7_code
def yX10_extreme : MethodName := ⟨RX10, "extreme", "(IIZ)I"⟩
abbrev cX10_searchAll : ByteArray := prog_12_method_8_code
def yX10_searchAll : MethodName := ⟨RX10, "searchAll", "()V"⟩
abbrev cX10_startOrder : ByteArray := prog_12_method_9_code
def yX10_startOrder : MethodName := ⟨RX10, "startOrder", "()V"⟩
abbrev cX10_orderRow : ByteArray := prog_12_method_10_code
def yX10_orderRow : MethodName := ⟨RX10, "orderRow", "(II)V"⟩
abbrev cX10_orderWords : ByteArray := prog_12_method_11_code
def yX10_orderWords : MethodName := ⟨RX10, "orderWords", "()V"⟩
abbrev cX10_ripeAt : ByteArray := prog_12_method_12_code
def yX10_ripeAt : MethodName := ⟨RX10, "ripeAt", "(I)I"⟩
abbrev cX10_holdAt : ByteArray := prog_12_method_13_code
def yX10_holdAt : MethodName := ⟨RX10, "holdAt", "(I)Z"⟩
abbrev cX10_letterAt : ByteArray := prog_12_method_14_code
def yX10_letterAt : MethodName := ⟨RX10, "letterAt", "(III)I"⟩
abbrev cX10_valueOf : ByteArray := prog_12_method_15_code
def yX10_valueOf : MethodName := ⟨RX10, "valueOf", "(II)I"⟩
abbrev cX10_tally : ByteArray := prog_12_method_16_code
def yX10_tally : MethodName := ⟨RX10, "tally", "(LTankNumbers$Words;II)V"⟩
abbrev cX10_note : ByteArray := prog_12_method_17_code
def yX10_note : MethodName := ⟨RX10, "note", "(I)V"⟩
abbrev cX10_seek : ByteArray := prog_12_method_18_code
def yX10_seek : MethodName := ⟨RX10, "seek", "(LTankNumbers$Words;IIZ)Z"⟩
abbrev cX10_mix : ByteArray := prog_12_method_19_code
def yX10_mix : MethodName := ⟨RX10, "mix", "(J)J"⟩
def RX11 : String := "TankNumbers"
def TX11 : u_T := fun k => match k with
  | 0 => ("TankNumbers", "finds", "LTankNumbers$Finds;", true)
  | 1 => ("TankNumbers", "marks", "LTankNumbers$Marks;", true)
  | 2 => ("TankNumbers", "sureness", "LTankNumbers$Sureness;", true)
  | 3 => ("TankNumbers", "mouldOdds", "LTankNumbers$MouldOdds;", true)
  | 4 => ("TankNumbers", "words", "LTankNumbers$Words;", true)
  | 5 => ("TankNumbers", "dates", "LTankNumbers$Dates;", true)
  | 6 => ("TankNumbers", "agents", "LTankNumbers$Agents;", true)
  | 7 => ("TankNumbers", "fronts", "LTankNumbers$Fronts;", true)
  | 8 => ("TankNumbers", "books", "LTankNumbers$Books;", true)
  | 9 => ("TankNumbers", "fraction", "LTankNumbers$Fraction;", true)
  | _ => ("TankNumbers", "mostMade", "I", false)
def tyX11 : Nat → FieldType := fun k => match k with
  | 0 => .object "TankNumbers$Finds"
  | 1 => .object "TankNumbers$Marks"
  | 2 => .object "TankNumbers$Sureness"
  | 3 => .object "TankNumbers$MouldOdds"
  | 4 => .object "TankNumbers$Words"
  | 5 => .object "TankNumbers$Dates"
  | 6 => .object "TankNumbers$Agents"
  | 7 => .object "TankNumbers$Fronts"
  | 8 => .object "TankNumbers$Books"
  | 9 => .object "TankNumbers$Fraction"
  | _ => .int
theorem nmX11 : ∀ a, a < 11 → ∀ b, b < 11 → a ≠ b → (TX11 a).2.1 ≠ (TX11 b).2.1 := by decide +kernel
theorem tyX11_ok : ∀ k, k < 11 → parseFieldDescriptor (TX11 k).2.2.1 = some (tyX11 k) := by decide +kernel
abbrev cX11_init : ByteArray := prog_1_method_1_code
def yX11_init : MethodName := ⟨RX11, "<init>", "()V"⟩
abbrev cX11_find : ByteArray := prog_1_method_2_code
def yX11_find : MethodName := ⟨RX11, "find", "(IIIII)I"⟩
abbrev cX11_doubt : ByteArray := prog_1_method_3_code
def yX11_doubt : MethodName := ⟨RX11, "doubt", "(IZ)I"⟩
abbrev cX11_numbers : ByteArray := prog_1_method_4_code
def yX11_numbers : MethodName := ⟨RX11, "numbers", "(II)I"⟩
abbrev cX11_fits : ByteArray := prog_1_method_5_code
def yX11_fits : MethodName := ⟨RX11, "fits", "(III)I"⟩
abbrev cX11_most : ByteArray := prog_1_method_6_code
def yX11_most : MethodName := ⟨RX11, "most", "(I)I"⟩
abbrev cX11_odds : ByteArray := prog_1_method_7_code
def yX11_odds : MethodName := ⟨RX11, "odds", "(IIII)I"⟩
abbrev cX11_atLeast : ByteArray := prog_1_method_8_code
def yX11_atLeast : MethodName := ⟨RX11, "atLeast", "(IIII)I"⟩
abbrev cX11_span : ByteArray := prog_1_method_9_code
def yX11_span : MethodName := ⟨RX11, "span", "(IIIIII)I"⟩
abbrev cX11_told : ByteArray := prog_1_method_10_code
def yX11_told : MethodName := ⟨RX11, "told", "(IIII)I"⟩
abbrev cX11_far : ByteArray := prog_1_method_11_code
def yX11_far : MethodName := ⟨RX11, "far", "(III)I"⟩
abbrev cX11_moulds : ByteArray := prog_1_method_12_code
def yX11_moulds : MethodName := ⟨RX11, "moulds", "(II)I"⟩
abbrev cX11_thereAre : ByteArray := prog_1_method_13_code
def yX11_thereAre : MethodName := ⟨RX11, "thereAre", "(II)I"⟩
abbrev cX11_can : ByteArray := prog_1_method_14_code
def yX11_can : MethodName := ⟨RX11, "can", "(IIIII)I"⟩
abbrev cX11_word : ByteArray := prog_1_method_15_code
def yX11_word : MethodName := ⟨RX11, "word", "(IIII)I"⟩
abbrev cX11_wordless : ByteArray := prog_1_method_16_code
def yX11_wordless : MethodName := ⟨RX11, "wordless", "()I"⟩
abbrev cX11_keys : ByteArray := prog_1_method_17_code
def yX11_keys : MethodName := ⟨RX11, "keys", "()I"⟩
abbrev cX11_may : ByteArray := prog_1_method_18_code
def yX11_may : MethodName := ⟨RX11, "may", "(I)I"⟩
abbrev cX11_reads : ByteArray := prog_1_method_19_code
def yX11_reads : MethodName := ⟨RX11, "reads", "(III)I"⟩
abbrev cX11_runs : ByteArray := prog_1_method_20_code
def yX11_runs : MethodName := ⟨RX11, "runs", "(II)I"⟩
abbrev cX11_gap : ByteArray := prog_1_method_21_code
def yX11_gap : MethodName := ⟨RX11, "gap", "(III)I"⟩
abbrev cX11_chance : ByteArray := prog_1_method_22_code
def yX11_chance : MethodName := ⟨RX11, "chance", "(II)I"⟩
abbrev cX11_said : ByteArray := prog_1_method_23_code
def yX11_said : MethodName := ⟨RX11, "said", "(III)I"⟩
abbrev cX11_agent : ByteArray := prog_1_method_24_code
def yX11_agent : MethodName := ⟨RX11, "agent", "(II)I"⟩
abbrev cX11_putRight : ByteArray := prog_1_method_25_code
def yX11_putRight : MethodName := ⟨RX11, "putRight", "(II)I"⟩
abbrev cX11_front : ByteArray := prog_1_method_26_code
def yX11_front : MethodName := ⟨RX11, "front", "(III)I"⟩
abbrev cX11_lost : ByteArray := prog_1_method_27_code
def yX11_lost : MethodName := ⟨RX11, "lost", "(I)I"⟩
abbrev cX11_book : ByteArray := prog_1_method_28_code
def yX11_book : MethodName := ⟨RX11, "book", "(IIII)I"⟩
abbrev cX11_held : ByteArray := prog_1_method_29_code
def yX11_held : MethodName := ⟨RX11, "held", "(III)I"⟩
abbrev cX11_sign : ByteArray := prog_1_method_30_code
def yX11_sign : MethodName := ⟨RX11, "sign", "(I)I"⟩
abbrev cX11_limb : ByteArray := prog_1_method_31_code
def yX11_limb : MethodName := ⟨RX11, "limb", "(II)I"⟩
abbrev cX11_count : ByteArray := prog_1_method_32_code
def yX11_count : MethodName := ⟨RX11, "count", "(I)I"⟩
abbrev cX11_digest : ByteArray := prog_1_method_33_code
def yX11_digest : MethodName := ⟨RX11, "digest", "()J"⟩
abbrev cX11_within : ByteArray := prog_1_method_34_code
def yX11_within : MethodName := ⟨RX11, "within", "(III)Z"⟩
abbrev cX11_isScheme : ByteArray := prog_1_method_35_code
def yX11_isScheme : MethodName := ⟨RX11, "isScheme", "(III)Z"⟩
abbrev cX11_isPart : ByteArray := prog_1_method_36_code
def yX11_isPart : MethodName := ⟨RX11, "isPart", "(II)Z"⟩
abbrev cX11_stepsOf : ByteArray := prog_1_method_37_code
def yX11_stepsOf : MethodName := ⟨RX11, "stepsOf", "(I)I"⟩
abbrev cX11_placeOf : ByteArray := prog_1_method_38_code
def yX11_placeOf : MethodName := ⟨RX11, "placeOf", "(III)I"⟩
abbrev cX11_commonMeasure : ByteArray := prog_1_method_39_code
def yX11_commonMeasure : MethodName := ⟨RX11, "commonMeasure", "(JJ)J"⟩
abbrev cX11_weigh : ByteArray := prog_1_method_40_code
def yX11_weigh : MethodName := ⟨RX11, "weigh", "(IIII)Z"⟩
def RX12 : String := "TankNumbersModel"
def TX12 : u_T := fun k => match k with
  | 0 => ("TankNumbersModel", "limbs", "[I", true)
  | 1 => ("TankNumbersModel", "wide", "[I", true)
  | 2 => ("TankNumbersModel", "found", "[I", true)
  | 3 => ("TankNumbersModel", "finds", "I", false)
  | 4 => ("TankNumbersModel", "most", "I", false)
  | 5 => ("TankNumbersModel", "numbers", "[I", true)
  | 6 => ("TankNumbersModel", "many", "I", false)
  | 7 => ("TankNumbersModel", "weight", "[I", true)
  | 8 => ("TankNumbersModel", "upTo", "[I", true)
  | 9 => ("TankNumbersModel", "least", "I", false)
  | 10 => ("TankNumbersModel", "spanX", "I", false)
  | 11 => ("TankNumbersModel", "spanY", "I", false)
  | 12 => ("TankNumbersModel", "coded", "[I", true)
  | 13 => ("TankNumbersModel", "words", "I", false)
  | 14 => ("TankNumbersModel", "key", "[I", true)
  | 15 => ("TankNumbersModel", "keyMany", "I", false)
  | 16 => ("TankNumbersModel", "may", "[I", true)
  | 17 => ("TankNumbersModel", "readLength", "I", false)
  | 18 => ("TankNumbersModel", "readLetters", "I", false)
  | 19 => ("TankNumbersModel", "readLeast", "I", false)
  | 20 => ("TankNumbersModel", "readMost", "I", false)
  | 21 => ("TankNumbersModel", "row", "[I", true)
  | 22 => ("TankNumbersModel", "dated", "I", false)
  | 23 => ("TankNumbersModel", "gap", "I", false)
  | 24 => ("TankNumbersModel", "gapFrom", "I", false)
  | 25 => ("TankNumbersModel", "sets", "[J", true)
  | 26 => ("TankNumbersModel", "next", "[J", true)
  | 27 => ("TankNumbersModel", "onto", "[J", true)
  | 28 => ("TankNumbersModel", "pairs", "[I", true)
  | 29 => ("TankNumbersModel", "pairMany", "I", false)
  | 30 => ("TankNumbersModel", "fronts", "[I", true)
  | 31 => ("TankNumbersModel", "books", "[I", true)
  | 32 => ("TankNumbersModel", "allSaid", "J", false)
  | 33 => ("TankNumbersModel", "allSo", "J", false)
  | 34 => ("TankNumbersModel", "apart", "J", false)
  | _ => ("TankNumbersModel", "told0", "I", false)
def tyX12 : Nat → FieldType := fun k => match k with
  | 0 => .array .int
  | 1 => .array .int
  | 2 => .array .int
  | 3 => .int
  | 4 => .int
  | 5 => .array .int
  | 6 => .int
  | 7 => .array .int
  | 8 => .array .int
  | 9 => .int
  | 10 => .int
  | 11 => .int
  | 12 => .array .int
  | 13 => .int
  | 14 => .array .int
  | 15 => .int
  | 16 => .array .int
  | 17 => .int
  | 18 => .int
  | 19 => .int
  | 20 => .int
  | 21 => .array .int
  | 22 => .int
  | 23 => .int
  | 24 => .int
  | 25 => .array .long
  | 26 => .array .long
  | 27 => .array .long
  | 28 => .array .int
  | 29 => .int
  | 30 => .array .int
  | 31 => .array .int
  | 32 => .long
  | 33 => .long
  | 34 => .long
  | _ => .int
theorem nmX12 : ∀ a, a < 36 → ∀ b, b < 36 → a ≠ b → (TX12 a).2.1 ≠ (TX12 b).2.1 := by decide +kernel
theorem tyX12_ok : ∀ k, k < 36 → parseFieldDescriptor (TX12 k).2.2.1 = some (tyX12 k) := by decide +kernel
abbrev cX12_in : ByteArray := prog_14_method_2_code
def yX12_in : MethodName := ⟨RX12, "in", "(JJJ)Z"⟩
abbrev cX12_init : ByteArray := prog_14_method_3_code
def yX12_init : MethodName := ⟨RX12, "<init>", "()V"⟩
abbrev cX12_trims : ByteArray := prog_14_method_4_code
def yX12_trims : MethodName := ⟨RX12, "trims", "(I)V"⟩
abbrev cX12_sets : ByteArray := prog_14_method_5_code
def yX12_sets : MethodName := ⟨RX12, "sets", "(IJ)V"⟩
abbrev cX12_takes : ByteArray := prog_14_method_6_code
def yX12_takes : MethodName := ⟨RX12, "takes", "(II)V"⟩
abbrev cX12_times : ByteArray := prog_14_method_7_code
def yX12_times : MethodName := ⟨RX12, "times", "(II)V"⟩
abbrev cX12_divides : ByteArray := prog_14_method_8_code
def yX12_divides : MethodName := ⟨RX12, "divides", "(II)V"⟩
abbrev cX12_adds : ByteArray := prog_14_method_9_code
def yX12_adds : MethodName := ⟨RX12, "adds", "(II)V"⟩
abbrev cX12_lessens : ByteArray := prog_14_method_10_code
def yX12_lessens : MethodName := ⟨RX12, "lessens", "(II)V"⟩
abbrev cX12_against : ByteArray := prog_14_method_11_code
def yX12_against : MethodName := ⟨RX12, "against", "(II)I"⟩
abbrev cX12_isEven : ByteArray := prog_14_method_12_code
def yX12_isEven : MethodName := ⟨RX12, "isEven", "(I)Z"⟩
abbrev cX12_halves : ByteArray := prog_14_method_13_code
def yX12_halves : MethodName := ⟨RX12, "halves", "(I)V"⟩
abbrev cX12_lowers : ByteArray := prog_14_method_14_code
def yX12_lowers : MethodName := ⟨RX12, "lowers", "()V"⟩
abbrev cX12_parts : ByteArray := prog_14_method_15_code
def yX12_parts : MethodName := ⟨RX12, "parts", "(I)V"⟩
abbrev cX12_tells : ByteArray := prog_14_method_16_code
def yX12_tells : MethodName := ⟨RX12, "tells", "(JJ)I"⟩
abbrev cX12_sign : ByteArray := prog_14_method_17_code
def yX12_sign : MethodName := ⟨RX12, "sign", "(I)I"⟩
abbrev cX12_limb : ByteArray := prog_14_method_18_code
def yX12_limb : MethodName := ⟨RX12, "limb", "(II)I"⟩
abbrev cX12_of : ByteArray := prog_14_method_19_code
def yX12_of : MethodName := ⟨RX12, "of", "(II)I"⟩
abbrev cX12_isMaker : ByteArray := prog_14_method_20_code
def yX12_isMaker : MethodName := ⟨RX12, "isMaker", "(I)Z"⟩
abbrev cX12_find : ByteArray := prog_14_method_21_code
def yX12_find : MethodName := ⟨RX12, "find", "(IIIII)I"⟩
abbrev cX12_isFind : ByteArray := prog_14_method_22_code
def yX12_isFind : MethodName := ⟨RX12, "isFind", "(I)Z"⟩
abbrev cX12_doubt : ByteArray := prog_14_method_23_code
def yX12_doubt : MethodName := ⟨RX12, "doubt", "(IZ)I"⟩
abbrev cX12_counts : ByteArray := prog_14_method_24_code
def yX12_counts : MethodName := ⟨RX12, "counts", "(II)Z"⟩
abbrev cX12_finds0 : ByteArray := prog_14_method_25_code
def yX12_finds0 : MethodName := ⟨RX12, "finds0", "(II)V"⟩
abbrev cX12_divisor : ByteArray := prog_14_method_26_code
def yX12_divisor : MethodName := ⟨RX12, "divisor", "(II)I"⟩
abbrev cX12_numbersOf : ByteArray := prog_14_method_27_code
def yX12_numbersOf : MethodName := ⟨RX12, "numbersOf", "(II)I"⟩
abbrev cX12_numbers : ByteArray := prog_14_method_28_code
def yX12_numbers : MethodName := ⟨RX12, "numbers", "(II)I"⟩
abbrev cX12_isScheme : ByteArray := prog_14_method_29_code
def yX12_isScheme : MethodName := ⟨RX12, "isScheme", "(II)Z"⟩
abbrev cX12_fitsNow : ByteArray := prog_14_method_30_code
def yX12_fitsNow : MethodName := ⟨RX12, "fitsNow", "(II)Z"⟩
abbrev cX12_fits : ByteArray := prog_14_method_31_code
def yX12_fits : MethodName := ⟨RX12, "fits", "(III)I"⟩
abbrev cX12_most : ByteArray := prog_14_method_32_code
def yX12_most : MethodName := ⟨RX12, "most", "(I)I"⟩
abbrev cX12_keeps : ByteArray := prog_14_method_33_code
def yX12_keeps : MethodName := ⟨RX12, "keeps", "([III)V"⟩
abbrev cX12_gets : ByteArray := prog_14_method_34_code
def yX12_gets : MethodName := ⟨RX12, "gets", "(I[II)V"⟩
abbrev cX12_mayBe : ByteArray := prog_14_method_35_code
def yX12_mayBe : MethodName := ⟨RX12, "mayBe", "(II)Z"⟩
abbrev cX12_greatest : ByteArray := prog_14_method_36_code
def yX12_greatest : MethodName := ⟨RX12, "greatest", "(II)I"⟩
abbrev cX12_weighs : ByteArray := prog_14_method_37_code
def yX12_weighs : MethodName := ⟨RX12, "weighs", "(II)V"⟩
abbrev cX12_ready : ByteArray := prog_14_method_38_code
def yX12_ready : MethodName := ⟨RX12, "ready", "(IIIZ)I"⟩
abbrev cX12_odds : ByteArray := prog_14_method_39_code
def yX12_odds : MethodName := ⟨RX12, "odds", "(IIII)I"⟩
abbrev cX12_atLeast : ByteArray := prog_14_method_40_code
def yX12_atLeast : MethodName := ⟨RX12, "atLeast", "(IIII)I"⟩
abbrev cX12_isPart : ByteArray := prog_14_method_41_code
def yX12_isPart : MethodName := ⟨RX12, "isPart", "(II)Z"⟩
abbrev cX12_spans : ByteArray := prog_14_method_42_code
def yX12_spans : MethodName := ⟨RX12, "spans", "(II)V"⟩
abbrev cX12_span : ByteArray := prog_14_method_43_code
def yX12_span : MethodName := ⟨RX12, "span", "(IIIIII)I"⟩
abbrev cX12_told : ByteArray := prog_14_method_44_code
def yX12_told : MethodName := ⟨RX12, "told", "(IIII)I"⟩
abbrev cX12_far : ByteArray := prog_14_method_45_code
def yX12_far : MethodName := ⟨RX12, "far", "(III)I"⟩
abbrev cX12_mouldsOf : ByteArray := prog_14_method_46_code
def yX12_mouldsOf : MethodName := ⟨RX12, "mouldsOf", "(II)I"⟩
abbrev cX12_moulds : ByteArray := prog_14_method_47_code
def yX12_moulds : MethodName := ⟨RX12, "moulds", "(II)I"⟩
abbrev cX12_weighsMoulds : ByteArray := prog_14_method_48_code
def yX12_weighsMoulds : MethodName := ⟨RX12, "weighsMoulds", "(IIII)V"⟩
abbrev cX12_thereAre : ByteArray := prog_14_method_49_code
def yX12_thereAre : MethodName := ⟨RX12, "thereAre", "(II)I"⟩
abbrev cX12_can : ByteArray := prog_14_method_50_code
def yX12_can : MethodName := ⟨RX12, "can", "(IIIII)I"⟩
abbrev cX12_areLetters : ByteArray := prog_14_method_51_code
def yX12_areLetters : MethodName := ⟨RX12, "areLetters", "(II)Z"⟩
abbrev cX12_word : ByteArray := prog_14_method_52_code
def yX12_word : MethodName := ⟨RX12, "word", "(IIII)I"⟩
abbrev cX12_wordless : ByteArray := prog_14_method_53_code
def yX12_wordless : MethodName := ⟨RX12, "wordless", "()I"⟩
abbrev cX12_valueOf : ByteArray := prog_14_method_54_code
def yX12_valueOf : MethodName := ⟨RX12, "valueOf", "(II)I"⟩
abbrev cX12_holds : ByteArray := prog_14_method_55_code
def yX12_holds : MethodName := ⟨RX12, "holds", "()Z"⟩
abbrev cX12_notes : ByteArray := prog_14_method_56_code
def yX12_notes : MethodName := ⟨RX12, "notes", "()V"⟩
abbrev cX12_findKeys : ByteArray := prog_14_method_57_code
def yX12_findKeys : MethodName := ⟨RX12, "findKeys", "(II)V"⟩
abbrev cX12_keys : ByteArray := prog_14_method_58_code
def yX12_keys : MethodName := ⟨RX12, "keys", "()I"⟩
abbrev cX12_may : ByteArray := prog_14_method_59_code
def yX12_may : MethodName := ⟨RX12, "may", "(I)I"⟩
abbrev cX12_reads : ByteArray := prog_14_method_60_code
def yX12_reads : MethodName := ⟨RX12, "reads", "(III)I"⟩
abbrev cX12_dates : ByteArray := prog_14_method_61_code
def yX12_dates : MethodName := ⟨RX12, "dates", "(II)V"⟩
abbrev cX12_runsOf : ByteArray := prog_14_method_62_code
def yX12_runsOf : MethodName := ⟨RX12, "runsOf", "(II)I"⟩
abbrev cX12_runs : ByteArray := prog_14_method_63_code
def yX12_runs : MethodName := ⟨RX12, "runs", "(II)I"⟩
abbrev cX12_findGap : ByteArray := prog_14_method_64_code
def yX12_findGap : MethodName := ⟨RX12, "findGap", "(I)V"⟩
abbrev cX12_gaps : ByteArray := prog_14_method_65_code
def yX12_gaps : MethodName := ⟨RX12, "gaps", "(IIZ)I"⟩
abbrev cX12_gap : ByteArray := prog_14_method_66_code
def yX12_gap : MethodName := ⟨RX12, "gap", "(III)I"⟩
abbrev cX12_findSets : ByteArray := prog_14_method_67_code
def yX12_findSets : MethodName := ⟨RX12, "findSets", "(II)V"⟩
abbrev cX12_chance : ByteArray := prog_14_method_68_code
def yX12_chance : MethodName := ⟨RX12, "chance", "(II)I"⟩
abbrev cX12_said : ByteArray := prog_14_method_69_code
def yX12_said : MethodName := ⟨RX12, "said", "(III)I"⟩
abbrev cX12_sums : ByteArray := prog_14_method_70_code
def yX12_sums : MethodName := ⟨RX12, "sums", "(I)V"⟩
abbrev cX12_agent : ByteArray := prog_14_method_71_code
def yX12_agent : MethodName := ⟨RX12, "agent", "(II)I"⟩
abbrev cX12_putRight : ByteArray := prog_14_method_72_code
def yX12_putRight : MethodName := ⟨RX12, "putRight", "(II)I"⟩
abbrev cX12_front : ByteArray := prog_14_method_73_code
def yX12_front : MethodName := ⟨RX12, "front", "(III)I"⟩
abbrev cX12_lost : ByteArray := prog_14_method_74_code
def yX12_lost : MethodName := ⟨RX12, "lost", "(I)I"⟩
abbrev cX12_book : ByteArray := prog_14_method_75_code
def yX12_book : MethodName := ⟨RX12, "book", "(IIII)I"⟩
abbrev cX12_held : ByteArray := prog_14_method_76_code
def yX12_held : MethodName := ⟨RX12, "held", "(III)I"⟩
abbrev cX12_countOf : ByteArray := prog_14_method_77_code
def yX12_countOf : MethodName := ⟨RX12, "countOf", "(I)I"⟩
abbrev cX12_count : ByteArray := prog_14_method_78_code
def yX12_count : MethodName := ⟨RX12, "count", "(I)I"⟩
abbrev cX12_mixed : ByteArray := prog_14_method_79_code
def yX12_mixed : MethodName := ⟨RX12, "mixed", "(J[II)J"⟩
abbrev cX12_digest : ByteArray := prog_14_method_80_code
def yX12_digest : MethodName := ⟨RX12, "digest", "()J"⟩
def RJ6 : String := "java/lang/Integer"
def TJ6 : u_T := fun k => match k with
  | _ => ("", "", "", false)
def tyJ6 : Nat → FieldType := fun k => match k with
  | _ => .int
theorem nmJ6 : ∀ a, a < 0 → ∀ b, b < 0 → a ≠ b → (TJ6 a).2.1 ≠ (TJ6 b).2.1 := by decide +kernel
theorem tyJ6_ok : ∀ k, k < 0 → parseFieldDescriptor (TJ6 k).2.2.1 = some (tyJ6 k) := by decide +kernel
abbrev cJ6_compare_7cf53 : ByteArray := prog_15_method_40_code
def yJ6_compare_7cf53 : MethodName := ⟨RJ6, "compare", "(II)I"⟩
abbrev cJ6_bitCount_0f7a4 : ByteArray := prog_15_method_49_code
def yJ6_bitCount_0f7a4 : MethodName := ⟨RJ6, "bitCount", "(I)I"⟩
def RJ9 : String := "java/lang/Math"
def TJ9 : u_T := fun k => match k with
  | _ => ("", "", "", false)
def tyJ9 : Nat → FieldType := fun k => match k with
  | _ => .int
theorem nmJ9 : ∀ a, a < 0 → ∀ b, b < 0 → a ≠ b → (TJ9 a).2.1 ≠ (TJ9 b).2.1 := by decide +kernel
theorem tyJ9_ok : ∀ k, k < 0 → parseFieldDescriptor (TJ9 k).2.2.1 = some (tyJ9 k) := by decide +kernel
abbrev cJ9_abs_0f7a4 : ByteArray := prog_16_method_59_code
def yJ9_abs_0f7a4 : MethodName := ⟨RJ9, "abs", "(I)I"⟩
abbrev cJ9_max_7cf53 : ByteArray := prog_16_method_65_code
def yJ9_max_7cf53 : MethodName := ⟨RJ9, "max", "(II)I"⟩
abbrev cJ9_min_7cf53 : ByteArray := prog_16_method_69_code
def yJ9_min_7cf53 : MethodName := ⟨RJ9, "min", "(II)I"⟩
def RJ10 : String := "java/lang/System"
def TJ10 : u_T := fun k => match k with
  | _ => ("", "", "", false)
def tyJ10 : Nat → FieldType := fun k => match k with
  | _ => .int
theorem nmJ10 : ∀ a, a < 0 → ∀ b, b < 0 → a ≠ b → (TJ10 a).2.1 ≠ (TJ10 b).2.1 := by decide +kernel
theorem tyJ10_ok : ∀ k, k < 0 → parseFieldDescriptor (TJ10 k).2.2.1 = some (tyJ10 k) := by decide +kernel
def RJ7 : String := "java/util/Arrays"
def TJ7 : u_T := fun k => match k with
  | _ => ("", "", "", false)
def tyJ7 : Nat → FieldType := fun k => match k with
  | _ => .int
theorem nmJ7 : ∀ a, a < 0 → ∀ b, b < 0 → a ≠ b → (TJ7 a).2.1 ≠ (TJ7 b).2.1 := by decide +kernel
theorem tyJ7_ok : ∀ k, k < 0 → parseFieldDescriptor (TJ7 k).2.2.1 = some (tyJ7 k) := by decide +kernel
abbrev cJ7_fill_d0a16 : ByteArray := prog_18_method_101_code
def yJ7_fill_d0a16 : MethodName := ⟨RJ7, "fill", "([JJ)V"⟩
abbrev cJ7_fill_53178 : ByteArray := prog_18_method_103_code
def yJ7_fill_53178 : MethodName := ⟨RJ7, "fill", "([II)V"⟩
def RL : String := "TankNumbersLaw"
abbrev cL_law : ByteArray := code
def yL_law : MethodName := ⟨RL, "law", "([I)Z"⟩
abbrev vwCl : List vw_C := [(RX0, TX0, 8), (RX1, TX1, 3), (RX2, TX2, 7), (RX3, TX3, 7), (RX4, TX4, 4), (RX5, TX5, 2), (RX6, TX6, 2), (RX7, TX7, 2), (RX8, TX8, 2), (RX9, TX9, 6), (RX10, TX10, 14), (RX11, TX11, 11), (RX12, TX12, 36)]
def wsG : List Cond := lw_tbl.filter goodWord
theorem inG {w : Cond} (h : w ∈ lw_tbl) (hg : goodWord w = true) : w ∈ wsG := List.mem_filter.mpr ⟨h, hg⟩
theorem inGs {w : Cond} (i : Nat) (h : (k2_sels lw_privs)[i]? = some w) (hg : goodWord w = true) : w ∈ wsG := inG (List.mem_append_left _ (List.mem_of_getElem? h)) hg
theorem inT {w : Cond} (h : w ∈ tables_1) : w ∈ lw_tbl := List.mem_append_right _ h
theorem inT1 {w : Cond} (i : Nat) (h : tables_1_1[i]? = some w) : w ∈ tables_1 := List.mem_append_left _ (List.mem_of_getElem? h)
theorem inT2 {w : Cond} (i : Nat) (h : tables_1_2[i]? = some w) : w ∈ tables_1 := List.mem_append_right _ (List.mem_append_left _ (List.mem_of_getElem? h))
theorem inT3 {w : Cond} (i : Nat) (h : tables_1_3[i]? = some w) : w ∈ tables_1 := List.mem_append_right _ (List.mem_append_right _ (List.mem_append_left _ (List.mem_of_getElem? h)))
theorem inT4 {w : Cond} (i : Nat) (h : tables_1_4[i]? = some w) : w ∈ tables_1 := List.mem_append_right _ (List.mem_append_right _ (List.mem_append_right _ (List.mem_append_left _ (List.mem_of_getElem? h))))
theorem inT5 {w : Cond} (i : Nat) (h : tables_1_5[i]? = some w) : w ∈ tables_1 := List.mem_append_right _ (List.mem_append_right _ (List.mem_append_right _ (List.mem_append_right _ (List.mem_append_left _ (List.mem_of_getElem? h)))))
theorem inT6 {w : Cond} (i : Nat) (h : tables_1_6[i]? = some w) : w ∈ tables_1 := List.mem_append_right _ (List.mem_append_right _ (List.mem_append_right _ (List.mem_append_right _ (List.mem_append_right _ (List.mem_of_getElem? h)))))
theorem good_wsG : ∀ w ∈ wsG, (w.onTables && w.keeps) = true ∨ ∃ ty, w = .arrayClass ty := fun w h => good_of_word (List.mem_filter.mp h).2
theorem wsG_hts {args : Array Value} {s : State} (h : ∀ w ∈ lw_tbl, w.before args s = true) : ∀ w ∈ wsG, w.before args s = true := fun w hw => h w (List.mem_filter.mp hw).1
end
section
/-! ===== a virtual machine over whole numbers: values, memory, the shape of the heap ===== -/
abbrev VV : Type := Int ⊕ (Int ⊕ (Nat ⊕ (Nat ⊕ Unit)))
abbrev vi (z : Int) : VV := Sum.inl z
abbrev vl (z : Int) : VV := Sum.inr (Sum.inl z)
abbrev vr (a : Nat) : VV := Sum.inr (Sum.inr (Sum.inl a))
abbrev vc (j : Nat) : VV := Sum.inr (Sum.inr (Sum.inr (Sum.inl j)))
abbrev vd : VV := Sum.inr (Sum.inr (Sum.inr (Sum.inr ())))
abbrev Mem : Type := Nat → Int → Int
abbrev GC : Type := Nat × (Nat × List (Option Nat))
abbrev MI : Type := MethodName × (ByteArray × (Nat × Option FieldType))
abbrev zPost : Type := List GC → VV → Mem → Prop
def i32 (z : Int) : Prop := -2147483648 ≤ z ∧ z < 2147483648
def i64 (z : Int) : Prop := -9223372036854775808 ≤ z ∧ z < 9223372036854775808
def w32 (z : Int) : Int := Int.bmod z 4294967296
def w64 (z : Int) : Int := Int.bmod z 18446744073709551616
theorem w32_ok (z : Int) : i32 (w32 z) := by
  unfold i32 w32
  have h1 := Int.le_bmod (x := z) (m := 4294967296) (by decide)
  have h2 := Int.bmod_lt (x := z) (m := 4294967296) (by decide)
  omega
theorem w64_ok (z : Int) : i64 (w64 z) := by
  unfold i64 w64
  have h1 := Int.le_bmod (x := z) (m := 18446744073709551616) (by decide)
  have h2 := Int.bmod_lt (x := z) (m := 18446744073709551616) (by decide)
  omega
theorem w32_id {z : Int} (h : i32 z) : w32 z = z := by
  unfold i32 at h
  unfold w32
  exact Int.bmod_eq_of_le (by omega) (by omega)
theorem w64_id {z : Int} (h : i64 z) : w64 z = z := by
  unfold i64 at h
  unfold w64
  exact Int.bmod_eq_of_le (by omega) (by omega)
theorem ti32 {z : Int} (h : i32 z) : (Int32.ofInt z).toInt = z := Int32.toInt_ofInt_of_le (by unfold i32 at h; omega) (by unfold i32 at h; omega)
theorem ti64 {z : Int} (h : i64 z) : (Int64.ofInt z).toInt = z := Int64.toInt_ofInt_of_le (by unfold i64 at h; omega) (by unfold i64 at h; omega)
theorem oi32 (x : Int32) : i32 x.toInt := ⟨by have := Int32.le_toInt x; omega, by have := Int32.toInt_lt x; omega⟩
theorem oi64 (x : Int64) : i64 x.toInt := ⟨by have := Int64.le_toInt x; omega, by have := Int64.toInt_lt x; omega⟩
theorem ofInt_w32 (z : Int) : Int32.ofInt (w32 z) = Int32.ofInt z := by
  apply Int32.toInt_inj.mp
  rw [ti32 (w32_ok z), Int32.toInt_ofInt]
  rfl
theorem ofInt_w64 (z : Int) : Int64.ofInt (w64 z) = Int64.ofInt z := by
  apply Int64.toInt_inj.mp
  rw [ti64 (w64_ok z), Int64.toInt_ofInt]
  rfl
def rv (σ ρ : Nat → Nat) (v : VV) : Value := match v with
  | .inl z => .int (Int32.ofInt z)
  | .inr (.inl z) => .long (Int64.ofInt z)
  | .inr (.inr (.inl a)) => .ref (σ a)
  | .inr (.inr (.inr (.inl j))) => .ref (ρ j)
  | .inr (.inr (.inr (.inr _))) => .null
def rvo (σ ρ : Nat → Nat) (v : VV) : Option Value := match v with
  | .inl z => some (.int (Int32.ofInt z))
  | .inr (.inl z) => some (.long (Int64.ofInt z))
  | .inr (.inr (.inl a)) => some (.ref (σ a))
  | .inr (.inr (.inr (.inl j))) => some (.ref (ρ j))
  | .inr (.inr (.inr (.inr _))) => none
def stk (v : VV) (S : List VV) : List VV := match v with
  | .inl z => vi z :: S
  | .inr (.inl z) => vl z :: S
  | .inr (.inr (.inl a)) => vr a :: S
  | .inr (.inr (.inr (.inl j))) => vc j :: S
  | .inr (.inr (.inr (.inr _))) => S
def vok (n : Nat) (v : VV) : Prop := match v with
  | .inl z => i32 z
  | .inr (.inl z) => i64 z
  | .inr (.inr (.inl a)) => a < n
  | .inr (.inr (.inr _)) => True
theorem vok_mono {n n' : Nat} {v : VV} (h : n ≤ n') (hv : vok n v) : vok n' v := by
  rcases v with z | z | a | j | u
  · exact hv
  · exact hv
  · exact Nat.lt_of_lt_of_le hv h
  · trivial
  · trivial
theorem rv_congr {σ σ' ρ : Nat → Nat} {n : Nat} (h : ∀ a, a < n → σ' a = σ a) {v : VV} (hv : vok n v) : rv σ' ρ v = rv σ ρ v := by
  rcases v with z | z | a | j | u
  · rfl
  · rfl
  · show Value.ref _ = Value.ref _
    rw [h a hv]
  · rfl
  · rfl
theorem map_rv_congr {σ σ' ρ : Nat → Nat} {n : Nat} (h : ∀ a, a < n → σ' a = σ a) {S : List VV} (hS : ∀ v ∈ S, vok n v) : S.map (rv σ' ρ) = S.map (rv σ ρ) :=
  List.map_congr_left (fun v hv => rv_congr h (hS v hv))
-- memory
def mset (m : Mem) (a : Nat) (j v : Int) : Mem := fun a' => if a' = a then (fun j' => if j' = j then v else m a j') else m a'
theorem mset_eq (m : Mem) (a : Nat) (j v : Int) : mset m a j v a j = v := by simp [mset]
theorem mset_at (m : Mem) (a : Nat) (j v : Int) : mset m a j v a = (fun j' => if j' = j then v else m a j') := by simp [mset]
theorem mset_ne (m : Mem) {a a' : Nat} (h : a' ≠ a) (j v : Int) : mset m a j v a' = m a' := by simp [mset, h]
theorem mset_nej (m : Mem) (a : Nat) {j j' : Int} (h : j' ≠ j) (v : Int) : mset m a j v a j' = m a j' := by simp [mset, h]
-- the whole row of an array at once
def mrow (m : Mem) (a : Nat) (f : Int → Int) : Mem := fun a' => if a' = a then f else m a'
theorem mrow_at (m : Mem) (a : Nat) (f : Int → Int) : mrow m a f a = f := by simp [mrow]
theorem mrow_ne (m : Mem) {a a' : Nat} (h : a' ≠ a) (f : Int → Int) : mrow m a f a' = m a' := by simp [mrow, h]
-- fields' types by the class's number
def tyC (ci : Nat) : Nat → FieldType := match ci with
  | 0 => tyX0
  | 1 => tyX1
  | 2 => tyX2
  | 3 => tyX3
  | 4 => tyX4
  | 5 => tyX5
  | 6 => tyX6
  | 7 => tyX7
  | 8 => tyX8
  | 9 => tyX9
  | 10 => tyX10
  | 11 => tyX11
  | _ => tyX12
def nfC (ci : Nat) : Nat := ((vwCl[ci]?).map (fun q => q.2.2)).getD 0
def kty (k : Nat) : FieldType := match k with
  | 1 => .int
  | 2 => .boolean
  | 3 => .long
  | _ => .array .long
def inr (ty : FieldType) (z : Int) : Prop := match ty with
  | .int => i32 z
  | .boolean => z = 0 ∨ z = 1
  | .long => i64 z
  | _ => True
def fval (σ : Nat → Nat) (ty : FieldType) (r : Option Nat) (z : Int) : Value := match ty with
  | .int => .int (Int32.ofInt z)
  | .boolean => .int (Int32.ofInt z)
  | .long => .long (Int64.ofInt z)
  | _ => va_rf (r.map σ)
def fvals (σ : Nat → Nat) (ci : Nat) (rs : List (Option Nat)) (f : Int → Int) : List Value := (List.range (nfC ci)).map (fun k => fval σ (tyC ci k) (rs.getD k none) (f (k : Int)))
def ent (K : Nat → ClassId) (σ : Nat → Nat) (g : GC) (f : Int → Int) : va_E := match g with
  | (0, ci, rs) => .inr (ci, fvals σ ci rs f)
  | (1, n, _) => .inl (K 1, n, .inl (fun j => Int32.ofInt (f (j : Int))))
  | (2, n, _) => .inl (K 2, n, .inl (fun j => Int32.ofInt (f (j : Int))))
  | (3, n, _) => .inl (K 3, n, .inr (.inl (fun j => Int64.ofInt (f (j : Int)))))
  | (_, n, rs) => .inl (K 4, n, .inr (.inr (.inr (.inr (fun j => (rs.getD j none).map σ)))))
def zW (K : Nat → ClassId) (σ : Nat → Nat) (G : List GC) (mem : Mem) : va_W := (List.range G.length).map (fun a => (σ a, ent K σ (G.getD a (0, 0, [])) (mem a)))
def gok (n : Nat) (g : GC) (f : Int → Int) : Prop := (∀ r ∈ g.2.2, ∀ a, r = some a → a < n) ∧ match g with
  | (0, ci, rs) => rs.length = nfC ci ∧ ∀ k : Nat, k < nfC ci → inr (tyC ci k) (f (k : Int))
  | (k, n, _) => n < 2147483648 ∧ ∀ j : Int, inr (kty k) (f j)
def mok (G : List GC) (mem : Mem) : Prop := ∀ (a : Nat) (g : GC), G[a]? = some g → gok G.length g (mem a)
def tysK (K : Nat → ClassId) : List (ClassId × FieldType) := [(K 1, .int), (K 2, .boolean), (K 3, .long), (K 4, .array .long)]
theorem zW_at {K : Nat → ClassId} {σ : Nat → Nat} {G : List GC} {mem : Mem} {a : Nat} {g : GC} (h : G[a]? = some g) : (zW K σ G mem)[a]? = some (σ a, ent K σ g (mem a)) := by
  have hl : a < G.length := (List.getElem?_eq_some_iff.mp h).1
  unfold zW
  rw [List.getElem?_map, List.getElem?_range hl]
  simp only [Option.map_some, List.getD_eq_getElem?_getD, h, Option.getD_some]
theorem zW_len {K : Nat → ClassId} {σ : Nat → Nat} {G : List GC} {mem : Mem} : (zW K σ G mem).length = G.length := by simp [zW]
theorem zW_get {K : Nat → ClassId} {σ : Nat → Nat} {G : List GC} {mem : Mem} {a : Nat} (h : a < G.length) : (zW K σ G mem)[a]? = some (σ a, ent K σ (G.getD a (0, 0, [])) (mem a)) := by
  unfold zW
  rw [List.getElem?_map, List.getElem?_range h]
  rfl
/-- the world with one cell set is the world over the new memory -/
theorem zW_set {K : Nat → ClassId} {σ : Nat → Nat} {G : List GC} {mem mem' : Mem} {a : Nat} {g : GC} (h : G[a]? = some g) {e : va_E} (he : ent K σ g (mem' a) = e) (ho : ∀ a', a' ≠ a → mem' a' = mem a') : (zW K σ G mem).set a (σ a, e) = zW K σ G mem' := by
  apply List.ext_getElem?
  intro i
  rw [List.getElem?_set]
  by_cases hi : a = i
  · subst hi
    rw [if_pos rfl, zW_len, if_pos (List.getElem?_eq_some_iff.mp h).1, zW_at h, he]
  · rw [if_neg hi]
    by_cases hl : i < G.length
    · rw [zW_get hl, zW_get hl, ho i (fun q => hi q.symm)]
    · rw [List.getElem?_eq_none (by rw [zW_len]; omega), List.getElem?_eq_none (by rw [zW_len]; omega)]
-- what nobody writes: the two static rows and the script
def ppF (i : Int) : Int := ([128, 81, 125, 49, 121, 13, 17, 19, 23, 29, 31, 37, 41, 43, 47, 53, 59, 61, 67, 71, 73, 79, 83, 89, 97, 101, 103, 107, 109, 113, 127, 131, 137, 139, 149] : List Int).getD i.toNat 0
def rwF (i : Int) : Int := ([1, 6, 36, 216, 1296] : List Int).getD i.toNat 0
def roF (X : Nat × (Int → Int)) (j : Nat) : Option (Nat × (Int → Int)) := match j with
  | 0 => some (35, ppF)
  | 1 => some (5, rwF)
  | 2 => some X
  | _ => none
def zro (X : Nat × (Int → Int)) (ρ : Nat → Nat) (A : Nat → Prop) (U : State) (H : Heap) : Prop :=
  (∀ j q, roF X j = some q → (∀ i : Int, i32 (q.2 i)) ∧ q.1 < 2147483648 ∧ va_T .int (ρ j) q.1 (fun i => .int (Int32.ofInt (q.2 (i : Int)))) A U H) ∧ va_Z RX9 "PRIME_POWERS" "[I" (.ref (ρ 0)) A U H ∧ va_Z RX10 "ROWS" "[I" (.ref (ρ 1)) A U H
theorem zro.moved {X : Nat × (Int → Int)} {ρ : Nat → Nat} {A : Nat → Prop} {u U : State} {H : Heap} (hvm : u.vm.Alike U.vm) (h : zro X ρ A u H) : zro X ρ A U H :=
  ⟨fun j q hq => ⟨(h.1 j q hq).1, (h.1 j q hq).2.1, (h.1 j q hq).2.2.moved hvm⟩, h.2.1.moved hvm, h.2.2.moved hvm⟩
theorem zro.kept {X : Nat × (Int → Int)} {ρ : Nat → Nat} {A : Nat → Prop} {U : State} {H H1 : Heap} (h : zro X ρ A U H) (hq : ∀ a : Nat, a < H.size → ¬ A a → H1[a]? = H[a]?) : zro X ρ A U H1 :=
  ⟨fun j q hj => ⟨(h.1 j q hj).1, (h.1 j q hj).2.1, (h.1 j q hj).2.2.kept hq⟩, h.2.1.kept hq, h.2.2.kept hq⟩
theorem zro.narrow {X : Nat × (Int → Int)} {ρ : Nat → Nat} {A B : Nat → Prop} {U : State} {H : Heap} (h : zro X ρ A U H) (hAB : ∀ q, B q → A q) : zro X ρ B U H :=
  ⟨fun j q hj => ⟨(h.1 j q hj).1, (h.1 j q hj).2.1, (h.1 j q hj).2.2.narrow hAB⟩, h.2.1.narrow hAB, h.2.2.narrow hAB⟩
-- words among nest mates
def isNest (w : Cond) : Bool := match w with
  | .fieldLinkNest .. => true
  | .methodLinkNest .. => true
  | _ => false
def nwL : List Cond := tables_1.filter isNest
def nwOK (U : State) : Prop := ∀ w ∈ nwL, va_Nw w U
theorem nwOK.warm {s U : State} (hW : s.WarmedH U.vm) (h : nwOK s) : nwOK U := by
  intro w hw
  have h1 := h w hw
  have h2 : isNest w = true := (List.mem_filter.mp hw).2
  unfold isNest at h2
  split at h2
  · exact va_Nw.warmF hW h1
  · exact va_Nw.warmM hW h1
  · cases h2
-- locals
def hasL (ls : Array Slot) (nL : Nat) (σ ρ : Nat → Nat) (L : List VV) : Prop := ls.size = nL ∧ lv_wf ls ∧ ∀ (i : Nat) (v : VV), L[i]? = some v → v ≠ vd → ls[i]? = some (.val (rv σ ρ v))
/-- what a frame of ours stands in, apart from stack and locals -/
def ZK (X : Nat × (Int → Int)) (b : Nat × Nat) (d : Nat) (mi : MI) (G : List GC) (mem : Mem) (p : Program) (R : Room) (s : State) (m : MethodId) (args : Array Value) (meth : Method) (c : Code) (D : va_G) (K : Nat → ClassId) (ρ : Nat → Nat) (A : Nat → Prop) (n0 : Nat) (σ0 σ : Nat → Nat) (H : Heap) (locs : List Loc) (cells slots mc ms : Nat) : Prop :=
  (CallFix p m c mi.2.1 mi.2.2.1 s args wsG mi.1.cls ∧ meth.sig.returnType = mi.2.2.2 ∧ meth.locks = false ∧ meth.name = mi.1.name) ∧
  (d ≤ R.frames ∧ 60 * d ≤ R.locals ∧ mc ≤ R.cells ∧ ms ≤ R.slots) ∧ (cells + b.1 ≤ mc ∧ slots + b.2 ≤ ms) ∧
  (∀ q, s.heap.size ≤ q → A q) ∧ zro X ρ A s s.heap ∧ nwOK s ∧ va_K D vwCl (tysK K) s ∧ (n0 ≤ G.length ∧ ∀ a, a < n0 → σ a = σ0 a) ∧
  va_P D vwCl (zW K σ G mem) H ∧ va_D A (zW K σ G mem) ∧ va_S A s.heap H locs ∧ mok G mem
def zQ (D : va_G) (K : Nat → ClassId) (ρ : Nat → Nat) (n0 : Nat) (σ0 : Nat → Nat) (A : Nat → Prop) (Q : zPost) : Array Value → State → Outcome → State → Prop := fun _ st oc t =>
  (∃ (G' : List GC) (σ' : Nat → Nat) (v : VV) (mem' : Mem), oc = .returned (rvo σ' ρ v) ∧ Q G' v mem' ∧ vok G'.length v ∧ (n0 ≤ G'.length ∧ ∀ a, a < n0 → σ' a = σ0 a) ∧ va_P D vwCl (zW K σ' G' mem') t.heap ∧ va_D A (zW K σ' G' mem') ∧ mok G' mem') ∧ va_F A st t
/-- THE JUDGEMENT: from this frame of the method mi over the virtual heap (G, mem) the method returns, and Q holds of the shape, the answer and the memory -/
def ZZ (X : Nat × (Int → Int)) (b : Nat × Nat) (d : Nat) (mi : MI) (G : List GC) (pc : Nat) (L S : List VV) (mem : Mem) (Q : zPost) : Prop :=
  ∀ (p : Program) (l : Launch) (e : Env) (R : Room) (s : State) (m : MethodId) (args : Array Value) (below : List Frame) (meth : Method) (c : Code) (D : va_G) (K : Nat → ClassId) (ρ : Nat → Nat) (A : Nat → Prop) (n0 : Nat) (σ0 σ : Nat → Nat) (H : Heap) (locs : List Loc) (cells slots mc ms : Nat) (ls : Array Slot),
    ZK X b d mi G mem p R s m args meth c D K ρ A n0 σ0 σ H locs cells slots mc ms → (∀ v ∈ S, vok G.length v) → (∀ v ∈ L, vok G.length v) → hasL ls mi.2.2.1 σ ρ L →
    W p l e R s m args below meth c H locs cells slots (MQ below (zQ D K ρ n0 σ0 A Q) args s mc ms A) (F0 m pc ls (S.map (rv σ ρ)))
def zPc (X : Nat × (Int → Int)) (D : va_G) (K : Nat → ClassId) (ρ σ : Nat → Nat) (G : List GC) (mem : Mem) (sz : Nat) (vs : List VV) : Array Value → State → Prop := fun v U =>
  v = (vs.map (rv σ ρ)).toArray ∧ U.heap.size = sz ∧ va_P D vwCl (zW K σ G mem) U.heap ∧ va_D (fun _ => True) (zW K σ G mem) ∧ va_K D vwCl (tysK K) U ∧ mok G mem ∧ zro X ρ (va_A (zW K σ G mem) sz) U U.heap ∧ nwOK U
def wsM (mi : MI) : List Cond := Cond.code mi.1 mi.2.1 mi.2.2.1 mi.2.2.2 :: wsG
/-- THE CONTRACT: method mi, called with the values vs over (G, mem), returns with Q -/
def CM (X : Nat × (Int → Int)) (b : Nat × Nat) (d : Nat) (mi : MI) (G : List GC) (vs : List VV) (mem : Mem) (Q : zPost) : Prop :=
  ∀ (l : Launch) (D : va_G) (K : Nat → ClassId) (ρ σ : Nat → Nat) (sz : Nat), (∀ v ∈ vs, vok G.length v) →
    Met l mi.1 (wsM mi) { frames := d, cells := b.1, slots := b.2, locals := 60 * d } (zPc X D K ρ σ G mem sz vs) (zQ D K ρ G.length σ (va_A (zW K σ G mem) sz) Q) b.1 b.2 (va_A (zW K σ G mem) sz)
end
section
theorem i32_tmod {x y : Int} (h : i32 x) : i32 (x.tmod y) := by
  unfold i32 at h ⊢
  have h1 := Int.natAbs_tmod x y
  have h2 : x.natAbs % y.natAbs ≤ x.natAbs := Nat.mod_le _ _
  by_cases hx : 0 ≤ x
  · have := Int.tmod_nonneg y hx
    omega
  · have := Int.tmod_nonneg y (show 0 ≤ -x by omega)
    rw [Int.neg_tmod] at this
    omega
theorem i64_tmod {x y : Int} (h : i64 x) : i64 (x.tmod y) := by
  unfold i64 at h ⊢
  have h1 := Int.natAbs_tmod x y
  have h2 : x.natAbs % y.natAbs ≤ x.natAbs := Nat.mod_le _ _
  by_cases hx : 0 ≤ x
  · have := Int.tmod_nonneg y hx
    omega
  · have := Int.tmod_nonneg y (show 0 ≤ -x by omega)
    rw [Int.neg_tmod] at this
    omega
section RulesA
variable {X : Nat × (Int → Int)} {b : Nat × Nat} {d : Nat} {mi : MI} {G : List GC} {pc : Nat} {L S : List VV} {mem : Mem} {Q : zPost}
theorem so_tl {n : Nat} {v : VV} {S : List VV} (h : ∀ x ∈ v :: S, vok n x) : ∀ x ∈ S, vok n x := fun x hx => h x (List.mem_cons_of_mem _ hx)
theorem so_hd {n : Nat} {v : VV} {S : List VV} (h : ∀ x ∈ v :: S, vok n x) : vok n v := h v List.mem_cons_self
theorem so_cons {n : Nat} {v : VV} {S : List VV} (hv : vok n v) (h : ∀ x ∈ S, vok n x) : ∀ x ∈ v :: S, vok n x := fun x hx => (List.mem_cons.mp hx).elim (fun e => e ▸ hv) (h x)
theorem oi_t (x : Int32) : Int32.ofInt x.toInt = x := Int32.ofInt_toInt x
theorem ol_t (x : Int64) : Int64.ofInt x.toInt = x := Int64.ofInt_toInt x
theorem z_iaddw {x y : Int} (hd : decode mi.2.1 pc = .ok (.iadd, 1)) (k : ZZ X b d mi G (pc + 1) L (vi (w32 (x + y)) :: S) mem Q) : ZZ X b d mi G pc L (vi y :: vi x :: S) mem Q := by
  intro p l e R s m args below meth c D K ρ A n0 σ0 σ H locs cells slots mc ms ls hK hS hL hl
  have h : W p l e R s m args below meth c H locs cells slots (MQ below (zQ D K ρ n0 σ0 A Q) args s mc ms A) (F0 m (pc + 1) ls (.int (Int32.ofInt (w32 (x + y))) :: S.map (rv σ ρ))) := k p l e R s m args below meth c D K ρ A n0 σ0 σ H locs cells slots mc ms ls hK (so_cons (w32_ok _) (so_tl (so_tl hS))) hL hl
  show W p l e R s m args below meth c H locs cells slots (MQ below (zQ D K ρ n0 σ0 A Q) args s mc ms A) (F0 m (pc) ls (.int (Int32.ofInt y) :: .int (Int32.ofInt x) :: S.map (rv σ ρ)))
  rw [show Int32.ofInt (w32 (x + y)) = Int32.ofInt x + Int32.ofInt y from (ofInt_w32 _).trans (Int32.ofInt_add x y)] at h
  exact lv_iadd hK.1.1.1 hK.1.1.2.1 hd h

theorem z_iadd {x y : Int} (hd : decode mi.2.1 pc = .ok (.iadd, 1)) (hr : i32 (x + y)) (k : ZZ X b d mi G (pc + 1) L (vi (x + y) :: S) mem Q) : ZZ X b d mi G pc L (vi y :: vi x :: S) mem Q := z_iaddw hd (by rw [w32_id hr]; exact k)
theorem z_isubw {x y : Int} (hd : decode mi.2.1 pc = .ok (.isub, 1)) (k : ZZ X b d mi G (pc + 1) L (vi (w32 (x - y)) :: S) mem Q) : ZZ X b d mi G pc L (vi y :: vi x :: S) mem Q := by
  intro p l e R s m args below meth c D K ρ A n0 σ0 σ H locs cells slots mc ms ls hK hS hL hl
  have h : W p l e R s m args below meth c H locs cells slots (MQ below (zQ D K ρ n0 σ0 A Q) args s mc ms A) (F0 m (pc + 1) ls (.int (Int32.ofInt (w32 (x - y))) :: S.map (rv σ ρ))) := k p l e R s m args below meth c D K ρ A n0 σ0 σ H locs cells slots mc ms ls hK (so_cons (w32_ok _) (so_tl (so_tl hS))) hL hl
  show W p l e R s m args below meth c H locs cells slots (MQ below (zQ D K ρ n0 σ0 A Q) args s mc ms A) (F0 m (pc) ls (.int (Int32.ofInt y) :: .int (Int32.ofInt x) :: S.map (rv σ ρ)))
  rw [show Int32.ofInt (w32 (x - y)) = Int32.ofInt x - Int32.ofInt y from (ofInt_w32 _).trans (Int32.ofInt_sub x y)] at h
  exact lv_isub hK.1.1.1 hK.1.1.2.1 hd h

theorem z_isub {x y : Int} (hd : decode mi.2.1 pc = .ok (.isub, 1)) (hr : i32 (x - y)) (k : ZZ X b d mi G (pc + 1) L (vi (x - y) :: S) mem Q) : ZZ X b d mi G pc L (vi y :: vi x :: S) mem Q := z_isubw hd (by rw [w32_id hr]; exact k)
theorem z_imulw {x y : Int} (hd : decode mi.2.1 pc = .ok (.imul, 1)) (k : ZZ X b d mi G (pc + 1) L (vi (w32 (x * y)) :: S) mem Q) : ZZ X b d mi G pc L (vi y :: vi x :: S) mem Q := by
  intro p l e R s m args below meth c D K ρ A n0 σ0 σ H locs cells slots mc ms ls hK hS hL hl
  have h : W p l e R s m args below meth c H locs cells slots (MQ below (zQ D K ρ n0 σ0 A Q) args s mc ms A) (F0 m (pc + 1) ls (.int (Int32.ofInt (w32 (x * y))) :: S.map (rv σ ρ))) := k p l e R s m args below meth c D K ρ A n0 σ0 σ H locs cells slots mc ms ls hK (so_cons (w32_ok _) (so_tl (so_tl hS))) hL hl
  show W p l e R s m args below meth c H locs cells slots (MQ below (zQ D K ρ n0 σ0 A Q) args s mc ms A) (F0 m (pc) ls (.int (Int32.ofInt y) :: .int (Int32.ofInt x) :: S.map (rv σ ρ)))
  rw [show Int32.ofInt (w32 (x * y)) = Int32.ofInt x * Int32.ofInt y from (ofInt_w32 _).trans (Int32.ofInt_mul x y)] at h
  exact lv_imul hK.1.1.1 hK.1.1.2.1 hd h

theorem z_imul {x y : Int} (hd : decode mi.2.1 pc = .ok (.imul, 1)) (hr : i32 (x * y)) (k : ZZ X b d mi G (pc + 1) L (vi (x * y) :: S) mem Q) : ZZ X b d mi G pc L (vi y :: vi x :: S) mem Q := z_imulw hd (by rw [w32_id hr]; exact k)
def iandV (x y : Int) : Int := (Int32.ofInt x &&& Int32.ofInt y).toInt
theorem z_iand {x y : Int} (hd : decode mi.2.1 pc = .ok (.iand, 1)) (k : ZZ X b d mi G (pc + 1) L (vi (iandV x y) :: S) mem Q) : ZZ X b d mi G pc L (vi y :: vi x :: S) mem Q := by
  intro p l e R s m args below meth c D K ρ A n0 σ0 σ H locs cells slots mc ms ls hK hS hL hl
  have h : W p l e R s m args below meth c H locs cells slots (MQ below (zQ D K ρ n0 σ0 A Q) args s mc ms A) (F0 m (pc + 1) ls (.int (Int32.ofInt (iandV x y)) :: S.map (rv σ ρ))) := k p l e R s m args below meth c D K ρ A n0 σ0 σ H locs cells slots mc ms ls hK (so_cons (oi32 _) (so_tl (so_tl hS))) hL hl
  show W p l e R s m args below meth c H locs cells slots (MQ below (zQ D K ρ n0 σ0 A Q) args s mc ms A) (F0 m (pc) ls (.int (Int32.ofInt y) :: .int (Int32.ofInt x) :: S.map (rv σ ρ)))
  rw [show Int32.ofInt (iandV x y) = Int32.ofInt x &&& Int32.ofInt y from oi_t _] at h
  exact lv_iand hK.1.1.1 hK.1.1.2.1 hd h

def iorV (x y : Int) : Int := (Int32.ofInt x ||| Int32.ofInt y).toInt
theorem z_ior {x y : Int} (hd : decode mi.2.1 pc = .ok (.ior, 1)) (k : ZZ X b d mi G (pc + 1) L (vi (iorV x y) :: S) mem Q) : ZZ X b d mi G pc L (vi y :: vi x :: S) mem Q := by
  intro p l e R s m args below meth c D K ρ A n0 σ0 σ H locs cells slots mc ms ls hK hS hL hl
  have h : W p l e R s m args below meth c H locs cells slots (MQ below (zQ D K ρ n0 σ0 A Q) args s mc ms A) (F0 m (pc + 1) ls (.int (Int32.ofInt (iorV x y)) :: S.map (rv σ ρ))) := k p l e R s m args below meth c D K ρ A n0 σ0 σ H locs cells slots mc ms ls hK (so_cons (oi32 _) (so_tl (so_tl hS))) hL hl
  show W p l e R s m args below meth c H locs cells slots (MQ below (zQ D K ρ n0 σ0 A Q) args s mc ms A) (F0 m (pc) ls (.int (Int32.ofInt y) :: .int (Int32.ofInt x) :: S.map (rv σ ρ)))
  rw [show Int32.ofInt (iorV x y) = Int32.ofInt x ||| Int32.ofInt y from oi_t _] at h
  exact lv_ior hK.1.1.1 hK.1.1.2.1 hd h

def ixorV (x y : Int) : Int := (Int32.ofInt x ^^^ Int32.ofInt y).toInt
theorem z_ixor {x y : Int} (hd : decode mi.2.1 pc = .ok (.ixor, 1)) (k : ZZ X b d mi G (pc + 1) L (vi (ixorV x y) :: S) mem Q) : ZZ X b d mi G pc L (vi y :: vi x :: S) mem Q := by
  intro p l e R s m args below meth c D K ρ A n0 σ0 σ H locs cells slots mc ms ls hK hS hL hl
  have h : W p l e R s m args below meth c H locs cells slots (MQ below (zQ D K ρ n0 σ0 A Q) args s mc ms A) (F0 m (pc + 1) ls (.int (Int32.ofInt (ixorV x y)) :: S.map (rv σ ρ))) := k p l e R s m args below meth c D K ρ A n0 σ0 σ H locs cells slots mc ms ls hK (so_cons (oi32 _) (so_tl (so_tl hS))) hL hl
  show W p l e R s m args below meth c H locs cells slots (MQ below (zQ D K ρ n0 σ0 A Q) args s mc ms A) (F0 m (pc) ls (.int (Int32.ofInt y) :: .int (Int32.ofInt x) :: S.map (rv σ ρ)))
  rw [show Int32.ofInt (ixorV x y) = Int32.ofInt x ^^^ Int32.ofInt y from oi_t _] at h
  exact lv_ixor hK.1.1.1 hK.1.1.2.1 hd h

def ishlV (x y : Int) : Int := (Int32.ofInt x <<< (Int32.ofInt y &&& 31)).toInt
theorem z_ishl {x y : Int} (hd : decode mi.2.1 pc = .ok (.ishl, 1)) (k : ZZ X b d mi G (pc + 1) L (vi (ishlV x y) :: S) mem Q) : ZZ X b d mi G pc L (vi y :: vi x :: S) mem Q := by
  intro p l e R s m args below meth c D K ρ A n0 σ0 σ H locs cells slots mc ms ls hK hS hL hl
  have h : W p l e R s m args below meth c H locs cells slots (MQ below (zQ D K ρ n0 σ0 A Q) args s mc ms A) (F0 m (pc + 1) ls (.int (Int32.ofInt (ishlV x y)) :: S.map (rv σ ρ))) := k p l e R s m args below meth c D K ρ A n0 σ0 σ H locs cells slots mc ms ls hK (so_cons (oi32 _) (so_tl (so_tl hS))) hL hl
  show W p l e R s m args below meth c H locs cells slots (MQ below (zQ D K ρ n0 σ0 A Q) args s mc ms A) (F0 m (pc) ls (.int (Int32.ofInt y) :: .int (Int32.ofInt x) :: S.map (rv σ ρ)))
  rw [show Int32.ofInt (ishlV x y) = Int32.ofInt x <<< (Int32.ofInt y &&& 31) from oi_t _] at h
  exact lv_ishl hK.1.1.1 hK.1.1.2.1 hd h

def ishrV (x y : Int) : Int := (Int32.ofInt x >>> (Int32.ofInt y &&& 31)).toInt
theorem z_ishr {x y : Int} (hd : decode mi.2.1 pc = .ok (.ishr, 1)) (k : ZZ X b d mi G (pc + 1) L (vi (ishrV x y) :: S) mem Q) : ZZ X b d mi G pc L (vi y :: vi x :: S) mem Q := by
  intro p l e R s m args below meth c D K ρ A n0 σ0 σ H locs cells slots mc ms ls hK hS hL hl
  have h : W p l e R s m args below meth c H locs cells slots (MQ below (zQ D K ρ n0 σ0 A Q) args s mc ms A) (F0 m (pc + 1) ls (.int (Int32.ofInt (ishrV x y)) :: S.map (rv σ ρ))) := k p l e R s m args below meth c D K ρ A n0 σ0 σ H locs cells slots mc ms ls hK (so_cons (oi32 _) (so_tl (so_tl hS))) hL hl
  show W p l e R s m args below meth c H locs cells slots (MQ below (zQ D K ρ n0 σ0 A Q) args s mc ms A) (F0 m (pc) ls (.int (Int32.ofInt y) :: .int (Int32.ofInt x) :: S.map (rv σ ρ)))
  rw [show Int32.ofInt (ishrV x y) = Int32.ofInt x >>> (Int32.ofInt y &&& 31) from oi_t _] at h
  exact lv_ishr hK.1.1.1 hK.1.1.2.1 hd h

def iushrV (x y : Int) : Int := ((Int32.ofInt x).toUInt32 >>> ((Int32.ofInt y).toUInt32 &&& Int32.toUInt32 31)).toInt32.toInt
theorem z_iushr {x y : Int} (hd : decode mi.2.1 pc = .ok (.iushr, 1)) (k : ZZ X b d mi G (pc + 1) L (vi (iushrV x y) :: S) mem Q) : ZZ X b d mi G pc L (vi y :: vi x :: S) mem Q := by
  intro p l e R s m args below meth c D K ρ A n0 σ0 σ H locs cells slots mc ms ls hK hS hL hl
  have h : W p l e R s m args below meth c H locs cells slots (MQ below (zQ D K ρ n0 σ0 A Q) args s mc ms A) (F0 m (pc + 1) ls (.int (Int32.ofInt (iushrV x y)) :: S.map (rv σ ρ))) := k p l e R s m args below meth c D K ρ A n0 σ0 σ H locs cells slots mc ms ls hK (so_cons (oi32 _) (so_tl (so_tl hS))) hL hl
  show W p l e R s m args below meth c H locs cells slots (MQ below (zQ D K ρ n0 σ0 A Q) args s mc ms A) (F0 m (pc) ls (.int (Int32.ofInt y) :: .int (Int32.ofInt x) :: S.map (rv σ ρ)))
  rw [show Int32.ofInt (iushrV x y) = ((Int32.ofInt x).toUInt32 >>> ((Int32.ofInt y).toUInt32 &&& Int32.toUInt32 31)).toInt32 from oi_t _] at h
  exact lv_iushr hK.1.1.1 hK.1.1.2.1 hd rfl h

theorem ofInt_ne0 {y : Int} (hy : i32 y) (h : y ≠ 0) : ¬ Int32.ofInt y = 0 := fun q => h (by have := congrArg Int32.toInt q; rw [ti32 hy] at this; exact this)
theorem ofInt_ne0l {y : Int} (hy : i64 y) (h : y ≠ 0) : ¬ Int64.ofInt y = 0 := fun q => h (by have := congrArg Int64.toInt q; rw [ti64 hy] at this; exact this)
theorem z_idivw {x y : Int} (hd : decode mi.2.1 pc = .ok (.idiv, 1)) (hne : y ≠ 0) (k : ZZ X b d mi G (pc + 1) L (vi (w32 (x.tdiv y)) :: S) mem Q) : ZZ X b d mi G pc L (vi y :: vi x :: S) mem Q := by
  intro p l e R s m args below meth c D K ρ A n0 σ0 σ H locs cells slots mc ms ls hK hS hL hl
  have h : W p l e R s m args below meth c H locs cells slots (MQ below (zQ D K ρ n0 σ0 A Q) args s mc ms A) (F0 m (pc + 1) ls (.int (Int32.ofInt (w32 (x.tdiv y))) :: S.map (rv σ ρ))) := k p l e R s m args below meth c D K ρ A n0 σ0 σ H locs cells slots mc ms ls hK (so_cons (w32_ok _) (so_tl (so_tl hS))) hL hl
  show W p l e R s m args below meth c H locs cells slots (MQ below (zQ D K ρ n0 σ0 A Q) args s mc ms A) (F0 m (pc) ls (.int (Int32.ofInt y) :: .int (Int32.ofInt x) :: S.map (rv σ ρ)))
  rw [show Int32.ofInt (w32 (x.tdiv y)) = Int32.ofInt x / Int32.ofInt y from (by apply Int32.toInt_inj.mp; rw [ti32 (w32_ok _), Int32.toInt_div, ti32 (so_hd (so_tl hS)), ti32 (so_hd hS)]; rfl)] at h
  exact lv_idiv hK.1.1.1 hK.1.1.2.1 hd (ofInt_ne0 (so_hd hS) hne) h

theorem d32 {x y : Int} (hx : i32 x) (hy : i32 y) : Int32.ofInt x / Int32.ofInt y = Int32.ofInt (x.tdiv y) := by apply Int32.toInt_inj.mp; rw [Int32.toInt_div, ti32 hx, ti32 hy, Int32.toInt_ofInt]
theorem d64 {x y : Int} (hx : i64 x) (hy : i64 y) : Int64.ofInt x / Int64.ofInt y = Int64.ofInt (x.tdiv y) := by apply Int64.toInt_inj.mp; rw [Int64.toInt_div, ti64 hx, ti64 hy, Int64.toInt_ofInt]
theorem m32 {x y : Int} (hx : i32 x) (hy : i32 y) : Int32.ofInt (x.tmod y) = Int32.ofInt x - Int32.ofInt x / Int32.ofInt y * Int32.ofInt y := by rw [d32 hx hy, ← Int32.ofInt_mul, ← Int32.ofInt_sub]; congr 1; have := Int.tmod_add_tdiv_mul x y; omega
theorem m64 {x y : Int} (hx : i64 x) (hy : i64 y) : Int64.ofInt (x.tmod y) = Int64.ofInt x - Int64.ofInt x / Int64.ofInt y * Int64.ofInt y := by rw [d64 hx hy, ← Int64.ofInt_mul, ← Int64.ofInt_sub]; congr 1; have := Int.tmod_add_tdiv_mul x y; omega
theorem z_irem {x y : Int} (hd : decode mi.2.1 pc = .ok (.irem, 1)) (hne : y ≠ 0) (k : ZZ X b d mi G (pc + 1) L (vi (x.tmod y) :: S) mem Q) : ZZ X b d mi G pc L (vi y :: vi x :: S) mem Q := by
  intro p l e R s m args below meth c D K ρ A n0 σ0 σ H locs cells slots mc ms ls hK hS hL hl
  have h : W p l e R s m args below meth c H locs cells slots (MQ below (zQ D K ρ n0 σ0 A Q) args s mc ms A) (F0 m (pc + 1) ls (.int (Int32.ofInt (x.tmod y)) :: S.map (rv σ ρ))) := k p l e R s m args below meth c D K ρ A n0 σ0 σ H locs cells slots mc ms ls hK (so_cons (i32_tmod (so_hd (so_tl hS))) (so_tl (so_tl hS))) hL hl
  show W p l e R s m args below meth c H locs cells slots (MQ below (zQ D K ρ n0 σ0 A Q) args s mc ms A) (F0 m (pc) ls (.int (Int32.ofInt y) :: .int (Int32.ofInt x) :: S.map (rv σ ρ)))
  rw [show Int32.ofInt (x.tmod y) = Int32.ofInt x - Int32.ofInt x / Int32.ofInt y * Int32.ofInt y from m32 (so_hd (so_tl hS)) (so_hd hS)] at h
  exact lv_irem hK.1.1.1 hK.1.1.2.1 hd (ofInt_ne0 (so_hd hS) hne) h

theorem z_laddw {x y : Int} (hd : decode mi.2.1 pc = .ok (.ladd, 1)) (k : ZZ X b d mi G (pc + 1) L (vl (w64 (x + y)) :: S) mem Q) : ZZ X b d mi G pc L (vl y :: vl x :: S) mem Q := by
  intro p l e R s m args below meth c D K ρ A n0 σ0 σ H locs cells slots mc ms ls hK hS hL hl
  have h : W p l e R s m args below meth c H locs cells slots (MQ below (zQ D K ρ n0 σ0 A Q) args s mc ms A) (F0 m (pc + 1) ls (.long (Int64.ofInt (w64 (x + y))) :: S.map (rv σ ρ))) := k p l e R s m args below meth c D K ρ A n0 σ0 σ H locs cells slots mc ms ls hK (so_cons (w64_ok _) (so_tl (so_tl hS))) hL hl
  show W p l e R s m args below meth c H locs cells slots (MQ below (zQ D K ρ n0 σ0 A Q) args s mc ms A) (F0 m (pc) ls (.long (Int64.ofInt y) :: .long (Int64.ofInt x) :: S.map (rv σ ρ)))
  rw [show Int64.ofInt (w64 (x + y)) = Int64.ofInt x + Int64.ofInt y from (ofInt_w64 _).trans (Int64.ofInt_add x y)] at h
  exact lv_ladd hK.1.1.1 hK.1.1.2.1 hd h

theorem z_ladd {x y : Int} (hd : decode mi.2.1 pc = .ok (.ladd, 1)) (hr : i64 (x + y)) (k : ZZ X b d mi G (pc + 1) L (vl (x + y) :: S) mem Q) : ZZ X b d mi G pc L (vl y :: vl x :: S) mem Q := z_laddw hd (by rw [w64_id hr]; exact k)
theorem z_lsubw {x y : Int} (hd : decode mi.2.1 pc = .ok (.lsub, 1)) (k : ZZ X b d mi G (pc + 1) L (vl (w64 (x - y)) :: S) mem Q) : ZZ X b d mi G pc L (vl y :: vl x :: S) mem Q := by
  intro p l e R s m args below meth c D K ρ A n0 σ0 σ H locs cells slots mc ms ls hK hS hL hl
  have h : W p l e R s m args below meth c H locs cells slots (MQ below (zQ D K ρ n0 σ0 A Q) args s mc ms A) (F0 m (pc + 1) ls (.long (Int64.ofInt (w64 (x - y))) :: S.map (rv σ ρ))) := k p l e R s m args below meth c D K ρ A n0 σ0 σ H locs cells slots mc ms ls hK (so_cons (w64_ok _) (so_tl (so_tl hS))) hL hl
  show W p l e R s m args below meth c H locs cells slots (MQ below (zQ D K ρ n0 σ0 A Q) args s mc ms A) (F0 m (pc) ls (.long (Int64.ofInt y) :: .long (Int64.ofInt x) :: S.map (rv σ ρ)))
  rw [show Int64.ofInt (w64 (x - y)) = Int64.ofInt x - Int64.ofInt y from (ofInt_w64 _).trans (Int64.ofInt_sub x y)] at h
  exact lv_lsub hK.1.1.1 hK.1.1.2.1 hd h

theorem z_lsub {x y : Int} (hd : decode mi.2.1 pc = .ok (.lsub, 1)) (hr : i64 (x - y)) (k : ZZ X b d mi G (pc + 1) L (vl (x - y) :: S) mem Q) : ZZ X b d mi G pc L (vl y :: vl x :: S) mem Q := z_lsubw hd (by rw [w64_id hr]; exact k)
theorem z_lmulw {x y : Int} (hd : decode mi.2.1 pc = .ok (.lmul, 1)) (k : ZZ X b d mi G (pc + 1) L (vl (w64 (x * y)) :: S) mem Q) : ZZ X b d mi G pc L (vl y :: vl x :: S) mem Q := by
  intro p l e R s m args below meth c D K ρ A n0 σ0 σ H locs cells slots mc ms ls hK hS hL hl
  have h : W p l e R s m args below meth c H locs cells slots (MQ below (zQ D K ρ n0 σ0 A Q) args s mc ms A) (F0 m (pc + 1) ls (.long (Int64.ofInt (w64 (x * y))) :: S.map (rv σ ρ))) := k p l e R s m args below meth c D K ρ A n0 σ0 σ H locs cells slots mc ms ls hK (so_cons (w64_ok _) (so_tl (so_tl hS))) hL hl
  show W p l e R s m args below meth c H locs cells slots (MQ below (zQ D K ρ n0 σ0 A Q) args s mc ms A) (F0 m (pc) ls (.long (Int64.ofInt y) :: .long (Int64.ofInt x) :: S.map (rv σ ρ)))
  rw [show Int64.ofInt (w64 (x * y)) = Int64.ofInt x * Int64.ofInt y from (ofInt_w64 _).trans (Int64.ofInt_mul x y)] at h
  exact lv_lmul hK.1.1.1 hK.1.1.2.1 hd h

theorem z_lmul {x y : Int} (hd : decode mi.2.1 pc = .ok (.lmul, 1)) (hr : i64 (x * y)) (k : ZZ X b d mi G (pc + 1) L (vl (x * y) :: S) mem Q) : ZZ X b d mi G pc L (vl y :: vl x :: S) mem Q := z_lmulw hd (by rw [w64_id hr]; exact k)
def landV (x y : Int) : Int := (Int64.ofInt x &&& Int64.ofInt y).toInt
theorem z_land {x y : Int} (hd : decode mi.2.1 pc = .ok (.land, 1)) (k : ZZ X b d mi G (pc + 1) L (vl (landV x y) :: S) mem Q) : ZZ X b d mi G pc L (vl y :: vl x :: S) mem Q := by
  intro p l e R s m args below meth c D K ρ A n0 σ0 σ H locs cells slots mc ms ls hK hS hL hl
  have h : W p l e R s m args below meth c H locs cells slots (MQ below (zQ D K ρ n0 σ0 A Q) args s mc ms A) (F0 m (pc + 1) ls (.long (Int64.ofInt (landV x y)) :: S.map (rv σ ρ))) := k p l e R s m args below meth c D K ρ A n0 σ0 σ H locs cells slots mc ms ls hK (so_cons (oi64 _) (so_tl (so_tl hS))) hL hl
  show W p l e R s m args below meth c H locs cells slots (MQ below (zQ D K ρ n0 σ0 A Q) args s mc ms A) (F0 m (pc) ls (.long (Int64.ofInt y) :: .long (Int64.ofInt x) :: S.map (rv σ ρ)))
  rw [show Int64.ofInt (landV x y) = Int64.ofInt x &&& Int64.ofInt y from ol_t _] at h
  exact lv_land hK.1.1.1 hK.1.1.2.1 hd h

def lorV (x y : Int) : Int := (Int64.ofInt x ||| Int64.ofInt y).toInt
theorem z_lor {x y : Int} (hd : decode mi.2.1 pc = .ok (.lor, 1)) (k : ZZ X b d mi G (pc + 1) L (vl (lorV x y) :: S) mem Q) : ZZ X b d mi G pc L (vl y :: vl x :: S) mem Q := by
  intro p l e R s m args below meth c D K ρ A n0 σ0 σ H locs cells slots mc ms ls hK hS hL hl
  have h : W p l e R s m args below meth c H locs cells slots (MQ below (zQ D K ρ n0 σ0 A Q) args s mc ms A) (F0 m (pc + 1) ls (.long (Int64.ofInt (lorV x y)) :: S.map (rv σ ρ))) := k p l e R s m args below meth c D K ρ A n0 σ0 σ H locs cells slots mc ms ls hK (so_cons (oi64 _) (so_tl (so_tl hS))) hL hl
  show W p l e R s m args below meth c H locs cells slots (MQ below (zQ D K ρ n0 σ0 A Q) args s mc ms A) (F0 m (pc) ls (.long (Int64.ofInt y) :: .long (Int64.ofInt x) :: S.map (rv σ ρ)))
  rw [show Int64.ofInt (lorV x y) = Int64.ofInt x ||| Int64.ofInt y from ol_t _] at h
  exact lv_lor hK.1.1.1 hK.1.1.2.1 hd h

def lshlV (x y : Int) : Int := (Int64.ofInt x <<< ((Int32.ofInt y).toInt64 &&& 63)).toInt
theorem z_lshl {x y : Int} (hd : decode mi.2.1 pc = .ok (.lshl, 1)) (k : ZZ X b d mi G (pc + 1) L (vl (lshlV x y) :: S) mem Q) : ZZ X b d mi G pc L (vi y :: vl x :: S) mem Q := by
  intro p l e R s m args below meth c D K ρ A n0 σ0 σ H locs cells slots mc ms ls hK hS hL hl
  have h : W p l e R s m args below meth c H locs cells slots (MQ below (zQ D K ρ n0 σ0 A Q) args s mc ms A) (F0 m (pc + 1) ls (.long (Int64.ofInt (lshlV x y)) :: S.map (rv σ ρ))) := k p l e R s m args below meth c D K ρ A n0 σ0 σ H locs cells slots mc ms ls hK (so_cons (oi64 _) (so_tl (so_tl hS))) hL hl
  show W p l e R s m args below meth c H locs cells slots (MQ below (zQ D K ρ n0 σ0 A Q) args s mc ms A) (F0 m (pc) ls (.int (Int32.ofInt y) :: .long (Int64.ofInt x) :: S.map (rv σ ρ)))
  rw [show Int64.ofInt (lshlV x y) = Int64.ofInt x <<< ((Int32.ofInt y).toInt64 &&& 63) from ol_t _] at h
  exact lv_lshl hK.1.1.1 hK.1.1.2.1 hd rfl h

def lshrV (x y : Int) : Int := (Int64.ofInt x >>> ((Int32.ofInt y).toInt64 &&& 63)).toInt
theorem z_lshr {x y : Int} (hd : decode mi.2.1 pc = .ok (.lshr, 1)) (k : ZZ X b d mi G (pc + 1) L (vl (lshrV x y) :: S) mem Q) : ZZ X b d mi G pc L (vi y :: vl x :: S) mem Q := by
  intro p l e R s m args below meth c D K ρ A n0 σ0 σ H locs cells slots mc ms ls hK hS hL hl
  have h : W p l e R s m args below meth c H locs cells slots (MQ below (zQ D K ρ n0 σ0 A Q) args s mc ms A) (F0 m (pc + 1) ls (.long (Int64.ofInt (lshrV x y)) :: S.map (rv σ ρ))) := k p l e R s m args below meth c D K ρ A n0 σ0 σ H locs cells slots mc ms ls hK (so_cons (oi64 _) (so_tl (so_tl hS))) hL hl
  show W p l e R s m args below meth c H locs cells slots (MQ below (zQ D K ρ n0 σ0 A Q) args s mc ms A) (F0 m (pc) ls (.int (Int32.ofInt y) :: .long (Int64.ofInt x) :: S.map (rv σ ρ)))
  rw [show Int64.ofInt (lshrV x y) = Int64.ofInt x >>> ((Int32.ofInt y).toInt64 &&& 63) from ol_t _] at h
  exact lv_lshr hK.1.1.1 hK.1.1.2.1 hd rfl h

def lushrV (x y : Int) : Int := ((Int64.ofInt x).toUInt64 >>> ((Int32.ofInt y).toInt64.toUInt64 &&& Int64.toUInt64 63)).toInt64.toInt
theorem z_lushr {x y : Int} (hd : decode mi.2.1 pc = .ok (.lushr, 1)) (k : ZZ X b d mi G (pc + 1) L (vl (lushrV x y) :: S) mem Q) : ZZ X b d mi G pc L (vi y :: vl x :: S) mem Q := by
  intro p l e R s m args below meth c D K ρ A n0 σ0 σ H locs cells slots mc ms ls hK hS hL hl
  have h : W p l e R s m args below meth c H locs cells slots (MQ below (zQ D K ρ n0 σ0 A Q) args s mc ms A) (F0 m (pc + 1) ls (.long (Int64.ofInt (lushrV x y)) :: S.map (rv σ ρ))) := k p l e R s m args below meth c D K ρ A n0 σ0 σ H locs cells slots mc ms ls hK (so_cons (oi64 _) (so_tl (so_tl hS))) hL hl
  show W p l e R s m args below meth c H locs cells slots (MQ below (zQ D K ρ n0 σ0 A Q) args s mc ms A) (F0 m (pc) ls (.int (Int32.ofInt y) :: .long (Int64.ofInt x) :: S.map (rv σ ρ)))
  rw [show Int64.ofInt (lushrV x y) = ((Int64.ofInt x).toUInt64 >>> ((Int32.ofInt y).toInt64.toUInt64 &&& Int64.toUInt64 63)).toInt64 from ol_t _] at h
  exact lv_lushr hK.1.1.1 hK.1.1.2.1 hd rfl h

theorem z_ldivw {x y : Int} (hd : decode mi.2.1 pc = .ok (.ldiv, 1)) (hne : y ≠ 0) (k : ZZ X b d mi G (pc + 1) L (vl (w64 (x.tdiv y)) :: S) mem Q) : ZZ X b d mi G pc L (vl y :: vl x :: S) mem Q := by
  intro p l e R s m args below meth c D K ρ A n0 σ0 σ H locs cells slots mc ms ls hK hS hL hl
  have h : W p l e R s m args below meth c H locs cells slots (MQ below (zQ D K ρ n0 σ0 A Q) args s mc ms A) (F0 m (pc + 1) ls (.long (Int64.ofInt (w64 (x.tdiv y))) :: S.map (rv σ ρ))) := k p l e R s m args below meth c D K ρ A n0 σ0 σ H locs cells slots mc ms ls hK (so_cons (w64_ok _) (so_tl (so_tl hS))) hL hl
  show W p l e R s m args below meth c H locs cells slots (MQ below (zQ D K ρ n0 σ0 A Q) args s mc ms A) (F0 m (pc) ls (.long (Int64.ofInt y) :: .long (Int64.ofInt x) :: S.map (rv σ ρ)))
  rw [show Int64.ofInt (w64 (x.tdiv y)) = Int64.ofInt x / Int64.ofInt y from (by apply Int64.toInt_inj.mp; rw [ti64 (w64_ok _), Int64.toInt_div, ti64 (so_hd (so_tl hS)), ti64 (so_hd hS)]; rfl)] at h
  exact lv_ldiv hK.1.1.1 hK.1.1.2.1 hd (ofInt_ne0l (so_hd hS) hne) h

theorem z_lrem {x y : Int} (hd : decode mi.2.1 pc = .ok (.lrem, 1)) (hne : y ≠ 0) (k : ZZ X b d mi G (pc + 1) L (vl (x.tmod y) :: S) mem Q) : ZZ X b d mi G pc L (vl y :: vl x :: S) mem Q := by
  intro p l e R s m args below meth c D K ρ A n0 σ0 σ H locs cells slots mc ms ls hK hS hL hl
  have h : W p l e R s m args below meth c H locs cells slots (MQ below (zQ D K ρ n0 σ0 A Q) args s mc ms A) (F0 m (pc + 1) ls (.long (Int64.ofInt (x.tmod y)) :: S.map (rv σ ρ))) := k p l e R s m args below meth c D K ρ A n0 σ0 σ H locs cells slots mc ms ls hK (so_cons (i64_tmod (so_hd (so_tl hS))) (so_tl (so_tl hS))) hL hl
  show W p l e R s m args below meth c H locs cells slots (MQ below (zQ D K ρ n0 σ0 A Q) args s mc ms A) (F0 m (pc) ls (.long (Int64.ofInt y) :: .long (Int64.ofInt x) :: S.map (rv σ ρ)))
  rw [show Int64.ofInt (x.tmod y) = Int64.ofInt x - Int64.ofInt x / Int64.ofInt y * Int64.ofInt y from m64 (so_hd (so_tl hS)) (so_hd hS)] at h
  exact lv_lrem hK.1.1.1 hK.1.1.2.1 hd (ofInt_ne0l (so_hd hS) hne) h

theorem z_inegw {x : Int} (hd : decode mi.2.1 pc = .ok (.ineg, 1)) (k : ZZ X b d mi G (pc + 1) L (vi (w32 (-x)) :: S) mem Q) : ZZ X b d mi G pc L (vi x :: S) mem Q := by
  intro p l e R s m args below meth c D K ρ A n0 σ0 σ H locs cells slots mc ms ls hK hS hL hl
  have h : W p l e R s m args below meth c H locs cells slots (MQ below (zQ D K ρ n0 σ0 A Q) args s mc ms A) (F0 m (pc + 1) ls (.int (Int32.ofInt (w32 (-x))) :: S.map (rv σ ρ))) := k p l e R s m args below meth c D K ρ A n0 σ0 σ H locs cells slots mc ms ls hK (so_cons (w32_ok _) (so_tl hS)) hL hl
  show W p l e R s m args below meth c H locs cells slots (MQ below (zQ D K ρ n0 σ0 A Q) args s mc ms A) (F0 m (pc) ls (.int (Int32.ofInt x) :: S.map (rv σ ρ)))
  rw [show Int32.ofInt (w32 (-x)) = -Int32.ofInt x from (ofInt_w32 _).trans (Int32.ofInt_neg x)] at h
  exact lv_ineg hK.1.1.1 hK.1.1.2.1 hd h

theorem z_lnegw {x : Int} (hd : decode mi.2.1 pc = .ok (.lneg, 1)) (k : ZZ X b d mi G (pc + 1) L (vl (w64 (-x)) :: S) mem Q) : ZZ X b d mi G pc L (vl x :: S) mem Q := by
  intro p l e R s m args below meth c D K ρ A n0 σ0 σ H locs cells slots mc ms ls hK hS hL hl
  have h : W p l e R s m args below meth c H locs cells slots (MQ below (zQ D K ρ n0 σ0 A Q) args s mc ms A) (F0 m (pc + 1) ls (.long (Int64.ofInt (w64 (-x))) :: S.map (rv σ ρ))) := k p l e R s m args below meth c D K ρ A n0 σ0 σ H locs cells slots mc ms ls hK (so_cons (w64_ok _) (so_tl hS)) hL hl
  show W p l e R s m args below meth c H locs cells slots (MQ below (zQ D K ρ n0 σ0 A Q) args s mc ms A) (F0 m (pc) ls (.long (Int64.ofInt x) :: S.map (rv σ ρ)))
  rw [show Int64.ofInt (w64 (-x)) = -Int64.ofInt x from (ofInt_w64 _).trans (Int64.ofInt_neg x)] at h
  exact lv_lneg hK.1.1.1 hK.1.1.2.1 hd h

theorem i32_64 {z : Int} (h : i32 z) : i64 z := by unfold i32 at h; unfold i64; omega
theorem z_i2l {x : Int} (hd : decode mi.2.1 pc = .ok (.i2l, 1)) (k : ZZ X b d mi G (pc + 1) L (vl (x) :: S) mem Q) : ZZ X b d mi G pc L (vi x :: S) mem Q := by
  intro p l e R s m args below meth c D K ρ A n0 σ0 σ H locs cells slots mc ms ls hK hS hL hl
  have h : W p l e R s m args below meth c H locs cells slots (MQ below (zQ D K ρ n0 σ0 A Q) args s mc ms A) (F0 m (pc + 1) ls (.long (Int64.ofInt x) :: S.map (rv σ ρ))) := k p l e R s m args below meth c D K ρ A n0 σ0 σ H locs cells slots mc ms ls hK (so_cons (i32_64 (so_hd hS)) (so_tl hS)) hL hl
  show W p l e R s m args below meth c H locs cells slots (MQ below (zQ D K ρ n0 σ0 A Q) args s mc ms A) (F0 m (pc) ls (.int (Int32.ofInt x) :: S.map (rv σ ρ)))
  exact lv_i2l hK.1.1.1 hK.1.1.2.1 hd (by apply Int64.toInt_inj.mp; rw [ti64 (i32_64 (so_hd hS)), Int32.toInt_toInt64, ti32 (so_hd hS)]) h

theorem z_l2iw {x : Int} (hd : decode mi.2.1 pc = .ok (.l2i, 1)) (k : ZZ X b d mi G (pc + 1) L (vi (w32 x) :: S) mem Q) : ZZ X b d mi G pc L (vl x :: S) mem Q := by
  intro p l e R s m args below meth c D K ρ A n0 σ0 σ H locs cells slots mc ms ls hK hS hL hl
  have h : W p l e R s m args below meth c H locs cells slots (MQ below (zQ D K ρ n0 σ0 A Q) args s mc ms A) (F0 m (pc + 1) ls (.int (Int32.ofInt (w32 x)) :: S.map (rv σ ρ))) := k p l e R s m args below meth c D K ρ A n0 σ0 σ H locs cells slots mc ms ls hK (so_cons (w32_ok _) (so_tl hS)) hL hl
  show W p l e R s m args below meth c H locs cells slots (MQ below (zQ D K ρ n0 σ0 A Q) args s mc ms A) (F0 m (pc) ls (.long (Int64.ofInt x) :: S.map (rv σ ρ)))
  exact lv_l2i hK.1.1.1 hK.1.1.2.1 hd (by apply Int32.toInt_inj.mp; rw [ti32 (w32_ok _), Int64.toInt_toInt32, ti64 (so_hd hS)]; rfl) h

theorem z_l2i {x : Int} (hd : decode mi.2.1 pc = .ok (.l2i, 1)) (hr : i32 x) (k : ZZ X b d mi G (pc + 1) L (vi x :: S) mem Q) : ZZ X b d mi G pc L (vl x :: S) mem Q := z_l2iw hd (by rw [w32_id hr]; exact k)
def lcmpV (x y : Int) : Int := if y < x then 1 else if x = y then 0 else -1
theorem lcmpV_ok (x y : Int) : i32 (lcmpV x y) := by
  unfold lcmpV i32
  split
  · omega
  · split <;> omega
theorem z_lcmp {x y : Int} (hd : decode mi.2.1 pc = .ok (.lcmp, 1)) (k : ZZ X b d mi G (pc + 1) L (vi (lcmpV x y) :: S) mem Q) : ZZ X b d mi G pc L (vl y :: vl x :: S) mem Q := by
  intro p l e R s m args below meth c D K ρ A n0 σ0 σ H locs cells slots mc ms ls hK hS hL hl
  have h : W p l e R s m args below meth c H locs cells slots (MQ below (zQ D K ρ n0 σ0 A Q) args s mc ms A) (F0 m (pc + 1) ls (.int (Int32.ofInt (lcmpV x y)) :: S.map (rv σ ρ))) := k p l e R s m args below meth c D K ρ A n0 σ0 σ H locs cells slots mc ms ls hK (so_cons (lcmpV_ok _ _) (so_tl (so_tl hS))) hL hl
  show W p l e R s m args below meth c H locs cells slots (MQ below (zQ D K ρ n0 σ0 A Q) args s mc ms A) (F0 m (pc) ls (.long (Int64.ofInt y) :: .long (Int64.ofInt x) :: S.map (rv σ ρ)))
  have hx : i64 x := so_hd (so_tl hS)
  have hy : i64 y := so_hd hS
  refine W.lcmp hK.1.1.1 hK.1.1.2.1 hd ?_
  rw [show lg_cmp (Int64.ofInt x) (Int64.ofInt y) = Int32.ofInt (lcmpV x y) from ?_]
  · exact h
  · unfold lg_cmp lcmpV
    have e1 : (Int64.ofInt x > Int64.ofInt y) ↔ y < x := by
      show Int64.ofInt y < Int64.ofInt x ↔ _
      rw [Int64.lt_iff_toInt_lt, ti64 hx, ti64 hy]
    have e2 : (Int64.ofInt x = Int64.ofInt y) ↔ x = y := by
      rw [← Int64.toInt_inj, ti64 hx, ti64 hy]
    by_cases c1 : y < x
    · rw [if_pos (e1.mpr c1), if_pos c1]; rfl
    · rw [if_neg (fun q => c1 (e1.mp q)), if_neg c1]
      by_cases c2 : x = y
      · rw [if_pos (e2.mpr c2), if_pos c2]; rfl
      · rw [if_neg (fun q => c2 (e2.mp q)), if_neg c2]; rfl

theorem z_iconst {n z : Int} (hd : decode mi.2.1 pc = .ok (.iconst n, 1)) (hz : i32 n) (k : ZZ X b d mi G (pc + 1) L (vi n :: S) mem Q) : ZZ X b d mi G pc L S mem Q := by
  intro p l e R s m args below meth c D K ρ A n0 σ0 σ H locs cells slots mc ms ls hK hS hL hl
  have h : W p l e R s m args below meth c H locs cells slots (MQ below (zQ D K ρ n0 σ0 A Q) args s mc ms A) (F0 m (pc + 1) ls (.int (Int32.ofInt n) :: S.map (rv σ ρ))) := k p l e R s m args below meth c D K ρ A n0 σ0 σ H locs cells slots mc ms ls hK (so_cons hz hS) hL hl
  exact lv_iconst hK.1.1.1 hK.1.1.2.1 hd rfl h
theorem z_bipush {n : Int} (hd : decode mi.2.1 pc = .ok (.bipush n, 2)) (hz : -128 ≤ n ∧ n < 128) (k : ZZ X b d mi G (pc + 2) L (vi n :: S) mem Q) : ZZ X b d mi G pc L S mem Q := by
  intro p l e R s m args below meth c D K ρ A n0 σ0 σ H locs cells slots mc ms ls hK hS hL hl
  have h : W p l e R s m args below meth c H locs cells slots (MQ below (zQ D K ρ n0 σ0 A Q) args s mc ms A) (F0 m (pc + 2) ls (.int (Int32.ofInt n) :: S.map (rv σ ρ))) := k p l e R s m args below meth c D K ρ A n0 σ0 σ H locs cells slots mc ms ls hK (so_cons (show i32 n by unfold i32; omega) hS) hL hl
  refine lv_bipush hK.1.1.1 hK.1.1.2.1 hd ?_ h
  apply Int32.toInt_inj.mp
  rw [Int8.toInt_toInt32, Int8.toInt_ofInt_of_le (by omega) (by omega), ti32 (by unfold i32; omega)]
theorem z_sipush {n : Int} (hd : decode mi.2.1 pc = .ok (.sipush n, 3)) (hz : -32768 ≤ n ∧ n < 32768) (k : ZZ X b d mi G (pc + 3) L (vi n :: S) mem Q) : ZZ X b d mi G pc L S mem Q := by
  intro p l e R s m args below meth c D K ρ A n0 σ0 σ H locs cells slots mc ms ls hK hS hL hl
  have h : W p l e R s m args below meth c H locs cells slots (MQ below (zQ D K ρ n0 σ0 A Q) args s mc ms A) (F0 m (pc + 3) ls (.int (Int32.ofInt n) :: S.map (rv σ ρ))) := k p l e R s m args below meth c D K ρ A n0 σ0 σ H locs cells slots mc ms ls hK (so_cons (show i32 n by unfold i32; omega) hS) hL hl
  refine lv_sipush hK.1.1.1 hK.1.1.2.1 hd ?_ h
  apply Int32.toInt_inj.mp
  rw [Int16.toInt_toInt32, Int16.toInt_ofInt_of_le (by omega) (by omega), ti32 (by unfold i32; omega)]
theorem z_lconst {n : Fin 2} {z : Int} (hd : decode mi.2.1 pc = .ok (.lconst n, 1)) (hz : Int64.ofNat (n : Nat) = Int64.ofInt z) (hz2 : i64 z) (k : ZZ X b d mi G (pc + 1) L (vl z :: S) mem Q) : ZZ X b d mi G pc L S mem Q := by
  intro p l e R s m args below meth c D K ρ A n0 σ0 σ H locs cells slots mc ms ls hK hS hL hl
  have h : W p l e R s m args below meth c H locs cells slots (MQ below (zQ D K ρ n0 σ0 A Q) args s mc ms A) (F0 m (pc + 1) ls (.long (Int64.ofInt z) :: S.map (rv σ ρ))) := k p l e R s m args below meth c D K ρ A n0 σ0 σ H locs cells slots mc ms ls hK (so_cons hz2 hS) hL hl
  exact lv_lconst hK.1.1.1 hK.1.1.2.1 hd hz h
theorem z_ldc {i : Nat} {v : Int32} {z : Int} (hd : decode mi.2.1 pc = .ok (.ldc i, 2)) (hw : Cond.constant mi.1.cls i v ∈ wsG) (hz : v.toInt = z) (k : ZZ X b d mi G (pc + 2) L (vi z :: S) mem Q) : ZZ X b d mi G pc L S mem Q := by
  intro p l e R s m args below meth c D K ρ A n0 σ0 σ H locs cells slots mc ms ls hK hS hL hl
  subst hz
  have h : W p l e R s m args below meth c H locs cells slots (MQ below (zQ D K ρ n0 σ0 A Q) args s mc ms A) (F0 m (pc + 2) ls (.int (Int32.ofInt v.toInt) :: S.map (rv σ ρ))) := k p l e R s m args below meth c D K ρ A n0 σ0 σ H locs cells slots mc ms ls hK (so_cons (oi32 v) hS) hL hl
  rw [oi_t] at h
  exact lv_ldc hK.1.1.1 hK.1.1.2.1 hK.1.1.2.2.2.1 (hK.1.1.2.2.2.2 _ hw) hd h
theorem z_ldc2 {i : Nat} {v : Int64} {z : Int} (hd : decode mi.2.1 pc = .ok (.ldc2_w i, 3)) (hw : Cond.constantLong mi.1.cls i v ∈ wsG) (hz : v.toInt = z) (k : ZZ X b d mi G (pc + 3) L (vl z :: S) mem Q) : ZZ X b d mi G pc L S mem Q := by
  intro p l e R s m args below meth c D K ρ A n0 σ0 σ H locs cells slots mc ms ls hK hS hL hl
  subst hz
  have h : W p l e R s m args below meth c H locs cells slots (MQ below (zQ D K ρ n0 σ0 A Q) args s mc ms A) (F0 m (pc + 3) ls (.long (Int64.ofInt v.toInt) :: S.map (rv σ ρ))) := k p l e R s m args below meth c D K ρ A n0 σ0 σ H locs cells slots mc ms ls hK (so_cons (oi64 v) hS) hL hl
  rw [ol_t] at h
  exact lv_ldc2 hK.1.1.1 hK.1.1.2.1 hK.1.1.2.2.2.1 (hK.1.1.2.2.2.2 _ hw) hd h

theorem z_iload {i : Nat} {x : Int} (hd : decode mi.2.1 pc = .ok (.iload i, 2)) (hv : L[i]? = some (vi x)) (k : ZZ X b d mi G (pc + 2) L (vi x :: S) mem Q) : ZZ X b d mi G pc L S mem Q := by
  intro p l e R s m args below meth c D K ρ A n0 σ0 σ H locs cells slots mc ms ls hK hS hL hl
  have h : W p l e R s m args below meth c H locs cells slots (MQ below (zQ D K ρ n0 σ0 A Q) args s mc ms A) (F0 m (pc + 2) ls (.int (Int32.ofInt x) :: S.map (rv σ ρ))) := k p l e R s m args below meth c D K ρ A n0 σ0 σ H locs cells slots mc ms ls hK (so_cons (hL _ (List.mem_of_getElem? hv)) hS) hL hl
  exact lv_iload hK.1.1.1 hK.1.1.2.1 hd (hl.2.2 i _ hv (by intro q; cases q)) h
theorem z_iload_n {i : Fin 4} {x : Int} (hd : decode mi.2.1 pc = .ok (.iload_n i, 1)) (hv : L[(i : Nat)]? = some (vi x)) (k : ZZ X b d mi G (pc + 1) L (vi x :: S) mem Q) : ZZ X b d mi G pc L S mem Q := by
  intro p l e R s m args below meth c D K ρ A n0 σ0 σ H locs cells slots mc ms ls hK hS hL hl
  have h : W p l e R s m args below meth c H locs cells slots (MQ below (zQ D K ρ n0 σ0 A Q) args s mc ms A) (F0 m (pc + 1) ls (.int (Int32.ofInt x) :: S.map (rv σ ρ))) := k p l e R s m args below meth c D K ρ A n0 σ0 σ H locs cells slots mc ms ls hK (so_cons (hL _ (List.mem_of_getElem? hv)) hS) hL hl
  exact lv_iload_n hK.1.1.1 hK.1.1.2.1 hd rfl (hl.2.2 _ _ hv (by intro q; cases q)) h

theorem z_lload {i : Nat} {x : Int} (hd : decode mi.2.1 pc = .ok (.lload i, 2)) (hv : L[i]? = some (vl x)) (k : ZZ X b d mi G (pc + 2) L (vl x :: S) mem Q) : ZZ X b d mi G pc L S mem Q := by
  intro p l e R s m args below meth c D K ρ A n0 σ0 σ H locs cells slots mc ms ls hK hS hL hl
  have h : W p l e R s m args below meth c H locs cells slots (MQ below (zQ D K ρ n0 σ0 A Q) args s mc ms A) (F0 m (pc + 2) ls (.long (Int64.ofInt x) :: S.map (rv σ ρ))) := k p l e R s m args below meth c D K ρ A n0 σ0 σ H locs cells slots mc ms ls hK (so_cons (hL _ (List.mem_of_getElem? hv)) hS) hL hl
  exact lv_lload hK.1.1.1 hK.1.1.2.1 hd (hl.2.2 i _ hv (by intro q; cases q)) h
theorem z_lload_n {i : Fin 4} {x : Int} (hd : decode mi.2.1 pc = .ok (.lload_n i, 1)) (hv : L[(i : Nat)]? = some (vl x)) (k : ZZ X b d mi G (pc + 1) L (vl x :: S) mem Q) : ZZ X b d mi G pc L S mem Q := by
  intro p l e R s m args below meth c D K ρ A n0 σ0 σ H locs cells slots mc ms ls hK hS hL hl
  have h : W p l e R s m args below meth c H locs cells slots (MQ below (zQ D K ρ n0 σ0 A Q) args s mc ms A) (F0 m (pc + 1) ls (.long (Int64.ofInt x) :: S.map (rv σ ρ))) := k p l e R s m args below meth c D K ρ A n0 σ0 σ H locs cells slots mc ms ls hK (so_cons (hL _ (List.mem_of_getElem? hv)) hS) hL hl
  exact lv_lload_n hK.1.1.1 hK.1.1.2.1 hd rfl (hl.2.2 _ _ hv (by intro q; cases q)) h

theorem z_aload {i : Nat} {x : Nat} (hd : decode mi.2.1 pc = .ok (.aload i, 2)) (hv : L[i]? = some (vr x)) (k : ZZ X b d mi G (pc + 2) L (vr x :: S) mem Q) : ZZ X b d mi G pc L S mem Q := by
  intro p l e R s m args below meth c D K ρ A n0 σ0 σ H locs cells slots mc ms ls hK hS hL hl
  have h : W p l e R s m args below meth c H locs cells slots (MQ below (zQ D K ρ n0 σ0 A Q) args s mc ms A) (F0 m (pc + 2) ls (.ref (σ x) :: S.map (rv σ ρ))) := k p l e R s m args below meth c D K ρ A n0 σ0 σ H locs cells slots mc ms ls hK (so_cons (hL _ (List.mem_of_getElem? hv)) hS) hL hl
  exact lv_aload hK.1.1.1 hK.1.1.2.1 hd (hl.2.2 i _ hv (by intro q; cases q)) h
theorem z_aload_n {i : Fin 4} {x : Nat} (hd : decode mi.2.1 pc = .ok (.aload_n i, 1)) (hv : L[(i : Nat)]? = some (vr x)) (k : ZZ X b d mi G (pc + 1) L (vr x :: S) mem Q) : ZZ X b d mi G pc L S mem Q := by
  intro p l e R s m args below meth c D K ρ A n0 σ0 σ H locs cells slots mc ms ls hK hS hL hl
  have h : W p l e R s m args below meth c H locs cells slots (MQ below (zQ D K ρ n0 σ0 A Q) args s mc ms A) (F0 m (pc + 1) ls (.ref (σ x) :: S.map (rv σ ρ))) := k p l e R s m args below meth c D K ρ A n0 σ0 σ H locs cells slots mc ms ls hK (so_cons (hL _ (List.mem_of_getElem? hv)) hS) hL hl
  exact lv_aload_n hK.1.1.1 hK.1.1.2.1 hd rfl (hl.2.2 _ _ hv (by intro q; cases q)) h

theorem z_sload {i : Nat} {x : Nat} (hd : decode mi.2.1 pc = .ok (.aload i, 2)) (hv : L[i]? = some (vc x)) (k : ZZ X b d mi G (pc + 2) L (vc x :: S) mem Q) : ZZ X b d mi G pc L S mem Q := by
  intro p l e R s m args below meth c D K ρ A n0 σ0 σ H locs cells slots mc ms ls hK hS hL hl
  have h : W p l e R s m args below meth c H locs cells slots (MQ below (zQ D K ρ n0 σ0 A Q) args s mc ms A) (F0 m (pc + 2) ls (.ref (ρ x) :: S.map (rv σ ρ))) := k p l e R s m args below meth c D K ρ A n0 σ0 σ H locs cells slots mc ms ls hK (so_cons (hL _ (List.mem_of_getElem? hv)) hS) hL hl
  exact lv_aload hK.1.1.1 hK.1.1.2.1 hd (hl.2.2 i _ hv (by intro q; cases q)) h
theorem z_sload_n {i : Fin 4} {x : Nat} (hd : decode mi.2.1 pc = .ok (.aload_n i, 1)) (hv : L[(i : Nat)]? = some (vc x)) (k : ZZ X b d mi G (pc + 1) L (vc x :: S) mem Q) : ZZ X b d mi G pc L S mem Q := by
  intro p l e R s m args below meth c D K ρ A n0 σ0 σ H locs cells slots mc ms ls hK hS hL hl
  have h : W p l e R s m args below meth c H locs cells slots (MQ below (zQ D K ρ n0 σ0 A Q) args s mc ms A) (F0 m (pc + 1) ls (.ref (ρ x) :: S.map (rv σ ρ))) := k p l e R s m args below meth c D K ρ A n0 σ0 σ H locs cells slots mc ms ls hK (so_cons (hL _ (List.mem_of_getElem? hv)) hS) hL hl
  exact lv_aload_n hK.1.1.1 hK.1.1.2.1 hd rfl (hl.2.2 _ _ hv (by intro q; cases q)) h

/-- the slot ahead of i holds no long that is still listed -/
def okst (L : List VV) (i : Nat) : Bool := match i with
  | 0 => true
  | j + 1 => match L[j]? with
    | some (.inr (.inl _)) => false
    | _ => true
def asl (σ ρ : Nat → Nat) (L : List VV) : List (Nat × Value) := (List.range L.length).filterMap (fun i => match (L[i]? : Option VV) with
  | some (.inr (.inr (.inr (.inr _)))) => none
  | some v => some (i, rv σ ρ v)
  | none => none)
theorem asl_mem {σ ρ : Nat → Nat} {L : List VV} {i : Nat} {v : VV} (h : L[i]? = some v) (hv : v ≠ vd) : (i, rv σ ρ v) ∈ asl σ ρ L := by
  refine List.mem_filterMap.mpr ⟨i, List.mem_range.mpr (List.getElem?_eq_some_iff.mp h).1, ?_⟩
  rw [h]
  rcases v with z | z | a | j | u
  · rfl
  · rfl
  · rfl
  · rfl
  · exact absurd rfl hv
theorem asl_has {ls : Array Slot} {nL : Nat} {σ ρ : Nat → Nat} {L : List VV} (h : hasL ls nL σ ρ L) : lv_has ls nL (asl σ ρ L) := by
  refine ⟨h.1, h.2.1, fun q hq => ?_⟩
  obtain ⟨i, -, hi⟩ := List.mem_filterMap.mp hq
  cases hv : L[i]? with
  | none => rw [hv] at hi; cases hi
  | some v =>
    rw [hv] at hi
    rcases v with z | z | a | j | u
    · cases hi; exact h.2.2 i _ hv (by intro q; cases q)
    · cases hi; exact h.2.2 i _ hv (by intro q; cases q)
    · cases hi; exact h.2.2 i _ hv (by intro q; cases q)
    · cases hi; exact h.2.2 i _ hv (by intro q; cases q)
    · cases hi
theorem cat_rv {σ ρ : Nat → Nat} {v : VV} (h : (rv σ ρ v).category = 2) : ∃ z, v = vl z := by
  rcases v with z | z | a | j | u
  · cases h
  · exact ⟨z, rfl⟩
  · cases h
  · cases h
  · cases h
theorem okst_cat {L : List VV} {i j : Nat} {v : VV} {σ ρ : Nat → Nat} (h : okst L i = true) (hj : L[j]? = some v) (hij : j + 1 = i) : ¬ (rv σ ρ v).category = 2 := by
  intro hc
  obtain ⟨z, rfl⟩ := cat_rv hc
  subst hij
  simp [okst, hj] at h
/-- a word is stored -/
theorem hasL_st1 {ls' : Array Slot} {nL : Nat} {σ ρ : Nat → Nat} {L : List VV} {i : Nat} {v : VV} (hok : okst L i = true) (h' : lv_has ls' nL ((i, rv σ ρ v) :: (asl σ ρ L).filter (fun q => !(q.1 == i) && !(q.1 + 1 == i && q.2.category == 2)))) : hasL ls' nL σ ρ (L.set i v) := by
  refine ⟨h'.1, h'.2.1, fun j w hj hw => ?_⟩
  rw [List.getElem?_set] at hj
  by_cases e : i = j
  · subst e
    rw [if_pos rfl] at hj
    split at hj
    · cases hj
      exact h'.2.2 _ List.mem_cons_self
    · cases hj
  · rw [if_neg e] at hj
    refine h'.2.2 (j, rv σ ρ w) (List.mem_cons_of_mem _ (List.mem_filter.mpr ⟨asl_mem hj hw, ?_⟩))
    have h1 : (j == i) = false := by simp; omega
    by_cases h2 : j + 1 = i
    · have := okst_cat (σ := σ) (ρ := ρ) hok hj h2
      simp [h1, this]
    · simp [h1, h2]
/-- a long is stored: the next slot is taken -/
theorem hasL_st2 {ls' : Array Slot} {nL : Nat} {σ ρ : Nat → Nat} {L : List VV} {i : Nat} {v : VV} (hok : okst L i = true) (h' : lv_has ls' nL ((i, rv σ ρ v) :: (asl σ ρ L).filter (fun q => !(q.1 == i) && (!(q.1 == i + 1) && !(q.1 + 1 == i && q.2.category == 2))))) : hasL ls' nL σ ρ ((L.set i v).set (i + 1) vd) := by
  refine ⟨h'.1, h'.2.1, fun j w hj hw => ?_⟩
  rw [List.getElem?_set] at hj
  by_cases e1 : i + 1 = j
  · rw [if_pos e1] at hj
    split at hj
    · cases hj; exact absurd rfl hw
    · cases hj
  · rw [if_neg e1, List.getElem?_set] at hj
    by_cases e : i = j
    · subst e
      rw [if_pos rfl] at hj
      split at hj
      · cases hj
        exact h'.2.2 _ List.mem_cons_self
      · cases hj
    · rw [if_neg e] at hj
      refine h'.2.2 (j, rv σ ρ w) (List.mem_cons_of_mem _ (List.mem_filter.mpr ⟨asl_mem hj hw, ?_⟩))
      have h1 : (j == i) = false := by simp; omega
      have h3 : (j == i + 1) = false := by simp; omega
      by_cases h2 : j + 1 = i
      · have := okst_cat (σ := σ) (ρ := ρ) hok hj h2
        simp [h1, h3, this]
      · simp [h1, h3, h2]
theorem lo_set {n : Nat} {L : List VV} {i : Nat} {v : VV} (hL : ∀ x ∈ L, vok n x) (hv : vok n v) : ∀ x ∈ L.set i v, vok n x := by
  intro x hx
  rcases List.mem_or_eq_of_mem_set hx with h | h
  · exact hL x h
  · exact h ▸ hv
/-- a local that is no longer spoken of -/
theorem z_kill (i : Nat) (k : ZZ X b d mi G pc (L.set i vd) S mem Q) : ZZ X b d mi G pc L S mem Q := by
  intro p l e R s m args below meth c D K ρ A n0 σ0 σ H locs cells slots mc ms ls hK hS hL hl
  refine k p l e R s m args below meth c D K ρ A n0 σ0 σ H locs cells slots mc ms ls hK hS (lo_set hL trivial) ⟨hl.1, hl.2.1, fun j w hj hw => ?_⟩
  rw [List.getElem?_set] at hj
  by_cases e : i = j
  · subst e
    rw [if_pos rfl] at hj
    split at hj
    · cases hj; exact absurd rfl hw
    · cases hj
  · rw [if_neg e] at hj
    exact hl.2.2 j w hj hw

theorem z_istore {i : Nat} {x : Int} (hd : decode mi.2.1 pc = .ok (.istore i, 2)) (hn : i < mi.2.2.1) (hok : okst L i = true) (k : ZZ X b d mi G (pc + 2) (L.set i (vi x)) S mem Q) : ZZ X b d mi G pc L (vi x :: S) mem Q := by
  intro p l e R s m args below meth c D K ρ A n0 σ0 σ H locs cells slots mc ms ls hK hS hL hl
  show W p l e R s m args below meth c H locs cells slots (MQ below (zQ D K ρ n0 σ0 A Q) args s mc ms A) (F0 m (pc) ls (.int (Int32.ofInt x) :: S.map (rv σ ρ)))
  refine lv_istore hK.1.1.1 hK.1.1.2.1 hd (asl_has hl) hn rfl (fun ls' hl' => ?_)
  exact k p l e R s m args below meth c D K ρ A n0 σ0 σ H locs cells slots mc ms ls' hK (so_tl hS) (lo_set hL (so_hd hS)) (hasL_st1 (v := vi x) hok hl')
theorem z_istore_n {i : Fin 4} {x : Int} (hd : decode mi.2.1 pc = .ok (.istore_n i, 1)) (hn : (i : Nat) < mi.2.2.1) (hok : okst L i = true) (k : ZZ X b d mi G (pc + 1) (L.set (i : Nat) (vi x)) S mem Q) : ZZ X b d mi G pc L (vi x :: S) mem Q := by
  intro p l e R s m args below meth c D K ρ A n0 σ0 σ H locs cells slots mc ms ls hK hS hL hl
  show W p l e R s m args below meth c H locs cells slots (MQ below (zQ D K ρ n0 σ0 A Q) args s mc ms A) (F0 m (pc) ls (.int (Int32.ofInt x) :: S.map (rv σ ρ)))
  refine lv_istore_n hK.1.1.1 hK.1.1.2.1 hd rfl (asl_has hl) hn rfl (fun ls' hl' => ?_)
  exact k p l e R s m args below meth c D K ρ A n0 σ0 σ H locs cells slots mc ms ls' hK (so_tl hS) (lo_set hL (so_hd hS)) (hasL_st1 (v := vi x) hok hl')

theorem z_astore {i : Nat} {x : Nat} (hd : decode mi.2.1 pc = .ok (.astore i, 2)) (hn : i < mi.2.2.1) (hok : okst L i = true) (k : ZZ X b d mi G (pc + 2) (L.set i (vr x)) S mem Q) : ZZ X b d mi G pc L (vr x :: S) mem Q := by
  intro p l e R s m args below meth c D K ρ A n0 σ0 σ H locs cells slots mc ms ls hK hS hL hl
  show W p l e R s m args below meth c H locs cells slots (MQ below (zQ D K ρ n0 σ0 A Q) args s mc ms A) (F0 m (pc) ls (.ref (σ x) :: S.map (rv σ ρ)))
  refine lv_astore hK.1.1.1 hK.1.1.2.1 hd (asl_has hl) hn rfl (fun ls' hl' => ?_)
  exact k p l e R s m args below meth c D K ρ A n0 σ0 σ H locs cells slots mc ms ls' hK (so_tl hS) (lo_set hL (so_hd hS)) (hasL_st1 (v := vr x) hok hl')
theorem z_astore_n {i : Fin 4} {x : Nat} (hd : decode mi.2.1 pc = .ok (.astore_n i, 1)) (hn : (i : Nat) < mi.2.2.1) (hok : okst L i = true) (k : ZZ X b d mi G (pc + 1) (L.set (i : Nat) (vr x)) S mem Q) : ZZ X b d mi G pc L (vr x :: S) mem Q := by
  intro p l e R s m args below meth c D K ρ A n0 σ0 σ H locs cells slots mc ms ls hK hS hL hl
  show W p l e R s m args below meth c H locs cells slots (MQ below (zQ D K ρ n0 σ0 A Q) args s mc ms A) (F0 m (pc) ls (.ref (σ x) :: S.map (rv σ ρ)))
  refine lv_astore_n hK.1.1.1 hK.1.1.2.1 hd rfl (asl_has hl) hn rfl (fun ls' hl' => ?_)
  exact k p l e R s m args below meth c D K ρ A n0 σ0 σ H locs cells slots mc ms ls' hK (so_tl hS) (lo_set hL (so_hd hS)) (hasL_st1 (v := vr x) hok hl')

theorem z_sstore {i : Nat} {x : Nat} (hd : decode mi.2.1 pc = .ok (.astore i, 2)) (hn : i < mi.2.2.1) (hok : okst L i = true) (k : ZZ X b d mi G (pc + 2) (L.set i (vc x)) S mem Q) : ZZ X b d mi G pc L (vc x :: S) mem Q := by
  intro p l e R s m args below meth c D K ρ A n0 σ0 σ H locs cells slots mc ms ls hK hS hL hl
  show W p l e R s m args below meth c H locs cells slots (MQ below (zQ D K ρ n0 σ0 A Q) args s mc ms A) (F0 m (pc) ls (.ref (ρ x) :: S.map (rv σ ρ)))
  refine lv_astore hK.1.1.1 hK.1.1.2.1 hd (asl_has hl) hn rfl (fun ls' hl' => ?_)
  exact k p l e R s m args below meth c D K ρ A n0 σ0 σ H locs cells slots mc ms ls' hK (so_tl hS) (lo_set hL (so_hd hS)) (hasL_st1 (v := vc x) hok hl')
theorem z_sstore_n {i : Fin 4} {x : Nat} (hd : decode mi.2.1 pc = .ok (.astore_n i, 1)) (hn : (i : Nat) < mi.2.2.1) (hok : okst L i = true) (k : ZZ X b d mi G (pc + 1) (L.set (i : Nat) (vc x)) S mem Q) : ZZ X b d mi G pc L (vc x :: S) mem Q := by
  intro p l e R s m args below meth c D K ρ A n0 σ0 σ H locs cells slots mc ms ls hK hS hL hl
  show W p l e R s m args below meth c H locs cells slots (MQ below (zQ D K ρ n0 σ0 A Q) args s mc ms A) (F0 m (pc) ls (.ref (ρ x) :: S.map (rv σ ρ)))
  refine lv_astore_n hK.1.1.1 hK.1.1.2.1 hd rfl (asl_has hl) hn rfl (fun ls' hl' => ?_)
  exact k p l e R s m args below meth c D K ρ A n0 σ0 σ H locs cells slots mc ms ls' hK (so_tl hS) (lo_set hL (so_hd hS)) (hasL_st1 (v := vc x) hok hl')

theorem z_lstore {i : Nat} {x : Int} (hd : decode mi.2.1 pc = .ok (.lstore i, 2)) (hn : i + 1 < mi.2.2.1) (hok : okst L i = true) (k : ZZ X b d mi G (pc + 2) ((L.set i (vl x)).set (i + 1) vd) S mem Q) : ZZ X b d mi G pc L (vl x :: S) mem Q := by
  intro p l e R s m args below meth c D K ρ A n0 σ0 σ H locs cells slots mc ms ls hK hS hL hl
  show W p l e R s m args below meth c H locs cells slots (MQ below (zQ D K ρ n0 σ0 A Q) args s mc ms A) (F0 m (pc) ls (.long (Int64.ofInt x) :: S.map (rv σ ρ)))
  refine lv_lstore hK.1.1.1 hK.1.1.2.1 hd (asl_has hl) hn rfl (fun ls' hl' => ?_)
  exact k p l e R s m args below meth c D K ρ A n0 σ0 σ H locs cells slots mc ms ls' hK (so_tl hS) (lo_set (lo_set hL (so_hd hS)) trivial) (hasL_st2 (v := vl x) hok hl')
theorem z_lstore_n {i : Fin 4} {x : Int} (hd : decode mi.2.1 pc = .ok (.lstore_n i, 1)) (hn : (i : Nat) + 1 < mi.2.2.1) (hok : okst L i = true) (k : ZZ X b d mi G (pc + 1) ((L.set (i : Nat) (vl x)).set ((i : Nat) + 1) vd) S mem Q) : ZZ X b d mi G pc L (vl x :: S) mem Q := by
  intro p l e R s m args below meth c D K ρ A n0 σ0 σ H locs cells slots mc ms ls hK hS hL hl
  show W p l e R s m args below meth c H locs cells slots (MQ below (zQ D K ρ n0 σ0 A Q) args s mc ms A) (F0 m (pc) ls (.long (Int64.ofInt x) :: S.map (rv σ ρ)))
  refine lv_lstore_n hK.1.1.1 hK.1.1.2.1 hd rfl (asl_has hl) hn rfl (fun ls' hl' => ?_)
  exact k p l e R s m args below meth c D K ρ A n0 σ0 σ H locs cells slots mc ms ls' hK (so_tl hS) (lo_set (lo_set hL (so_hd hS)) trivial) (hasL_st2 (v := vl x) hok hl')

theorem asl_idx {σ ρ : Nat → Nat} {L : List VV} {i : Nat} {v : VV} (h : L[i]? = some v) (hv : v ≠ vd) : ∃ k : Nat, (asl σ ρ L)[k]? = some (i, rv σ ρ v) := List.getElem?_of_mem (asl_mem h hv)
theorem z_iincw {i : Nat} {n x : Int} (hd : decode mi.2.1 pc = .ok (.iinc i n, 3)) (hv : L[i]? = some (vi x)) (hn : i < mi.2.2.1) (hok : okst L i = true) (k : ZZ X b d mi G (pc + 3) (L.set i (vi (w32 (x + n)))) S mem Q) : ZZ X b d mi G pc L S mem Q := by
  intro p l e R s m args below meth c D K ρ A n0 σ0 σ H locs cells slots mc ms ls hK hS hL hl
  obtain ⟨q, hq⟩ := asl_idx (σ := σ) (ρ := ρ) hv (by intro q; cases q)
  refine lv_iinc (v := Int32.ofInt (w32 (x + n))) hK.1.1.1 hK.1.1.2.1 hd (asl_has hl) (k := q) hq (by rw [ofInt_w32, Int32.ofInt_add]) hn rfl (fun ls' hl' => ?_)
  exact k p l e R s m args below meth c D K ρ A n0 σ0 σ H locs cells slots mc ms ls' hK hS (lo_set hL (w32_ok _)) (hasL_st1 (v := vi (w32 (x + n))) hok hl')
theorem z_iinc {i : Nat} {n x : Int} (hd : decode mi.2.1 pc = .ok (.iinc i n, 3)) (hv : L[i]? = some (vi x)) (hr : i32 (x + n)) (hn : i < mi.2.2.1) (hok : okst L i = true) (k : ZZ X b d mi G (pc + 3) (L.set i (vi (x + n))) S mem Q) : ZZ X b d mi G pc L S mem Q := z_iincw hd hv hn hok (by rw [w32_id hr]; exact k)

theorem cat1 {σ ρ : Nat → Nat} {v : VV} (h : ∀ z, v ≠ vl z) : (rv σ ρ v).category = 1 := by
  rcases lv_cat (rv σ ρ v) with q | q
  · exact q
  · obtain ⟨z, hz⟩ := cat_rv q
    exact absurd hz (h z)
theorem z_dup {v : VV} (hd : decode mi.2.1 pc = .ok (.dup, 1)) (hv : ∀ z, v ≠ vl z) (k : ZZ X b d mi G (pc + 1) L (v :: v :: S) mem Q) : ZZ X b d mi G pc L (v :: S) mem Q := by
  intro p l e R s m args below meth c D K ρ A n0 σ0 σ H locs cells slots mc ms ls hK hS hL hl
  have h : W p l e R s m args below meth c H locs cells slots (MQ below (zQ D K ρ n0 σ0 A Q) args s mc ms A) (F0 m (pc + 1) ls (rv σ ρ v :: rv σ ρ v :: S.map (rv σ ρ))) := k p l e R s m args below meth c D K ρ A n0 σ0 σ H locs cells slots mc ms ls hK (so_cons (so_hd hS) hS) hL hl
  exact lv_dup hK.1.1.1 hK.1.1.2.1 hd (cat1 hv) h
theorem z_pop {v : VV} (hd : decode mi.2.1 pc = .ok (.pop, 1)) (hv : ∀ z, v ≠ vl z) (k : ZZ X b d mi G (pc + 1) L S mem Q) : ZZ X b d mi G pc L (v :: S) mem Q := by
  intro p l e R s m args below meth c D K ρ A n0 σ0 σ H locs cells slots mc ms ls hK hS hL hl
  have h : W p l e R s m args below meth c H locs cells slots (MQ below (zQ D K ρ n0 σ0 A Q) args s mc ms A) (F0 m (pc + 1) ls (S.map (rv σ ρ))) := k p l e R s m args below meth c D K ρ A n0 σ0 σ H locs cells slots mc ms ls hK (so_tl hS) hL hl
  exact lv_pop hK.1.1.1 hK.1.1.2.1 hd (cat1 hv) h
theorem z_dup2 {v w : VV} (hd : decode mi.2.1 pc = .ok (.dup2, 1)) (hv : ∀ z, v ≠ vl z) (hw : ∀ z, w ≠ vl z) (k : ZZ X b d mi G (pc + 1) L (v :: w :: v :: w :: S) mem Q) : ZZ X b d mi G pc L (v :: w :: S) mem Q := by
  intro p l e R s m args below meth c D K ρ A n0 σ0 σ H locs cells slots mc ms ls hK hS hL hl
  have h : W p l e R s m args below meth c H locs cells slots (MQ below (zQ D K ρ n0 σ0 A Q) args s mc ms A) (F0 m (pc + 1) ls (rv σ ρ v :: rv σ ρ w :: rv σ ρ v :: rv σ ρ w :: S.map (rv σ ρ))) := k p l e R s m args below meth c D K ρ A n0 σ0 σ H locs cells slots mc ms ls hK (so_cons (so_hd hS) (so_cons (so_hd (so_tl hS)) hS)) hL hl
  exact lv_dup2_11 hK.1.1.1 hK.1.1.2.1 hd (cat1 hv) (cat1 hw) h

theorem z_icmp_eq {x y off : Int} (tgt : Nat) (hd : decode mi.2.1 pc = .ok (.if_icmp .eq off, 3)) (ht : (pc : Int) + off = (tgt : Int)) (kt : x = y → ZZ X b d mi G tgt L S mem Q) (kf : ¬ (x = y) → ZZ X b d mi G (pc + 3) L S mem Q) : ZZ X b d mi G pc L (vi y :: vi x :: S) mem Q := by
  intro p l e R s m args below meth c D K ρ A n0 σ0 σ H locs cells slots mc ms ls hK hS hL hl
  show W p l e R s m args below meth c H locs cells slots (MQ below (zQ D K ρ n0 σ0 A Q) args s mc ms A) (F0 m (pc) ls (.int (Int32.ofInt y) :: .int (Int32.ofInt x) :: S.map (rv σ ρ)))
  have hx : i32 x := so_hd (so_tl hS)
  have hy : i32 y := so_hd hS
  have hiff : (Int32.ofInt x = Int32.ofInt y) ↔ (x = y) := by rw [← Int32.toInt_inj, ti32 hx, ti32 hy]
  exact lv_icmp_eq hK.1.1.1 hK.1.1.2.1 hd ht (fun q => kt (hiff.mp q) p l e R s m args below meth c D K ρ A n0 σ0 σ H locs cells slots mc ms ls hK (so_tl (so_tl hS)) hL hl) (fun q => kf (fun z => q (hiff.mpr z)) p l e R s m args below meth c D K ρ A n0 σ0 σ H locs cells slots mc ms ls hK (so_tl (so_tl hS)) hL hl)

theorem z_if_eq {x off : Int} (tgt : Nat) (hd : decode mi.2.1 pc = .ok (.ifCond .eq off, 3)) (ht : (pc : Int) + off = (tgt : Int)) (kt : x = 0 → ZZ X b d mi G tgt L S mem Q) (kf : ¬ (x = 0) → ZZ X b d mi G (pc + 3) L S mem Q) : ZZ X b d mi G pc L (vi x :: S) mem Q := by
  intro p l e R s m args below meth c D K ρ A n0 σ0 σ H locs cells slots mc ms ls hK hS hL hl
  show W p l e R s m args below meth c H locs cells slots (MQ below (zQ D K ρ n0 σ0 A Q) args s mc ms A) (F0 m (pc) ls (.int (Int32.ofInt x) :: S.map (rv σ ρ)))
  have hx : i32 x := so_hd hS
  have hiff : (Int32.ofInt x = (0 : Int32)) ↔ (x = 0) := by rw [← Int32.toInt_inj, ti32 hx, Int32.toInt_zero]
  exact lv_if_eq hK.1.1.1 hK.1.1.2.1 hd ht (fun q => kt (hiff.mp q) p l e R s m args below meth c D K ρ A n0 σ0 σ H locs cells slots mc ms ls hK (so_tl hS) hL hl) (fun q => kf (fun z => q (hiff.mpr z)) p l e R s m args below meth c D K ρ A n0 σ0 σ H locs cells slots mc ms ls hK (so_tl hS) hL hl)

theorem z_icmp_ne {x y off : Int} (tgt : Nat) (hd : decode mi.2.1 pc = .ok (.if_icmp .ne off, 3)) (ht : (pc : Int) + off = (tgt : Int)) (kt : ¬ x = y → ZZ X b d mi G tgt L S mem Q) (kf : x = y → ZZ X b d mi G (pc + 3) L S mem Q) : ZZ X b d mi G pc L (vi y :: vi x :: S) mem Q := by
  intro p l e R s m args below meth c D K ρ A n0 σ0 σ H locs cells slots mc ms ls hK hS hL hl
  show W p l e R s m args below meth c H locs cells slots (MQ below (zQ D K ρ n0 σ0 A Q) args s mc ms A) (F0 m (pc) ls (.int (Int32.ofInt y) :: .int (Int32.ofInt x) :: S.map (rv σ ρ)))
  have hx : i32 x := so_hd (so_tl hS)
  have hy : i32 y := so_hd hS
  have hiff : (¬ Int32.ofInt x = Int32.ofInt y) ↔ (¬ x = y) := by rw [← Int32.toInt_inj, ti32 hx, ti32 hy]
  exact lv_icmp_ne hK.1.1.1 hK.1.1.2.1 hd ht (fun q => kt (hiff.mp q) p l e R s m args below meth c D K ρ A n0 σ0 σ H locs cells slots mc ms ls hK (so_tl (so_tl hS)) hL hl) (fun q => kf (Classical.byContradiction fun w => hiff.mpr w q) p l e R s m args below meth c D K ρ A n0 σ0 σ H locs cells slots mc ms ls hK (so_tl (so_tl hS)) hL hl)

theorem z_if_ne {x off : Int} (tgt : Nat) (hd : decode mi.2.1 pc = .ok (.ifCond .ne off, 3)) (ht : (pc : Int) + off = (tgt : Int)) (kt : ¬ x = 0 → ZZ X b d mi G tgt L S mem Q) (kf : x = 0 → ZZ X b d mi G (pc + 3) L S mem Q) : ZZ X b d mi G pc L (vi x :: S) mem Q := by
  intro p l e R s m args below meth c D K ρ A n0 σ0 σ H locs cells slots mc ms ls hK hS hL hl
  show W p l e R s m args below meth c H locs cells slots (MQ below (zQ D K ρ n0 σ0 A Q) args s mc ms A) (F0 m (pc) ls (.int (Int32.ofInt x) :: S.map (rv σ ρ)))
  have hx : i32 x := so_hd hS
  have hiff : (¬ Int32.ofInt x = (0 : Int32)) ↔ (¬ x = 0) := by rw [← Int32.toInt_inj, ti32 hx, Int32.toInt_zero]
  exact lv_if_ne hK.1.1.1 hK.1.1.2.1 hd ht (fun q => kt (hiff.mp q) p l e R s m args below meth c D K ρ A n0 σ0 σ H locs cells slots mc ms ls hK (so_tl hS) hL hl) (fun q => kf (Classical.byContradiction fun w => hiff.mpr w q) p l e R s m args below meth c D K ρ A n0 σ0 σ H locs cells slots mc ms ls hK (so_tl hS) hL hl)

theorem z_icmp_lt {x y off : Int} (tgt : Nat) (hd : decode mi.2.1 pc = .ok (.if_icmp .lt off, 3)) (ht : (pc : Int) + off = (tgt : Int)) (kt : x < y → ZZ X b d mi G tgt L S mem Q) (kf : ¬ (x < y) → ZZ X b d mi G (pc + 3) L S mem Q) : ZZ X b d mi G pc L (vi y :: vi x :: S) mem Q := by
  intro p l e R s m args below meth c D K ρ A n0 σ0 σ H locs cells slots mc ms ls hK hS hL hl
  show W p l e R s m args below meth c H locs cells slots (MQ below (zQ D K ρ n0 σ0 A Q) args s mc ms A) (F0 m (pc) ls (.int (Int32.ofInt y) :: .int (Int32.ofInt x) :: S.map (rv σ ρ)))
  have hx : i32 x := so_hd (so_tl hS)
  have hy : i32 y := so_hd hS
  have hiff : (Int32.ofInt x < Int32.ofInt y) ↔ (x < y) := by rw [Int32.lt_iff_toInt_lt, ti32 hx, ti32 hy]
  exact lv_icmp_lt hK.1.1.1 hK.1.1.2.1 hd ht (fun q => kt (hiff.mp q) p l e R s m args below meth c D K ρ A n0 σ0 σ H locs cells slots mc ms ls hK (so_tl (so_tl hS)) hL hl) (fun q => kf (fun z => q (hiff.mpr z)) p l e R s m args below meth c D K ρ A n0 σ0 σ H locs cells slots mc ms ls hK (so_tl (so_tl hS)) hL hl)

theorem z_if_lt {x off : Int} (tgt : Nat) (hd : decode mi.2.1 pc = .ok (.ifCond .lt off, 3)) (ht : (pc : Int) + off = (tgt : Int)) (kt : x < 0 → ZZ X b d mi G tgt L S mem Q) (kf : ¬ (x < 0) → ZZ X b d mi G (pc + 3) L S mem Q) : ZZ X b d mi G pc L (vi x :: S) mem Q := by
  intro p l e R s m args below meth c D K ρ A n0 σ0 σ H locs cells slots mc ms ls hK hS hL hl
  show W p l e R s m args below meth c H locs cells slots (MQ below (zQ D K ρ n0 σ0 A Q) args s mc ms A) (F0 m (pc) ls (.int (Int32.ofInt x) :: S.map (rv σ ρ)))
  have hx : i32 x := so_hd hS
  have hiff : (Int32.ofInt x < (0 : Int32)) ↔ (x < 0) := by rw [Int32.lt_iff_toInt_lt, ti32 hx, Int32.toInt_zero]
  exact lv_if_lt hK.1.1.1 hK.1.1.2.1 hd ht (fun q => kt (hiff.mp q) p l e R s m args below meth c D K ρ A n0 σ0 σ H locs cells slots mc ms ls hK (so_tl hS) hL hl) (fun q => kf (fun z => q (hiff.mpr z)) p l e R s m args below meth c D K ρ A n0 σ0 σ H locs cells slots mc ms ls hK (so_tl hS) hL hl)

theorem z_icmp_ge {x y off : Int} (tgt : Nat) (hd : decode mi.2.1 pc = .ok (.if_icmp .ge off, 3)) (ht : (pc : Int) + off = (tgt : Int)) (kt : y ≤ x → ZZ X b d mi G tgt L S mem Q) (kf : ¬ (y ≤ x) → ZZ X b d mi G (pc + 3) L S mem Q) : ZZ X b d mi G pc L (vi y :: vi x :: S) mem Q := by
  intro p l e R s m args below meth c D K ρ A n0 σ0 σ H locs cells slots mc ms ls hK hS hL hl
  show W p l e R s m args below meth c H locs cells slots (MQ below (zQ D K ρ n0 σ0 A Q) args s mc ms A) (F0 m (pc) ls (.int (Int32.ofInt y) :: .int (Int32.ofInt x) :: S.map (rv σ ρ)))
  have hx : i32 x := so_hd (so_tl hS)
  have hy : i32 y := so_hd hS
  have hiff : (Int32.ofInt y ≤ Int32.ofInt x) ↔ (y ≤ x) := by rw [Int32.le_iff_toInt_le, ti32 hx, ti32 hy]
  exact lv_icmp_ge hK.1.1.1 hK.1.1.2.1 hd ht (fun q => kt (hiff.mp q) p l e R s m args below meth c D K ρ A n0 σ0 σ H locs cells slots mc ms ls hK (so_tl (so_tl hS)) hL hl) (fun q => kf (fun z => q (hiff.mpr z)) p l e R s m args below meth c D K ρ A n0 σ0 σ H locs cells slots mc ms ls hK (so_tl (so_tl hS)) hL hl)

theorem z_if_ge {x off : Int} (tgt : Nat) (hd : decode mi.2.1 pc = .ok (.ifCond .ge off, 3)) (ht : (pc : Int) + off = (tgt : Int)) (kt : 0 ≤ x → ZZ X b d mi G tgt L S mem Q) (kf : ¬ (0 ≤ x) → ZZ X b d mi G (pc + 3) L S mem Q) : ZZ X b d mi G pc L (vi x :: S) mem Q := by
  intro p l e R s m args below meth c D K ρ A n0 σ0 σ H locs cells slots mc ms ls hK hS hL hl
  show W p l e R s m args below meth c H locs cells slots (MQ below (zQ D K ρ n0 σ0 A Q) args s mc ms A) (F0 m (pc) ls (.int (Int32.ofInt x) :: S.map (rv σ ρ)))
  have hx : i32 x := so_hd hS
  have hiff : ((0 : Int32) ≤ Int32.ofInt x) ↔ (0 ≤ x) := by rw [Int32.le_iff_toInt_le, ti32 hx, Int32.toInt_zero]
  exact lv_if_ge hK.1.1.1 hK.1.1.2.1 hd ht (fun q => kt (hiff.mp q) p l e R s m args below meth c D K ρ A n0 σ0 σ H locs cells slots mc ms ls hK (so_tl hS) hL hl) (fun q => kf (fun z => q (hiff.mpr z)) p l e R s m args below meth c D K ρ A n0 σ0 σ H locs cells slots mc ms ls hK (so_tl hS) hL hl)

theorem z_icmp_gt {x y off : Int} (tgt : Nat) (hd : decode mi.2.1 pc = .ok (.if_icmp .gt off, 3)) (ht : (pc : Int) + off = (tgt : Int)) (kt : y < x → ZZ X b d mi G tgt L S mem Q) (kf : ¬ (y < x) → ZZ X b d mi G (pc + 3) L S mem Q) : ZZ X b d mi G pc L (vi y :: vi x :: S) mem Q := by
  intro p l e R s m args below meth c D K ρ A n0 σ0 σ H locs cells slots mc ms ls hK hS hL hl
  show W p l e R s m args below meth c H locs cells slots (MQ below (zQ D K ρ n0 σ0 A Q) args s mc ms A) (F0 m (pc) ls (.int (Int32.ofInt y) :: .int (Int32.ofInt x) :: S.map (rv σ ρ)))
  have hx : i32 x := so_hd (so_tl hS)
  have hy : i32 y := so_hd hS
  have hiff : (Int32.ofInt y < Int32.ofInt x) ↔ (y < x) := by rw [Int32.lt_iff_toInt_lt, ti32 hx, ti32 hy]
  exact lv_icmp_gt hK.1.1.1 hK.1.1.2.1 hd ht (fun q => kt (hiff.mp q) p l e R s m args below meth c D K ρ A n0 σ0 σ H locs cells slots mc ms ls hK (so_tl (so_tl hS)) hL hl) (fun q => kf (fun z => q (hiff.mpr z)) p l e R s m args below meth c D K ρ A n0 σ0 σ H locs cells slots mc ms ls hK (so_tl (so_tl hS)) hL hl)

theorem z_if_gt {x off : Int} (tgt : Nat) (hd : decode mi.2.1 pc = .ok (.ifCond .gt off, 3)) (ht : (pc : Int) + off = (tgt : Int)) (kt : 0 < x → ZZ X b d mi G tgt L S mem Q) (kf : ¬ (0 < x) → ZZ X b d mi G (pc + 3) L S mem Q) : ZZ X b d mi G pc L (vi x :: S) mem Q := by
  intro p l e R s m args below meth c D K ρ A n0 σ0 σ H locs cells slots mc ms ls hK hS hL hl
  show W p l e R s m args below meth c H locs cells slots (MQ below (zQ D K ρ n0 σ0 A Q) args s mc ms A) (F0 m (pc) ls (.int (Int32.ofInt x) :: S.map (rv σ ρ)))
  have hx : i32 x := so_hd hS
  have hiff : ((0 : Int32) < Int32.ofInt x) ↔ (0 < x) := by rw [Int32.lt_iff_toInt_lt, ti32 hx, Int32.toInt_zero]
  exact lv_if_gt hK.1.1.1 hK.1.1.2.1 hd ht (fun q => kt (hiff.mp q) p l e R s m args below meth c D K ρ A n0 σ0 σ H locs cells slots mc ms ls hK (so_tl hS) hL hl) (fun q => kf (fun z => q (hiff.mpr z)) p l e R s m args below meth c D K ρ A n0 σ0 σ H locs cells slots mc ms ls hK (so_tl hS) hL hl)

theorem z_icmp_le {x y off : Int} (tgt : Nat) (hd : decode mi.2.1 pc = .ok (.if_icmp .le off, 3)) (ht : (pc : Int) + off = (tgt : Int)) (kt : x ≤ y → ZZ X b d mi G tgt L S mem Q) (kf : ¬ (x ≤ y) → ZZ X b d mi G (pc + 3) L S mem Q) : ZZ X b d mi G pc L (vi y :: vi x :: S) mem Q := by
  intro p l e R s m args below meth c D K ρ A n0 σ0 σ H locs cells slots mc ms ls hK hS hL hl
  show W p l e R s m args below meth c H locs cells slots (MQ below (zQ D K ρ n0 σ0 A Q) args s mc ms A) (F0 m (pc) ls (.int (Int32.ofInt y) :: .int (Int32.ofInt x) :: S.map (rv σ ρ)))
  have hx : i32 x := so_hd (so_tl hS)
  have hy : i32 y := so_hd hS
  have hiff : (Int32.ofInt x ≤ Int32.ofInt y) ↔ (x ≤ y) := by rw [Int32.le_iff_toInt_le, ti32 hx, ti32 hy]
  exact lv_icmp_le hK.1.1.1 hK.1.1.2.1 hd ht (fun q => kt (hiff.mp q) p l e R s m args below meth c D K ρ A n0 σ0 σ H locs cells slots mc ms ls hK (so_tl (so_tl hS)) hL hl) (fun q => kf (fun z => q (hiff.mpr z)) p l e R s m args below meth c D K ρ A n0 σ0 σ H locs cells slots mc ms ls hK (so_tl (so_tl hS)) hL hl)

theorem z_if_le {x off : Int} (tgt : Nat) (hd : decode mi.2.1 pc = .ok (.ifCond .le off, 3)) (ht : (pc : Int) + off = (tgt : Int)) (kt : x ≤ 0 → ZZ X b d mi G tgt L S mem Q) (kf : ¬ (x ≤ 0) → ZZ X b d mi G (pc + 3) L S mem Q) : ZZ X b d mi G pc L (vi x :: S) mem Q := by
  intro p l e R s m args below meth c D K ρ A n0 σ0 σ H locs cells slots mc ms ls hK hS hL hl
  show W p l e R s m args below meth c H locs cells slots (MQ below (zQ D K ρ n0 σ0 A Q) args s mc ms A) (F0 m (pc) ls (.int (Int32.ofInt x) :: S.map (rv σ ρ)))
  have hx : i32 x := so_hd hS
  have hiff : (Int32.ofInt x ≤ (0 : Int32)) ↔ (x ≤ 0) := by rw [Int32.le_iff_toInt_le, ti32 hx, Int32.toInt_zero]
  exact lv_if_le hK.1.1.1 hK.1.1.2.1 hd ht (fun q => kt (hiff.mp q) p l e R s m args below meth c D K ρ A n0 σ0 σ H locs cells slots mc ms ls hK (so_tl hS) hL hl) (fun q => kf (fun z => q (hiff.mpr z)) p l e R s m args below meth c D K ρ A n0 σ0 σ H locs cells slots mc ms ls hK (so_tl hS) hL hl)

theorem z_goto {off : Int} (tgt : Nat) (hd : decode mi.2.1 pc = .ok (.goto off, 3)) (ht : (pc : Int) + off = (tgt : Int)) (k : ZZ X b d mi G tgt L S mem Q) : ZZ X b d mi G pc L S mem Q := by
  intro p l e R s m args below meth c D K ρ A n0 σ0 σ H locs cells slots mc ms ls hK hS hL hl
  exact lv_goto hK.1.1.1 hK.1.1.2.1 hd ht (k p l e R s m args below meth c D K ρ A n0 σ0 σ H locs cells slots mc ms ls hK hS hL hl)
theorem z_tableOut {dflt lo hi x : Int} {offs : Array Int} {len : Nat} (tgt : Nat) (hd : decode mi.2.1 pc = .ok (.tableswitch dflt lo hi offs, len)) (h : x < lo ∨ hi < x) (ht : (pc : Int) + dflt = (tgt : Int)) (k : ZZ X b d mi G tgt L S mem Q) : ZZ X b d mi G pc L (vi x :: S) mem Q := by
  intro p l e R s m args below meth c D K ρ A n0 σ0 σ H locs cells slots mc ms ls hK hS hL hl
  show W p l e R s m args below meth c H locs cells slots (MQ below (zQ D K ρ n0 σ0 A Q) args s mc ms A) (F0 m (pc) ls (.int (Int32.ofInt x) :: S.map (rv σ ρ)))
  exact lv_tableOut hK.1.1.1 hK.1.1.2.1 hd (by rw [ti32 (so_hd hS)]; exact h) ht (k p l e R s m args below meth c D K ρ A n0 σ0 σ H locs cells slots mc ms ls hK (so_tl hS) hL hl)
theorem z_tableIn {dflt lo hi x off : Int} {offs : Array Int} {len : Nat} (tgt : Nat) (hd : decode mi.2.1 pc = .ok (.tableswitch dflt lo hi offs, len)) (h1 : ¬ x < lo) (h2 : ¬ hi < x) (ho : offs[(x - lo).toNat]? = some off) (ht : (pc : Int) + off = (tgt : Int)) (k : ZZ X b d mi G tgt L S mem Q) : ZZ X b d mi G pc L (vi x :: S) mem Q := by
  intro p l e R s m args below meth c D K ρ A n0 σ0 σ H locs cells slots mc ms ls hK hS hL hl
  show W p l e R s m args below meth c H locs cells slots (MQ below (zQ D K ρ n0 σ0 A Q) args s mc ms A) (F0 m (pc) ls (.int (Int32.ofInt x) :: S.map (rv σ ρ)))
  have hxx : (Int32.ofInt x).toInt = x := ti32 (so_hd hS)
  exact lv_tableIn hK.1.1.1 hK.1.1.2.1 hd (by rw [hxx]; exact h1) (by rw [hxx]; exact h2) (by rw [hxx]; exact ho) ht (k p l e R s m args below meth c D K ρ A n0 σ0 σ H locs cells slots mc ms ls hK (so_tl hS) hL hl)

theorem ZZ.mono {Q' : zPost} (h : ∀ G v m, Q' G v m → Q G v m) (k : ZZ X b d mi G pc L S mem Q') : ZZ X b d mi G pc L S mem Q := by
  intro p l e R s m args below meth c D K ρ A n0 σ0 σ H locs cells slots mc ms ls hK hS hL hl T hT Xs
  obtain ⟨t, a1, o, b1, b2, ⟨⟨G', σ', v, mem', c1, c2, c3⟩, b4⟩, b5⟩ := k p l e R s m args below meth c D K ρ A n0 σ0 σ H locs cells slots mc ms ls hK hS hL hl T hT Xs
  exact ⟨t, a1, o, b1, b2, ⟨⟨G', σ', v, mem', c1, h _ _ _ c2, c3⟩, b4⟩, b5⟩
theorem ZZ.eqm {mem' : Mem} (h : mem = mem') (k : ZZ X b d mi G pc L S mem' Q) : ZZ X b d mi G pc L S mem Q := h ▸ k
theorem ZZ.eqL {L' : List VV} (h : L = L') (k : ZZ X b d mi G pc L' S mem Q) : ZZ X b d mi G pc L S mem Q := h ▸ k
theorem ZZ.eqS {S' : List VV} (h : S = S') (k : ZZ X b d mi G pc L S' mem Q) : ZZ X b d mi G pc L S mem Q := h ▸ k
/-- what the frame itself says of its values -/
theorem ZZ.know (k : (∀ v ∈ S, vok G.length v) → (∀ v ∈ L, vok G.length v) → mok G mem → ZZ X b d mi G pc L S mem Q) : ZZ X b d mi G pc L S mem Q := by
  intro p l e R s m args below meth c D K ρ A n0 σ0 σ H locs cells slots mc ms ls hK hS hL hl
  exact k hS hL hK.2.2.2.2.2.2.2.2.2.2.2 p l e R s m args below meth c D K ρ A n0 σ0 σ H locs cells slots mc ms ls hK hS hL hl

end RulesA
end
section
section RulesB
variable {X : Nat × (Int → Int)} {b : Nat × Nat} {d : Nat} {mi : MI} {G : List GC} {pc : Nat} {L S : List VV} {mem : Mem} {Q : zPost}
-- what a class of ours is, by its number
def clOK (ci : Nat) (C : String) (T : u_T) (N : Nat) : Prop := vwCl[ci]? = some (C, T, N) ∧ (∀ w ∈ u_ws C T N, w ∈ wsG) ∧ (∀ k, k < N → parseFieldDescriptor (T k).2.2.1 = some (tyC ci k)) ∧ (∀ a, a < N → ∀ b, b < N → a ≠ b → (T a).2.1 ≠ (T b).2.1)
-- a field by the place in the constant pool of a class of ours
def fdOK (own : String) (idx ci k : Nat) : Prop := ∃ (C : String) (T : u_T) (N : Nat), clOK ci C T N ∧ k < N ∧ (Cond.fieldLink own idx (T k).1 (T k).2.1 (T k).2.2.1 ∈ wsG ∨ ∃ host, Cond.fieldLinkNest own idx (T k).1 (T k).2.1 (T k).2.2.1 host ∈ nwL)
def fdM (own : String) (idx ci k : Nat) : Prop := ∃ (C : String) (T : u_T) (N : Nat), clOK ci C T N ∧ k < N ∧ (T k).2.2.2 = false ∧ (Cond.fieldLink own idx (T k).1 (T k).2.1 (T k).2.2.1 ∈ wsG ∨ ∃ host, Cond.fieldLinkNest own idx (T k).1 (T k).2.1 (T k).2.2.1 host ∈ nwL)
def fdF (own : String) (idx ci k : Nat) : Prop := ∃ (C : String) (T : u_T) (N : Nat), clOK ci C T N ∧ k < N ∧ (T k).2.2.2 = true ∧ (T k).1 = own ∧ Cond.fieldLink own idx (T k).1 (T k).2.1 (T k).2.2.1 ∈ wsG
theorem fdM.ok {own : String} {idx ci k : Nat} (h : fdM own idx ci k) : fdOK own idx ci k := by
  obtain ⟨C, T, N, h1, h2, -, h3⟩ := h
  exact ⟨C, T, N, h1, h2, h3⟩
theorem nfC_of {ci : Nat} {C : String} {T : u_T} {N : Nat} (h : clOK ci C T N) : nfC ci = N := by
  unfold nfC
  rw [h.1]
  rfl
theorem fvals_at {σ : Nat → Nat} {ci k : Nat} {rs : List (Option Nat)} {f : Int → Int} (hk : k < nfC ci) : (fvals σ ci rs f)[k]? = some (fval σ (tyC ci k) (rs.getD k none) (f (k : Int))) := by
  unfold fvals
  rw [List.getElem?_map, List.getElem?_range hk]
  rfl
theorem fvals_len {σ : Nat → Nat} {ci : Nat} {rs : List (Option Nat)} {f : Int → Int} : (fvals σ ci rs f).length = nfC ci := by simp [fvals]
/-- any field, as a value of the machine -/
theorem z_getW {own : String} {idx ci k a : Nat} {rs : List (Option Nat)} (hd : decode mi.2.1 pc = .ok (.getfield idx, 3)) (hf : fdOK mi.1.cls idx ci k) (hg : G[a]? = some (0, ci, rs))
    {v : VV} (hv : ∀ σ ρ : Nat → Nat, fval σ (tyC ci k) (rs.getD k none) (mem a (k : Int)) = rv σ ρ v) (hok : mok G mem → vok G.length v) (kk : ZZ X b d mi G (pc + 3) L (v :: S) mem Q) : ZZ X b d mi G pc L (vr a :: S) mem Q := by
  intro p l e R s m args below meth c D K ρ A n0 σ0 σ H locs cells slots mc ms ls hK hS hL hl
  have h : W p l e R s m args below meth c H locs cells slots (MQ below (zQ D K ρ n0 σ0 A Q) args s mc ms A) (F0 m (pc + 3) ls (rv σ ρ v :: S.map (rv σ ρ))) := kk p l e R s m args below meth c D K ρ A n0 σ0 σ H locs cells slots mc ms ls hK (so_cons (hok hK.2.2.2.2.2.2.2.2.2.2.2) (so_tl hS)) hL hl
  show W p l e R s m args below meth c H locs cells slots (MQ below (zQ D K ρ n0 σ0 A Q) args s mc ms A) (F0 m (pc) ls (.ref (σ a) :: S.map (rv σ ρ)))
  obtain ⟨C, T, N, hc, hkN, hlk⟩ := hf
  have he : (zW K σ G mem)[a]? = some (σ a, .inr (ci, fvals σ ci rs (mem a))) := zW_at hg
  have hvv : (fvals σ ci rs (mem a))[k]? = some (rv σ ρ v) := by rw [fvals_at (by rw [nfC_of hc]; exact hkN), hv σ ρ]
  rcases hlk with hlk | ⟨host, hlk⟩
  · exact va_get hK.1.1.1 hK.1.1.2.1 hK.1.1.2.2.2.2 hc.2.1 hK.1.1.2.2.2.1 hK.2.2.2.2.2.2.1 hK.2.2.2.2.2.2.2.2.1 a he hc.1 k hkN (hK.1.1.2.2.2.2 _ hlk) (fun x h => h) hvv hd h
  · exact va_getN hK.1.1.1 hK.1.1.2.1 hK.1.1.2.2.2.2 hc.2.1 hK.1.1.2.2.2.1 hK.2.2.2.2.2.2.1 hK.2.2.2.2.2.2.2.2.1 a he hc.1 k hkN (va_Nw.use rfl (hK.2.2.2.2.2.1 _ hlk)) (fun x h => h) hvv hd h
theorem z_getI {idx ci k a : Nat} {rs : List (Option Nat)} (hd : decode mi.2.1 pc = .ok (.getfield idx, 3)) (hf : fdOK mi.1.cls idx ci k) (hg : G[a]? = some (0, ci, rs)) (hty : tyC ci k = .int) (kk : ZZ X b d mi G (pc + 3) L (vi (mem a (k : Int)) :: S) mem Q) : ZZ X b d mi G pc L (vr a :: S) mem Q := by
  have hkn : k < nfC ci := by
    obtain ⟨C, T, N, hc, hkN, -⟩ := hf
    rw [nfC_of hc]; exact hkN
  exact z_getW (own := "") hd hf hg (v := vi (mem a (k : Int))) (fun σ ρ => by rw [hty]; rfl) (fun h => by have q := (h a _ hg).2.2 k hkn; rw [hty] at q; exact q) kk
theorem z_getZ {idx ci k a : Nat} {rs : List (Option Nat)} (hd : decode mi.2.1 pc = .ok (.getfield idx, 3)) (hf : fdOK mi.1.cls idx ci k) (hg : G[a]? = some (0, ci, rs)) (hty : tyC ci k = .boolean) (kk : ZZ X b d mi G (pc + 3) L (vi (mem a (k : Int)) :: S) mem Q) : ZZ X b d mi G pc L (vr a :: S) mem Q := by
  have hkn : k < nfC ci := by
    obtain ⟨C, T, N, hc, hkN, -⟩ := hf
    rw [nfC_of hc]; exact hkN
  exact z_getW (own := "") hd hf hg (v := vi (mem a (k : Int))) (fun σ ρ => by rw [hty]; rfl) (fun h => by have q := (h a _ hg).2.2 k hkn; rw [hty] at q; show i32 _; unfold i32; rcases q with q | q <;> rw [q] <;> omega) kk
theorem z_getJ {idx ci k a : Nat} {rs : List (Option Nat)} (hd : decode mi.2.1 pc = .ok (.getfield idx, 3)) (hf : fdOK mi.1.cls idx ci k) (hg : G[a]? = some (0, ci, rs)) (hty : tyC ci k = .long) (kk : ZZ X b d mi G (pc + 3) L (vl (mem a (k : Int)) :: S) mem Q) : ZZ X b d mi G pc L (vr a :: S) mem Q := by
  have hkn : k < nfC ci := by
    obtain ⟨C, T, N, hc, hkN, -⟩ := hf
    rw [nfC_of hc]; exact hkN
  exact z_getW (own := "") hd hf hg (v := vl (mem a (k : Int))) (fun σ ρ => by rw [hty]; rfl) (fun h => by have q := (h a _ hg).2.2 k hkn; rw [hty] at q; exact q) kk
theorem z_getR {idx ci k a r : Nat} {rs : List (Option Nat)} {ty : FieldType} (hd : decode mi.2.1 pc = .ok (.getfield idx, 3)) (hf : fdOK mi.1.cls idx ci k) (hg : G[a]? = some (0, ci, rs)) (hr : rs[k]? = some (some r)) (hty : (tyC ci k).isReference = true) (kk : ZZ X b d mi G (pc + 3) L (vr r :: S) mem Q) : ZZ X b d mi G pc L (vr a :: S) mem Q := by
  have hrd : rs.getD k none = some r := by rw [List.getD_eq_getElem?_getD, hr]; rfl
  refine z_getW (own := "") hd hf hg (v := vr r) (fun σ ρ => ?_) (fun h => (h a _ hg).1 (some r) (List.mem_of_getElem? hr) r rfl) kk
  rw [hrd]
  generalize tyC ci k = t at hty
  cases t <;> first | rfl | cases hty
theorem fvals_set {σ : Nat → Nat} {ci k : Nat} {rs : List (Option Nat)} {f f' : Int → Int} {v : Value} (hk : k < nfC ci) (hv : fval σ (tyC ci k) (rs.getD k none) (f' (k : Int)) = v) (ho : ∀ j : Nat, j ≠ k → f' (j : Int) = f (j : Int)) : (fvals σ ci rs f).set k v = fvals σ ci rs f' := by
  apply List.ext_getElem?
  intro i
  rw [List.getElem?_set]
  by_cases hi : k = i
  · subst hi
    rw [if_pos rfl, fvals_len, if_pos hk, fvals_at hk, hv]
  · rw [if_neg hi]
    by_cases hl : i < nfC ci
    · rw [fvals_at hl, fvals_at hl, ho i (fun q => hi q.symm)]
    · rw [List.getElem?_eq_none (by rw [fvals_len]; omega), List.getElem?_eq_none (by rw [fvals_len]; omega)]
theorem mok_set {G : List GC} {mem mem' : Mem} {a : Nat} {g : GC} (h : mok G mem) (hg : G[a]? = some g) (hn : gok G.length g (mem' a)) (ho : ∀ a', a' ≠ a → mem' a' = mem a') : mok G mem' := by
  intro a' g' hg'
  by_cases e : a' = a
  · subst e
    cases hg.symm.trans hg'
    exact hn
  · rw [ho a' e]
    exact h a' g' hg'
/-- the heap's new state behind a store in the cell a -/
theorem ZK_put {p : Program} {R : Room} {s : State} {m : MethodId} {args : Array Value} {meth : Method} {c : Code} {D : va_G} {K : Nat → ClassId} {ρ : Nat → Nat} {A : Nat → Prop} {n0 : Nat} {σ0 σ : Nat → Nat} {H H1 : Heap} {locs locs1 : List Loc} {cells slots mc ms a : Nat} {mem' : Mem} {g : GC}
    (hK : ZK X b d mi G mem p R s m args meth c D K ρ A n0 σ0 σ H locs cells slots mc ms) (hg : G[a]? = some g) {e : va_E} (he : ent K σ g (mem' a) = e) (hn : gok G.length g (mem' a)) (ho : ∀ a', a' ≠ a → mem' a' = mem a')
    (hP : va_P D vwCl ((zW K σ G mem).set a (σ a, e)) H1) (hD : va_D A ((zW K σ G mem).set a (σ a, e))) (hS : va_S A s.heap H1 locs1) : ZK X b d mi G mem' p R s m args meth c D K ρ A n0 σ0 σ H1 locs1 cells slots mc ms := by
  obtain ⟨h1, h2, h3, h4, h5, h6, h7, h8, h9, h10, h11, h12⟩ := hK
  rw [zW_set hg he ho] at hP hD
  exact ⟨h1, h2, h3, h4, h5, h6, h7, h8, hP, hD, hS, mok_set h12 hg hn ho⟩
theorem z_putW {idx ci k a : Nat} {rs : List (Option Nat)} (hd : decode mi.2.1 pc = .ok (.putfield idx, 3)) (hf : fdM mi.1.cls idx ci k) (hg : G[a]? = some (0, ci, rs)) {v : VV} {z : Int}
    (hv : ∀ σ ρ : Nat → Nat, fval σ (tyC ci k) (rs.getD k none) z = rv σ ρ v) (hz : vok G.length v → inr (tyC ci k) z) (hnr : ∀ σ ρ : Nat → Nat, narrow (tyC ci k) (rv σ ρ v) = rv σ ρ v ∧ fits (tyC ci k) (rv σ ρ v) = true)
    (kk : ZZ X b d mi G (pc + 3) L S (mset mem a (k : Int) z) Q) : ZZ X b d mi G pc L (v :: vr a :: S) mem Q := by
  intro p l e R s m args below meth c D K ρ A n0 σ0 σ H locs cells slots mc ms ls hK hS hL hl
  show W p l e R s m args below meth c H locs cells slots (MQ below (zQ D K ρ n0 σ0 A Q) args s mc ms A) (F0 m (pc) ls (rv σ ρ v :: .ref (σ a) :: S.map (rv σ ρ)))
  obtain ⟨C, T, N, hc, hkN, hfin, hlk⟩ := hf
  have hkn : k < nfC ci := by rw [nfC_of hc]; exact hkN
  have he : (zW K σ G mem)[a]? = some (σ a, .inr (ci, fvals σ ci rs (mem a))) := zW_at hg
  have hset : (fvals σ ci rs (mem a)).set k (rv σ ρ v) = fvals σ ci rs (mset mem a (k : Int) z a) := fvals_set hkn (by rw [mset_eq, hv σ ρ]) (fun j hj => mset_nej mem a (by omega) z)
  have hgn : gok G.length (0, ci, rs) (mset mem a (k : Int) z a) := by
    have hm := hK.2.2.2.2.2.2.2.2.2.2.2 a _ hg
    refine ⟨hm.1, hm.2.1, fun j hj => ?_⟩
    by_cases e : j = k
    · subst e
      rw [mset_eq]
      exact hz (so_hd hS)
    · rw [mset_nej mem a (by omega) z]
      exact hm.2.2 j hj
  have fin : ∀ (H1 : Heap) (locs1 : List Loc), va_P D vwCl ((zW K σ G mem).set a (σ a, .inr (ci, (fvals σ ci rs (mem a)).set k (rv σ ρ v)))) H1 → va_D A ((zW K σ G mem).set a (σ a, .inr (ci, (fvals σ ci rs (mem a)).set k (rv σ ρ v)))) → va_S A s.heap H1 locs1 → W p l e R s m args below meth c H1 locs1 cells slots (MQ below (zQ D K ρ n0 σ0 A Q) args s mc ms A) (F0 m (pc + 3) ls (S.map (rv σ ρ))) := by
    intro H1 locs1 hP1 hD1 hS1
    rw [hset] at hP1 hD1
    exact kk p l e R s m args below meth c D K ρ A n0 σ0 σ H1 locs1 cells slots mc ms ls (ZK_put hK hg rfl hgn (fun a' ha => mset_ne mem ha _ _) hP1 hD1 hS1) (so_tl (so_tl hS)) hL hl
  rcases hlk with hlk | ⟨host, hlk⟩
  · exact va_put hK.1.1.1 hK.1.1.2.1 hK.1.1.2.2.2.2 hc.2.1 (tyC ci) hc.2.2.1 hc.2.2.2 hK.1.1.2.2.2.1 hK.2.2.2.2.2.2.1 hK.2.2.2.2.2.2.2.2.1 hK.2.2.2.2.2.2.2.2.2.1 hK.2.2.2.2.2.2.2.2.2.2.1 a he hc.1 k hkN (hK.1.1.2.2.2.2 _ hlk) (fun x h => h) hfin (hc.2.2.1 k hkN) (hnr σ ρ).1 (hnr σ ρ).2 (by rw [fvals_len]; exact hkn) hd fin
  · exact va_putN hK.1.1.1 hK.1.1.2.1 hK.1.1.2.2.2.2 hc.2.1 (tyC ci) hc.2.2.1 hc.2.2.2 hK.1.1.2.2.2.1 hK.2.2.2.2.2.2.1 hK.2.2.2.2.2.2.2.2.1 hK.2.2.2.2.2.2.2.2.2.1 hK.2.2.2.2.2.2.2.2.2.2.1 a he hc.1 k hkN (va_Nw.use rfl (hK.2.2.2.2.2.1 _ hlk)) (fun x h => h) hfin (hc.2.2.1 k hkN) (hnr σ ρ).1 (hnr σ ρ).2 (by rw [fvals_len]; exact hkn) hd fin
theorem z_putI {idx ci k a : Nat} {rs : List (Option Nat)} {z : Int} (hd : decode mi.2.1 pc = .ok (.putfield idx, 3)) (hf : fdM mi.1.cls idx ci k) (hg : G[a]? = some (0, ci, rs)) (hty : tyC ci k = .int) (kk : ZZ X b d mi G (pc + 3) L S (mset mem a (k : Int) z) Q) : ZZ X b d mi G pc L (vi z :: vr a :: S) mem Q :=
  z_putW hd hf hg (fun σ ρ => by rw [hty]; rfl) (fun h => by rw [hty]; exact h) (fun σ ρ => by rw [hty]; exact ⟨rfl, rfl⟩) kk
theorem z_putJ {idx ci k a : Nat} {rs : List (Option Nat)} {z : Int} (hd : decode mi.2.1 pc = .ok (.putfield idx, 3)) (hf : fdM mi.1.cls idx ci k) (hg : G[a]? = some (0, ci, rs)) (hty : tyC ci k = .long) (kk : ZZ X b d mi G (pc + 3) L S (mset mem a (k : Int) z) Q) : ZZ X b d mi G pc L (vl z :: vr a :: S) mem Q :=
  z_putW hd hf hg (fun σ ρ => by rw [hty]; rfl) (fun h => by rw [hty]; exact h) (fun σ ρ => by rw [hty]; exact ⟨rfl, rfl⟩) kk
theorem z_putZ {idx ci k a : Nat} {rs : List (Option Nat)} {z : Int} (hd : decode mi.2.1 pc = .ok (.putfield idx, 3)) (hf : fdM mi.1.cls idx ci k) (hg : G[a]? = some (0, ci, rs)) (hty : tyC ci k = .boolean) (hz : z = 0 ∨ z = 1) (kk : ZZ X b d mi G (pc + 3) L S (mset mem a (k : Int) z) Q) : ZZ X b d mi G pc L (vi z :: vr a :: S) mem Q :=
  z_putW hd hf hg (fun σ ρ => by rw [hty]; rfl) (fun h => by rw [hty]; exact hz) (fun σ ρ => by rw [hty]; rcases hz with rfl | rfl <;> exact ⟨(by decide : narrow .boolean (.int (Int32.ofInt _)) = .int (Int32.ofInt _)), (by decide : fits .boolean (.int (Int32.ofInt _)) = true)⟩) kk
-- arrays
theorem cl_nat {j : Int} (h0 : 0 ≤ j) (hj : i32 j) : (Int32.ofInt j).toNatClampNeg = j.toNat := by
  rw [Int32.toNatClampNeg, ti32 hj]
theorem zin_of {j : Int} {n : Nat} (h0 : 0 ≤ j) (h1 : j < (n : Int)) (hj : i32 j) : vp_in (Int32.ofInt j) n := by
  intro h
  rcases h with h | h
  · rw [Int32.lt_iff_toInt_lt, ti32 hj, Int32.toInt_zero] at h
    omega
  · rw [cl_nat h0 hj] at h
    omega
theorem z_iald {a n : Nat} {rs : List (Option Nat)} {j : Int} (hd : decode mi.2.1 pc = .ok (.iaload, 1)) (hg : G[a]? = some (1, n, rs)) (h0 : 0 ≤ j) (h1 : j < (n : Int)) (kk : ZZ X b d mi G (pc + 1) L (vi (mem a j) :: S) mem Q) : ZZ X b d mi G pc L (vi j :: vr a :: S) mem Q := by
  intro p l e R s m args below meth c D K ρ A n0 σ0 σ H locs cells slots mc ms ls hK hS hL hl
  have hm : i32 (mem a j) := (hK.2.2.2.2.2.2.2.2.2.2.2 a _ hg).2.2 j
  have h : W p l e R s m args below meth c H locs cells slots (MQ below (zQ D K ρ n0 σ0 A Q) args s mc ms A) (F0 m (pc + 1) ls (.int (Int32.ofInt (mem a j)) :: S.map (rv σ ρ))) := kk p l e R s m args below meth c D K ρ A n0 σ0 σ H locs cells slots mc ms ls hK (so_cons hm (so_tl (so_tl hS))) hL hl
  show W p l e R s m args below meth c H locs cells slots (MQ below (zQ D K ρ n0 σ0 A Q) args s mc ms A) (F0 m (pc) ls (.int (Int32.ofInt j) :: .ref (σ a) :: S.map (rv σ ρ)))
  have hj : i32 j := so_hd hS
  refine va_iald hK.1.1.1 hK.1.1.2.1 hK.2.2.2.2.2.2.1 hK.2.2.2.2.2.2.2.2.1 a 0 (zW_at hg) rfl (zin_of h0 h1 hj) hd ?_
  rw [cl_nat h0 hj, Int.toNat_of_nonneg h0]
  exact h
theorem z_zald {a n : Nat} {rs : List (Option Nat)} {j : Int} (hd : decode mi.2.1 pc = .ok (.baload, 1)) (hg : G[a]? = some (2, n, rs)) (h0 : 0 ≤ j) (h1 : j < (n : Int)) (kk : (mem a j = 0 ∨ mem a j = 1) → ZZ X b d mi G (pc + 1) L (vi (mem a j) :: S) mem Q) : ZZ X b d mi G pc L (vi j :: vr a :: S) mem Q := by
  intro p l e R s m args below meth c D K ρ A n0 σ0 σ H locs cells slots mc ms ls hK hS hL hl
  have hm : mem a j = 0 ∨ mem a j = 1 := (hK.2.2.2.2.2.2.2.2.2.2.2 a _ hg).2.2 j
  have h : W p l e R s m args below meth c H locs cells slots (MQ below (zQ D K ρ n0 σ0 A Q) args s mc ms A) (F0 m (pc + 1) ls (.int (Int32.ofInt (mem a j)) :: S.map (rv σ ρ))) := kk hm p l e R s m args below meth c D K ρ A n0 σ0 σ H locs cells slots mc ms ls hK (so_cons (show i32 _ by unfold i32; rcases hm with q | q <;> rw [q] <;> omega) (so_tl (so_tl hS))) hL hl
  show W p l e R s m args below meth c H locs cells slots (MQ below (zQ D K ρ n0 σ0 A Q) args s mc ms A) (F0 m (pc) ls (.int (Int32.ofInt j) :: .ref (σ a) :: S.map (rv σ ρ)))
  have hj : i32 j := so_hd hS
  refine va_zald hK.1.1.1 hK.1.1.2.1 hK.2.2.2.2.2.2.1 hK.2.2.2.2.2.2.2.2.1 a 1 (zW_at hg) rfl (zin_of h0 h1 hj) hd ?_
  rw [cl_nat h0 hj, Int.toNat_of_nonneg h0]
  exact h
theorem z_lald {a n : Nat} {rs : List (Option Nat)} {j : Int} (hd : decode mi.2.1 pc = .ok (.laload, 1)) (hg : G[a]? = some (3, n, rs)) (h0 : 0 ≤ j) (h1 : j < (n : Int)) (kk : ZZ X b d mi G (pc + 1) L (vl (mem a j) :: S) mem Q) : ZZ X b d mi G pc L (vi j :: vr a :: S) mem Q := by
  intro p l e R s m args below meth c D K ρ A n0 σ0 σ H locs cells slots mc ms ls hK hS hL hl
  have hm : i64 (mem a j) := (hK.2.2.2.2.2.2.2.2.2.2.2 a _ hg).2.2 j
  have h : W p l e R s m args below meth c H locs cells slots (MQ below (zQ D K ρ n0 σ0 A Q) args s mc ms A) (F0 m (pc + 1) ls (.long (Int64.ofInt (mem a j)) :: S.map (rv σ ρ))) := kk p l e R s m args below meth c D K ρ A n0 σ0 σ H locs cells slots mc ms ls hK (so_cons hm (so_tl (so_tl hS))) hL hl
  show W p l e R s m args below meth c H locs cells slots (MQ below (zQ D K ρ n0 σ0 A Q) args s mc ms A) (F0 m (pc) ls (.int (Int32.ofInt j) :: .ref (σ a) :: S.map (rv σ ρ)))
  have hj : i32 j := so_hd hS
  refine va_lald hK.1.1.1 hK.1.1.2.1 hK.2.2.2.2.2.2.1 hK.2.2.2.2.2.2.2.2.1 a 2 (zW_at hg) rfl (zin_of h0 h1 hj) hd ?_
  rw [cl_nat h0 hj, Int.toNat_of_nonneg h0]
  exact h
theorem z_aald {a n r : Nat} {rs : List (Option Nat)} {j : Int} (hd : decode mi.2.1 pc = .ok (.aaload, 1)) (hg : G[a]? = some (4, n, rs)) (h0 : 0 ≤ j) (h1 : j < (n : Int)) (hr : rs[j.toNat]? = some (some r)) (kk : ZZ X b d mi G (pc + 1) L (vr r :: S) mem Q) : ZZ X b d mi G pc L (vi j :: vr a :: S) mem Q := by
  intro p l e R s m args below meth c D K ρ A n0 σ0 σ H locs cells slots mc ms ls hK hS hL hl
  have hm : r < G.length := (hK.2.2.2.2.2.2.2.2.2.2.2 a _ hg).1 (some r) (List.mem_of_getElem? hr) r rfl
  have h : W p l e R s m args below meth c H locs cells slots (MQ below (zQ D K ρ n0 σ0 A Q) args s mc ms A) (F0 m (pc + 1) ls (.ref (σ r) :: S.map (rv σ ρ))) := kk p l e R s m args below meth c D K ρ A n0 σ0 σ H locs cells slots mc ms ls hK (so_cons hm (so_tl (so_tl hS))) hL hl
  show W p l e R s m args below meth c H locs cells slots (MQ below (zQ D K ρ n0 σ0 A Q) args s mc ms A) (F0 m (pc) ls (.int (Int32.ofInt j) :: .ref (σ a) :: S.map (rv σ ρ)))
  have hj : i32 j := so_hd hS
  have hlt : (Int32.ofInt j).toNatClampNeg < n := by rw [cl_nat h0 hj]; omega
  have hin := zin_of h0 h1 hj
  have hws : (zW K σ G mem)[a]? = some (σ a, .inl (K 4, n, .inr (.inr (.inr (.inr (fun j => (rs.getD j none).map σ)))))) := zW_at hg
  refine W.aald (v := .ref (σ r)) (ty := .array .long) hK.1.1.1 hK.1.1.2.1 (hK.2.2.2.2.2.2.2.2.1 a _ hws) ((hK.2.2.2.2.2.2.1.2 3 _ rfl).1 n (fun j => va_rf ((rs.getD j none).map σ))) rfl (fun q => by cases q) (by show ¬ (_ < 0 ∨ (arrV _ _ _).slots.size ≤ _); rw [arrV_size]; exact hin) (by show (arrV _ _ _).slots[_]? = _; rw [arrV_read _ _ hlt, cl_nat h0 hj]; show some (va_rf (Option.map σ (rs.getD j.toNat none))) = _; rw [List.getD_eq_getElem?_getD, hr]; rfl) rfl rfl hd h
theorem z_sald {r : Nat} {q : Nat × (Int → Int)} {j : Int} (hd : decode mi.2.1 pc = .ok (.iaload, 1)) (hr : roF X r = some q) (h0 : 0 ≤ j) (h1 : j < (q.1 : Int)) (kk : ZZ X b d mi G (pc + 1) L (vi (q.2 j) :: S) mem Q) : ZZ X b d mi G pc L (vi j :: vc r :: S) mem Q := by
  intro p l e R s m args below meth c D K ρ A n0 σ0 σ H locs cells slots mc ms ls hK hS hL hl
  obtain ⟨hi, hn, cell, t1, t2, t3, t4, t5, t6, t7⟩ := hK.2.2.2.2.1.1 r q hr
  have h : W p l e R s m args below meth c H locs cells slots (MQ below (zQ D K ρ n0 σ0 A Q) args s mc ms A) (F0 m (pc + 1) ls (.int (Int32.ofInt (q.2 j)) :: S.map (rv σ ρ))) := kk p l e R s m args below meth c D K ρ A n0 σ0 σ H locs cells slots mc ms ls hK (so_cons (hi j) (so_tl (so_tl hS))) hL hl
  show W p l e R s m args below meth c H locs cells slots (MQ below (zQ D K ρ n0 σ0 A Q) args s mc ms A) (F0 m (pc) ls (.int (Int32.ofInt j) :: .ref (ρ r) :: S.map (rv σ ρ)))
  have hj : i32 j := so_hd hS
  have hH : H[ρ r]? = some cell := by
    rw [hK.2.2.2.2.2.2.2.2.2.2.1.2.1 _ (Array.getElem?_eq_some_iff.mp t1).1 t7]
    exact t1
  refine W.iald hK.1.1.1 hK.1.1.2.1 hH t2 t3 (fun w => ?_) (v := .int (Int32.ofInt (q.2 j))) ?_ rfl rfl hd h
  · rcases w with w | w
    · rw [Int32.lt_iff_toInt_lt, ti32 hj, Int32.toInt_zero] at w
      omega
    · rw [cl_nat h0 hj] at w
      omega
  · rw [cl_nat h0 hj, t6 _ (by omega)]
    show some (Value.int (Int32.ofInt (q.2 ((j.toNat : Nat) : Int)))) = _
    rw [Int.toNat_of_nonneg h0]
theorem z_slen {r : Nat} {q : Nat × (Int → Int)} (hd : decode mi.2.1 pc = .ok (.arraylength, 1)) (hr : roF X r = some q) (kk : ZZ X b d mi G (pc + 1) L (vi (q.1 : Int) :: S) mem Q) : ZZ X b d mi G pc L (vc r :: S) mem Q := by
  intro p l e R s m args below meth c D K ρ A n0 σ0 σ H locs cells slots mc ms ls hK hS hL hl
  obtain ⟨hi, hn, cell, t1, t2, t3, t4, t5, t6, t7⟩ := hK.2.2.2.2.1.1 r q hr
  have h : W p l e R s m args below meth c H locs cells slots (MQ below (zQ D K ρ n0 σ0 A Q) args s mc ms A) (F0 m (pc + 1) ls (.int (Int32.ofInt (q.1 : Int)) :: S.map (rv σ ρ))) := kk p l e R s m args below meth c D K ρ A n0 σ0 σ H locs cells slots mc ms ls hK (so_cons (show i32 _ by unfold i32; omega) (so_tl hS)) hL hl
  show W p l e R s m args below meth c H locs cells slots (MQ below (zQ D K ρ n0 σ0 A Q) args s mc ms A) (F0 m (pc) ls (.ref (ρ r) :: S.map (rv σ ρ)))
  have hH : H[ρ r]? = some cell := by
    rw [hK.2.2.2.2.2.2.2.2.2.2.1.2.1 _ (Array.getElem?_eq_some_iff.mp t1).1 t7]
    exact t1
  refine W.alen (n := Int32.ofInt (q.1 : Int)) hK.1.1.1 hK.1.1.2.1 hH t2 ?_ rfl rfl hd h
  rw [t5]
  rfl
theorem z_alen {a kk0 n : Nat} {rs : List (Option Nat)} (hd : decode mi.2.1 pc = .ok (.arraylength, 1)) (hg : G[a]? = some (kk0, n, rs)) (hk0 : kk0 = 1 ∨ kk0 = 3) (kk : ZZ X b d mi G (pc + 1) L (vi (n : Int) :: S) mem Q) : ZZ X b d mi G pc L (vr a :: S) mem Q := by
  intro p l e R s m args below meth c D K ρ A n0 σ0 σ H locs cells slots mc ms ls hK hS hL hl
  have hm := hK.2.2.2.2.2.2.2.2.2.2.2 a _ hg
  have hn : n < 2147483648 := by
    rcases hk0 with rfl | rfl
    · exact hm.2.1
    · exact hm.2.1
  have h : W p l e R s m args below meth c H locs cells slots (MQ below (zQ D K ρ n0 σ0 A Q) args s mc ms A) (F0 m (pc + 1) ls (.int (Int32.ofInt (n : Int)) :: S.map (rv σ ρ))) := kk p l e R s m args below meth c D K ρ A n0 σ0 σ H locs cells slots mc ms ls hK (so_cons (show i32 _ by unfold i32; omega) (so_tl hS)) hL hl
  show W p l e R s m args below meth c H locs cells slots (MQ below (zQ D K ρ n0 σ0 A Q) args s mc ms A) (F0 m (pc) ls (.ref (σ a) :: S.map (rv σ ρ)))
  rcases hk0 with rfl | rfl
  · exact va_alen hK.1.1.1 hK.1.1.2.1 hK.2.2.2.2.2.2.1 hK.2.2.2.2.2.2.2.2.1 a 0 (zW_at hg) rfl rfl hd h
  · exact va_alen hK.1.1.1 hK.1.1.2.1 hK.2.2.2.2.2.2.1 hK.2.2.2.2.2.2.2.2.1 a 2 (zW_at hg) rfl rfl hd h
theorem gok_arr {n0 k n : Nat} {rs : List (Option Nat)} {mem : Mem} {a : Nat} {j z : Int} (hk : k ≠ 0) (h : gok n0 (k, n, rs) (mem a)) (hz : inr (kty k) z) : gok n0 (k, n, rs) (mset mem a j z a) := by
  match k, hk, h, hz with
  | k + 1, _, h, hz =>
    refine ⟨h.1, h.2.1, fun i => ?_⟩
    by_cases e : i = j
    · subst e
      rw [mset_eq]
      exact hz
    · rw [mset_nej mem a e z]
      exact h.2.2 i
theorem z_iast {a n : Nat} {rs : List (Option Nat)} {j z : Int} (hd : decode mi.2.1 pc = .ok (.iastore, 1)) (hg : G[a]? = some (1, n, rs)) (h0 : 0 ≤ j) (h1 : j < (n : Int)) (kk : ZZ X b d mi G (pc + 1) L S (mset mem a j z) Q) : ZZ X b d mi G pc L (vi z :: vi j :: vr a :: S) mem Q := by
  intro p l e R s m args below meth c D K ρ A n0 σ0 σ H locs cells slots mc ms ls hK hS hL hl
  show W p l e R s m args below meth c H locs cells slots (MQ below (zQ D K ρ n0 σ0 A Q) args s mc ms A) (F0 m (pc) ls (.int (Int32.ofInt z) :: .int (Int32.ofInt j) :: .ref (σ a) :: S.map (rv σ ρ)))
  have hj : i32 j := so_hd (so_tl hS)
  refine va_iast hK.1.1.1 hK.1.1.2.1 hK.2.2.2.2.2.2.1 hK.2.2.2.2.2.2.2.2.1 hK.2.2.2.2.2.2.2.2.2.1 hK.2.2.2.2.2.2.2.2.2.2.1 a 0 (zW_at hg) rfl (zin_of h0 h1 hj) hd (fun H1 locs1 hP1 hD1 hS1 => ?_)
  have ef : upd (fun i : Nat => Int32.ofInt (mem a (i : Int))) (Int32.ofInt j).toNatClampNeg (Int32.ofInt z) = (fun i : Nat => Int32.ofInt (mset mem a j z a (i : Int))) := by
    funext i
    rw [cl_nat h0 hj]
    by_cases e : i = j.toNat
    · subst e
      rw [Int.toNat_of_nonneg h0, mset_eq]
      simp [upd]
    · rw [mset_nej mem a (show (i : Int) ≠ j by omega) z]
      simp [upd, e]
  rw [ef] at hP1 hD1
  exact kk p l e R s m args below meth c D K ρ A n0 σ0 σ H1 locs1 cells slots mc ms ls (ZK_put hK hg rfl (gok_arr (by decide) (hK.2.2.2.2.2.2.2.2.2.2.2 a _ hg) (so_hd hS)) (fun a' ha => mset_ne mem ha _ _) hP1 hD1 hS1) (so_tl (so_tl (so_tl hS))) hL hl
theorem z_last {a n : Nat} {rs : List (Option Nat)} {j z : Int} (hd : decode mi.2.1 pc = .ok (.lastore, 1)) (hg : G[a]? = some (3, n, rs)) (h0 : 0 ≤ j) (h1 : j < (n : Int)) (kk : ZZ X b d mi G (pc + 1) L S (mset mem a j z) Q) : ZZ X b d mi G pc L (vl z :: vi j :: vr a :: S) mem Q := by
  intro p l e R s m args below meth c D K ρ A n0 σ0 σ H locs cells slots mc ms ls hK hS hL hl
  show W p l e R s m args below meth c H locs cells slots (MQ below (zQ D K ρ n0 σ0 A Q) args s mc ms A) (F0 m (pc) ls (.long (Int64.ofInt z) :: .int (Int32.ofInt j) :: .ref (σ a) :: S.map (rv σ ρ)))
  have hj : i32 j := so_hd (so_tl hS)
  refine va_last hK.1.1.1 hK.1.1.2.1 hK.2.2.2.2.2.2.1 hK.2.2.2.2.2.2.2.2.1 hK.2.2.2.2.2.2.2.2.2.1 hK.2.2.2.2.2.2.2.2.2.2.1 a 2 (zW_at hg) rfl (zin_of h0 h1 hj) hd (fun H1 locs1 hP1 hD1 hS1 => ?_)
  have ef : vp_updL (fun i : Nat => Int64.ofInt (mem a (i : Int))) (Int32.ofInt j).toNatClampNeg (Int64.ofInt z) = (fun i : Nat => Int64.ofInt (mset mem a j z a (i : Int))) := by
    funext i
    rw [cl_nat h0 hj]
    by_cases e : i = j.toNat
    · subst e
      rw [Int.toNat_of_nonneg h0, mset_eq]
      simp [vp_updL]
    · rw [mset_nej mem a (show (i : Int) ≠ j by omega) z]
      simp [vp_updL, e]
  rw [ef] at hP1 hD1
  exact kk p l e R s m args below meth c D K ρ A n0 σ0 σ H1 locs1 cells slots mc ms ls (ZK_put hK hg rfl (gok_arr (by decide) (hK.2.2.2.2.2.2.2.2.2.2.2 a _ hg) (so_hd hS)) (fun a' ha => mset_ne mem ha _ _) hP1 hD1 hS1) (so_tl (so_tl (so_tl hS))) hL hl
theorem nar_bool {z : Int} (hz : z = 0 ∨ z = 1) : vp_nar .boolean (Int32.ofInt z) = Int32.ofInt z := by rcases hz with rfl | rfl <;> decide
theorem z_zast {a n : Nat} {rs : List (Option Nat)} {j z : Int} (hd : decode mi.2.1 pc = .ok (.bastore, 1)) (hg : G[a]? = some (2, n, rs)) (h0 : 0 ≤ j) (h1 : j < (n : Int)) (hz : z = 0 ∨ z = 1) (kk : ZZ X b d mi G (pc + 1) L S (mset mem a j z) Q) : ZZ X b d mi G pc L (vi z :: vi j :: vr a :: S) mem Q := by
  intro p l e R s m args below meth c D K ρ A n0 σ0 σ H locs cells slots mc ms ls hK hS hL hl
  show W p l e R s m args below meth c H locs cells slots (MQ below (zQ D K ρ n0 σ0 A Q) args s mc ms A) (F0 m (pc) ls (.int (Int32.ofInt z) :: .int (Int32.ofInt j) :: .ref (σ a) :: S.map (rv σ ρ)))
  have hj : i32 j := so_hd (so_tl hS)
  refine va_zast hK.1.1.1 hK.1.1.2.1 hK.2.2.2.2.2.2.1 hK.2.2.2.2.2.2.2.2.1 hK.2.2.2.2.2.2.2.2.2.1 hK.2.2.2.2.2.2.2.2.2.2.1 a 1 (zW_at hg) rfl (zin_of h0 h1 hj) hd (fun H1 locs1 hP1 hD1 hS1 => ?_)
  have ef : upd (fun i : Nat => Int32.ofInt (mem a (i : Int))) (Int32.ofInt j).toNatClampNeg (vp_nar .boolean (Int32.ofInt z)) = (fun i : Nat => Int32.ofInt (mset mem a j z a (i : Int))) := by
    funext i
    rw [cl_nat h0 hj, nar_bool hz]
    by_cases e : i = j.toNat
    · subst e
      rw [Int.toNat_of_nonneg h0, mset_eq]
      simp [upd]
    · rw [mset_nej mem a (show (i : Int) ≠ j by omega) z]
      simp [upd, e]
  rw [ef] at hP1 hD1
  exact kk p l e R s m args below meth c D K ρ A n0 σ0 σ H1 locs1 cells slots mc ms ls (ZK_put hK hg rfl (gok_arr (by decide) (hK.2.2.2.2.2.2.2.2.2.2.2 a _ hg) hz) (fun a' ha => mset_ne mem ha _ _) hP1 hD1 hS1) (so_tl (so_tl (so_tl hS))) hL hl
-- statics
theorem z_gets {idx : Nat} (r : Nat) (hr : (r = 0 ∧ Cond.fieldLink mi.1.cls idx RX9 "PRIME_POWERS" "[I" ∈ wsG) ∨ (r = 1 ∧ Cond.fieldLink mi.1.cls idx RX10 "ROWS" "[I" ∈ wsG)) (hd : decode mi.2.1 pc = .ok (.getstatic idx, 3)) (kk : ZZ X b d mi G (pc + 3) L (vc r :: S) mem Q) : ZZ X b d mi G pc L S mem Q := by
  intro p l e R s m args below meth c D K ρ A n0 σ0 σ H locs cells slots mc ms ls hK hS hL hl
  have h : W p l e R s m args below meth c H locs cells slots (MQ below (zQ D K ρ n0 σ0 A Q) args s mc ms A) (F0 m (pc + 3) ls (.ref (ρ r) :: S.map (rv σ ρ))) := kk p l e R s m args below meth c D K ρ A n0 σ0 σ H locs cells slots mc ms ls hK (so_cons trivial hS) hL hl
  rcases hr with ⟨rfl, hw⟩ | ⟨rfl, hw⟩
  · exact va_gets hK.1.1.1 hK.1.1.2.1 hK.2.2.2.2.1.2.1 hK.2.2.2.2.2.2.2.2.2.2.1 hK.1.1.2.2.2.1 (hK.1.1.2.2.2.2 _ hw) (fun x h => h) hd h
  · exact va_gets hK.1.1.1 hK.1.1.2.1 hK.2.2.2.2.1.2.2 hK.2.2.2.2.2.2.2.2.2.2.1 hK.1.1.2.2.2.1 (hK.1.1.2.2.2.2 _ hw) (fun x h => h) hd h
-- returns
theorem z_iret {z : Int} (hd : decode mi.2.1 pc = .ok (.ireturn, 1)) (hr : mi.2.2.2 = some .int) (hq : Q G (vi z) mem) : ZZ X b d mi G pc L [vi z] mem Q := by
  intro p l e R s m args below meth c D K ρ A n0 σ0 σ H locs cells slots mc ms ls hK hS hL hl
  obtain ⟨⟨⟨hx, hb, hml, hown, hts⟩, hret, hlocks, hnm⟩, ⟨r1, r2, r3, r4⟩, ⟨q1, q2⟩, hA, hro, hnw, hKK, hσ, hP, hD, hSS, hm⟩ := hK
  show W p l e R s m args below meth c H locs cells slots (MQ below (zQ D K ρ n0 σ0 A Q) args s mc ms A) (F0 m (pc) ls (.int (Int32.ofInt z) :: []))
  refine W.widen (k := mc) (n := ms) (by omega) (by omega) ?_
  exact W.iret hx hb (hret.trans hr) (fun t ht hW => ⟨⟨G, σ, vi z, mem, rfl, hq, so_hd hS, hσ, by rw [ht]; exact hP, hD, hm⟩, hSS.F ht⟩) hSS.2.2 hd hlocks
theorem z_zret {z : Int} (hd : decode mi.2.1 pc = .ok (.ireturn, 1)) (hr : mi.2.2.2 = some .boolean) (hz : z = 0 ∨ z = 1) (hq : Q G (vi z) mem) : ZZ X b d mi G pc L [vi z] mem Q := by
  intro p l e R s m args below meth c D K ρ A n0 σ0 σ H locs cells slots mc ms ls hK hS hL hl
  obtain ⟨⟨⟨hx, hb, hml, hown, hts⟩, hret, hlocks, hnm⟩, ⟨r1, r2, r3, r4⟩, ⟨q1, q2⟩, hA, hro, hnw, hKK, hσ, hP, hD, hSS, hm⟩ := hK
  show W p l e R s m args below meth c H locs cells slots (MQ below (zQ D K ρ n0 σ0 A Q) args s mc ms A) (F0 m (pc) ls (.int (Int32.ofInt z) :: []))
  refine W.widen (k := mc) (n := ms) (by omega) (by omega) ?_
  exact W.zret hx hb (hret.trans hr) (by rcases hz with rfl | rfl <;> decide) (fun t ht hW => ⟨⟨G, σ, vi z, mem, rfl, hq, so_hd hS, hσ, by rw [ht]; exact hP, hD, hm⟩, hSS.F ht⟩) hSS.2.2 hd hlocks
theorem z_lret {z : Int} (hd : decode mi.2.1 pc = .ok (.lreturn, 1)) (hr : mi.2.2.2 = some .long) (hq : Q G (vl z) mem) : ZZ X b d mi G pc L [vl z] mem Q := by
  intro p l e R s m args below meth c D K ρ A n0 σ0 σ H locs cells slots mc ms ls hK hS hL hl
  obtain ⟨⟨⟨hx, hb, hml, hown, hts⟩, hret, hlocks, hnm⟩, ⟨r1, r2, r3, r4⟩, ⟨q1, q2⟩, hA, hro, hnw, hKK, hσ, hP, hD, hSS, hm⟩ := hK
  show W p l e R s m args below meth c H locs cells slots (MQ below (zQ D K ρ n0 σ0 A Q) args s mc ms A) (F0 m (pc) ls (.long (Int64.ofInt z) :: []))
  refine W.widen (k := mc) (n := ms) (by omega) (by omega) ?_
  exact W.lret hx hb (hret.trans hr) (fun t ht hW => ⟨⟨G, σ, vl z, mem, rfl, hq, so_hd hS, hσ, by rw [ht]; exact hP, hD, hm⟩, hSS.F ht⟩) hSS.2.2 hd hlocks
theorem z_vret (hd : decode mi.2.1 pc = .ok (.return_, 1)) (hr : mi.2.2.2 = none) (hq : Q G vd mem) : ZZ X b d mi G pc L [] mem Q := by
  intro p l e R s m args below meth c D K ρ A n0 σ0 σ H locs cells slots mc ms ls hK hS hL hl
  obtain ⟨⟨⟨hx, hb, hml, hown, hts⟩, hret, hlocks, hnm⟩, ⟨r1, r2, r3, r4⟩, ⟨q1, q2⟩, hA, hro, hnw, hKK, hσ, hP, hD, hSS, hm⟩ := hK
  show W p l e R s m args below meth c H locs cells slots (MQ below (zQ D K ρ n0 σ0 A Q) args s mc ms A) (F0 m (pc) ls ([]))
  refine W.widen (k := mc) (n := ms) (by omega) (by omega) ?_
  exact W.vret hx hb (hret.trans hr) (fun t ht hW => ⟨⟨G, σ, vd, mem, rfl, hq, trivial, hσ, by rw [ht]; exact hP, hD, hm⟩, hSS.F ht⟩) hSS.2.2 hd hlocks
end RulesB
end
section
theorem nwOK.same {u U : State} (h : u.vm = U.vm) (hn : nwOK u) : nwOK U := by
  intro w hw
  have h2 : isNest w = true := (List.mem_filter.mp hw).2
  refine va_Nw.same ?_ h (hn w hw)
  unfold isNest at h2
  split at h2
  · rfl
  · rfl
  · cases h2
theorem zPc_blind {X : Nat × (Int → Int)} {D : va_G} {K : Nat → ClassId} {ρ σ : Nat → Nat} {G : List GC} {mem : Mem} {sz : Nat} {vs : List VV} : FrameBlind (zPc X D K ρ σ G mem sz vs) := by
  intro a U g mk h
  obtain ⟨h1, h2, h3, h4, h5, h6, h7, h8⟩ := h
  exact ⟨h1, h2, h3, h4, va_K.moved (u := U) (U := U.calling g mk a) (Vm.Alike.refl U.vm) h5, h6, zro.moved (u := U) (U := U.calling g mk a) (Vm.Alike.refl U.vm) h7, nwOK.same (u := U) (U := U.calling g mk a) rfl h8⟩
-- the locals at a method's entry
def zent (vs : List VV) : List VV := match vs with
  | [] => []
  | .inr (.inl z) :: r => vl z :: vd :: zent r
  | v :: r => v :: zent r
theorem zent_args {σ ρ : Nat → Nat} : ∀ (vs : List VV) (off i : Nat) (v : VV), (zent vs)[i]? = some v → v ≠ vd → (off + i, rv σ ρ v) ∈ lv_args off (vs.map (rv σ ρ))
  | [], off, i, v, h, _ => by simp [zent] at h
  | w :: r, off, i, v, h, hv => by
    by_cases hw : ∃ z, w = vl z
    · obtain ⟨z, rfl⟩ := hw
      have e : zent (vl z :: r) = vl z :: vd :: zent r := rfl
      rw [e] at h
      show _ ∈ (off, Value.long (Int64.ofInt z)) :: lv_args (off + 2) (r.map (rv σ ρ))
      match i, h with
      | 0, h => cases h; exact List.mem_cons_self
      | 1, h => cases h; exact absurd rfl hv
      | j + 2, h =>
        have := zent_args (σ := σ) (ρ := ρ) r (off + 2) j v h hv
        refine List.mem_cons_of_mem _ ?_
        rw [show off + (j + 2) = off + 2 + j by omega]
        exact this
    · have e : zent (w :: r) = w :: zent r := by
        rcases w with z | z | a | j | u
        · rfl
        · exact absurd ⟨z, rfl⟩ hw
        · rfl
        · rfl
        · rfl
      rw [e] at h
      have hc : ¬ (rv σ ρ w).category = 2 := fun q => hw (cat_rv q)
      show _ ∈ (off, rv σ ρ w) :: lv_args (if (rv σ ρ w).category = 2 then off + 2 else off + 1) (r.map (rv σ ρ))
      rw [if_neg hc]
      match i, h with
      | 0, h => cases h; exact List.mem_cons_self
      | j + 1, h =>
        have := zent_args (σ := σ) (ρ := ρ) r (off + 1) j v h hv
        refine List.mem_cons_of_mem _ ?_
        rw [show off + (j + 1) = off + 1 + j by omega]
        exact this
theorem zent_len {σ ρ : Nat → Nat} : ∀ (vs : List VV), (lg_sl (vs.map (rv σ ρ))).length = (zent vs).length
  | [] => rfl
  | w :: r => by
    have ih := zent_len (σ := σ) (ρ := ρ) r
    unfold lg_sl at ih ⊢
    rcases w with z | z | a | j | u
    · simp only [List.map_cons, List.flatMap_cons, List.length_append, ih]
      simp [rv, Value.category, zent]; omega
    · simp only [List.map_cons, List.flatMap_cons, List.length_append, ih]
      simp [rv, Value.category, zent]; omega
    · simp only [List.map_cons, List.flatMap_cons, List.length_append, ih]
      simp [rv, Value.category, zent]; omega
    · simp only [List.map_cons, List.flatMap_cons, List.length_append, ih]
      simp [rv, Value.category, zent]; omega
    · simp only [List.map_cons, List.flatMap_cons, List.length_append, ih]
      simp [rv, Value.category, zent]; omega
theorem zent_vok {n : Nat} : ∀ (vs : List VV), (∀ v ∈ vs, vok n v) → ∀ v ∈ zent vs, vok n v
  | [], _, v, h => by simp [zent] at h
  | w :: r, hs, v, h => by
    have ih := zent_vok r (so_tl hs)
    rcases w with z | z | a | j | u
    · exact so_cons (so_hd hs) ih v h
    · exact so_cons (so_hd hs) (so_cons (v := vd) trivial ih) v h
    · exact so_cons (so_hd hs) ih v h
    · exact so_cons (so_hd hs) ih v h
    · exact so_cons (so_hd hs) ih v h
/-- a contract out of the walk from the entry -/
theorem CM.of {X : Nat × (Int → Int)} {b : Nat × Nat} {d : Nat} {mi : MI} {G : List GC} {vs : List VV} {mem : Mem} {Q : zPost} (hy : plainName mi.1.cls = true) (k : Nat) (hn : (zent vs).length ≤ mi.2.2.1) (h : ZZ X b d mi G 0 (zent vs ++ List.replicate k vd) [] mem Q) : CM X b d mi G vs mem Q := by
  intro l D K ρ σ sz hvs
  refine Met.ofW (cc := mi.2.1) (maxL := mi.2.2.1) (ret := mi.2.2.2) hy rfl ?_
  intro p e s m args below meth c s₁ B hml hv
  obtain ⟨rfl, hsz, hP, hD0, hK, hm, hro, hnw⟩ := hv
  have hts := atoms_spec (ws := wsM mi) B.pre
  have hown : s.vm.findClass mi.1.cls = some m.cls := findClass_of_methodNamed B.named
  have hin : meth.name = mi.1.name := (name_of_methodNamed B.named B.method).1
  subst hsz
  have hD := hD0.self (sz := s.heap.size)
  have hl := lv_entry (vs.map (rv σ ρ)) (n := mi.2.2.1) (by rw [zent_len]; exact hn)
  rw [lg_entry_eq]
  generalize (lg_sl (vs.map (rv σ ρ)) ++ List.replicate (mi.2.2.1 - (lg_sl (vs.map (rv σ ρ))).length) Slot.unset).toArray = ls at hl ⊢
  refine h p l e _ s m _ below meth c D K ρ _ G.length σ σ s.heap [] 0 0 b.1 b.2 ls ⟨⟨⟨B.exec, B.bytes, hml, hown, fun w hw => hts w (List.mem_cons_of_mem _ hw)⟩, B.returns, B.notSynchronized, hin⟩, ⟨Nat.le_refl _, Nat.le_refl _, Nat.le_refl _, Nat.le_refl _⟩, ⟨by omega, by omega⟩, fun q h => Or.inr h, hro, hnw, hK, ⟨Nat.le_refl _, fun _ _ => rfl⟩, hP, hD, va_S.rf, hm⟩ (fun v h => by cases h) ?_ ⟨hl.1, hl.2.1, ?_⟩
  · intro v hv
    rcases List.mem_append.mp hv with q | q
    · exact zent_vok vs hvs v q
    · rw [(List.mem_replicate.mp q).2]; trivial
  · intro i v hi hv
    by_cases hlt : i < (zent vs).length
    · rw [List.getElem?_append_left hlt] at hi
      have := hl.2.2 _ (zent_args vs 0 i v hi hv)
      rw [Nat.zero_add] at this
      exact this
    · rw [List.getElem?_append_right (by omega)] at hi
      exact absurd (List.mem_replicate.mp (List.mem_of_getElem? hi)).2 hv
section Calls2
variable {X : Nat × (Int → Int)} {b : Nat × Nat} {d : Nat} {mi : MI} {G : List GC} {pc : Nat} {L S : List VV} {mem : Mem} {Q : zPost}
theorem stk_map {σ' ρ : Nat → Nat} {S : List VV} (v : VV) : (stk v S).map (rv σ' ρ) = (rvo σ' ρ v).toList ++ S.map (rv σ' ρ) := by
  rcases v with z | z | a | j | u <;> rfl
theorem stk_vok {n : Nat} {v : VV} {S : List VV} (hv : vok n v) (hS : ∀ x ∈ S, vok n x) : ∀ x ∈ stk v S, vok n x := by
  rcases v with z | z | a | j | u
  · exact so_cons hv hS
  · exact so_cons hv hS
  · exact so_cons hv hS
  · exact so_cons hv hS
  · exact hS
/-- what comes behind a call -/
theorem z_cont {Q1 : zPost} {b1 b2 : Nat × Nat} {p : Program} {l : Launch} {e : Env} {R : Room} {s : State} {m : MethodId} {args : Array Value} {below : List Frame} {meth : Method} {c : Code} {D : va_G} {K : Nat → ClassId} {ρ : Nat → Nat} {A : Nat → Prop} {n0 : Nat} {σ0 σ : Nat → Nat} {H : Heap} {locs : List Loc} {cells slots mc ms : Nat} {ls : Array Slot} {a : Array Value} {st0 : List Value}
    (hr : va_Run p l e R s m args below meth c H locs cells slots b1.1 b1.2 (F0 m pc ls st0) (S.map (rv σ ρ)) (zQ D K ρ G.length σ (va_A (zW K σ G mem) H.size) Q1 a) (va_A (zW K σ G mem) H.size))
    (hK : ZK X b d mi G mem p R s m args meth c D K ρ A n0 σ0 σ H locs cells slots mc ms) (hS : ∀ v ∈ S, vok G.length v) (hL : ∀ v ∈ L, vok G.length v) (hl : hasL ls mi.2.2.1 σ ρ L)
    (hb : b1.1 + b2.1 ≤ b.1 ∧ b1.2 + b2.2 ≤ b.2) (kk : ∀ (G' : List GC) (v : VV) (mem' : Mem), Q1 G' v mem' → G.length ≤ G'.length → ZZ X b2 d mi G' (pc + 3) L (stk v S) mem' Q) :
    W p l e R s m args below meth c H locs cells slots (MQ below (zQ D K ρ n0 σ0 A Q) args s mc ms A) (F0 m (pc) ls (st0)) := by
  obtain ⟨hfix, hrm, hbud, hA, hro, hnw, hKK, hσ, hP, hD, hSS, hm⟩ := hK
  have hF : ∀ q, va_A (zW K σ G mem) H.size q → A q := by
    intro q h
    rcases h with ⟨k, w, h⟩ | h
    · exact hD.2 k (q, w) h
    · exact hA q (Nat.le_trans hSS.1 h)
  intro T hT Xs
  obtain ⟨v, st₀, t, T', Lc, h0, X', hLf, e1, e2, ⟨⟨G', σ', vv, mem', hv, hq, hvok, ⟨hn, hσ'⟩, hP', hD', hm'⟩, hz, hkk⟩, st⟩ := hr T hT Xs
  cases hv
  rw [h0] at hz hkk
  have hSn : va_S A s.heap T'.heap (locs ++ Lc) := by
    refine ⟨Nat.le_trans hSS.1 (by rw [e1]; exact hz), fun q h1 h2 => ?_, fun q hq => ?_⟩
    · rw [e1, hkk q (Nat.lt_of_lt_of_le h1 hSS.1) (fun z => h2 (hF q z))]
      exact hSS.2.1 q h1 h2
    · rcases List.mem_append.mp hq with h | h
      · exact hSS.2.2 q h
      · exact hF _ (hLf q h)
  have hKn : ZK X b2 d mi G' mem' p R s m args meth c D K ρ A n0 σ0 σ' T'.heap (locs ++ Lc) (cells + b1.1) (slots + b1.2) mc ms :=
    ⟨hfix, hrm, ⟨by omega, by omega⟩, hA, hro, hnw, hKK, ⟨Nat.le_trans hσ.1 hn, fun a ha => (hσ' a (Nat.lt_of_lt_of_le ha hσ.1)).trans (hσ.2 a ha)⟩, by rw [e1]; exact hP', ⟨hD'.1, fun k q hk => hF _ (hD'.2 k q hk)⟩, hSn, hm'⟩
  have h := kk G' vv mem' hq hn p l e R s m args below meth c D K ρ A n0 σ0 σ' T'.heap (locs ++ Lc) (cells + b1.1) (slots + b1.2) mc ms ls hKn (stk_vok hvok (fun x hx => vok_mono hn (hS x hx))) (fun x hx => vok_mono hn (hL x hx))
    ⟨hl.1, hl.2.1, fun i w hi hw => by rw [rv_congr hσ' (hL w (List.mem_of_getElem? hi))]; exact hl.2.2 i w hi hw⟩
  rw [stk_map, map_rv_congr hσ' hS] at h
  obtain ⟨t2, a1, c1⟩ := h T' rfl X'
  exact ⟨t2, st t2 a1, c1⟩
def vcat (v : VV) : Nat := match v with
  | .inr (.inl _) => 2
  | _ => 1
theorem vcat_map {σ ρ : Nat → Nat} (S : List VV) : ((S.map (rv σ ρ)).map fun v => v.category).sum = (S.map vcat).sum := by
  induction S with
  | nil => rfl
  | cons v r ih =>
    simp only [List.map_cons, List.sum_cons, ih]
    congr 1
    rcases v with z | z | a | j | u <;> rfl
def mOK (mi : MI) (n : Nat) : Prop := Cond.code mi.1 mi.2.1 mi.2.2.1 mi.2.2.2 ∈ wsG ∧ Cond.initialized mi.1.cls ∈ wsG ∧ (mi.1.cls ≠ "java/lang/invoke/MethodHandle" ∧ mi.1.cls ≠ "java/lang/invoke/VarHandle" ∧ (parseMethodDescriptor mi.1.desc).map (fun d => d.parameters.length) = some n) ∧ mi.2.2.1 ≤ 41 ∧ plainName mi.1.cls = true
def lkM (own : String) (idx : Nat) (mi : MI) : Prop := Cond.methodLink own idx mi.1 ∈ wsG ∨ ∃ host, Cond.methodLinkNest own idx mi.1 host ∈ nwL
def lkV (own : String) (idx : Nat) (mi : MI) : Prop := lkM own idx mi ∧ Cond.instanceMethod mi.1 ∈ wsG ∧ Cond.selects mi.1.cls mi.1 mi.1 ∈ wsG
def lkS (own : String) (idx : Nat) (mi : MI) : Prop := lkM own idx mi ∧ Cond.static mi.1 ∈ wsG
def lkI (own : String) (idx : Nat) (mi : MI) : Prop := lkM own idx mi ∧ mi.1.name = "<init>" ∧ Cond.instanceMethod mi.1 ∈ wsG
theorem goodM {mi : MI} {n : Nat} (h : mOK mi n) : GoodIn wsG (wsM mi) := by
  intro w hw
  rcases List.mem_cons.mp hw with e | e
  · rw [e]; exact ⟨h.1, good_wsG _ h.1⟩
  · exact ⟨e, good_wsG _ e⟩
theorem zPc_of {p : Program} {R : Room} {s : State} {m : MethodId} {args : Array Value} {meth : Method} {c : Code} {D : va_G} {K : Nat → ClassId} {ρ : Nat → Nat} {A : Nat → Prop} {n0 : Nat} {σ0 σ : Nat → Nat} {H : Heap} {locs : List Loc} {cells slots mc ms : Nat} {vs : List VV}
    (hK : ZK X b d mi G mem p R s m args meth c D K ρ A n0 σ0 σ H locs cells slots mc ms) (U : State) (hU : U.heap = H) (hW : s.WarmedH U.vm) {av : Array Value} (hav : av = (vs.map (rv σ ρ)).toArray) : zPc X D K ρ σ G mem H.size vs av U := by
  obtain ⟨hfix, hrm, hbud, hA, hro, hnw, hKK, hσ, hP, hD, hSS, hm⟩ := hK
  have hF : ∀ q, va_A (zW K σ G mem) H.size q → A q := by
    intro q h
    rcases h with ⟨k, w, h⟩ | h
    · exact hD.2 k (q, w) h
    · exact hA q (Nat.le_trans hSS.1 h)
  refine ⟨hav, by rw [hU], by rw [hU]; exact hP, ⟨hD.1, fun _ _ _ => trivial⟩, hKK.moved hW.alike, hm, ?_, nwOK.warm hW hnw⟩
  rw [hU]
  exact ((hro.kept hSS.2.1).narrow hF).moved hW.alike
/-- a method of an object of ours -/
theorem z_callV {mi1 : MI} {idx ci a d1 : Nat} {rs : List (Option Nat)} {C : String} {T : u_T} {N : Nat} {As st : List VV} {Q1 : zPost} {b1 b2 : Nat × Nat} (hd : decode mi.2.1 pc = .ok (.invokevirtual idx, 3)) (hM : mOK mi1 As.length) (hlk : lkV mi.1.cls idx mi1)
    (hg : G[a]? = some (0, ci, rs)) (hc : vwCl[ci]? = some (C, T, N)) (hC : mi1.1.cls = C) (hst : st = As.reverse ++ vr a :: S) (hcat : (S.map vcat).sum ≤ 8) (hdd : d1 + 1 ≤ d) (hb : b1.1 + b2.1 ≤ b.1 ∧ b1.2 + b2.2 ≤ b.2)
    (hcm : CM X b1 d1 mi1 G (vr a :: As) mem Q1) (kk : ∀ (G' : List GC) (v : VV) (mem' : Mem), Q1 G' v mem' → G.length ≤ G'.length → ZZ X b2 d mi G' (pc + 3) L (stk v S) mem' Q) : ZZ X b d mi G pc L st mem Q := by
  intro p l e R s m args below meth c D K ρ A n0 σ0 σ H locs cells slots mc ms ls hK hS hL hl
  subst hst
  have hSr : ∀ v ∈ S, vok G.length v := fun v hv => hS v (List.mem_append_right _ (List.mem_cons_of_mem _ hv))
  have hvs : ∀ v ∈ vr a :: As, vok G.length v := so_cons (hS _ (List.mem_append_right _ List.mem_cons_self)) (fun v hv => hS v (List.mem_append_left _ (List.mem_reverse.mpr hv)))
  have hts := hK.1.1.2.2.2.2
  have hrm := hK.2.1
  have hmL := hM.2.2.2.1
  have hst2 : (As.reverse ++ vr a :: S).map (rv σ ρ) = (As.map (rv σ ρ)).reverse ++ .ref (σ a) :: S.map (rv σ ρ) := by
    rw [List.map_append, List.map_reverse]; rfl
  have hp : PreV s H C (σ a) (zPc X D K ρ σ G mem H.size (vr a :: As)) (As.map (rv σ ρ)) := ⟨zPc_blind, va_recv hK.2.2.2.2.2.2.1 hK.2.2.2.2.2.2.2.2.1 hc (zW_at hg), fun U hU hW => zPc_of hK U hU hW rfl⟩
  have hbud := hK.2.2.1
  refine z_cont (b1 := b1) (b2 := b2) (Q1 := Q1) (a := (Value.ref (σ a) :: As.map (rv σ ρ)).toArray) ?_ hK hSr hL hl hb kk
  rw [hst2]
  rcases hlk with ⟨hlk | ⟨host, hlk⟩, hin, hse⟩
  · exact va_runV hK.1.1 (hcm l D K ρ σ H.size hvs) ⟨callB_of As.length hts (goodM hM) rfl rfl rfl (hts _ hM.2.1) (hts _ hlk) hM.2.2.1 ⟨by show d1 + 1 ≤ _; omega, by show 8 + (_ + 11) + 60 * d1 ≤ _; omega⟩, hts _ hin, by rw [← hC]; exact hts _ hse⟩ hp rfl (by simp) hl.1 rfl (lv_room (by rw [vcat_map]; exact hcat)) hd ⟨by omega, by omega⟩
  · exact va_runVN hK.1.1 (hcm l D K ρ σ H.size hvs) ⟨va_cnB As.length hts (goodM hM) rfl rfl rfl (hK.2.2.2.2.2.1 _ hlk) (hts _ hM.2.1) hM.2.2.1 ⟨by show d1 + 1 ≤ _; omega, by show 8 + (_ + 11) + 60 * d1 ≤ _; omega⟩, hts _ hin, by rw [← hC]; exact hts _ hse⟩ hp rfl (by simp) hl.1 rfl (lv_room (by rw [vcat_map]; exact hcat)) hd ⟨by omega, by omega⟩
/-- a constructor of an object of ours -/
theorem z_callI {mi1 : MI} {idx a d1 : Nat} {As st : List VV} {Q1 : zPost} {b1 b2 : Nat × Nat} (hd : decode mi.2.1 pc = .ok (.invokespecial idx, 3)) (hM : mOK mi1 As.length) (hret : mi1.2.2.2 = none) (hlk : lkI mi.1.cls idx mi1)
    (hst : st = As.reverse ++ vr a :: S) (hcat : (S.map vcat).sum ≤ 8) (hdd : d1 + 1 ≤ d) (hb : b1.1 + b2.1 ≤ b.1 ∧ b1.2 + b2.2 ≤ b.2)
    (hcm : CM X b1 d1 mi1 G (vr a :: As) mem Q1) (kk : ∀ (G' : List GC) (v : VV) (mem' : Mem), Q1 G' v mem' → G.length ≤ G'.length → ZZ X b2 d mi G' (pc + 3) L (stk v S) mem' Q) : ZZ X b d mi G pc L st mem Q := by
  intro p l e R s m args below meth c D K ρ A n0 σ0 σ H locs cells slots mc ms ls hK hS hL hl
  subst hst
  have hSr : ∀ v ∈ S, vok G.length v := fun v hv => hS v (List.mem_append_right _ (List.mem_cons_of_mem _ hv))
  have hvs : ∀ v ∈ vr a :: As, vok G.length v := so_cons (hS _ (List.mem_append_right _ List.mem_cons_self)) (fun v hv => hS v (List.mem_append_left _ (List.mem_reverse.mpr hv)))
  have hts := hK.1.1.2.2.2.2
  have hrm := hK.2.1
  have hmL := hM.2.2.2.1
  have hbud := hK.2.2.1
  obtain ⟨y1, c1, n1, r1⟩ := mi1
  cases hret
  have hst2 : (As.reverse ++ vr a :: S).map (rv σ ρ) = (As.map (rv σ ρ)).reverse ++ .ref (σ a) :: S.map (rv σ ρ) := by
    rw [List.map_append, List.map_reverse]; rfl
  have hp : PreS s H (zPc X D K ρ σ G mem H.size (vr a :: As)) (.ref (σ a) :: As.map (rv σ ρ)) := ⟨zPc_blind, fun U hU hW => zPc_of hK U hU hW rfl⟩
  refine z_cont (b1 := b1) (b2 := b2) (Q1 := Q1) (a := (Value.ref (σ a) :: As.map (rv σ ρ)).toArray) ?_ hK hSr hL hl hb kk
  rw [hst2]
  rcases hlk with ⟨hlk | ⟨host, hlk⟩, hy1, hin⟩
  · exact va_runI hK.1.1 (hcm l D K ρ σ H.size hvs) ⟨callB_of As.length hts (goodM hM) rfl rfl rfl (hts _ hM.2.1) (hts _ hlk) hM.2.2.1 ⟨by show d1 + 1 ≤ _; omega, by show 8 + (n1 + 11) + 60 * d1 ≤ _; have : n1 ≤ 41 := hmL; omega⟩, hy1, hts _ hin⟩ hp rfl (by simp) hl.1 rfl (lv_room (by rw [vcat_map]; exact hcat)) hd ⟨by omega, by omega⟩
  · exact va_runIN hK.1.1 (hcm l D K ρ σ H.size hvs) ⟨va_cnB As.length hts (goodM hM) rfl rfl rfl (hK.2.2.2.2.2.1 _ hlk) (hts _ hM.2.1) hM.2.2.1 ⟨by show d1 + 1 ≤ _; omega, by show 8 + (n1 + 11) + 60 * d1 ≤ _; have : n1 ≤ 41 := hmL; omega⟩, hy1, hts _ hin⟩ hp rfl (by simp) hl.1 rfl (lv_room (by rw [vcat_map]; exact hcat)) hd ⟨by omega, by omega⟩
/-- a static method -/
theorem z_callS {mi1 : MI} {idx d1 : Nat} {As st : List VV} {Q1 : zPost} {b1 b2 : Nat × Nat} (hd : decode mi.2.1 pc = .ok (.invokestatic idx, 3)) (hM : mOK mi1 As.length) (hlk : lkS mi.1.cls idx mi1)
    (hst : st = As.reverse ++ S) (hcat : (S.map vcat).sum ≤ 8) (hdd : d1 + 1 ≤ d) (hb : b1.1 + b2.1 ≤ b.1 ∧ b1.2 + b2.2 ≤ b.2)
    (hcm : CM X b1 d1 mi1 G As mem Q1) (kk : ∀ (G' : List GC) (v : VV) (mem' : Mem), Q1 G' v mem' → G.length ≤ G'.length → ZZ X b2 d mi G' (pc + 3) L (stk v S) mem' Q) : ZZ X b d mi G pc L st mem Q := by
  intro p l e R s m args below meth c D K ρ A n0 σ0 σ H locs cells slots mc ms ls hK hS hL hl
  subst hst
  have hSr : ∀ v ∈ S, vok G.length v := fun v hv => hS v (List.mem_append_right _ hv)
  have hvs : ∀ v ∈ As, vok G.length v := fun v hv => hS v (List.mem_append_left _ (List.mem_reverse.mpr hv))
  have hts := hK.1.1.2.2.2.2
  have hrm := hK.2.1
  have hmL := hM.2.2.2.1
  have hbud := hK.2.2.1
  have hst2 : (As.reverse ++ S).map (rv σ ρ) = (As.map (rv σ ρ)).reverse ++ S.map (rv σ ρ) := by
    rw [List.map_append, List.map_reverse]
  have hp : PreS s H (zPc X D K ρ σ G mem H.size As) (As.map (rv σ ρ)) := ⟨zPc_blind, fun U hU hW => zPc_of hK U hU hW rfl⟩
  refine z_cont (b1 := b1) (b2 := b2) (Q1 := Q1) (a := (As.map (rv σ ρ)).toArray) ?_ hK hSr hL hl hb kk
  rw [hst2]
  rcases hlk with ⟨hlk | ⟨host, hlk⟩, hstt⟩
  · exact va_runS hK.1.1 (hcm l D K ρ σ H.size hvs) ⟨callB_of As.length hts (goodM hM) rfl rfl rfl (hts _ hM.2.1) (hts _ hlk) hM.2.2.1 ⟨by show d1 + 1 ≤ _; omega, by show 8 + (_ + 11) + 60 * d1 ≤ _; omega⟩, hts _ hstt⟩ hp rfl (by simp) hl.1 rfl (lv_room (by rw [vcat_map]; exact hcat)) hd ⟨by omega, by omega⟩
  · exact va_runSN hK.1.1 (hcm l D K ρ σ H.size hvs) ⟨va_cnB As.length hts (goodM hM) rfl rfl rfl (hK.2.2.2.2.2.1 _ hlk) (hts _ hM.2.1) hM.2.2.1 ⟨by show d1 + 1 ≤ _; omega, by show 8 + (_ + 11) + 60 * d1 ≤ _; omega⟩, hts _ hstt, trivial⟩ hp rfl (by simp) hl.1 rfl (lv_room (by rw [vcat_map]; exact hcat)) hd ⟨by omega, by omega⟩
end Calls2
end
