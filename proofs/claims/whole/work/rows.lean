section
-- ===== PART A: goes FIRST, ahead of the names: the tables' words, and 'selects' of the private methods out of them =====
/-- a private method of a class that the tables say can be made, by its rows of tables_1 -/
def lw_okq (q : MethodName × Nat) : Prop := (q.1.cls ≠ "java/lang/invoke/MethodHandle" ∧ q.1.cls ≠ "java/lang/invoke/VarHandle") ∧ Cond.instantiable q.1.cls q.2 ∈ tables_1 ∧ Cond.privateMethod q.1 ∈ tables_1 ∧ Cond.instanceMethod q.1 ∈ tables_1
theorem lw_p0 : lw_okq (⟨"SootTalk", "found", "(I)I"⟩, 10) := ⟨⟨by decide +kernel, by decide +kernel⟩, List.mem_of_getElem? (i := 18) (by decide +kernel), List.mem_of_getElem? (i := 219) (by decide +kernel), List.mem_of_getElem? (i := 220) (by decide +kernel)⟩
theorem lw_p1 : lw_okq (⟨"SootTalk$Stack", "place", "(III)I"⟩, 7) := ⟨⟨by decide +kernel, by decide +kernel⟩, List.mem_of_getElem? (i := 26) (by decide +kernel), List.mem_of_getElem? (i := 260) (by decide +kernel), List.mem_of_getElem? (i := 261) (by decide +kernel)⟩
theorem lw_p2 : lw_okq (⟨"SootTalk", "isPlace", "(II)Z"⟩, 10) := ⟨⟨by decide +kernel, by decide +kernel⟩, List.mem_of_getElem? (i := 18) (by decide +kernel), List.mem_of_getElem? (i := 278) (by decide +kernel), List.mem_of_getElem? (i := 279) (by decide +kernel)⟩
theorem lw_p3 : lw_okq (⟨"SootTalk$Brush", "take", "(I)V"⟩, 3) := ⟨⟨by decide +kernel, by decide +kernel⟩, List.mem_of_getElem? (i := 62) (by decide +kernel), List.mem_of_getElem? (i := 437) (by decide +kernel), List.mem_of_getElem? (i := 438) (by decide +kernel)⟩
theorem lw_p4 : lw_okq (⟨"SootTalk", "joined", "(I)I"⟩, 10) := ⟨⟨by decide +kernel, by decide +kernel⟩, List.mem_of_getElem? (i := 18) (by decide +kernel), List.mem_of_getElem? (i := 483) (by decide +kernel), List.mem_of_getElem? (i := 484) (by decide +kernel)⟩
theorem lw_p5 : lw_okq (⟨"SootTalk$Trial", "settleOne", "(II)V"⟩, 3) := ⟨⟨by decide +kernel, by decide +kernel⟩, List.mem_of_getElem? (i := 80) (by decide +kernel), List.mem_of_getElem? (i := 519) (by decide +kernel), List.mem_of_getElem? (i := 520) (by decide +kernel)⟩
theorem lw_p6 : lw_okq (⟨"SootTalk$Tape", "at", "(I)I"⟩, 6) := ⟨⟨by decide +kernel, by decide +kernel⟩, List.mem_of_getElem? (i := 98) (by decide +kernel), List.mem_of_getElem? (i := 565) (by decide +kernel), List.mem_of_getElem? (i := 566) (by decide +kernel)⟩
theorem lw_p7 : lw_okq (⟨"SootTalk$Text", "passItem", "(LSootTalk$Tape;)Z"⟩, 9) := ⟨⟨by decide +kernel, by decide +kernel⟩, List.mem_of_getElem? (i := 126) (by decide +kernel), List.mem_of_getElem? (i := 576) (by decide +kernel), List.mem_of_getElem? (i := 577) (by decide +kernel)⟩
theorem lw_p8 : lw_okq (⟨"SootTalk$Text", "passSaying", "(LSootTalk$Tape;)Z"⟩, 9) := ⟨⟨by decide +kernel, by decide +kernel⟩, List.mem_of_getElem? (i := 126) (by decide +kernel), List.mem_of_getElem? (i := 633) (by decide +kernel), List.mem_of_getElem? (i := 634) (by decide +kernel)⟩
theorem lw_p9 : lw_okq (⟨"SootTalk$Text", "passLayer", "(LSootTalk$Tape;)Z"⟩, 9) := ⟨⟨by decide +kernel, by decide +kernel⟩, List.mem_of_getElem? (i := 126) (by decide +kernel), List.mem_of_getElem? (i := 643) (by decide +kernel), List.mem_of_getElem? (i := 644) (by decide +kernel)⟩
theorem lw_p10 : lw_okq (⟨"SootTalk$Text", "passDamp", "(LSootTalk$Tape;)Z"⟩, 9) := ⟨⟨by decide +kernel, by decide +kernel⟩, List.mem_of_getElem? (i := 126) (by decide +kernel), List.mem_of_getElem? (i := 649) (by decide +kernel), List.mem_of_getElem? (i := 650) (by decide +kernel)⟩
theorem lw_p11 : lw_okq (⟨"SootTalk$Text", "passFlue", "(I)Z"⟩, 9) := ⟨⟨by decide +kernel, by decide +kernel⟩, List.mem_of_getElem? (i := 126) (by decide +kernel), List.mem_of_getElem? (i := 662) (by decide +kernel), List.mem_of_getElem? (i := 663) (by decide +kernel)⟩
theorem lw_p12 : lw_okq (⟨"SootTalk$Text", "perform", "(LSootTalk$Stack;)V"⟩, 9) := ⟨⟨by decide +kernel, by decide +kernel⟩, List.mem_of_getElem? (i := 126) (by decide +kernel), List.mem_of_getElem? (i := 666) (by decide +kernel), List.mem_of_getElem? (i := 667) (by decide +kernel)⟩
theorem lw_p13 : lw_okq (⟨"SootTalk", "sheetFinding", "(I)I"⟩, 10) := ⟨⟨by decide +kernel, by decide +kernel⟩, List.mem_of_getElem? (i := 18) (by decide +kernel), List.mem_of_getElem? (i := 695) (by decide +kernel), List.mem_of_getElem? (i := 696) (by decide +kernel)⟩
theorem lw_p14 : lw_okq (⟨"SootTalk", "sheetAndFlueFinding", "(II)I"⟩, 10) := ⟨⟨by decide +kernel, by decide +kernel⟩, List.mem_of_getElem? (i := 18) (by decide +kernel), List.mem_of_getElem? (i := 745) (by decide +kernel), List.mem_of_getElem? (i := 746) (by decide +kernel)⟩
theorem lw_p15 : lw_okq (⟨"SootTalk", "isJustBrought", "(I)Z"⟩, 10) := ⟨⟨by decide +kernel, by decide +kernel⟩, List.mem_of_getElem? (i := 18) (by decide +kernel), List.mem_of_getElem? (i := 759) (by decide +kernel), List.mem_of_getElem? (i := 760) (by decide +kernel)⟩
def lw_privs_1 : List (MethodName × Nat) := [(⟨"SootTalk", "found", "(I)I"⟩, 10), (⟨"SootTalk$Stack", "place", "(III)I"⟩, 7), (⟨"SootTalk", "isPlace", "(II)Z"⟩, 10), (⟨"SootTalk$Brush", "take", "(I)V"⟩, 3), (⟨"SootTalk", "joined", "(I)I"⟩, 10), (⟨"SootTalk$Trial", "settleOne", "(II)V"⟩, 3), (⟨"SootTalk$Tape", "at", "(I)I"⟩, 6), (⟨"SootTalk$Text", "passItem", "(LSootTalk$Tape;)Z"⟩, 9), (⟨"SootTalk$Text", "passSaying", "(LSootTalk$Tape;)Z"⟩, 9), (⟨"SootTalk$Text", "passLayer", "(LSootTalk$Tape;)Z"⟩, 9), (⟨"SootTalk$Text", "passDamp", "(LSootTalk$Tape;)Z"⟩, 9), (⟨"SootTalk$Text", "passFlue", "(I)Z"⟩, 9), (⟨"SootTalk$Text", "perform", "(LSootTalk$Stack;)V"⟩, 9), (⟨"SootTalk", "sheetFinding", "(I)I"⟩, 10), (⟨"SootTalk", "sheetAndFlueFinding", "(II)I"⟩, 10), (⟨"SootTalk", "isJustBrought", "(I)Z"⟩, 10)]
theorem lw_r1 : ∀ q ∈ lw_privs_1, lw_okq q := List.forall_mem_cons.mpr ⟨lw_p0, List.forall_mem_cons.mpr ⟨lw_p1, List.forall_mem_cons.mpr ⟨lw_p2, List.forall_mem_cons.mpr ⟨lw_p3, List.forall_mem_cons.mpr ⟨lw_p4, List.forall_mem_cons.mpr ⟨lw_p5, List.forall_mem_cons.mpr ⟨lw_p6, List.forall_mem_cons.mpr ⟨lw_p7, List.forall_mem_cons.mpr ⟨lw_p8, List.forall_mem_cons.mpr ⟨lw_p9, List.forall_mem_cons.mpr ⟨lw_p10, List.forall_mem_cons.mpr ⟨lw_p11, List.forall_mem_cons.mpr ⟨lw_p12, List.forall_mem_cons.mpr ⟨lw_p13, List.forall_mem_cons.mpr ⟨lw_p14, List.forall_mem_cons.mpr ⟨lw_p15, fun _ h => absurd h List.not_mem_nil⟩⟩⟩⟩⟩⟩⟩⟩⟩⟩⟩⟩⟩⟩⟩⟩
theorem lw_p16 : lw_okq (⟨"SootTalkModel", "finds", "(I)I"⟩, 18) := ⟨⟨by decide +kernel, by decide +kernel⟩, List.mem_of_getElem? (i := 792) (by decide +kernel), List.mem_of_getElem? (i := 865) (by decide +kernel), List.mem_of_getElem? (i := 866) (by decide +kernel)⟩
theorem lw_p17 : lw_okq (⟨"SootTalkModel", "adds", "(I)I"⟩, 18) := ⟨⟨by decide +kernel, by decide +kernel⟩, List.mem_of_getElem? (i := 792) (by decide +kernel), List.mem_of_getElem? (i := 870) (by decide +kernel), List.mem_of_getElem? (i := 871) (by decide +kernel)⟩
theorem lw_p18 : lw_okq (⟨"SootTalkModel", "isFlue", "(I)Z"⟩, 18) := ⟨⟨by decide +kernel, by decide +kernel⟩, List.mem_of_getElem? (i := 792) (by decide +kernel), List.mem_of_getElem? (i := 881) (by decide +kernel), List.mem_of_getElem? (i := 882) (by decide +kernel)⟩
theorem lw_p19 : lw_okq (⟨"SootTalkModel", "kindOf", "(I)I"⟩, 18) := ⟨⟨by decide +kernel, by decide +kernel⟩, List.mem_of_getElem? (i := 792) (by decide +kernel), List.mem_of_getElem? (i := 886) (by decide +kernel), List.mem_of_getElem? (i := 887) (by decide +kernel)⟩
theorem lw_p20 : lw_okq (⟨"SootTalkModel", "layersOf", "(I)I"⟩, 18) := ⟨⟨by decide +kernel, by decide +kernel⟩, List.mem_of_getElem? (i := 792) (by decide +kernel), List.mem_of_getElem? (i := 890) (by decide +kernel), List.mem_of_getElem? (i := 891) (by decide +kernel)⟩
theorem lw_p21 : lw_okq (⟨"SootTalkModel", "layers", "(II)I"⟩, 18) := ⟨⟨by decide +kernel, by decide +kernel⟩, List.mem_of_getElem? (i := 792) (by decide +kernel), List.mem_of_getElem? (i := 894) (by decide +kernel), List.mem_of_getElem? (i := 895) (by decide +kernel)⟩
theorem lw_p22 : lw_okq (⟨"SootTalkModel", "wordsOf", "(I)I"⟩, 18) := ⟨⟨by decide +kernel, by decide +kernel⟩, List.mem_of_getElem? (i := 792) (by decide +kernel), List.mem_of_getElem? (i := 898) (by decide +kernel), List.mem_of_getElem? (i := 899) (by decide +kernel)⟩
theorem lw_p23 : lw_okq (⟨"SootTalkModel", "wordsAt", "(II)I"⟩, 18) := ⟨⟨by decide +kernel, by decide +kernel⟩, List.mem_of_getElem? (i := 792) (by decide +kernel), List.mem_of_getElem? (i := 902) (by decide +kernel), List.mem_of_getElem? (i := 903) (by decide +kernel)⟩
theorem lw_p24 : lw_okq (⟨"SootTalkModel", "emptyBends", "(I)I"⟩, 18) := ⟨⟨by decide +kernel, by decide +kernel⟩, List.mem_of_getElem? (i := 792) (by decide +kernel), List.mem_of_getElem? (i := 909) (by decide +kernel), List.mem_of_getElem? (i := 910) (by decide +kernel)⟩
theorem lw_p25 : lw_okq (⟨"SootTalkModel", "cakes", "(I)I"⟩, 18) := ⟨⟨by decide +kernel, by decide +kernel⟩, List.mem_of_getElem? (i := 792) (by decide +kernel), List.mem_of_getElem? (i := 913) (by decide +kernel), List.mem_of_getElem? (i := 914) (by decide +kernel)⟩
theorem lw_p26 : lw_okq (⟨"SootTalkModel", "holds", "(II)I"⟩, 18) := ⟨⟨by decide +kernel, by decide +kernel⟩, List.mem_of_getElem? (i := 792) (by decide +kernel), List.mem_of_getElem? (i := 926) (by decide +kernel), List.mem_of_getElem? (i := 927) (by decide +kernel)⟩
theorem lw_p27 : lw_okq (⟨"SootTalkModel", "becomes", "(II)I"⟩, 18) := ⟨⟨by decide +kernel, by decide +kernel⟩, List.mem_of_getElem? (i := 792) (by decide +kernel), List.mem_of_getElem? (i := 939) (by decide +kernel), List.mem_of_getElem? (i := 940) (by decide +kernel)⟩
theorem lw_p28 : lw_okq (⟨"SootTalkModel", "rise", "(III)I"⟩, 18) := ⟨⟨by decide +kernel, by decide +kernel⟩, List.mem_of_getElem? (i := 792) (by decide +kernel), List.mem_of_getElem? (i := 967) (by decide +kernel), List.mem_of_getElem? (i := 968) (by decide +kernel)⟩
theorem lw_p29 : lw_okq (⟨"SootTalkModel", "says", "(III)I"⟩, 18) := ⟨⟨by decide +kernel, by decide +kernel⟩, List.mem_of_getElem? (i := 792) (by decide +kernel), List.mem_of_getElem? (i := 975) (by decide +kernel), List.mem_of_getElem? (i := 976) (by decide +kernel)⟩
theorem lw_p30 : lw_okq (⟨"SootTalkModel", "lands", "(III)I"⟩, 18) := ⟨⟨by decide +kernel, by decide +kernel⟩, List.mem_of_getElem? (i := 792) (by decide +kernel), List.mem_of_getElem? (i := 979) (by decide +kernel), List.mem_of_getElem? (i := 980) (by decide +kernel)⟩
theorem lw_p31 : lw_okq (⟨"SootTalkModel", "isFull", "(II)Z"⟩, 18) := ⟨⟨by decide +kernel, by decide +kernel⟩, List.mem_of_getElem? (i := 792) (by decide +kernel), List.mem_of_getElem? (i := 983) (by decide +kernel), List.mem_of_getElem? (i := 984) (by decide +kernel)⟩
def lw_privs_2 : List (MethodName × Nat) := [(⟨"SootTalkModel", "finds", "(I)I"⟩, 18), (⟨"SootTalkModel", "adds", "(I)I"⟩, 18), (⟨"SootTalkModel", "isFlue", "(I)Z"⟩, 18), (⟨"SootTalkModel", "kindOf", "(I)I"⟩, 18), (⟨"SootTalkModel", "layersOf", "(I)I"⟩, 18), (⟨"SootTalkModel", "layers", "(II)I"⟩, 18), (⟨"SootTalkModel", "wordsOf", "(I)I"⟩, 18), (⟨"SootTalkModel", "wordsAt", "(II)I"⟩, 18), (⟨"SootTalkModel", "emptyBends", "(I)I"⟩, 18), (⟨"SootTalkModel", "cakes", "(I)I"⟩, 18), (⟨"SootTalkModel", "holds", "(II)I"⟩, 18), (⟨"SootTalkModel", "becomes", "(II)I"⟩, 18), (⟨"SootTalkModel", "rise", "(III)I"⟩, 18), (⟨"SootTalkModel", "says", "(III)I"⟩, 18), (⟨"SootTalkModel", "lands", "(III)I"⟩, 18), (⟨"SootTalkModel", "isFull", "(II)Z"⟩, 18)]
theorem lw_r2 : ∀ q ∈ lw_privs_2, lw_okq q := List.forall_mem_cons.mpr ⟨lw_p16, List.forall_mem_cons.mpr ⟨lw_p17, List.forall_mem_cons.mpr ⟨lw_p18, List.forall_mem_cons.mpr ⟨lw_p19, List.forall_mem_cons.mpr ⟨lw_p20, List.forall_mem_cons.mpr ⟨lw_p21, List.forall_mem_cons.mpr ⟨lw_p22, List.forall_mem_cons.mpr ⟨lw_p23, List.forall_mem_cons.mpr ⟨lw_p24, List.forall_mem_cons.mpr ⟨lw_p25, List.forall_mem_cons.mpr ⟨lw_p26, List.forall_mem_cons.mpr ⟨lw_p27, List.forall_mem_cons.mpr ⟨lw_p28, List.forall_mem_cons.mpr ⟨lw_p29, List.forall_mem_cons.mpr ⟨lw_p30, List.forall_mem_cons.mpr ⟨lw_p31, fun _ h => absurd h List.not_mem_nil⟩⟩⟩⟩⟩⟩⟩⟩⟩⟩⟩⟩⟩⟩⟩⟩
theorem lw_p32 : lw_okq (⟨"SootTalkModel", "lies", "(IIII)V"⟩, 18) := ⟨⟨by decide +kernel, by decide +kernel⟩, List.mem_of_getElem? (i := 792) (by decide +kernel), List.mem_of_getElem? (i := 987) (by decide +kernel), List.mem_of_getElem? (i := 988) (by decide +kernel)⟩
theorem lw_p33 : lw_okq (⟨"SootTalkModel", "goesOn", "(I)V"⟩, 18) := ⟨⟨by decide +kernel, by decide +kernel⟩, List.mem_of_getElem? (i := 792) (by decide +kernel), List.mem_of_getElem? (i := 1001) (by decide +kernel), List.mem_of_getElem? (i := 1002) (by decide +kernel)⟩
theorem lw_p34 : lw_okq (⟨"SootTalkModel", "day", "()V"⟩, 18) := ⟨⟨by decide +kernel, by decide +kernel⟩, List.mem_of_getElem? (i := 792) (by decide +kernel), List.mem_of_getElem? (i := 1005) (by decide +kernel), List.mem_of_getElem? (i := 1006) (by decide +kernel)⟩
theorem lw_p35 : lw_okq (⟨"SootTalkModel", "withCake", "(I)I"⟩, 18) := ⟨⟨by decide +kernel, by decide +kernel⟩, List.mem_of_getElem? (i := 792) (by decide +kernel), List.mem_of_getElem? (i := 1009) (by decide +kernel), List.mem_of_getElem? (i := 1010) (by decide +kernel)⟩
theorem lw_p36 : lw_okq (⟨"SootTalkModel", "layersAll", "()I"⟩, 18) := ⟨⟨by decide +kernel, by decide +kernel⟩, List.mem_of_getElem? (i := 792) (by decide +kernel), List.mem_of_getElem? (i := 1017) (by decide +kernel), List.mem_of_getElem? (i := 1018) (by decide +kernel)⟩
theorem lw_p37 : lw_okq (⟨"SootTalkModel", "wordsAll", "()I"⟩, 18) := ⟨⟨by decide +kernel, by decide +kernel⟩, List.mem_of_getElem? (i := 792) (by decide +kernel), List.mem_of_getElem? (i := 1021) (by decide +kernel), List.mem_of_getElem? (i := 1022) (by decide +kernel)⟩
theorem lw_p38 : lw_okq (⟨"SootTalkModel", "cakeAll", "()I"⟩, 18) := ⟨⟨by decide +kernel, by decide +kernel⟩, List.mem_of_getElem? (i := 792) (by decide +kernel), List.mem_of_getElem? (i := 1025) (by decide +kernel), List.mem_of_getElem? (i := 1026) (by decide +kernel)⟩
theorem lw_p39 : lw_okq (⟨"SootTalkModel", "isBrush", "(III)Z"⟩, 18) := ⟨⟨by decide +kernel, by decide +kernel⟩, List.mem_of_getElem? (i := 792) (by decide +kernel), List.mem_of_getElem? (i := 1033) (by decide +kernel), List.mem_of_getElem? (i := 1034) (by decide +kernel)⟩
theorem lw_p40 : lw_okq (⟨"SootTalkModel", "loose", "(III)I"⟩, 18) := ⟨⟨by decide +kernel, by decide +kernel⟩, List.mem_of_getElem? (i := 792) (by decide +kernel), List.mem_of_getElem? (i := 1040) (by decide +kernel), List.mem_of_getElem? (i := 1041) (by decide +kernel)⟩
theorem lw_p41 : lw_okq (⟨"SootTalkModel", "broughtBy", "(III)I"⟩, 18) := ⟨⟨by decide +kernel, by decide +kernel⟩, List.mem_of_getElem? (i := 792) (by decide +kernel), List.mem_of_getElem? (i := 1048) (by decide +kernel), List.mem_of_getElem? (i := 1049) (by decide +kernel)⟩
theorem lw_p42 : lw_okq (⟨"SootTalkModel", "brings", "(III)V"⟩, 18) := ⟨⟨by decide +kernel, by decide +kernel⟩, List.mem_of_getElem? (i := 792) (by decide +kernel), List.mem_of_getElem? (i := 1052) (by decide +kernel), List.mem_of_getElem? (i := 1053) (by decide +kernel)⟩
theorem lw_p43 : lw_okq (⟨"SootTalkModel", "laysAside", "()V"⟩, 18) := ⟨⟨by decide +kernel, by decide +kernel⟩, List.mem_of_getElem? (i := 792) (by decide +kernel), List.mem_of_getElem? (i := 1064) (by decide +kernel), List.mem_of_getElem? (i := 1065) (by decide +kernel)⟩
theorem lw_p44 : lw_okq (⟨"SootTalkModel", "takesBack", "(I)I"⟩, 18) := ⟨⟨by decide +kernel, by decide +kernel⟩, List.mem_of_getElem? (i := 792) (by decide +kernel), List.mem_of_getElem? (i := 1068) (by decide +kernel), List.mem_of_getElem? (i := 1069) (by decide +kernel)⟩
theorem lw_p45 : lw_okq (⟨"SootTalkModel", "saysAll", "(III)I"⟩, 18) := ⟨⟨by decide +kernel, by decide +kernel⟩, List.mem_of_getElem? (i := 792) (by decide +kernel), List.mem_of_getElem? (i := 1112) (by decide +kernel), List.mem_of_getElem? (i := 1113) (by decide +kernel)⟩
theorem lw_p46 : lw_okq (⟨"SootTalkModel", "saves", "()V"⟩, 18) := ⟨⟨by decide +kernel, by decide +kernel⟩, List.mem_of_getElem? (i := 792) (by decide +kernel), List.mem_of_getElem? (i := 1136) (by decide +kernel), List.mem_of_getElem? (i := 1137) (by decide +kernel)⟩
theorem lw_p47 : lw_okq (⟨"SootTalkModel", "token", "()V"⟩, 18) := ⟨⟨by decide +kernel, by decide +kernel⟩, List.mem_of_getElem? (i := 792) (by decide +kernel), List.mem_of_getElem? (i := 1140) (by decide +kernel), List.mem_of_getElem? (i := 1141) (by decide +kernel)⟩
def lw_privs_3 : List (MethodName × Nat) := [(⟨"SootTalkModel", "lies", "(IIII)V"⟩, 18), (⟨"SootTalkModel", "goesOn", "(I)V"⟩, 18), (⟨"SootTalkModel", "day", "()V"⟩, 18), (⟨"SootTalkModel", "withCake", "(I)I"⟩, 18), (⟨"SootTalkModel", "layersAll", "()I"⟩, 18), (⟨"SootTalkModel", "wordsAll", "()I"⟩, 18), (⟨"SootTalkModel", "cakeAll", "()I"⟩, 18), (⟨"SootTalkModel", "isBrush", "(III)Z"⟩, 18), (⟨"SootTalkModel", "loose", "(III)I"⟩, 18), (⟨"SootTalkModel", "broughtBy", "(III)I"⟩, 18), (⟨"SootTalkModel", "brings", "(III)V"⟩, 18), (⟨"SootTalkModel", "laysAside", "()V"⟩, 18), (⟨"SootTalkModel", "takesBack", "(I)I"⟩, 18), (⟨"SootTalkModel", "saysAll", "(III)I"⟩, 18), (⟨"SootTalkModel", "saves", "()V"⟩, 18), (⟨"SootTalkModel", "token", "()V"⟩, 18)]
theorem lw_r3 : ∀ q ∈ lw_privs_3, lw_okq q := List.forall_mem_cons.mpr ⟨lw_p32, List.forall_mem_cons.mpr ⟨lw_p33, List.forall_mem_cons.mpr ⟨lw_p34, List.forall_mem_cons.mpr ⟨lw_p35, List.forall_mem_cons.mpr ⟨lw_p36, List.forall_mem_cons.mpr ⟨lw_p37, List.forall_mem_cons.mpr ⟨lw_p38, List.forall_mem_cons.mpr ⟨lw_p39, List.forall_mem_cons.mpr ⟨lw_p40, List.forall_mem_cons.mpr ⟨lw_p41, List.forall_mem_cons.mpr ⟨lw_p42, List.forall_mem_cons.mpr ⟨lw_p43, List.forall_mem_cons.mpr ⟨lw_p44, List.forall_mem_cons.mpr ⟨lw_p45, List.forall_mem_cons.mpr ⟨lw_p46, List.forall_mem_cons.mpr ⟨lw_p47, fun _ h => absurd h List.not_mem_nil⟩⟩⟩⟩⟩⟩⟩⟩⟩⟩⟩⟩⟩⟩⟩⟩
theorem lw_p48 : lw_okq (⟨"SootTalkModel", "byteAt", "(I)I"⟩, 18) := ⟨⟨by decide +kernel, by decide +kernel⟩, List.mem_of_getElem? (i := 792) (by decide +kernel), List.mem_of_getElem? (i := 1144) (by decide +kernel), List.mem_of_getElem? (i := 1145) (by decide +kernel)⟩
theorem lw_p49 : lw_okq (⟨"SootTalkModel", "item", "()V"⟩, 18) := ⟨⟨by decide +kernel, by decide +kernel⟩, List.mem_of_getElem? (i := 792) (by decide +kernel), List.mem_of_getElem? (i := 1158) (by decide +kernel), List.mem_of_getElem? (i := 1159) (by decide +kernel)⟩
theorem lw_p50 : lw_okq (⟨"SootTalkModel", "kindHere", "()I"⟩, 18) := ⟨⟨by decide +kernel, by decide +kernel⟩, List.mem_of_getElem? (i := 792) (by decide +kernel), List.mem_of_getElem? (i := 1162) (by decide +kernel), List.mem_of_getElem? (i := 1163) (by decide +kernel)⟩
theorem lw_p51 : lw_okq (⟨"SootTalkModel", "word", "()J"⟩, 18) := ⟨⟨by decide +kernel, by decide +kernel⟩, List.mem_of_getElem? (i := 792) (by decide +kernel), List.mem_of_getElem? (i := 1166) (by decide +kernel), List.mem_of_getElem? (i := 1167) (by decide +kernel)⟩
theorem lw_p52 : lw_okq (⟨"SootTalkModel", "flueItem", "(I)V"⟩, 18) := ⟨⟨by decide +kernel, by decide +kernel⟩, List.mem_of_getElem? (i := 792) (by decide +kernel), List.mem_of_getElem? (i := 1178) (by decide +kernel), List.mem_of_getElem? (i := 1179) (by decide +kernel)⟩
theorem lw_p53 : lw_okq (⟨"SootTalkModel", "must", "(Z)V"⟩, 18) := ⟨⟨by decide +kernel, by decide +kernel⟩, List.mem_of_getElem? (i := 792) (by decide +kernel), List.mem_of_getElem? (i := 1182) (by decide +kernel), List.mem_of_getElem? (i := 1183) (by decide +kernel)⟩
theorem lw_p54 : lw_okq (⟨"SootTalkModel", "sayItem", "()V"⟩, 18) := ⟨⟨by decide +kernel, by decide +kernel⟩, List.mem_of_getElem? (i := 792) (by decide +kernel), List.mem_of_getElem? (i := 1187) (by decide +kernel), List.mem_of_getElem? (i := 1188) (by decide +kernel)⟩
theorem lw_p55 : lw_okq (⟨"SootTalkModel", "number", "(II)V"⟩, 18) := ⟨⟨by decide +kernel, by decide +kernel⟩, List.mem_of_getElem? (i := 792) (by decide +kernel), List.mem_of_getElem? (i := 1191) (by decide +kernel), List.mem_of_getElem? (i := 1192) (by decide +kernel)⟩
theorem lw_p56 : lw_okq (⟨"SootTalkModel", "perhaps", "(JI)I"⟩, 18) := ⟨⟨by decide +kernel, by decide +kernel⟩, List.mem_of_getElem? (i := 792) (by decide +kernel), List.mem_of_getElem? (i := 1196) (by decide +kernel), List.mem_of_getElem? (i := 1197) (by decide +kernel)⟩
theorem lw_p57 : lw_okq (⟨"SootTalkModel", "layerItem", "()V"⟩, 18) := ⟨⟨by decide +kernel, by decide +kernel⟩, List.mem_of_getElem? (i := 792) (by decide +kernel), List.mem_of_getElem? (i := 1201) (by decide +kernel), List.mem_of_getElem? (i := 1202) (by decide +kernel)⟩
theorem lw_p58 : lw_okq (⟨"SootTalkModel", "putsBack", "()V"⟩, 18) := ⟨⟨by decide +kernel, by decide +kernel⟩, List.mem_of_getElem? (i := 792) (by decide +kernel), List.mem_of_getElem? (i := 1207) (by decide +kernel), List.mem_of_getElem? (i := 1208) (by decide +kernel)⟩
theorem lw_p59 : lw_okq (⟨"SootTalkModel", "wrongSheet", "(I)I"⟩, 18) := ⟨⟨by decide +kernel, by decide +kernel⟩, List.mem_of_getElem? (i := 792) (by decide +kernel), List.mem_of_getElem? (i := 1224) (by decide +kernel), List.mem_of_getElem? (i := 1225) (by decide +kernel)⟩
theorem lw_p60 : lw_okq (⟨"SootTalkModel", "wrongFlue", "(II)I"⟩, 18) := ⟨⟨by decide +kernel, by decide +kernel⟩, List.mem_of_getElem? (i := 792) (by decide +kernel), List.mem_of_getElem? (i := 1240) (by decide +kernel), List.mem_of_getElem? (i := 1241) (by decide +kernel)⟩
theorem lw_p61 : lw_okq (⟨"SootTalkModel", "isBook", "(I)Z"⟩, 18) := ⟨⟨by decide +kernel, by decide +kernel⟩, List.mem_of_getElem? (i := 792) (by decide +kernel), List.mem_of_getElem? (i := 1253) (by decide +kernel), List.mem_of_getElem? (i := 1254) (by decide +kernel)⟩
theorem lw_p62 : lw_okq (⟨"SootTalkModel", "fullOnes", "()I"⟩, 18) := ⟨⟨by decide +kernel, by decide +kernel⟩, List.mem_of_getElem? (i := 792) (by decide +kernel), List.mem_of_getElem? (i := 1273) (by decide +kernel), List.mem_of_getElem? (i := 1274) (by decide +kernel)⟩
def lw_privs_4 : List (MethodName × Nat) := [(⟨"SootTalkModel", "byteAt", "(I)I"⟩, 18), (⟨"SootTalkModel", "item", "()V"⟩, 18), (⟨"SootTalkModel", "kindHere", "()I"⟩, 18), (⟨"SootTalkModel", "word", "()J"⟩, 18), (⟨"SootTalkModel", "flueItem", "(I)V"⟩, 18), (⟨"SootTalkModel", "must", "(Z)V"⟩, 18), (⟨"SootTalkModel", "sayItem", "()V"⟩, 18), (⟨"SootTalkModel", "number", "(II)V"⟩, 18), (⟨"SootTalkModel", "perhaps", "(JI)I"⟩, 18), (⟨"SootTalkModel", "layerItem", "()V"⟩, 18), (⟨"SootTalkModel", "putsBack", "()V"⟩, 18), (⟨"SootTalkModel", "wrongSheet", "(I)I"⟩, 18), (⟨"SootTalkModel", "wrongFlue", "(II)I"⟩, 18), (⟨"SootTalkModel", "isBook", "(I)Z"⟩, 18), (⟨"SootTalkModel", "fullOnes", "()I"⟩, 18)]
theorem lw_r4 : ∀ q ∈ lw_privs_4, lw_okq q := List.forall_mem_cons.mpr ⟨lw_p48, List.forall_mem_cons.mpr ⟨lw_p49, List.forall_mem_cons.mpr ⟨lw_p50, List.forall_mem_cons.mpr ⟨lw_p51, List.forall_mem_cons.mpr ⟨lw_p52, List.forall_mem_cons.mpr ⟨lw_p53, List.forall_mem_cons.mpr ⟨lw_p54, List.forall_mem_cons.mpr ⟨lw_p55, List.forall_mem_cons.mpr ⟨lw_p56, List.forall_mem_cons.mpr ⟨lw_p57, List.forall_mem_cons.mpr ⟨lw_p58, List.forall_mem_cons.mpr ⟨lw_p59, List.forall_mem_cons.mpr ⟨lw_p60, List.forall_mem_cons.mpr ⟨lw_p61, List.forall_mem_cons.mpr ⟨lw_p62, fun _ h => absurd h List.not_mem_nil⟩⟩⟩⟩⟩⟩⟩⟩⟩⟩⟩⟩⟩⟩⟩
def lw_privs : List (MethodName × Nat) := lw_privs_1 ++ (lw_privs_2 ++ (lw_privs_3 ++ (lw_privs_4)))
def lw_tbl : List Cond := k2_sels lw_privs ++ tables_1
theorem lw_privs_ok : ∀ q ∈ lw_privs, lw_okq q := by
  show ∀ q ∈ lw_privs_1 ++ (lw_privs_2 ++ (lw_privs_3 ++ (lw_privs_4))), lw_okq q
  exact List.forall_mem_append.mpr ⟨lw_r1, List.forall_mem_append.mpr ⟨lw_r2, List.forall_mem_append.mpr ⟨lw_r3, lw_r4⟩⟩⟩
end
section
def RX0 : String := "SootTalk$Brush"
def TX0 : u_T := fun k => match k with
  | 0 => ("SootTalk$Brush", "number", "I", false)
  | 1 => ("SootTalk$Brush", "set", "I", false)
  | _ => ("SootTalk$Brush", "words", "[I", true)
def tyX0 : Nat → FieldType := fun k => match k with
  | 0 => .int
  | 1 => .int
  | _ => .array .int
abbrev wsX00 : List Cond := u_ws RX0 TX0 3
theorem nmX0 : ∀ a, a < 3 → ∀ b, b < 3 → a ≠ b → (TX0 a).2.1 ≠ (TX0 b).2.1 := by decide +kernel
theorem tyX0_ok : ∀ k, k < 3 → parseFieldDescriptor (TX0 k).2.2.1 = some (tyX0 k) := by decide +kernel
abbrev cX0_init : ByteArray := prog_2_method_1_code
def yX0_init : MethodName := ⟨RX0, "<init>", "()V"⟩
abbrev cX0_putUp : ByteArray := prog_2_method_2_code
def yX0_putUp : MethodName := ⟨RX0, "putUp", "(LSootTalk$Stack;IIII)V"⟩
abbrev cX0_take : ByteArray := prog_2_method_3_code
def yX0_take : MethodName := ⟨RX0, "take", "(I)V"⟩
abbrev cX0_word : ByteArray := prog_2_method_4_code
def yX0_word : MethodName := ⟨RX0, "word", "(I)I"⟩
abbrev cX0_brings : ByteArray := prog_2_method_5_code
def yX0_brings : MethodName := ⟨RX0, "brings", "(I)Z"⟩
def RX1 : String := "SootTalk$Kinds"
def TX1 : u_T := fun k => match k with
  | _ => ("", "", "", false)
def tyX1 : Nat → FieldType := fun k => match k with
  | _ => .int
abbrev wsX10 : List Cond := u_ws RX1 TX1 0
theorem nmX1 : ∀ a, a < 0 → ∀ b, b < 0 → a ≠ b → (TX1 a).2.1 ≠ (TX1 b).2.1 := by decide +kernel
theorem tyX1_ok : ∀ k, k < 0 → parseFieldDescriptor (TX1 k).2.2.1 = some (tyX1 k) := by decide +kernel
abbrev cX1_isOrIsUnder : ByteArray := prog_3_method_2_code
def yX1_isOrIsUnder : MethodName := ⟨RX1, "isOrIsUnder", "(II)Z"⟩
abbrev cX1_rise : ByteArray := prog_3_method_3_code
def yX1_rise : MethodName := ⟨RX1, "rise", "(IIII)I"⟩
abbrev cX1_holds : ByteArray := prog_3_method_4_code
def yX1_holds : MethodName := ⟨RX1, "holds", "(II)I"⟩
abbrev cX1_cakes : ByteArray := prog_3_method_5_code
def yX1_cakes : MethodName := ⟨RX1, "cakes", "(II)I"⟩
abbrev cX1_name : ByteArray := prog_3_method_6_code
def yX1_name : MethodName := ⟨RX1, "name", "(I)Ljava/lang/String;"⟩
abbrev cX1_settle : ByteArray := prog_3_method_7_code
def yX1_settle : MethodName := ⟨RX1, "settle", "(II[II)I"⟩
def RX2 : String := "SootTalk$Sheets"
def TX2 : u_T := fun k => match k with
  | 0 => ("SootTalk$Sheets", "widths", "[I", true)
  | 1 => ("SootTalk$Sheets", "lengths", "[I", true)
  | _ => ("SootTalk$Sheets", "numbers", "[J", true)
def tyX2 : Nat → FieldType := fun k => match k with
  | 0 => .array .int
  | 1 => .array .int
  | _ => .array .long
abbrev wsX20 : List Cond := u_ws RX2 TX2 3
theorem nmX2 : ∀ a, a < 3 → ∀ b, b < 3 → a ≠ b → (TX2 a).2.1 ≠ (TX2 b).2.1 := by decide +kernel
theorem tyX2_ok : ∀ k, k < 3 → parseFieldDescriptor (TX2 k).2.2.1 = some (tyX2 k) := by decide +kernel
abbrev cX2_init : ByteArray := prog_4_method_1_code
def yX2_init : MethodName := ⟨RX2, "<init>", "()V"⟩
abbrev cX2_isSheet : ByteArray := prog_4_method_2_code
def yX2_isSheet : MethodName := ⟨RX2, "isSheet", "(I)Z"⟩
abbrev cX2_isWidth : ByteArray := prog_4_method_3_code
def yX2_isWidth : MethodName := ⟨RX2, "isWidth", "(I)Z"⟩
abbrev cX2_layOut : ByteArray := prog_4_method_4_code
def yX2_layOut : MethodName := ⟨RX2, "layOut", "(III)I"⟩
abbrev cX2_isMissing : ByteArray := prog_4_method_5_code
def yX2_isMissing : MethodName := ⟨RX2, "isMissing", "(I)Z"⟩
abbrev cX2_width : ByteArray := prog_4_method_6_code
def yX2_width : MethodName := ⟨RX2, "width", "(I)I"⟩
abbrev cX2_length : ByteArray := prog_4_method_7_code
def yX2_length : MethodName := ⟨RX2, "length", "(I)I"⟩
abbrev cX2_hasRange : ByteArray := prog_4_method_8_code
def yX2_hasRange : MethodName := ⟨RX2, "hasRange", "(III)Z"⟩
abbrev cX2_number : ByteArray := prog_4_method_9_code
def yX2_number : MethodName := ⟨RX2, "number", "(II)J"⟩
abbrev cX2_put : ByteArray := prog_4_method_10_code
def yX2_put : MethodName := ⟨RX2, "put", "(IIJ)V"⟩
abbrev cX2_cut : ByteArray := prog_4_method_11_code
def yX2_cut : MethodName := ⟨RX2, "cut", "(IJ)J"⟩
abbrev cX2_move : ByteArray := prog_4_method_12_code
def yX2_move : MethodName := ⟨RX2, "move", "(IIIII)V"⟩
def RX3 : String := "SootTalk$Stack"
def TX3 : u_T := fun k => match k with
  | 0 => ("SootTalk$Stack", "day", "I", false)
  | 1 => ("SootTalk$Stack", "damp", "I", false)
  | 2 => ("SootTalk$Stack", "flues", "I", false)
  | 3 => ("SootTalk$Stack", "kinds", "[I", true)
  | 4 => ("SootTalk$Stack", "heights", "[I", true)
  | 5 => ("SootTalk$Stack", "words", "[I", true)
  | _ => ("SootTalk$Stack", "cakes", "[I", true)
def tyX3 : Nat → FieldType := fun k => match k with
  | 0 => .int
  | 1 => .int
  | 2 => .int
  | 3 => .array .int
  | 4 => .array .int
  | 5 => .array .int
  | _ => .array .int
abbrev wsX30 : List Cond := u_ws RX3 TX3 7
theorem nmX3 : ∀ a, a < 7 → ∀ b, b < 7 → a ≠ b → (TX3 a).2.1 ≠ (TX3 b).2.1 := by decide +kernel
theorem tyX3_ok : ∀ k, k < 7 → parseFieldDescriptor (TX3 k).2.2.1 = some (tyX3 k) := by decide +kernel
abbrev cX3_init : ByteArray := prog_5_method_1_code
def yX3_init : MethodName := ⟨RX3, "<init>", "()V"⟩
abbrev cX3_become : ByteArray := prog_5_method_2_code
def yX3_become : MethodName := ⟨RX3, "become", "(LSootTalk$Stack;)V"⟩
abbrev cX3_hasFlue : ByteArray := prog_5_method_3_code
def yX3_hasFlue : MethodName := ⟨RX3, "hasFlue", "(I)Z"⟩
abbrev cX3_addFlue : ByteArray := prog_5_method_4_code
def yX3_addFlue : MethodName := ⟨RX3, "addFlue", "(I)I"⟩
abbrev cX3_kindOf : ByteArray := prog_5_method_5_code
def yX3_kindOf : MethodName := ⟨RX3, "kindOf", "(I)I"⟩
abbrev cX3_setKind : ByteArray := prog_5_method_6_code
def yX3_setKind : MethodName := ⟨RX3, "setKind", "(II)V"⟩
abbrev cX3_height : ByteArray := prog_5_method_7_code
def yX3_height : MethodName := ⟨RX3, "height", "(II)I"⟩
abbrev cX3_hasLayer : ByteArray := prog_5_method_8_code
def yX3_hasLayer : MethodName := ⟨RX3, "hasLayer", "(III)Z"⟩
abbrev cX3_place : ByteArray := prog_5_method_9_code
def yX3_place : MethodName := ⟨RX3, "place", "(III)I"⟩
abbrev cX3_wordAt : ByteArray := prog_5_method_10_code
def yX3_wordAt : MethodName := ⟨RX3, "wordAt", "(III)I"⟩
abbrev cX3_cakeAt : ByteArray := prog_5_method_11_code
def yX3_cakeAt : MethodName := ⟨RX3, "cakeAt", "(III)I"⟩
abbrev cX3_setCake : ByteArray := prog_5_method_12_code
def yX3_setCake : MethodName := ⟨RX3, "setCake", "(IIII)V"⟩
abbrev cX3_lay : ByteArray := prog_5_method_13_code
def yX3_lay : MethodName := ⟨RX3, "lay", "(IIII)V"⟩
abbrev cX3_landing : ByteArray := prog_5_method_14_code
def yX3_landing : MethodName := ⟨RX3, "landing", "(III)I"⟩
abbrev cX3_speak : ByteArray := prog_5_method_15_code
def yX3_speak : MethodName := ⟨RX3, "speak", "(III)I"⟩
abbrev cX3_passDays : ByteArray := prog_5_method_16_code
def yX3_passDays : MethodName := ⟨RX3, "passDays", "(I)V"⟩
abbrev cX3_loose : ByteArray := prog_5_method_17_code
def yX3_loose : MethodName := ⟨RX3, "loose", "(IIII)I"⟩
abbrev cX3_takeDown : ByteArray := prog_5_method_18_code
def yX3_takeDown : MethodName := ⟨RX3, "takeDown", "(III)I"⟩
abbrev cX3_layersIn : ByteArray := prog_5_method_19_code
def yX3_layersIn : MethodName := ⟨RX3, "layersIn", "(I)I"⟩
abbrev cX3_wordsOn : ByteArray := prog_5_method_20_code
def yX3_wordsOn : MethodName := ⟨RX3, "wordsOn", "(II)I"⟩
abbrev cX3_wordsIn : ByteArray := prog_5_method_21_code
def yX3_wordsIn : MethodName := ⟨RX3, "wordsIn", "(I)I"⟩
abbrev cX3_bareBends : ByteArray := prog_5_method_22_code
def yX3_bareBends : MethodName := ⟨RX3, "bareBends", "(I)I"⟩
abbrev cX3_lowestWith : ByteArray := prog_5_method_23_code
def yX3_lowestWith : MethodName := ⟨RX3, "lowestWith", "(II)I"⟩
abbrev cX3_allLayers : ByteArray := prog_5_method_24_code
def yX3_allLayers : MethodName := ⟨RX3, "allLayers", "()I"⟩
abbrev cX3_allWords : ByteArray := prog_5_method_25_code
def yX3_allWords : MethodName := ⟨RX3, "allWords", "()I"⟩
abbrev cX3_allCake : ByteArray := prog_5_method_26_code
def yX3_allCake : MethodName := ⟨RX3, "allCake", "()I"⟩
abbrev cX3_layersOfCake : ByteArray := prog_5_method_27_code
def yX3_layersOfCake : MethodName := ⟨RX3, "layersOfCake", "(I)I"⟩
abbrev cX3_fullBends : ByteArray := prog_5_method_28_code
def yX3_fullBends : MethodName := ⟨RX3, "fullBends", "()I"⟩
def RX4 : String := "SootTalk$Tape"
def TX4 : u_T := fun k => match k with
  | 0 => ("SootTalk$Tape", "length", "I", false)
  | 1 => ("SootTalk$Tape", "token", "I", false)
  | 2 => ("SootTalk$Tape", "from", "I", false)
  | 3 => ("SootTalk$Tape", "to", "I", false)
  | 4 => ("SootTalk$Tape", "value", "I", false)
  | _ => ("SootTalk$Tape", "bytes", "[I", true)
def tyX4 : Nat → FieldType := fun k => match k with
  | 0 => .int
  | 1 => .int
  | 2 => .int
  | 3 => .int
  | 4 => .int
  | _ => .array .int
abbrev wsX40 : List Cond := u_ws RX4 TX4 6
theorem nmX4 : ∀ a, a < 6 → ∀ b, b < 6 → a ≠ b → (TX4 a).2.1 ≠ (TX4 b).2.1 := by decide +kernel
theorem tyX4_ok : ∀ k, k < 6 → parseFieldDescriptor (TX4 k).2.2.1 = some (tyX4 k) := by decide +kernel
abbrev cX4_init : ByteArray := prog_6_method_1_code
def yX4_init : MethodName := ⟨RX4, "<init>", "()V"⟩
abbrev cX4_hasRoom : ByteArray := prog_6_method_2_code
def yX4_hasRoom : MethodName := ⟨RX4, "hasRoom", "(I)Z"⟩
abbrev cX4_add : ByteArray := prog_6_method_3_code
def yX4_add : MethodName := ⟨RX4, "add", "(I)V"⟩
abbrev cX4_at : ByteArray := prog_6_method_4_code
def yX4_at : MethodName := ⟨RX4, "at", "(I)I"⟩
abbrev cX4_begin : ByteArray := prog_6_method_5_code
def yX4_begin : MethodName := ⟨RX4, "begin", "()V"⟩
abbrev cX4_step : ByteArray := prog_6_method_6_code
def yX4_step : MethodName := ⟨RX4, "step", "()V"⟩
abbrev cX4_pass : ByteArray := prog_6_method_7_code
def yX4_pass : MethodName := ⟨RX4, "pass", "(Ljava/lang/String;)Z"⟩
abbrev cX4_passNumber : ByteArray := prog_6_method_8_code
def yX4_passNumber : MethodName := ⟨RX4, "passNumber", "(I)I"⟩
abbrev cX4_isLetter : ByteArray := prog_6_method_9_code
def yX4_isLetter : MethodName := ⟨RX4, "isLetter", "(I)Z"⟩
abbrev cX4_isDigit : ByteArray := prog_6_method_10_code
def yX4_isDigit : MethodName := ⟨RX4, "isDigit", "(I)Z"⟩
def RX5 : String := "SootTalk$Text"
def TX5 : u_T := fun k => match k with
  | 0 => ("SootTalk$Text", "flues", "I", false)
  | 1 => ("SootTalk$Text", "item", "I", false)
  | 2 => ("SootTalk$Text", "kind", "I", false)
  | 3 => ("SootTalk$Text", "flue", "I", false)
  | 4 => ("SootTalk$Text", "bend", "I", false)
  | 5 => ("SootTalk$Text", "word", "I", false)
  | 6 => ("SootTalk$Text", "voice", "I", false)
  | 7 => ("SootTalk$Text", "cake", "I", false)
  | _ => ("SootTalk$Text", "damp", "I", false)
def tyX5 : Nat → FieldType := fun k => match k with
  | 0 => .int
  | 1 => .int
  | 2 => .int
  | 3 => .int
  | 4 => .int
  | 5 => .int
  | 6 => .int
  | 7 => .int
  | _ => .int
abbrev wsX50 : List Cond := u_ws RX5 TX5 9
theorem nmX5 : ∀ a, a < 9 → ∀ b, b < 9 → a ≠ b → (TX5 a).2.1 ≠ (TX5 b).2.1 := by decide +kernel
theorem tyX5_ok : ∀ k, k < 9 → parseFieldDescriptor (TX5 k).2.2.1 = some (tyX5 k) := by decide +kernel
abbrev cX5_init : ByteArray := prog_7_method_1_code
def yX5_init : MethodName := ⟨RX5, "<init>", "()V"⟩
abbrev cX5_goThrough : ByteArray := prog_7_method_2_code
def yX5_goThrough : MethodName := ⟨RX5, "goThrough", "(LSootTalk$Tape;LSootTalk$Stack;Z)I"⟩
abbrev cX5_passItem : ByteArray := prog_7_method_3_code
def yX5_passItem : MethodName := ⟨RX5, "passItem", "(LSootTalk$Tape;)Z"⟩
abbrev cX5_passFlue : ByteArray := prog_7_method_4_code
def yX5_passFlue : MethodName := ⟨RX5, "passFlue", "(I)Z"⟩
abbrev cX5_passSaying : ByteArray := prog_7_method_5_code
def yX5_passSaying : MethodName := ⟨RX5, "passSaying", "(LSootTalk$Tape;)Z"⟩
abbrev cX5_passLayer : ByteArray := prog_7_method_6_code
def yX5_passLayer : MethodName := ⟨RX5, "passLayer", "(LSootTalk$Tape;)Z"⟩
abbrev cX5_passDamp : ByteArray := prog_7_method_7_code
def yX5_passDamp : MethodName := ⟨RX5, "passDamp", "(LSootTalk$Tape;)Z"⟩
abbrev cX5_perform : ByteArray := prog_7_method_8_code
def yX5_perform : MethodName := ⟨RX5, "perform", "(LSootTalk$Stack;)V"⟩
def RX6 : String := "SootTalk$Trial"
def TX6 : u_T := fun k => match k with
  | 0 => ("SootTalk$Trial", "laid", "I", false)
  | 1 => ("SootTalk$Trial", "bendsAdded", "I", false)
  | _ => ("SootTalk$Trial", "heights", "[I", true)
def tyX6 : Nat → FieldType := fun k => match k with
  | 0 => .int
  | 1 => .int
  | _ => .array .int
abbrev wsX60 : List Cond := u_ws RX6 TX6 3
theorem nmX6 : ∀ a, a < 3 → ∀ b, b < 3 → a ≠ b → (TX6 a).2.1 ≠ (TX6 b).2.1 := by decide +kernel
theorem tyX6_ok : ∀ k, k < 3 → parseFieldDescriptor (TX6 k).2.2.1 = some (tyX6 k) := by decide +kernel
abbrev cX6_init : ByteArray := prog_8_method_1_code
def yX6_init : MethodName := ⟨RX6, "<init>", "()V"⟩
abbrev cX6_speakAll : ByteArray := prog_8_method_2_code
def yX6_speakAll : MethodName := ⟨RX6, "speakAll", "(LSootTalk$Stack;IIII)V"⟩
abbrev cX6_settleOne : ByteArray := prog_8_method_3_code
def yX6_settleOne : MethodName := ⟨RX6, "settleOne", "(II)V"⟩
def RX7 : String := "SootTalk"
def TX7 : u_T := fun k => match k with
  | 0 => ("SootTalk", "stack", "LSootTalk$Stack;", true)
  | 1 => ("SootTalk", "kept", "LSootTalk$Stack;", true)
  | 2 => ("SootTalk", "isKept", "Z", false)
  | 3 => ("SootTalk", "brush", "LSootTalk$Brush;", true)
  | 4 => ("SootTalk", "trial", "LSootTalk$Trial;", true)
  | 5 => ("SootTalk", "tape", "LSootTalk$Tape;", true)
  | 6 => ("SootTalk", "text", "LSootTalk$Text;", true)
  | 7 => ("SootTalk", "sheets", "LSootTalk$Sheets;", true)
  | 8 => ("SootTalk", "findings", "[I", true)
  | _ => ("SootTalk", "sets", "[I", true)
def tyX7 : Nat → FieldType := fun k => match k with
  | 0 => .object "SootTalk$Stack"
  | 1 => .object "SootTalk$Stack"
  | 2 => .boolean
  | 3 => .object "SootTalk$Brush"
  | 4 => .object "SootTalk$Trial"
  | 5 => .object "SootTalk$Tape"
  | 6 => .object "SootTalk$Text"
  | 7 => .object "SootTalk$Sheets"
  | 8 => .array .int
  | _ => .array .int
abbrev wsX70 : List Cond := u_ws RX7 TX7 10
theorem nmX7 : ∀ a, a < 10 → ∀ b, b < 10 → a ≠ b → (TX7 a).2.1 ≠ (TX7 b).2.1 := by decide +kernel
theorem tyX7_ok : ∀ k, k < 10 → parseFieldDescriptor (TX7 k).2.2.1 = some (tyX7 k) := by decide +kernel
abbrev cX7_init : ByteArray := prog_1_method_1_code
def yX7_init : MethodName := ⟨RX7, "<init>", "()V"⟩
abbrev cX7_flue : ByteArray := prog_1_method_2_code
def yX7_flue : MethodName := ⟨RX7, "flue", "(I)I"⟩
abbrev cX7_of : ByteArray := prog_1_method_3_code
def yX7_of : MethodName := ⟨RX7, "of", "(II)I"⟩
abbrev cX7_bend : ByteArray := prog_1_method_4_code
def yX7_bend : MethodName := ⟨RX7, "bend", "(III)I"⟩
abbrev cX7_layer : ByteArray := prog_1_method_5_code
def yX7_layer : MethodName := ⟨RX7, "layer", "(IIII)I"⟩
abbrev cX7_turn : ByteArray := prog_1_method_6_code
def yX7_turn : MethodName := ⟨RX7, "turn", "(II)I"⟩
abbrev cX7_as : ByteArray := prog_1_method_7_code
def yX7_as : MethodName := ⟨RX7, "as", "(II)I"⟩
abbrev cX7_damp : ByteArray := prog_1_method_8_code
def yX7_damp : MethodName := ⟨RX7, "damp", "(I)I"⟩
abbrev cX7_rises : ByteArray := prog_1_method_9_code
def yX7_rises : MethodName := ⟨RX7, "rises", "(III)I"⟩
abbrev cX7_say : ByteArray := prog_1_method_10_code
def yX7_say : MethodName := ⟨RX7, "say", "(III)I"⟩
abbrev cX7_cake : ByteArray := prog_1_method_11_code
def yX7_cake : MethodName := ⟨RX7, "cake", "(IIII)I"⟩
abbrev cX7_days : ByteArray := prog_1_method_12_code
def yX7_days : MethodName := ⟨RX7, "days", "(I)I"⟩
abbrev cX7_now : ByteArray := prog_1_method_13_code
def yX7_now : MethodName := ⟨RX7, "now", "(I)I"⟩
abbrev cX7_sweep : ByteArray := prog_1_method_14_code
def yX7_sweep : MethodName := ⟨RX7, "sweep", "(III)I"⟩
abbrev cX7_brought : ByteArray := prog_1_method_15_code
def yX7_brought : MethodName := ⟨RX7, "brought", "(III)I"⟩
abbrev cX7_order : ByteArray := prog_1_method_16_code
def yX7_order : MethodName := ⟨RX7, "order", "(IIII)I"⟩
abbrev cX7_on : ByteArray := prog_1_method_17_code
def yX7_on : MethodName := ⟨RX7, "on", "(IIII)I"⟩
abbrev cX7_reach : ByteArray := prog_1_method_18_code
def yX7_reach : MethodName := ⟨RX7, "reach", "(III)I"⟩
abbrev cX7_strength : ByteArray := prog_1_method_19_code
def yX7_strength : MethodName := ⟨RX7, "strength", "(III)I"⟩
abbrev cX7_secret : ByteArray := prog_1_method_20_code
def yX7_secret : MethodName := ⟨RX7, "secret", "(III)I"⟩
abbrev cX7_fewest : ByteArray := prog_1_method_21_code
def yX7_fewest : MethodName := ⟨RX7, "fewest", "(II)I"⟩
abbrev cX7_where : ByteArray := prog_1_method_22_code
def yX7_where : MethodName := ⟨RX7, "where", "(I)I"⟩
abbrev cX7_lost : ByteArray := prog_1_method_23_code
def yX7_lost : MethodName := ⟨RX7, "lost", "(III)I"⟩
abbrev cX7_covers : ByteArray := prog_1_method_24_code
def yX7_covers : MethodName := ⟨RX7, "covers", "(III)I"⟩
abbrev cX7_kind : ByteArray := prog_1_method_25_code
def yX7_kind : MethodName := ⟨RX7, "kind", "(III)I"⟩
abbrev cX7_best : ByteArray := prog_1_method_26_code
def yX7_best : MethodName := ⟨RX7, "best", "(II)I"⟩
abbrev cX7_richest : ByteArray := prog_1_method_27_code
def yX7_richest : MethodName := ⟨RX7, "richest", "(I)I"⟩
abbrev cX7_feed : ByteArray := prog_1_method_28_code
def yX7_feed : MethodName := ⟨RX7, "feed", "(II)I"⟩
abbrev cX7_wipe : ByteArray := prog_1_method_29_code
def yX7_wipe : MethodName := ⟨RX7, "wipe", "()I"⟩
abbrev cX7_house : ByteArray := prog_1_method_30_code
def yX7_house : MethodName := ⟨RX7, "house", "()I"⟩
abbrev cX7_sheet : ByteArray := prog_1_method_31_code
def yX7_sheet : MethodName := ⟨RX7, "sheet", "(III)I"⟩
abbrev cX7_write : ByteArray := prog_1_method_32_code
def yX7_write : MethodName := ⟨RX7, "write", "(IIJ)J"⟩
abbrev cX7_copy : ByteArray := prog_1_method_33_code
def yX7_copy : MethodName := ⟨RX7, "copy", "(IIIII)I"⟩
abbrev cX7_lays : ByteArray := prog_1_method_34_code
def yX7_lays : MethodName := ⟨RX7, "lays", "(II)I"⟩
abbrev cX7_book : ByteArray := prog_1_method_35_code
def yX7_book : MethodName := ⟨RX7, "book", "(II)I"⟩
abbrev cX7_read : ByteArray := prog_1_method_36_code
def yX7_read : MethodName := ⟨RX7, "read", "(II)I"⟩
abbrev cX7_image : ByteArray := prog_1_method_37_code
def yX7_image : MethodName := ⟨RX7, "image", "()I"⟩
abbrev cX7_undo : ByteArray := prog_1_method_38_code
def yX7_undo : MethodName := ⟨RX7, "undo", "()I"⟩
abbrev cX7_tear : ByteArray := prog_1_method_39_code
def yX7_tear : MethodName := ⟨RX7, "tear", "()I"⟩
abbrev cX7_count : ByteArray := prog_1_method_40_code
def yX7_count : MethodName := ⟨RX7, "count", "(I)I"⟩
abbrev cX7_status : ByteArray := prog_1_method_41_code
def yX7_status : MethodName := ⟨RX7, "status", "(I)I"⟩
abbrev cX7_found : ByteArray := prog_1_method_42_code
def yX7_found : MethodName := ⟨RX7, "found", "(I)I"⟩
abbrev cX7_sheetFinding : ByteArray := prog_1_method_43_code
def yX7_sheetFinding : MethodName := ⟨RX7, "sheetFinding", "(I)I"⟩
abbrev cX7_sheetAndFlueFinding : ByteArray := prog_1_method_44_code
def yX7_sheetAndFlueFinding : MethodName := ⟨RX7, "sheetAndFlueFinding", "(II)I"⟩
abbrev cX7_isPlace : ByteArray := prog_1_method_45_code
def yX7_isPlace : MethodName := ⟨RX7, "isPlace", "(II)Z"⟩
abbrev cX7_joined : ByteArray := prog_1_method_46_code
def yX7_joined : MethodName := ⟨RX7, "joined", "(I)I"⟩
abbrev cX7_isJustBrought : ByteArray := prog_1_method_47_code
def yX7_isJustBrought : MethodName := ⟨RX7, "isJustBrought", "(I)Z"⟩
abbrev cX7_isBelow : ByteArray := prog_1_method_48_code
def yX7_isBelow : MethodName := ⟨RX7, "isBelow", "(II)Z"⟩
abbrev cX7_isKind : ByteArray := prog_1_method_49_code
def yX7_isKind : MethodName := ⟨RX7, "isKind", "(I)Z"⟩
abbrev cX7_isBend : ByteArray := prog_1_method_50_code
def yX7_isBend : MethodName := ⟨RX7, "isBend", "(I)Z"⟩
abbrev cX7_isWord : ByteArray := prog_1_method_51_code
def yX7_isWord : MethodName := ⟨RX7, "isWord", "(I)Z"⟩
abbrev cX7_isSet : ByteArray := prog_1_method_52_code
def yX7_isSet : MethodName := ⟨RX7, "isSet", "(I)Z"⟩
abbrev cX7_isVoice : ByteArray := prog_1_method_53_code
def yX7_isVoice : MethodName := ⟨RX7, "isVoice", "(I)Z"⟩
abbrev cX7_isStrength : ByteArray := prog_1_method_54_code
def yX7_isStrength : MethodName := ⟨RX7, "isStrength", "(I)Z"⟩
abbrev cX7_hasBit : ByteArray := prog_1_method_55_code
def yX7_hasBit : MethodName := ⟨RX7, "hasBit", "(II)Z"⟩
def RX8 : String := "SootTalkModel"
def TX8 : u_T := fun k => match k with
  | 0 => ("SootTalkModel", "s", "[I", true)
  | 1 => ("SootTalkModel", "keptS", "[I", true)
  | 2 => ("SootTalkModel", "other", "[I", true)
  | 3 => ("SootTalkModel", "aside", "[I", true)
  | 4 => ("SootTalkModel", "statuses", "[I", true)
  | 5 => ("SootTalkModel", "isKept", "Z", false)
  | 6 => ("SootTalkModel", "came", "[I", true)
  | 7 => ("SootTalkModel", "cameMany", "I", false)
  | 8 => ("SootTalkModel", "tape", "[I", true)
  | 9 => ("SootTalkModel", "taped", "I", false)
  | 10 => ("SootTalkModel", "from", "I", false)
  | 11 => ("SootTalkModel", "to", "I", false)
  | 12 => ("SootTalkModel", "value", "I", false)
  | 13 => ("SootTalkModel", "isWrong", "Z", false)
  | 14 => ("SootTalkModel", "bitsOf", "[I", true)
  | 15 => ("SootTalkModel", "sizeOf", "[I", true)
  | 16 => ("SootTalkModel", "numbers", "[J", true)
  | _ => ("SootTalkModel", "moved", "[J", true)
def tyX8 : Nat → FieldType := fun k => match k with
  | 0 => .array .int
  | 1 => .array .int
  | 2 => .array .int
  | 3 => .array .int
  | 4 => .array .int
  | 5 => .boolean
  | 6 => .array .int
  | 7 => .int
  | 8 => .array .int
  | 9 => .int
  | 10 => .int
  | 11 => .int
  | 12 => .int
  | 13 => .boolean
  | 14 => .array .int
  | 15 => .array .int
  | 16 => .array .long
  | _ => .array .long
abbrev wsX80 : List Cond := u_ws RX8 TX8 18
theorem nmX8 : ∀ a, a < 18 → ∀ b, b < 18 → a ≠ b → (TX8 a).2.1 ≠ (TX8 b).2.1 := by decide +kernel
theorem tyX8_ok : ∀ k, k < 18 → parseFieldDescriptor (TX8 k).2.2.1 = some (tyX8 k) := by decide +kernel
abbrev cX8_init : ByteArray := prog_10_method_1_code
def yX8_init : MethodName := ⟨RX8, "<init>", "()V"⟩
abbrev cX8_in : ByteArray := prog_10_method_2_code
def yX8_in : MethodName := ⟨RX8, "in", "(JJJ)Z"⟩
abbrev cX8_finds : ByteArray := prog_10_method_3_code
def yX8_finds : MethodName := ⟨RX8, "finds", "(I)I"⟩
abbrev cX8_saves : ByteArray := prog_10_method_4_code
def yX8_saves : MethodName := ⟨RX8, "saves", "()V"⟩
abbrev cX8_putsBack : ByteArray := prog_10_method_5_code
def yX8_putsBack : MethodName := ⟨RX8, "putsBack", "()V"⟩
abbrev cX8_laysAside : ByteArray := prog_10_method_6_code
def yX8_laysAside : MethodName := ⟨RX8, "laysAside", "()V"⟩
abbrev cX8_takesBack : ByteArray := prog_10_method_7_code
def yX8_takesBack : MethodName := ⟨RX8, "takesBack", "(I)I"⟩
abbrev cX8_becomes : ByteArray := prog_10_method_8_code
def yX8_becomes : MethodName := ⟨RX8, "becomes", "(II)I"⟩
abbrev cX8_isFlue : ByteArray := prog_10_method_9_code
def yX8_isFlue : MethodName := ⟨RX8, "isFlue", "(I)Z"⟩
abbrev cX8_isBend : ByteArray := prog_10_method_10_code
def yX8_isBend : MethodName := ⟨RX8, "isBend", "(I)Z"⟩
abbrev cX8_isKind : ByteArray := prog_10_method_11_code
def yX8_isKind : MethodName := ⟨RX8, "isKind", "(I)Z"⟩
abbrev cX8_isWord : ByteArray := prog_10_method_12_code
def yX8_isWord : MethodName := ⟨RX8, "isWord", "(I)Z"⟩
abbrev cX8_areWords : ByteArray := prog_10_method_13_code
def yX8_areWords : MethodName := ⟨RX8, "areWords", "(I)Z"⟩
abbrev cX8_isVoice : ByteArray := prog_10_method_14_code
def yX8_isVoice : MethodName := ⟨RX8, "isVoice", "(I)Z"⟩
abbrev cX8_isStrength : ByteArray := prog_10_method_15_code
def yX8_isStrength : MethodName := ⟨RX8, "isStrength", "(I)Z"⟩
abbrev cX8_kindOf : ByteArray := prog_10_method_16_code
def yX8_kindOf : MethodName := ⟨RX8, "kindOf", "(I)I"⟩
abbrev cX8_place : ByteArray := prog_10_method_17_code
def yX8_place : MethodName := ⟨RX8, "place", "(II)I"⟩
abbrev cX8_layers : ByteArray := prog_10_method_18_code
def yX8_layers : MethodName := ⟨RX8, "layers", "(II)I"⟩
abbrev cX8_spot : ByteArray := prog_10_method_19_code
def yX8_spot : MethodName := ⟨RX8, "spot", "(III)I"⟩
abbrev cX8_adds : ByteArray := prog_10_method_20_code
def yX8_adds : MethodName := ⟨RX8, "adds", "(I)I"⟩
abbrev cX8_flue : ByteArray := prog_10_method_21_code
def yX8_flue : MethodName := ⟨RX8, "flue", "(I)I"⟩
abbrev cX8_holds : ByteArray := prog_10_method_22_code
def yX8_holds : MethodName := ⟨RX8, "holds", "(II)I"⟩
abbrev cX8_isFull : ByteArray := prog_10_method_23_code
def yX8_isFull : MethodName := ⟨RX8, "isFull", "(II)Z"⟩
abbrev cX8_cakes : ByteArray := prog_10_method_24_code
def yX8_cakes : MethodName := ⟨RX8, "cakes", "(I)I"⟩
abbrev cX8_layersOf : ByteArray := prog_10_method_25_code
def yX8_layersOf : MethodName := ⟨RX8, "layersOf", "(I)I"⟩
abbrev cX8_wordsAt : ByteArray := prog_10_method_26_code
def yX8_wordsAt : MethodName := ⟨RX8, "wordsAt", "(II)I"⟩
abbrev cX8_wordsOf : ByteArray := prog_10_method_27_code
def yX8_wordsOf : MethodName := ⟨RX8, "wordsOf", "(I)I"⟩
abbrev cX8_emptyBends : ByteArray := prog_10_method_28_code
def yX8_emptyBends : MethodName := ⟨RX8, "emptyBends", "(I)I"⟩
abbrev cX8_of : ByteArray := prog_10_method_29_code
def yX8_of : MethodName := ⟨RX8, "of", "(II)I"⟩
abbrev cX8_bend : ByteArray := prog_10_method_30_code
def yX8_bend : MethodName := ⟨RX8, "bend", "(III)I"⟩
abbrev cX8_layer : ByteArray := prog_10_method_31_code
def yX8_layer : MethodName := ⟨RX8, "layer", "(IIII)I"⟩
abbrev cX8_turn : ByteArray := prog_10_method_32_code
def yX8_turn : MethodName := ⟨RX8, "turn", "(II)I"⟩
abbrev cX8_isUnder : ByteArray := prog_10_method_33_code
def yX8_isUnder : MethodName := ⟨RX8, "isUnder", "(II)Z"⟩
abbrev cX8_as : ByteArray := prog_10_method_34_code
def yX8_as : MethodName := ⟨RX8, "as", "(II)I"⟩
abbrev cX8_damp : ByteArray := prog_10_method_35_code
def yX8_damp : MethodName := ⟨RX8, "damp", "(I)I"⟩
abbrev cX8_rise : ByteArray := prog_10_method_36_code
def yX8_rise : MethodName := ⟨RX8, "rise", "(III)I"⟩
abbrev cX8_rises : ByteArray := prog_10_method_37_code
def yX8_rises : MethodName := ⟨RX8, "rises", "(III)I"⟩
abbrev cX8_lands : ByteArray := prog_10_method_38_code
def yX8_lands : MethodName := ⟨RX8, "lands", "(III)I"⟩
abbrev cX8_lies : ByteArray := prog_10_method_39_code
def yX8_lies : MethodName := ⟨RX8, "lies", "(IIII)V"⟩
abbrev cX8_says : ByteArray := prog_10_method_40_code
def yX8_says : MethodName := ⟨RX8, "says", "(III)I"⟩
abbrev cX8_say : ByteArray := prog_10_method_41_code
def yX8_say : MethodName := ⟨RX8, "say", "(III)I"⟩
abbrev cX8_cake : ByteArray := prog_10_method_42_code
def yX8_cake : MethodName := ⟨RX8, "cake", "(IIII)I"⟩
abbrev cX8_day : ByteArray := prog_10_method_43_code
def yX8_day : MethodName := ⟨RX8, "day", "()V"⟩
abbrev cX8_goesOn : ByteArray := prog_10_method_44_code
def yX8_goesOn : MethodName := ⟨RX8, "goesOn", "(I)V"⟩
abbrev cX8_withCake : ByteArray := prog_10_method_45_code
def yX8_withCake : MethodName := ⟨RX8, "withCake", "(I)I"⟩
abbrev cX8_days : ByteArray := prog_10_method_46_code
def yX8_days : MethodName := ⟨RX8, "days", "(I)I"⟩
abbrev cX8_layersAll : ByteArray := prog_10_method_47_code
def yX8_layersAll : MethodName := ⟨RX8, "layersAll", "()I"⟩
abbrev cX8_wordsAll : ByteArray := prog_10_method_48_code
def yX8_wordsAll : MethodName := ⟨RX8, "wordsAll", "()I"⟩
abbrev cX8_cakeAll : ByteArray := prog_10_method_49_code
def yX8_cakeAll : MethodName := ⟨RX8, "cakeAll", "()I"⟩
abbrev cX8_now : ByteArray := prog_10_method_50_code
def yX8_now : MethodName := ⟨RX8, "now", "(I)I"⟩
abbrev cX8_loose : ByteArray := prog_10_method_51_code
def yX8_loose : MethodName := ⟨RX8, "loose", "(III)I"⟩
abbrev cX8_brings : ByteArray := prog_10_method_52_code
def yX8_brings : MethodName := ⟨RX8, "brings", "(III)V"⟩
abbrev cX8_broughtBy : ByteArray := prog_10_method_53_code
def yX8_broughtBy : MethodName := ⟨RX8, "broughtBy", "(III)I"⟩
abbrev cX8_isBrush : ByteArray := prog_10_method_54_code
def yX8_isBrush : MethodName := ⟨RX8, "isBrush", "(III)Z"⟩
abbrev cX8_sweep : ByteArray := prog_10_method_55_code
def yX8_sweep : MethodName := ⟨RX8, "sweep", "(III)I"⟩
abbrev cX8_brought : ByteArray := prog_10_method_56_code
def yX8_brought : MethodName := ⟨RX8, "brought", "(III)I"⟩
abbrev cX8_order : ByteArray := prog_10_method_57_code
def yX8_order : MethodName := ⟨RX8, "order", "(IIII)I"⟩
abbrev cX8_on : ByteArray := prog_10_method_58_code
def yX8_on : MethodName := ⟨RX8, "on", "(IIII)I"⟩
abbrev cX8_reach : ByteArray := prog_10_method_59_code
def yX8_reach : MethodName := ⟨RX8, "reach", "(III)I"⟩
abbrev cX8_strength : ByteArray := prog_10_method_60_code
def yX8_strength : MethodName := ⟨RX8, "strength", "(III)I"⟩
abbrev cX8_secret : ByteArray := prog_10_method_61_code
def yX8_secret : MethodName := ⟨RX8, "secret", "(III)I"⟩
abbrev cX8_ones : ByteArray := prog_10_method_62_code
def yX8_ones : MethodName := ⟨RX8, "ones", "(I)I"⟩
abbrev cX8_fewest : ByteArray := prog_10_method_63_code
def yX8_fewest : MethodName := ⟨RX8, "fewest", "(II)I"⟩
abbrev cX8_where : ByteArray := prog_10_method_64_code
def yX8_where : MethodName := ⟨RX8, "where", "(I)I"⟩
abbrev cX8_lost : ByteArray := prog_10_method_65_code
def yX8_lost : MethodName := ⟨RX8, "lost", "(III)I"⟩
abbrev cX8_covers : ByteArray := prog_10_method_66_code
def yX8_covers : MethodName := ⟨RX8, "covers", "(III)I"⟩
abbrev cX8_saysAll : ByteArray := prog_10_method_67_code
def yX8_saysAll : MethodName := ⟨RX8, "saysAll", "(III)I"⟩
abbrev cX8_kind : ByteArray := prog_10_method_68_code
def yX8_kind : MethodName := ⟨RX8, "kind", "(III)I"⟩
abbrev cX8_best : ByteArray := prog_10_method_69_code
def yX8_best : MethodName := ⟨RX8, "best", "(II)I"⟩
abbrev cX8_richest : ByteArray := prog_10_method_70_code
def yX8_richest : MethodName := ⟨RX8, "richest", "(I)I"⟩
abbrev cX8_feed : ByteArray := prog_10_method_71_code
def yX8_feed : MethodName := ⟨RX8, "feed", "(II)I"⟩
abbrev cX8_wipe : ByteArray := prog_10_method_72_code
def yX8_wipe : MethodName := ⟨RX8, "wipe", "()I"⟩
abbrev cX8_byteAt : ByteArray := prog_10_method_73_code
def yX8_byteAt : MethodName := ⟨RX8, "byteAt", "(I)I"⟩
abbrev cX8_isLetter : ByteArray := prog_10_method_74_code
def yX8_isLetter : MethodName := ⟨RX8, "isLetter", "(I)Z"⟩
abbrev cX8_isDigit : ByteArray := prog_10_method_75_code
def yX8_isDigit : MethodName := ⟨RX8, "isDigit", "(I)Z"⟩
abbrev cX8_token : ByteArray := prog_10_method_76_code
def yX8_token : MethodName := ⟨RX8, "token", "()V"⟩
abbrev cX8_must : ByteArray := prog_10_method_77_code
def yX8_must : MethodName := ⟨RX8, "must", "(Z)V"⟩
abbrev cX8_word : ByteArray := prog_10_method_78_code
def yX8_word : MethodName := ⟨RX8, "word", "()J"⟩
abbrev cX8_number : ByteArray := prog_10_method_79_code
def yX8_number : MethodName := ⟨RX8, "number", "(II)V"⟩
abbrev cX8_kindHere : ByteArray := prog_10_method_80_code
def yX8_kindHere : MethodName := ⟨RX8, "kindHere", "()I"⟩
abbrev cX8_flueItem : ByteArray := prog_10_method_81_code
def yX8_flueItem : MethodName := ⟨RX8, "flueItem", "(I)V"⟩
abbrev cX8_perhaps : ByteArray := prog_10_method_82_code
def yX8_perhaps : MethodName := ⟨RX8, "perhaps", "(JI)I"⟩
abbrev cX8_sayItem : ByteArray := prog_10_method_83_code
def yX8_sayItem : MethodName := ⟨RX8, "sayItem", "()V"⟩
abbrev cX8_layerItem : ByteArray := prog_10_method_84_code
def yX8_layerItem : MethodName := ⟨RX8, "layerItem", "()V"⟩
abbrev cX8_item : ByteArray := prog_10_method_85_code
def yX8_item : MethodName := ⟨RX8, "item", "()V"⟩
abbrev cX8_house : ByteArray := prog_10_method_86_code
def yX8_house : MethodName := ⟨RX8, "house", "()I"⟩
abbrev cX8_isOne : ByteArray := prog_10_method_87_code
def yX8_isOne : MethodName := ⟨RX8, "isOne", "(I)Z"⟩
abbrev cX8_sheet : ByteArray := prog_10_method_88_code
def yX8_sheet : MethodName := ⟨RX8, "sheet", "(III)I"⟩
abbrev cX8_narrowed : ByteArray := prog_10_method_89_code
def yX8_narrowed : MethodName := ⟨RX8, "narrowed", "(IJ)J"⟩
abbrev cX8_wrongSheet : ByteArray := prog_10_method_90_code
def yX8_wrongSheet : MethodName := ⟨RX8, "wrongSheet", "(I)I"⟩
abbrev cX8_write : ByteArray := prog_10_method_91_code
def yX8_write : MethodName := ⟨RX8, "write", "(IIJ)J"⟩
abbrev cX8_copy : ByteArray := prog_10_method_92_code
def yX8_copy : MethodName := ⟨RX8, "copy", "(IIIII)I"⟩
abbrev cX8_wrongFlue : ByteArray := prog_10_method_93_code
def yX8_wrongFlue : MethodName := ⟨RX8, "wrongFlue", "(II)I"⟩
abbrev cX8_lays : ByteArray := prog_10_method_94_code
def yX8_lays : MethodName := ⟨RX8, "lays", "(II)I"⟩
abbrev cX8_book : ByteArray := prog_10_method_95_code
def yX8_book : MethodName := ⟨RX8, "book", "(II)I"⟩
abbrev cX8_isBook : ByteArray := prog_10_method_96_code
def yX8_isBook : MethodName := ⟨RX8, "isBook", "(I)Z"⟩
abbrev cX8_read : ByteArray := prog_10_method_97_code
def yX8_read : MethodName := ⟨RX8, "read", "(II)I"⟩
abbrev cX8_image : ByteArray := prog_10_method_98_code
def yX8_image : MethodName := ⟨RX8, "image", "()I"⟩
abbrev cX8_undo : ByteArray := prog_10_method_99_code
def yX8_undo : MethodName := ⟨RX8, "undo", "()I"⟩
abbrev cX8_tear : ByteArray := prog_10_method_100_code
def yX8_tear : MethodName := ⟨RX8, "tear", "()I"⟩
abbrev cX8_fullOnes : ByteArray := prog_10_method_101_code
def yX8_fullOnes : MethodName := ⟨RX8, "fullOnes", "()I"⟩
abbrev cX8_count : ByteArray := prog_10_method_102_code
def yX8_count : MethodName := ⟨RX8, "count", "(I)I"⟩
abbrev cX8_status : ByteArray := prog_10_method_103_code
def yX8_status : MethodName := ⟨RX8, "status", "(I)I"⟩
def RJ6 : String := "java/lang/Integer"
def TJ6 : u_T := fun k => match k with
  | _ => ("", "", "", false)
def tyJ6 : Nat → FieldType := fun k => match k with
  | _ => .int
abbrev wsJ60 : List Cond := u_ws RJ6 TJ6 0
theorem nmJ6 : ∀ a, a < 0 → ∀ b, b < 0 → a ≠ b → (TJ6 a).2.1 ≠ (TJ6 b).2.1 := by decide +kernel
theorem tyJ6_ok : ∀ k, k < 0 → parseFieldDescriptor (TJ6 k).2.2.1 = some (tyJ6 k) := by decide +kernel
abbrev cJ6_bitCount_0f7a4 : ByteArray := prog_11_method_49_code
def yJ6_bitCount_0f7a4 : MethodName := ⟨RJ6, "bitCount", "(I)I"⟩
def RJ9 : String := "java/lang/Math"
def TJ9 : u_T := fun k => match k with
  | _ => ("", "", "", false)
def tyJ9 : Nat → FieldType := fun k => match k with
  | _ => .int
abbrev wsJ90 : List Cond := u_ws RJ9 TJ9 0
theorem nmJ9 : ∀ a, a < 0 → ∀ b, b < 0 → a ≠ b → (TJ9 a).2.1 ≠ (TJ9 b).2.1 := by decide +kernel
theorem tyJ9_ok : ∀ k, k < 0 → parseFieldDescriptor (TJ9 k).2.2.1 = some (tyJ9 k) := by decide +kernel
abbrev cJ9_max_7cf53 : ByteArray := prog_12_method_65_code
def yJ9_max_7cf53 : MethodName := ⟨RJ9, "max", "(II)I"⟩
abbrev cJ9_min_7cf53 : ByteArray := prog_12_method_69_code
def yJ9_min_7cf53 : MethodName := ⟨RJ9, "min", "(II)I"⟩
def RJ0 : String := "java/lang/String"
def TJ0 : u_T := fun k => match k with
  | _ => ("", "", "", false)
def tyJ0 : Nat → FieldType := fun k => match k with
  | _ => .int
abbrev wsJ00 : List Cond := u_ws RJ0 TJ0 0
theorem nmJ0 : ∀ a, a < 0 → ∀ b, b < 0 → a ≠ b → (TJ0 a).2.1 ≠ (TJ0 b).2.1 := by decide +kernel
theorem tyJ0_ok : ∀ k, k < 0 → parseFieldDescriptor (TJ0 k).2.2.1 = some (tyJ0 k) := by decide +kernel
abbrev cJ0_length_8abf5 : ByteArray := prog_13_method_54_code
def yJ0_length_8abf5 : MethodName := ⟨RJ0, "length", "()I"⟩
abbrev cJ0_charAt_5068e : ByteArray := prog_13_method_56_code
def yJ0_charAt_5068e : MethodName := ⟨RJ0, "charAt", "(I)C"⟩
abbrev cJ0_coder_7d493 : ByteArray := prog_13_method_152_code
def yJ0_coder_7d493 : MethodName := ⟨RJ0, "coder", "()B"⟩
abbrev cJ0_isLatin1_aae02 : ByteArray := prog_13_method_154_code
def yJ0_isLatin1_aae02 : MethodName := ⟨RJ0, "isLatin1", "()Z"⟩
abbrev cJ0_checkIndex_df160 : ByteArray := prog_13_method_155_code
def yJ0_checkIndex_df160 : MethodName := ⟨RJ0, "checkIndex", "(II)V"⟩
def RJ1 : String := "java/lang/StringLatin1"
def TJ1 : u_T := fun k => match k with
  | _ => ("", "", "", false)
def tyJ1 : Nat → FieldType := fun k => match k with
  | _ => .int
abbrev wsJ10 : List Cond := u_ws RJ1 TJ1 0
theorem nmJ1 : ∀ a, a < 0 → ∀ b, b < 0 → a ≠ b → (TJ1 a).2.1 ≠ (TJ1 b).2.1 := by decide +kernel
theorem tyJ1_ok : ∀ k, k < 0 → parseFieldDescriptor (TJ1 k).2.2.1 = some (tyJ1 k) := by decide +kernel
abbrev cJ1_charAt_3b067 : ByteArray := prog_14_method_2_code
def yJ1_charAt_3b067 : MethodName := ⟨RJ1, "charAt", "([BI)C"⟩
def RJ2 : String := "java/lang/StringUTF16"
def TJ2 : u_T := fun k => match k with
  | _ => ("", "", "", false)
def tyJ2 : Nat → FieldType := fun k => match k with
  | _ => .int
abbrev wsJ20 : List Cond := u_ws RJ2 TJ2 0
theorem nmJ2 : ∀ a, a < 0 → ∀ b, b < 0 → a ≠ b → (TJ2 a).2.1 ≠ (TJ2 b).2.1 := by decide +kernel
theorem tyJ2_ok : ∀ k, k < 0 → parseFieldDescriptor (TJ2 k).2.2.1 = some (tyJ2 k) := by decide +kernel
abbrev cJ2_getChar_3b067 : ByteArray := prog_15_method_5_code
def yJ2_getChar_3b067 : MethodName := ⟨RJ2, "getChar", "([BI)C"⟩
abbrev cJ2_length_9d52b : ByteArray := prog_15_method_6_code
def yJ2_length_9d52b : MethodName := ⟨RJ2, "length", "([B)I"⟩
abbrev cJ2_charAt_3b067 : ByteArray := prog_15_method_83_code
def yJ2_charAt_3b067 : MethodName := ⟨RJ2, "charAt", "([BI)C"⟩
abbrev cJ2_checkIndex_2214a : ByteArray := prog_15_method_91_code
def yJ2_checkIndex_2214a : MethodName := ⟨RJ2, "checkIndex", "(I[B)V"⟩
def RJ10 : String := "java/lang/System"
def TJ10 : u_T := fun k => match k with
  | _ => ("", "", "", false)
def tyJ10 : Nat → FieldType := fun k => match k with
  | _ => .int
abbrev wsJ100 : List Cond := u_ws RJ10 TJ10 0
theorem nmJ10 : ∀ a, a < 0 → ∀ b, b < 0 → a ≠ b → (TJ10 a).2.1 ≠ (TJ10 b).2.1 := by decide +kernel
theorem tyJ10_ok : ∀ k, k < 0 → parseFieldDescriptor (TJ10 k).2.2.1 = some (tyJ10 k) := by decide +kernel
def RJ3 : String := "jdk/internal/util/Preconditions"
def TJ3 : u_T := fun k => match k with
  | _ => ("", "", "", false)
def tyJ3 : Nat → FieldType := fun k => match k with
  | _ => .int
abbrev wsJ30 : List Cond := u_ws RJ3 TJ3 0
theorem nmJ3 : ∀ a, a < 0 → ∀ b, b < 0 → a ≠ b → (TJ3 a).2.1 ≠ (TJ3 b).2.1 := by decide +kernel
theorem tyJ3_ok : ∀ k, k < 0 → parseFieldDescriptor (TJ3 k).2.2.1 = some (tyJ3 k) := by decide +kernel
abbrev cJ3_checkIndex_8e157 : ByteArray := prog_17_method_11_code
def yJ3_checkIndex_8e157 : MethodName := ⟨RJ3, "checkIndex", "(IILjava/util/function/BiFunction;)I"⟩
def RL : String := "SootTalkLaw"
abbrev cL_law : ByteArray := code
def yL_law : MethodName := ⟨RL, "law", "([I)Z"⟩
abbrev vwCl : List vw_C := [(RX0, TX0, 3), (RX2, TX2, 3), (RX3, TX3, 7), (RX4, TX4, 6), (RX5, TX5, 9), (RX6, TX6, 3), (RX7, TX7, 10), (RX8, TX8, 18)]
end
section
theorem dX0_init_0 : decode cX0_init 0 = .ok (.aload_n 0, 1) := by decide +kernel
theorem dX0_init_1 : decode cX0_init 1 = .ok (.invokespecial 3, 3) := by decide +kernel
theorem dX0_init_4 : decode cX0_init 4 = .ok (.aload_n 0, 1) := by decide +kernel
theorem dX0_init_5 : decode cX0_init 5 = .ok (.iconst 0, 1) := by decide +kernel
theorem dX0_init_6 : decode cX0_init 6 = .ok (.putfield 9, 3) := by decide +kernel
theorem dX0_init_9 : decode cX0_init 9 = .ok (.aload_n 0, 1) := by decide +kernel
theorem dX0_init_10 : decode cX0_init 10 = .ok (.iconst 0, 1) := by decide +kernel
theorem dX0_init_11 : decode cX0_init 11 = .ok (.putfield 15, 3) := by decide +kernel
theorem dX0_init_14 : decode cX0_init 14 = .ok (.aload_n 0, 1) := by decide +kernel
theorem dX0_init_15 : decode cX0_init 15 = .ok (.bipush 48, 2) := by decide +kernel
theorem dX0_init_17 : decode cX0_init 17 = .ok (.newarray .int, 2) := by decide +kernel
theorem dX0_init_19 : decode cX0_init 19 = .ok (.putfield 18, 3) := by decide +kernel
theorem dX0_init_22 : decode cX0_init 22 = .ok (.return_, 1) := by decide +kernel
theorem dX0_putUp_0 : decode cX0_putUp 0 = .ok (.iload 5, 2) := by decide +kernel
theorem dX0_putUp_2 : decode cX0_putUp 2 = .ok (.aload_n 1, 1) := by decide +kernel
theorem dX0_putUp_3 : decode cX0_putUp 3 = .ok (.iload_n 2, 1) := by decide +kernel
theorem dX0_putUp_4 : decode cX0_putUp 4 = .ok (.invokevirtual 22, 3) := by decide +kernel
theorem dX0_putUp_7 : decode cX0_putUp 7 = .ok (.aload_n 1, 1) := by decide +kernel
theorem dX0_putUp_8 : decode cX0_putUp 8 = .ok (.getfield 28, 3) := by decide +kernel
theorem dX0_putUp_11 : decode cX0_putUp 11 = .ok (.invokestatic 31, 3) := by decide +kernel
theorem dX0_putUp_14 : decode cX0_putUp 14 = .ok (.imul, 1) := by decide +kernel
theorem dX0_putUp_15 : decode cX0_putUp 15 = .ok (.istore 6, 2) := by decide +kernel
theorem dX0_putUp_17 : decode cX0_putUp 17 = .ok (.aload_n 0, 1) := by decide +kernel
theorem dX0_putUp_18 : decode cX0_putUp 18 = .ok (.iconst 0, 1) := by decide +kernel
theorem dX0_putUp_19 : decode cX0_putUp 19 = .ok (.putfield 9, 3) := by decide +kernel
theorem dX0_putUp_22 : decode cX0_putUp 22 = .ok (.aload_n 0, 1) := by decide +kernel
theorem dX0_putUp_23 : decode cX0_putUp 23 = .ok (.iconst 0, 1) := by decide +kernel
theorem dX0_putUp_24 : decode cX0_putUp 24 = .ok (.putfield 15, 3) := by decide +kernel
theorem dX0_putUp_27 : decode cX0_putUp 27 = .ok (.iconst 0, 1) := by decide +kernel
theorem dX0_putUp_28 : decode cX0_putUp 28 = .ok (.istore 7, 2) := by decide +kernel
theorem dX0_putUp_30 : decode cX0_putUp 30 = .ok (.iload 7, 2) := by decide +kernel
theorem dX0_putUp_32 : decode cX0_putUp 32 = .ok (.iload_n 3, 1) := by decide +kernel
theorem dX0_putUp_33 : decode cX0_putUp 33 = .ok (.if_icmp .gt 58, 3) := by decide +kernel
theorem dX0_putUp_36 : decode cX0_putUp 36 = .ok (.iload 7, 2) := by decide +kernel
theorem dX0_putUp_38 : decode cX0_putUp 38 = .ok (.bipush 8, 2) := by decide +kernel
theorem dX0_putUp_40 : decode cX0_putUp 40 = .ok (.if_icmp .ge 51, 3) := by decide +kernel
theorem dX0_putUp_43 : decode cX0_putUp 43 = .ok (.aload_n 1, 1) := by decide +kernel
theorem dX0_putUp_44 : decode cX0_putUp 44 = .ok (.iload_n 2, 1) := by decide +kernel
theorem dX0_putUp_45 : decode cX0_putUp 45 = .ok (.iload 7, 2) := by decide +kernel
theorem dX0_putUp_47 : decode cX0_putUp 47 = .ok (.iload 4, 2) := by decide +kernel
theorem dX0_putUp_49 : decode cX0_putUp 49 = .ok (.iload 6, 2) := by decide +kernel
theorem dX0_putUp_51 : decode cX0_putUp 51 = .ok (.invokevirtual 37, 3) := by decide +kernel
theorem dX0_putUp_54 : decode cX0_putUp 54 = .ok (.istore 8, 2) := by decide +kernel
theorem dX0_putUp_56 : decode cX0_putUp 56 = .ok (.iconst 0, 1) := by decide +kernel
theorem dX0_putUp_57 : decode cX0_putUp 57 = .ok (.istore 9, 2) := by decide +kernel
theorem dX0_putUp_59 : decode cX0_putUp 59 = .ok (.iload 9, 2) := by decide +kernel
theorem dX0_putUp_61 : decode cX0_putUp 61 = .ok (.iload 8, 2) := by decide +kernel
theorem dX0_putUp_63 : decode cX0_putUp 63 = .ok (.if_icmp .ge 22, 3) := by decide +kernel
theorem dX0_putUp_66 : decode cX0_putUp 66 = .ok (.aload_n 0, 1) := by decide +kernel
theorem dX0_putUp_67 : decode cX0_putUp 67 = .ok (.aload_n 1, 1) := by decide +kernel
theorem dX0_putUp_68 : decode cX0_putUp 68 = .ok (.iload_n 2, 1) := by decide +kernel
theorem dX0_putUp_69 : decode cX0_putUp 69 = .ok (.iload 7, 2) := by decide +kernel
theorem dX0_putUp_71 : decode cX0_putUp 71 = .ok (.iload 9, 2) := by decide +kernel
theorem dX0_putUp_73 : decode cX0_putUp 73 = .ok (.invokevirtual 41, 3) := by decide +kernel
theorem dX0_putUp_76 : decode cX0_putUp 76 = .ok (.invokevirtual 45, 3) := by decide +kernel
theorem dX0_putUp_79 : decode cX0_putUp 79 = .ok (.iinc 9 1, 3) := by decide +kernel
theorem dX0_putUp_82 : decode cX0_putUp 82 = .ok (.goto (-23), 3) := by decide +kernel
theorem dX0_putUp_85 : decode cX0_putUp 85 = .ok (.iinc 7 1, 3) := by decide +kernel
theorem dX0_putUp_88 : decode cX0_putUp 88 = .ok (.goto (-58), 3) := by decide +kernel
theorem dX0_putUp_91 : decode cX0_putUp 91 = .ok (.return_, 1) := by decide +kernel
theorem dX0_take_0 : decode cX0_take 0 = .ok (.aload_n 0, 1) := by decide +kernel
theorem dX0_take_1 : decode cX0_take 1 = .ok (.getfield 9, 3) := by decide +kernel
theorem dX0_take_4 : decode cX0_take 4 = .ok (.aload_n 0, 1) := by decide +kernel
theorem dX0_take_5 : decode cX0_take 5 = .ok (.getfield 18, 3) := by decide +kernel
theorem dX0_take_8 : decode cX0_take 8 = .ok (.arraylength, 1) := by decide +kernel
theorem dX0_take_9 : decode cX0_take 9 = .ok (.if_icmp .lt 4, 3) := by decide +kernel
theorem dX0_take_12 : decode cX0_take 12 = .ok (.return_, 1) := by decide +kernel
theorem dX0_take_13 : decode cX0_take 13 = .ok (.aload_n 0, 1) := by decide +kernel
theorem dX0_take_14 : decode cX0_take 14 = .ok (.getfield 18, 3) := by decide +kernel
theorem dX0_take_17 : decode cX0_take 17 = .ok (.aload_n 0, 1) := by decide +kernel
theorem dX0_take_18 : decode cX0_take 18 = .ok (.getfield 9, 3) := by decide +kernel
theorem dX0_take_21 : decode cX0_take 21 = .ok (.iload_n 1, 1) := by decide +kernel
theorem dX0_take_22 : decode cX0_take 22 = .ok (.iastore, 1) := by decide +kernel
theorem dX0_take_23 : decode cX0_take 23 = .ok (.aload_n 0, 1) := by decide +kernel
theorem dX0_take_24 : decode cX0_take 24 = .ok (.dup, 1) := by decide +kernel
theorem dX0_take_25 : decode cX0_take 25 = .ok (.getfield 9, 3) := by decide +kernel
theorem dX0_take_28 : decode cX0_take 28 = .ok (.iconst 1, 1) := by decide +kernel
theorem dX0_take_29 : decode cX0_take 29 = .ok (.iadd, 1) := by decide +kernel
theorem dX0_take_30 : decode cX0_take 30 = .ok (.putfield 9, 3) := by decide +kernel
theorem dX0_take_33 : decode cX0_take 33 = .ok (.aload_n 0, 1) := by decide +kernel
theorem dX0_take_34 : decode cX0_take 34 = .ok (.dup, 1) := by decide +kernel
theorem dX0_take_35 : decode cX0_take 35 = .ok (.getfield 15, 3) := by decide +kernel
theorem dX0_take_38 : decode cX0_take 38 = .ok (.iconst 1, 1) := by decide +kernel
theorem dX0_take_39 : decode cX0_take 39 = .ok (.iload_n 1, 1) := by decide +kernel
theorem dX0_take_40 : decode cX0_take 40 = .ok (.ishl, 1) := by decide +kernel
theorem dX0_take_41 : decode cX0_take 41 = .ok (.ior, 1) := by decide +kernel
theorem dX0_take_42 : decode cX0_take 42 = .ok (.putfield 15, 3) := by decide +kernel
theorem dX0_take_45 : decode cX0_take 45 = .ok (.return_, 1) := by decide +kernel
theorem dX0_word_0 : decode cX0_word 0 = .ok (.iload_n 1, 1) := by decide +kernel
theorem dX0_word_1 : decode cX0_word 1 = .ok (.ifCond .lt 20, 3) := by decide +kernel
theorem dX0_word_4 : decode cX0_word 4 = .ok (.iload_n 1, 1) := by decide +kernel
theorem dX0_word_5 : decode cX0_word 5 = .ok (.aload_n 0, 1) := by decide +kernel
theorem dX0_word_6 : decode cX0_word 6 = .ok (.getfield 9, 3) := by decide +kernel
theorem dX0_word_9 : decode cX0_word 9 = .ok (.if_icmp .ge 12, 3) := by decide +kernel
theorem dX0_word_12 : decode cX0_word 12 = .ok (.aload_n 0, 1) := by decide +kernel
theorem dX0_word_13 : decode cX0_word 13 = .ok (.getfield 18, 3) := by decide +kernel
theorem dX0_word_16 : decode cX0_word 16 = .ok (.iload_n 1, 1) := by decide +kernel
theorem dX0_word_17 : decode cX0_word 17 = .ok (.iaload, 1) := by decide +kernel
theorem dX0_word_18 : decode cX0_word 18 = .ok (.goto 4, 3) := by decide +kernel
theorem dX0_word_21 : decode cX0_word 21 = .ok (.iconst (-1), 1) := by decide +kernel
theorem dX0_word_22 : decode cX0_word 22 = .ok (.ireturn, 1) := by decide +kernel
theorem dX0_brings_0 : decode cX0_brings 0 = .ok (.iload_n 1, 1) := by decide +kernel
theorem dX0_brings_1 : decode cX0_brings 1 = .ok (.aload_n 0, 1) := by decide +kernel
theorem dX0_brings_2 : decode cX0_brings 2 = .ok (.getfield 15, 3) := by decide +kernel
theorem dX0_brings_5 : decode cX0_brings 5 = .ok (.iconst (-1), 1) := by decide +kernel
theorem dX0_brings_6 : decode cX0_brings 6 = .ok (.ixor, 1) := by decide +kernel
theorem dX0_brings_7 : decode cX0_brings 7 = .ok (.iand, 1) := by decide +kernel
theorem dX0_brings_8 : decode cX0_brings 8 = .ok (.ifCond .ne 7, 3) := by decide +kernel
theorem dX0_brings_11 : decode cX0_brings 11 = .ok (.iconst 1, 1) := by decide +kernel
theorem dX0_brings_12 : decode cX0_brings 12 = .ok (.goto 4, 3) := by decide +kernel
theorem dX0_brings_15 : decode cX0_brings 15 = .ok (.iconst 0, 1) := by decide +kernel
theorem dX0_brings_16 : decode cX0_brings 16 = .ok (.ireturn, 1) := by decide +kernel
theorem dX1_isOrIsUnder_0 : decode cX1_isOrIsUnder 0 = .ok (.iload_n 0, 1) := by decide +kernel
theorem dX1_isOrIsUnder_1 : decode cX1_isOrIsUnder 1 = .ok (.istore_n 2, 1) := by decide +kernel
theorem dX1_isOrIsUnder_2 : decode cX1_isOrIsUnder 2 = .ok (.iconst 0, 1) := by decide +kernel
theorem dX1_isOrIsUnder_3 : decode cX1_isOrIsUnder 3 = .ok (.istore_n 3, 1) := by decide +kernel
theorem dX1_isOrIsUnder_4 : decode cX1_isOrIsUnder 4 = .ok (.iload_n 3, 1) := by decide +kernel
theorem dX1_isOrIsUnder_5 : decode cX1_isOrIsUnder 5 = .ok (.bipush 6, 2) := by decide +kernel
theorem dX1_isOrIsUnder_7 : decode cX1_isOrIsUnder 7 = .ok (.if_icmp .ge 34, 3) := by decide +kernel
theorem dX1_isOrIsUnder_10 : decode cX1_isOrIsUnder 10 = .ok (.iload_n 2, 1) := by decide +kernel
theorem dX1_isOrIsUnder_11 : decode cX1_isOrIsUnder 11 = .ok (.ifCond .lt 30, 3) := by decide +kernel
theorem dX1_isOrIsUnder_14 : decode cX1_isOrIsUnder 14 = .ok (.iload_n 2, 1) := by decide +kernel
theorem dX1_isOrIsUnder_15 : decode cX1_isOrIsUnder 15 = .ok (.getstatic 9, 3) := by decide +kernel
theorem dX1_isOrIsUnder_18 : decode cX1_isOrIsUnder 18 = .ok (.arraylength, 1) := by decide +kernel
theorem dX1_isOrIsUnder_19 : decode cX1_isOrIsUnder 19 = .ok (.if_icmp .ge 22, 3) := by decide +kernel
theorem dX1_isOrIsUnder_22 : decode cX1_isOrIsUnder 22 = .ok (.iload_n 2, 1) := by decide +kernel
theorem dX1_isOrIsUnder_23 : decode cX1_isOrIsUnder 23 = .ok (.iload_n 1, 1) := by decide +kernel
theorem dX1_isOrIsUnder_24 : decode cX1_isOrIsUnder 24 = .ok (.if_icmp .ne 5, 3) := by decide +kernel
theorem dX1_isOrIsUnder_27 : decode cX1_isOrIsUnder 27 = .ok (.iconst 1, 1) := by decide +kernel
theorem dX1_isOrIsUnder_28 : decode cX1_isOrIsUnder 28 = .ok (.ireturn, 1) := by decide +kernel
theorem dX1_isOrIsUnder_29 : decode cX1_isOrIsUnder 29 = .ok (.getstatic 9, 3) := by decide +kernel
theorem dX1_isOrIsUnder_32 : decode cX1_isOrIsUnder 32 = .ok (.iload_n 2, 1) := by decide +kernel
theorem dX1_isOrIsUnder_33 : decode cX1_isOrIsUnder 33 = .ok (.iaload, 1) := by decide +kernel
theorem dX1_isOrIsUnder_34 : decode cX1_isOrIsUnder 34 = .ok (.istore_n 2, 1) := by decide +kernel
theorem dX1_isOrIsUnder_35 : decode cX1_isOrIsUnder 35 = .ok (.iinc 3 1, 3) := by decide +kernel
theorem dX1_isOrIsUnder_38 : decode cX1_isOrIsUnder 38 = .ok (.goto (-34), 3) := by decide +kernel
theorem dX1_isOrIsUnder_41 : decode cX1_isOrIsUnder 41 = .ok (.iconst 0, 1) := by decide +kernel
theorem dX1_isOrIsUnder_42 : decode cX1_isOrIsUnder 42 = .ok (.ireturn, 1) := by decide +kernel
theorem dX1_rise_0 : decode cX1_rise 0 = .ok (.iconst 0, 1) := by decide +kernel
theorem dX1_rise_1 : decode cX1_rise 1 = .ok (.bipush 7, 2) := by decide +kernel
theorem dX1_rise_3 : decode cX1_rise 3 = .ok (.iload_n 2, 1) := by decide +kernel
theorem dX1_rise_4 : decode cX1_rise 4 = .ok (.isub, 1) := by decide +kernel
theorem dX1_rise_5 : decode cX1_rise 5 = .ok (.invokestatic 15, 3) := by decide +kernel
theorem dX1_rise_8 : decode cX1_rise 8 = .ok (.istore 4, 2) := by decide +kernel
theorem dX1_rise_10 : decode cX1_rise 10 = .ok (.iload 4, 2) := by decide +kernel
theorem dX1_rise_12 : decode cX1_rise 12 = .ok (.iload_n 1, 1) := by decide +kernel
theorem dX1_rise_13 : decode cX1_rise 13 = .ok (.bipush 8, 2) := by decide +kernel
theorem dX1_rise_15 : decode cX1_rise 15 = .ok (.irem, 1) := by decide +kernel
theorem dX1_rise_16 : decode cX1_rise 16 = .ok (.invokestatic 21, 3) := by decide +kernel
theorem dX1_rise_19 : decode cX1_rise 19 = .ok (.istore 5, 2) := by decide +kernel
theorem dX1_rise_21 : decode cX1_rise 21 = .ok (.iconst 0, 1) := by decide +kernel
theorem dX1_rise_22 : decode cX1_rise 22 = .ok (.iload 4, 2) := by decide +kernel
theorem dX1_rise_24 : decode cX1_rise 24 = .ok (.iconst 2, 1) := by decide +kernel
theorem dX1_rise_25 : decode cX1_rise 25 = .ok (.isub, 1) := by decide +kernel
theorem dX1_rise_26 : decode cX1_rise 26 = .ok (.invokestatic 15, 3) := by decide +kernel
theorem dX1_rise_29 : decode cX1_rise 29 = .ok (.istore 6, 2) := by decide +kernel
theorem dX1_rise_31 : decode cX1_rise 31 = .ok (.iload_n 0, 1) := by decide +kernel
theorem dX1_rise_32 : decode cX1_rise 32 = .ok (.tableswitch 72 1 5 #[36, 39, 42, 44, 58], 36) := by decide +kernel
theorem dX1_rise_68 : decode cX1_rise 68 = .ok (.iload 5, 2) := by decide +kernel
theorem dX1_rise_70 : decode cX1_rise 70 = .ok (.ireturn, 1) := by decide +kernel
theorem dX1_rise_71 : decode cX1_rise 71 = .ok (.iload 6, 2) := by decide +kernel
theorem dX1_rise_73 : decode cX1_rise 73 = .ok (.ireturn, 1) := by decide +kernel
theorem dX1_rise_74 : decode cX1_rise 74 = .ok (.iconst 0, 1) := by decide +kernel
theorem dX1_rise_75 : decode cX1_rise 75 = .ok (.ireturn, 1) := by decide +kernel
theorem dX1_rise_76 : decode cX1_rise 76 = .ok (.iload_n 1, 1) := by decide +kernel
theorem dX1_rise_77 : decode cX1_rise 77 = .ok (.bipush 15, 2) := by decide +kernel
theorem dX1_rise_79 : decode cX1_rise 79 = .ok (.if_icmp .ne 8, 3) := by decide +kernel
theorem dX1_rise_82 : decode cX1_rise 82 = .ok (.bipush 7, 2) := by decide +kernel
theorem dX1_rise_84 : decode cX1_rise 84 = .ok (.goto 5, 3) := by decide +kernel
theorem dX1_rise_87 : decode cX1_rise 87 = .ok (.iload 5, 2) := by decide +kernel
theorem dX1_rise_89 : decode cX1_rise 89 = .ok (.ireturn, 1) := by decide +kernel
theorem dX1_rise_90 : decode cX1_rise 90 = .ok (.iload_n 3, 1) := by decide +kernel
theorem dX1_rise_91 : decode cX1_rise 91 = .ok (.iconst 4, 1) := by decide +kernel
theorem dX1_rise_92 : decode cX1_rise 92 = .ok (.irem, 1) := by decide +kernel
theorem dX1_rise_93 : decode cX1_rise 93 = .ok (.iconst 2, 1) := by decide +kernel
theorem dX1_rise_94 : decode cX1_rise 94 = .ok (.if_icmp .ne 7, 3) := by decide +kernel
theorem dX1_rise_97 : decode cX1_rise 97 = .ok (.iconst (-1), 1) := by decide +kernel
theorem dX1_rise_98 : decode cX1_rise 98 = .ok (.goto 5, 3) := by decide +kernel
theorem dX1_rise_101 : decode cX1_rise 101 = .ok (.iload 6, 2) := by decide +kernel
theorem dX1_rise_103 : decode cX1_rise 103 = .ok (.ireturn, 1) := by decide +kernel
theorem dX1_rise_104 : decode cX1_rise 104 = .ok (.iload 4, 2) := by decide +kernel
theorem dX1_rise_106 : decode cX1_rise 106 = .ok (.ireturn, 1) := by decide +kernel
theorem dX1_holds_0 : decode cX1_holds 0 = .ok (.iload_n 1, 1) := by decide +kernel
theorem dX1_holds_1 : decode cX1_holds 1 = .ok (.iconst 2, 1) := by decide +kernel
theorem dX1_holds_2 : decode cX1_holds 2 = .ok (.irem, 1) := by decide +kernel
theorem dX1_holds_3 : decode cX1_holds 3 = .ok (.iconst 1, 1) := by decide +kernel
theorem dX1_holds_4 : decode cX1_holds 4 = .ok (.if_icmp .ne 7, 3) := by decide +kernel
theorem dX1_holds_7 : decode cX1_holds 7 = .ok (.iconst 4, 1) := by decide +kernel
theorem dX1_holds_8 : decode cX1_holds 8 = .ok (.goto 5, 3) := by decide +kernel
theorem dX1_holds_11 : decode cX1_holds 11 = .ok (.bipush 6, 2) := by decide +kernel
theorem dX1_holds_13 : decode cX1_holds 13 = .ok (.istore_n 2, 1) := by decide +kernel
theorem dX1_holds_14 : decode cX1_holds 14 = .ok (.iconst 3, 1) := by decide +kernel
theorem dX1_holds_15 : decode cX1_holds 15 = .ok (.istore_n 3, 1) := by decide +kernel
theorem dX1_holds_16 : decode cX1_holds 16 = .ok (.iload_n 0, 1) := by decide +kernel
theorem dX1_holds_17 : decode cX1_holds 17 = .ok (.tableswitch 68 1 5 #[35, 37, 68, 39, 54], 35) := by decide +kernel
theorem dX1_holds_52 : decode cX1_holds 52 = .ok (.iload_n 2, 1) := by decide +kernel
theorem dX1_holds_53 : decode cX1_holds 53 = .ok (.ireturn, 1) := by decide +kernel
theorem dX1_holds_54 : decode cX1_holds 54 = .ok (.iload_n 3, 1) := by decide +kernel
theorem dX1_holds_55 : decode cX1_holds 55 = .ok (.ireturn, 1) := by decide +kernel
theorem dX1_holds_56 : decode cX1_holds 56 = .ok (.iload_n 2, 1) := by decide +kernel
theorem dX1_holds_57 : decode cX1_holds 57 = .ok (.bipush 6, 2) := by decide +kernel
theorem dX1_holds_59 : decode cX1_holds 59 = .ok (.if_icmp .ge 9, 3) := by decide +kernel
theorem dX1_holds_62 : decode cX1_holds 62 = .ok (.iload_n 2, 1) := by decide +kernel
theorem dX1_holds_63 : decode cX1_holds 63 = .ok (.iconst 1, 1) := by decide +kernel
theorem dX1_holds_64 : decode cX1_holds 64 = .ok (.iadd, 1) := by decide +kernel
theorem dX1_holds_65 : decode cX1_holds 65 = .ok (.goto 5, 3) := by decide +kernel
theorem dX1_holds_68 : decode cX1_holds 68 = .ok (.bipush 6, 2) := by decide +kernel
theorem dX1_holds_70 : decode cX1_holds 70 = .ok (.ireturn, 1) := by decide +kernel
theorem dX1_holds_71 : decode cX1_holds 71 = .ok (.iload_n 1, 1) := by decide +kernel
theorem dX1_holds_72 : decode cX1_holds 72 = .ok (.bipush 7, 2) := by decide +kernel
theorem dX1_holds_74 : decode cX1_holds 74 = .ok (.if_icmp .ne 9, 3) := by decide +kernel
theorem dX1_holds_77 : decode cX1_holds 77 = .ok (.iload_n 3, 1) := by decide +kernel
theorem dX1_holds_78 : decode cX1_holds 78 = .ok (.iconst 2, 1) := by decide +kernel
theorem dX1_holds_79 : decode cX1_holds 79 = .ok (.iadd, 1) := by decide +kernel
theorem dX1_holds_80 : decode cX1_holds 80 = .ok (.goto 4, 3) := by decide +kernel
theorem dX1_holds_83 : decode cX1_holds 83 = .ok (.iload_n 3, 1) := by decide +kernel
theorem dX1_holds_84 : decode cX1_holds 84 = .ok (.ireturn, 1) := by decide +kernel
theorem dX1_holds_85 : decode cX1_holds 85 = .ok (.bipush 6, 2) := by decide +kernel
theorem dX1_holds_87 : decode cX1_holds 87 = .ok (.ireturn, 1) := by decide +kernel
theorem dX1_cakes_0 : decode cX1_cakes 0 = .ok (.iload_n 1, 1) := by decide +kernel
theorem dX1_cakes_1 : decode cX1_cakes 1 = .ok (.iconst 3, 1) := by decide +kernel
theorem dX1_cakes_2 : decode cX1_cakes 2 = .ok (.idiv, 1) := by decide +kernel
theorem dX1_cakes_3 : decode cX1_cakes 3 = .ok (.istore_n 2, 1) := by decide +kernel
theorem dX1_cakes_4 : decode cX1_cakes 4 = .ok (.iload_n 1, 1) := by decide +kernel
theorem dX1_cakes_5 : decode cX1_cakes 5 = .ok (.iconst 5, 1) := by decide +kernel
theorem dX1_cakes_6 : decode cX1_cakes 6 = .ok (.if_icmp .le 9, 3) := by decide +kernel
theorem dX1_cakes_9 : decode cX1_cakes 9 = .ok (.iload_n 2, 1) := by decide +kernel
theorem dX1_cakes_10 : decode cX1_cakes 10 = .ok (.iconst 1, 1) := by decide +kernel
theorem dX1_cakes_11 : decode cX1_cakes 11 = .ok (.iadd, 1) := by decide +kernel
theorem dX1_cakes_12 : decode cX1_cakes 12 = .ok (.goto 4, 3) := by decide +kernel
theorem dX1_cakes_15 : decode cX1_cakes 15 = .ok (.iload_n 2, 1) := by decide +kernel
theorem dX1_cakes_16 : decode cX1_cakes 16 = .ok (.istore_n 3, 1) := by decide +kernel
theorem dX1_cakes_17 : decode cX1_cakes 17 = .ok (.iload_n 0, 1) := by decide +kernel
theorem dX1_cakes_18 : decode cX1_cakes 18 = .ok (.tableswitch 50 1 5 #[34, 50, 36, 40, 42], 34) := by decide +kernel
theorem dX1_cakes_52 : decode cX1_cakes 52 = .ok (.iload_n 3, 1) := by decide +kernel
theorem dX1_cakes_53 : decode cX1_cakes 53 = .ok (.ireturn, 1) := by decide +kernel
theorem dX1_cakes_54 : decode cX1_cakes 54 = .ok (.iconst 2, 1) := by decide +kernel
theorem dX1_cakes_55 : decode cX1_cakes 55 = .ok (.iload_n 2, 1) := by decide +kernel
theorem dX1_cakes_56 : decode cX1_cakes 56 = .ok (.imul, 1) := by decide +kernel
theorem dX1_cakes_57 : decode cX1_cakes 57 = .ok (.ireturn, 1) := by decide +kernel
theorem dX1_cakes_58 : decode cX1_cakes 58 = .ok (.iload_n 3, 1) := by decide +kernel
theorem dX1_cakes_59 : decode cX1_cakes 59 = .ok (.ireturn, 1) := by decide +kernel
theorem dX1_cakes_60 : decode cX1_cakes 60 = .ok (.iconst 0, 1) := by decide +kernel
theorem dX1_cakes_61 : decode cX1_cakes 61 = .ok (.iload_n 2, 1) := by decide +kernel
theorem dX1_cakes_62 : decode cX1_cakes 62 = .ok (.iconst 1, 1) := by decide +kernel
theorem dX1_cakes_63 : decode cX1_cakes 63 = .ok (.isub, 1) := by decide +kernel
theorem dX1_cakes_64 : decode cX1_cakes 64 = .ok (.invokestatic 15, 3) := by decide +kernel
theorem dX1_cakes_67 : decode cX1_cakes 67 = .ok (.ireturn, 1) := by decide +kernel
theorem dX1_cakes_68 : decode cX1_cakes 68 = .ok (.iload_n 2, 1) := by decide +kernel
theorem dX1_cakes_69 : decode cX1_cakes 69 = .ok (.ireturn, 1) := by decide +kernel
theorem dX1_name_0 : decode cX1_name 0 = .ok (.iload_n 0, 1) := by decide +kernel
theorem dX1_name_1 : decode cX1_name 1 = .ok (.tableswitch 50 1 5 #[35, 38, 41, 44, 47], 35) := by decide +kernel
theorem dX1_name_36 : decode cX1_name 36 = .ok (.ldc 24, 2) := by decide +kernel
theorem dX1_name_38 : decode cX1_name 38 = .ok (.areturn, 1) := by decide +kernel
theorem dX1_name_39 : decode cX1_name 39 = .ok (.ldc 26, 2) := by decide +kernel
theorem dX1_name_41 : decode cX1_name 41 = .ok (.areturn, 1) := by decide +kernel
theorem dX1_name_42 : decode cX1_name 42 = .ok (.ldc 28, 2) := by decide +kernel
theorem dX1_name_44 : decode cX1_name 44 = .ok (.areturn, 1) := by decide +kernel
theorem dX1_name_45 : decode cX1_name 45 = .ok (.ldc 30, 2) := by decide +kernel
theorem dX1_name_47 : decode cX1_name 47 = .ok (.areturn, 1) := by decide +kernel
theorem dX1_name_48 : decode cX1_name 48 = .ok (.ldc 32, 2) := by decide +kernel
theorem dX1_name_50 : decode cX1_name 50 = .ok (.areturn, 1) := by decide +kernel
theorem dX1_name_51 : decode cX1_name 51 = .ok (.ldc 34, 2) := by decide +kernel
theorem dX1_name_53 : decode cX1_name 53 = .ok (.areturn, 1) := by decide +kernel
theorem dX1_settle_0 : decode cX1_settle 0 = .ok (.iload_n 1, 1) := by decide +kernel
theorem dX1_settle_1 : decode cX1_settle 1 = .ok (.bipush 7, 2) := by decide +kernel
theorem dX1_settle_3 : decode cX1_settle 3 = .ok (.invokestatic 21, 3) := by decide +kernel
theorem dX1_settle_6 : decode cX1_settle 6 = .ok (.istore 4, 2) := by decide +kernel
theorem dX1_settle_8 : decode cX1_settle 8 = .ok (.iload 4, 2) := by decide +kernel
theorem dX1_settle_10 : decode cX1_settle 10 = .ok (.ifCond .lt 43, 3) := by decide +kernel
theorem dX1_settle_13 : decode cX1_settle 13 = .ok (.iload_n 3, 1) := by decide +kernel
theorem dX1_settle_14 : decode cX1_settle 14 = .ok (.iload 4, 2) := by decide +kernel
theorem dX1_settle_16 : decode cX1_settle 16 = .ok (.iadd, 1) := by decide +kernel
theorem dX1_settle_17 : decode cX1_settle 17 = .ok (.istore 5, 2) := by decide +kernel
theorem dX1_settle_19 : decode cX1_settle 19 = .ok (.iload 5, 2) := by decide +kernel
theorem dX1_settle_21 : decode cX1_settle 21 = .ok (.ifCond .lt 26, 3) := by decide +kernel
theorem dX1_settle_24 : decode cX1_settle 24 = .ok (.iload 5, 2) := by decide +kernel
theorem dX1_settle_26 : decode cX1_settle 26 = .ok (.aload_n 2, 1) := by decide +kernel
theorem dX1_settle_27 : decode cX1_settle 27 = .ok (.arraylength, 1) := by decide +kernel
theorem dX1_settle_28 : decode cX1_settle 28 = .ok (.if_icmp .ge 19, 3) := by decide +kernel
theorem dX1_settle_31 : decode cX1_settle 31 = .ok (.aload_n 2, 1) := by decide +kernel
theorem dX1_settle_32 : decode cX1_settle 32 = .ok (.iload 5, 2) := by decide +kernel
theorem dX1_settle_34 : decode cX1_settle 34 = .ok (.iaload, 1) := by decide +kernel
theorem dX1_settle_35 : decode cX1_settle 35 = .ok (.iload_n 0, 1) := by decide +kernel
theorem dX1_settle_36 : decode cX1_settle 36 = .ok (.iload 4, 2) := by decide +kernel
theorem dX1_settle_38 : decode cX1_settle 38 = .ok (.invokestatic 36, 3) := by decide +kernel
theorem dX1_settle_41 : decode cX1_settle 41 = .ok (.if_icmp .ge 6, 3) := by decide +kernel
theorem dX1_settle_44 : decode cX1_settle 44 = .ok (.iload 4, 2) := by decide +kernel
theorem dX1_settle_46 : decode cX1_settle 46 = .ok (.ireturn, 1) := by decide +kernel
theorem dX1_settle_47 : decode cX1_settle 47 = .ok (.iinc 4 (-1), 3) := by decide +kernel
theorem dX1_settle_50 : decode cX1_settle 50 = .ok (.goto (-42), 3) := by decide +kernel
theorem dX1_settle_53 : decode cX1_settle 53 = .ok (.iconst (-1), 1) := by decide +kernel
theorem dX1_settle_54 : decode cX1_settle 54 = .ok (.ireturn, 1) := by decide +kernel
theorem dX2_init_0 : decode cX2_init 0 = .ok (.aload_n 0, 1) := by decide +kernel
theorem dX2_init_1 : decode cX2_init 1 = .ok (.invokespecial 1, 3) := by decide +kernel
theorem dX2_init_4 : decode cX2_init 4 = .ok (.aload_n 0, 1) := by decide +kernel
theorem dX2_init_5 : decode cX2_init 5 = .ok (.iconst 4, 1) := by decide +kernel
theorem dX2_init_6 : decode cX2_init 6 = .ok (.newarray .int, 2) := by decide +kernel
theorem dX2_init_8 : decode cX2_init 8 = .ok (.putfield 9, 3) := by decide +kernel
theorem dX2_init_11 : decode cX2_init 11 = .ok (.aload_n 0, 1) := by decide +kernel
theorem dX2_init_12 : decode cX2_init 12 = .ok (.iconst 4, 1) := by decide +kernel
theorem dX2_init_13 : decode cX2_init 13 = .ok (.newarray .int, 2) := by decide +kernel
theorem dX2_init_15 : decode cX2_init 15 = .ok (.putfield 13, 3) := by decide +kernel
theorem dX2_init_18 : decode cX2_init 18 = .ok (.aload_n 0, 1) := by decide +kernel
theorem dX2_init_19 : decode cX2_init 19 = .ok (.sipush 160, 3) := by decide +kernel
theorem dX2_init_22 : decode cX2_init 22 = .ok (.newarray .long, 2) := by decide +kernel
theorem dX2_init_24 : decode cX2_init 24 = .ok (.putfield 16, 3) := by decide +kernel
theorem dX2_init_27 : decode cX2_init 27 = .ok (.return_, 1) := by decide +kernel
theorem dX2_isSheet_0 : decode cX2_isSheet 0 = .ok (.iload_n 0, 1) := by decide +kernel
theorem dX2_isSheet_1 : decode cX2_isSheet 1 = .ok (.ifCond .lt 12, 3) := by decide +kernel
theorem dX2_isSheet_4 : decode cX2_isSheet 4 = .ok (.iload_n 0, 1) := by decide +kernel
theorem dX2_isSheet_5 : decode cX2_isSheet 5 = .ok (.iconst 4, 1) := by decide +kernel
theorem dX2_isSheet_6 : decode cX2_isSheet 6 = .ok (.if_icmp .ge 7, 3) := by decide +kernel
theorem dX2_isSheet_9 : decode cX2_isSheet 9 = .ok (.iconst 1, 1) := by decide +kernel
theorem dX2_isSheet_10 : decode cX2_isSheet 10 = .ok (.goto 4, 3) := by decide +kernel
theorem dX2_isSheet_13 : decode cX2_isSheet 13 = .ok (.iconst 0, 1) := by decide +kernel
theorem dX2_isSheet_14 : decode cX2_isSheet 14 = .ok (.ireturn, 1) := by decide +kernel
theorem dX2_isWidth_0 : decode cX2_isWidth 0 = .ok (.iload_n 0, 1) := by decide +kernel
theorem dX2_isWidth_1 : decode cX2_isWidth 1 = .ok (.ifCond .eq 21, 3) := by decide +kernel
theorem dX2_isWidth_4 : decode cX2_isWidth 4 = .ok (.iload_n 0, 1) := by decide +kernel
theorem dX2_isWidth_5 : decode cX2_isWidth 5 = .ok (.bipush 8, 2) := by decide +kernel
theorem dX2_isWidth_7 : decode cX2_isWidth 7 = .ok (.if_icmp .eq 15, 3) := by decide +kernel
theorem dX2_isWidth_10 : decode cX2_isWidth 10 = .ok (.iload_n 0, 1) := by decide +kernel
theorem dX2_isWidth_11 : decode cX2_isWidth 11 = .ok (.bipush 16, 2) := by decide +kernel
theorem dX2_isWidth_13 : decode cX2_isWidth 13 = .ok (.if_icmp .eq 9, 3) := by decide +kernel
theorem dX2_isWidth_16 : decode cX2_isWidth 16 = .ok (.iload_n 0, 1) := by decide +kernel
theorem dX2_isWidth_17 : decode cX2_isWidth 17 = .ok (.bipush 64, 2) := by decide +kernel
theorem dX2_isWidth_19 : decode cX2_isWidth 19 = .ok (.if_icmp .ne 7, 3) := by decide +kernel
theorem dX2_isWidth_22 : decode cX2_isWidth 22 = .ok (.iconst 1, 1) := by decide +kernel
theorem dX2_isWidth_23 : decode cX2_isWidth 23 = .ok (.goto 4, 3) := by decide +kernel
theorem dX2_isWidth_26 : decode cX2_isWidth 26 = .ok (.iconst 0, 1) := by decide +kernel
theorem dX2_isWidth_27 : decode cX2_isWidth 27 = .ok (.ireturn, 1) := by decide +kernel
theorem dX2_layOut_0 : decode cX2_layOut 0 = .ok (.iload_n 1, 1) := by decide +kernel
theorem dX2_layOut_1 : decode cX2_layOut 1 = .ok (.invokestatic 20, 3) := by decide +kernel
theorem dX2_layOut_4 : decode cX2_layOut 4 = .ok (.ifCond .eq 13, 3) := by decide +kernel
theorem dX2_layOut_7 : decode cX2_layOut 7 = .ok (.iload_n 3, 1) := by decide +kernel
theorem dX2_layOut_8 : decode cX2_layOut 8 = .ok (.ifCond .lt 9, 3) := by decide +kernel
theorem dX2_layOut_11 : decode cX2_layOut 11 = .ok (.iload_n 3, 1) := by decide +kernel
theorem dX2_layOut_12 : decode cX2_layOut 12 = .ok (.bipush 40, 2) := by decide +kernel
theorem dX2_layOut_14 : decode cX2_layOut 14 = .ok (.if_icmp .le 5, 3) := by decide +kernel
theorem dX2_layOut_17 : decode cX2_layOut 17 = .ok (.iconst 0, 1) := by decide +kernel
theorem dX2_layOut_18 : decode cX2_layOut 18 = .ok (.ireturn, 1) := by decide +kernel
theorem dX2_layOut_19 : decode cX2_layOut 19 = .ok (.aload_n 0, 1) := by decide +kernel
theorem dX2_layOut_20 : decode cX2_layOut 20 = .ok (.getfield 9, 3) := by decide +kernel
theorem dX2_layOut_23 : decode cX2_layOut 23 = .ok (.iload_n 1, 1) := by decide +kernel
theorem dX2_layOut_24 : decode cX2_layOut 24 = .ok (.iload_n 2, 1) := by decide +kernel
theorem dX2_layOut_25 : decode cX2_layOut 25 = .ok (.iastore, 1) := by decide +kernel
theorem dX2_layOut_26 : decode cX2_layOut 26 = .ok (.aload_n 0, 1) := by decide +kernel
theorem dX2_layOut_27 : decode cX2_layOut 27 = .ok (.getfield 13, 3) := by decide +kernel
theorem dX2_layOut_30 : decode cX2_layOut 30 = .ok (.iload_n 1, 1) := by decide +kernel
theorem dX2_layOut_31 : decode cX2_layOut 31 = .ok (.iload_n 2, 1) := by decide +kernel
theorem dX2_layOut_32 : decode cX2_layOut 32 = .ok (.ifCond .ne 7, 3) := by decide +kernel
theorem dX2_layOut_35 : decode cX2_layOut 35 = .ok (.iconst 0, 1) := by decide +kernel
theorem dX2_layOut_36 : decode cX2_layOut 36 = .ok (.goto 4, 3) := by decide +kernel
theorem dX2_layOut_39 : decode cX2_layOut 39 = .ok (.iload_n 3, 1) := by decide +kernel
theorem dX2_layOut_40 : decode cX2_layOut 40 = .ok (.iastore, 1) := by decide +kernel
theorem dX2_layOut_41 : decode cX2_layOut 41 = .ok (.iconst 0, 1) := by decide +kernel
theorem dX2_layOut_42 : decode cX2_layOut 42 = .ok (.istore 4, 2) := by decide +kernel
theorem dX2_layOut_44 : decode cX2_layOut 44 = .ok (.iload 4, 2) := by decide +kernel
theorem dX2_layOut_46 : decode cX2_layOut 46 = .ok (.bipush 40, 2) := by decide +kernel
theorem dX2_layOut_48 : decode cX2_layOut 48 = .ok (.if_icmp .ge 22, 3) := by decide +kernel
theorem dX2_layOut_51 : decode cX2_layOut 51 = .ok (.aload_n 0, 1) := by decide +kernel
theorem dX2_layOut_52 : decode cX2_layOut 52 = .ok (.getfield 16, 3) := by decide +kernel
theorem dX2_layOut_55 : decode cX2_layOut 55 = .ok (.iload_n 1, 1) := by decide +kernel
theorem dX2_layOut_56 : decode cX2_layOut 56 = .ok (.bipush 40, 2) := by decide +kernel
theorem dX2_layOut_58 : decode cX2_layOut 58 = .ok (.imul, 1) := by decide +kernel
theorem dX2_layOut_59 : decode cX2_layOut 59 = .ok (.iload 4, 2) := by decide +kernel
theorem dX2_layOut_61 : decode cX2_layOut 61 = .ok (.iadd, 1) := by decide +kernel
theorem dX2_layOut_62 : decode cX2_layOut 62 = .ok (.lconst 0, 1) := by decide +kernel
theorem dX2_layOut_63 : decode cX2_layOut 63 = .ok (.lastore, 1) := by decide +kernel
theorem dX2_layOut_64 : decode cX2_layOut 64 = .ok (.iinc 4 1, 3) := by decide +kernel
theorem dX2_layOut_67 : decode cX2_layOut 67 = .ok (.goto (-23), 3) := by decide +kernel
theorem dX2_layOut_70 : decode cX2_layOut 70 = .ok (.aload_n 0, 1) := by decide +kernel
theorem dX2_layOut_71 : decode cX2_layOut 71 = .ok (.getfield 13, 3) := by decide +kernel
theorem dX2_layOut_74 : decode cX2_layOut 74 = .ok (.iload_n 1, 1) := by decide +kernel
theorem dX2_layOut_75 : decode cX2_layOut 75 = .ok (.iaload, 1) := by decide +kernel
theorem dX2_layOut_76 : decode cX2_layOut 76 = .ok (.ireturn, 1) := by decide +kernel
theorem dX2_isMissing_0 : decode cX2_isMissing 0 = .ok (.aload_n 0, 1) := by decide +kernel
theorem dX2_isMissing_1 : decode cX2_isMissing 1 = .ok (.iload_n 1, 1) := by decide +kernel
theorem dX2_isMissing_2 : decode cX2_isMissing 2 = .ok (.invokevirtual 24, 3) := by decide +kernel
theorem dX2_isMissing_5 : decode cX2_isMissing 5 = .ok (.ifCond .ne 7, 3) := by decide +kernel
theorem dX2_isMissing_8 : decode cX2_isMissing 8 = .ok (.iconst 1, 1) := by decide +kernel
theorem dX2_isMissing_9 : decode cX2_isMissing 9 = .ok (.goto 4, 3) := by decide +kernel
theorem dX2_isMissing_12 : decode cX2_isMissing 12 = .ok (.iconst 0, 1) := by decide +kernel
theorem dX2_isMissing_13 : decode cX2_isMissing 13 = .ok (.ireturn, 1) := by decide +kernel
theorem dX2_width_0 : decode cX2_width 0 = .ok (.iload_n 1, 1) := by decide +kernel
theorem dX2_width_1 : decode cX2_width 1 = .ok (.invokestatic 20, 3) := by decide +kernel
theorem dX2_width_4 : decode cX2_width 4 = .ok (.ifCond .eq 12, 3) := by decide +kernel
theorem dX2_width_7 : decode cX2_width 7 = .ok (.aload_n 0, 1) := by decide +kernel
theorem dX2_width_8 : decode cX2_width 8 = .ok (.getfield 9, 3) := by decide +kernel
theorem dX2_width_11 : decode cX2_width 11 = .ok (.iload_n 1, 1) := by decide +kernel
theorem dX2_width_12 : decode cX2_width 12 = .ok (.iaload, 1) := by decide +kernel
theorem dX2_width_13 : decode cX2_width 13 = .ok (.goto 4, 3) := by decide +kernel
theorem dX2_width_16 : decode cX2_width 16 = .ok (.iconst 0, 1) := by decide +kernel
theorem dX2_width_17 : decode cX2_width 17 = .ok (.ireturn, 1) := by decide +kernel
theorem dX2_length_0 : decode cX2_length 0 = .ok (.iload_n 1, 1) := by decide +kernel
theorem dX2_length_1 : decode cX2_length 1 = .ok (.invokestatic 20, 3) := by decide +kernel
theorem dX2_length_4 : decode cX2_length 4 = .ok (.ifCond .eq 12, 3) := by decide +kernel
theorem dX2_length_7 : decode cX2_length 7 = .ok (.aload_n 0, 1) := by decide +kernel
theorem dX2_length_8 : decode cX2_length 8 = .ok (.getfield 13, 3) := by decide +kernel
theorem dX2_length_11 : decode cX2_length 11 = .ok (.iload_n 1, 1) := by decide +kernel
theorem dX2_length_12 : decode cX2_length 12 = .ok (.iaload, 1) := by decide +kernel
theorem dX2_length_13 : decode cX2_length 13 = .ok (.goto 4, 3) := by decide +kernel
theorem dX2_length_16 : decode cX2_length 16 = .ok (.iconst 0, 1) := by decide +kernel
theorem dX2_length_17 : decode cX2_length 17 = .ok (.ireturn, 1) := by decide +kernel
theorem dX2_hasRange_0 : decode cX2_hasRange 0 = .ok (.iload_n 2, 1) := by decide +kernel
theorem dX2_hasRange_1 : decode cX2_hasRange 1 = .ok (.ifCond .lt 31, 3) := by decide +kernel
theorem dX2_hasRange_4 : decode cX2_hasRange 4 = .ok (.iload_n 3, 1) := by decide +kernel
theorem dX2_hasRange_5 : decode cX2_hasRange 5 = .ok (.ifCond .lt 27, 3) := by decide +kernel
theorem dX2_hasRange_8 : decode cX2_hasRange 8 = .ok (.iload_n 3, 1) := by decide +kernel
theorem dX2_hasRange_9 : decode cX2_hasRange 9 = .ok (.aload_n 0, 1) := by decide +kernel
theorem dX2_hasRange_10 : decode cX2_hasRange 10 = .ok (.iload_n 1, 1) := by decide +kernel
theorem dX2_hasRange_11 : decode cX2_hasRange 11 = .ok (.invokevirtual 28, 3) := by decide +kernel
theorem dX2_hasRange_14 : decode cX2_hasRange 14 = .ok (.if_icmp .gt 18, 3) := by decide +kernel
theorem dX2_hasRange_17 : decode cX2_hasRange 17 = .ok (.iload_n 2, 1) := by decide +kernel
theorem dX2_hasRange_18 : decode cX2_hasRange 18 = .ok (.aload_n 0, 1) := by decide +kernel
theorem dX2_hasRange_19 : decode cX2_hasRange 19 = .ok (.iload_n 1, 1) := by decide +kernel
theorem dX2_hasRange_20 : decode cX2_hasRange 20 = .ok (.invokevirtual 28, 3) := by decide +kernel
theorem dX2_hasRange_23 : decode cX2_hasRange 23 = .ok (.iload_n 3, 1) := by decide +kernel
theorem dX2_hasRange_24 : decode cX2_hasRange 24 = .ok (.isub, 1) := by decide +kernel
theorem dX2_hasRange_25 : decode cX2_hasRange 25 = .ok (.if_icmp .gt 7, 3) := by decide +kernel
theorem dX2_hasRange_28 : decode cX2_hasRange 28 = .ok (.iconst 1, 1) := by decide +kernel
theorem dX2_hasRange_29 : decode cX2_hasRange 29 = .ok (.goto 4, 3) := by decide +kernel
theorem dX2_hasRange_32 : decode cX2_hasRange 32 = .ok (.iconst 0, 1) := by decide +kernel
theorem dX2_hasRange_33 : decode cX2_hasRange 33 = .ok (.ireturn, 1) := by decide +kernel
theorem dX2_number_0 : decode cX2_number 0 = .ok (.aload_n 0, 1) := by decide +kernel
theorem dX2_number_1 : decode cX2_number 1 = .ok (.iload_n 1, 1) := by decide +kernel
theorem dX2_number_2 : decode cX2_number 2 = .ok (.iload_n 2, 1) := by decide +kernel
theorem dX2_number_3 : decode cX2_number 3 = .ok (.iconst 1, 1) := by decide +kernel
theorem dX2_number_4 : decode cX2_number 4 = .ok (.invokevirtual 31, 3) := by decide +kernel
theorem dX2_number_7 : decode cX2_number 7 = .ok (.ifCond .eq 17, 3) := by decide +kernel
theorem dX2_number_10 : decode cX2_number 10 = .ok (.aload_n 0, 1) := by decide +kernel
theorem dX2_number_11 : decode cX2_number 11 = .ok (.getfield 16, 3) := by decide +kernel
theorem dX2_number_14 : decode cX2_number 14 = .ok (.iload_n 1, 1) := by decide +kernel
theorem dX2_number_15 : decode cX2_number 15 = .ok (.bipush 40, 2) := by decide +kernel
theorem dX2_number_17 : decode cX2_number 17 = .ok (.imul, 1) := by decide +kernel
theorem dX2_number_18 : decode cX2_number 18 = .ok (.iload_n 2, 1) := by decide +kernel
theorem dX2_number_19 : decode cX2_number 19 = .ok (.iadd, 1) := by decide +kernel
theorem dX2_number_20 : decode cX2_number 20 = .ok (.laload, 1) := by decide +kernel
theorem dX2_number_21 : decode cX2_number 21 = .ok (.goto 4, 3) := by decide +kernel
theorem dX2_number_24 : decode cX2_number 24 = .ok (.lconst 0, 1) := by decide +kernel
theorem dX2_number_25 : decode cX2_number 25 = .ok (.lreturn, 1) := by decide +kernel
theorem dX2_put_0 : decode cX2_put 0 = .ok (.aload_n 0, 1) := by decide +kernel
theorem dX2_put_1 : decode cX2_put 1 = .ok (.iload_n 1, 1) := by decide +kernel
theorem dX2_put_2 : decode cX2_put 2 = .ok (.iload_n 2, 1) := by decide +kernel
theorem dX2_put_3 : decode cX2_put 3 = .ok (.iconst 1, 1) := by decide +kernel
theorem dX2_put_4 : decode cX2_put 4 = .ok (.invokevirtual 31, 3) := by decide +kernel
theorem dX2_put_7 : decode cX2_put 7 = .ok (.ifCond .eq 23, 3) := by decide +kernel
theorem dX2_put_10 : decode cX2_put 10 = .ok (.aload_n 0, 1) := by decide +kernel
theorem dX2_put_11 : decode cX2_put 11 = .ok (.getfield 16, 3) := by decide +kernel
theorem dX2_put_14 : decode cX2_put 14 = .ok (.iload_n 1, 1) := by decide +kernel
theorem dX2_put_15 : decode cX2_put 15 = .ok (.bipush 40, 2) := by decide +kernel
theorem dX2_put_17 : decode cX2_put 17 = .ok (.imul, 1) := by decide +kernel
theorem dX2_put_18 : decode cX2_put 18 = .ok (.iload_n 2, 1) := by decide +kernel
theorem dX2_put_19 : decode cX2_put 19 = .ok (.iadd, 1) := by decide +kernel
theorem dX2_put_20 : decode cX2_put 20 = .ok (.aload_n 0, 1) := by decide +kernel
theorem dX2_put_21 : decode cX2_put 21 = .ok (.iload_n 1, 1) := by decide +kernel
theorem dX2_put_22 : decode cX2_put 22 = .ok (.invokevirtual 24, 3) := by decide +kernel
theorem dX2_put_25 : decode cX2_put 25 = .ok (.lload_n 3, 1) := by decide +kernel
theorem dX2_put_26 : decode cX2_put 26 = .ok (.invokestatic 35, 3) := by decide +kernel
theorem dX2_put_29 : decode cX2_put 29 = .ok (.lastore, 1) := by decide +kernel
theorem dX2_put_30 : decode cX2_put 30 = .ok (.return_, 1) := by decide +kernel
theorem dX2_cut_0 : decode cX2_cut 0 = .ok (.iload_n 0, 1) := by decide +kernel
theorem dX2_cut_1 : decode cX2_cut 1 = .ok (.bipush 8, 2) := by decide +kernel
theorem dX2_cut_3 : decode cX2_cut 3 = .ok (.if_icmp .ne 8, 3) := by decide +kernel
theorem dX2_cut_6 : decode cX2_cut 6 = .ok (.lload_n 1, 1) := by decide +kernel
theorem dX2_cut_7 : decode cX2_cut 7 = .ok (.l2i, 1) := by decide +kernel
theorem dX2_cut_8 : decode cX2_cut 8 = .ok (.i2b, 1) := by decide +kernel
theorem dX2_cut_9 : decode cX2_cut 9 = .ok (.i2l, 1) := by decide +kernel
theorem dX2_cut_10 : decode cX2_cut 10 = .ok (.lreturn, 1) := by decide +kernel
theorem dX2_cut_11 : decode cX2_cut 11 = .ok (.iload_n 0, 1) := by decide +kernel
theorem dX2_cut_12 : decode cX2_cut 12 = .ok (.bipush 16, 2) := by decide +kernel
theorem dX2_cut_14 : decode cX2_cut 14 = .ok (.if_icmp .ne 8, 3) := by decide +kernel
theorem dX2_cut_17 : decode cX2_cut 17 = .ok (.lload_n 1, 1) := by decide +kernel
theorem dX2_cut_18 : decode cX2_cut 18 = .ok (.l2i, 1) := by decide +kernel
theorem dX2_cut_19 : decode cX2_cut 19 = .ok (.i2s, 1) := by decide +kernel
theorem dX2_cut_20 : decode cX2_cut 20 = .ok (.i2l, 1) := by decide +kernel
theorem dX2_cut_21 : decode cX2_cut 21 = .ok (.lreturn, 1) := by decide +kernel
theorem dX2_cut_22 : decode cX2_cut 22 = .ok (.lload_n 1, 1) := by decide +kernel
theorem dX2_cut_23 : decode cX2_cut 23 = .ok (.lreturn, 1) := by decide +kernel
theorem dX2_move_0 : decode cX2_move 0 = .ok (.aload_n 0, 1) := by decide +kernel
theorem dX2_move_1 : decode cX2_move 1 = .ok (.iload_n 1, 1) := by decide +kernel
theorem dX2_move_2 : decode cX2_move 2 = .ok (.iload_n 2, 1) := by decide +kernel
theorem dX2_move_3 : decode cX2_move 3 = .ok (.iload 5, 2) := by decide +kernel
theorem dX2_move_5 : decode cX2_move 5 = .ok (.invokevirtual 31, 3) := by decide +kernel
theorem dX2_move_8 : decode cX2_move 8 = .ok (.ifCond .eq 15, 3) := by decide +kernel
theorem dX2_move_11 : decode cX2_move 11 = .ok (.aload_n 0, 1) := by decide +kernel
theorem dX2_move_12 : decode cX2_move 12 = .ok (.iload_n 3, 1) := by decide +kernel
theorem dX2_move_13 : decode cX2_move 13 = .ok (.iload 4, 2) := by decide +kernel
theorem dX2_move_15 : decode cX2_move 15 = .ok (.iload 5, 2) := by decide +kernel
theorem dX2_move_17 : decode cX2_move 17 = .ok (.invokevirtual 31, 3) := by decide +kernel
theorem dX2_move_20 : decode cX2_move 20 = .ok (.ifCond .ne 4, 3) := by decide +kernel
theorem dX2_move_23 : decode cX2_move 23 = .ok (.return_, 1) := by decide +kernel
theorem dX2_move_24 : decode cX2_move 24 = .ok (.aload_n 0, 1) := by decide +kernel
theorem dX2_move_25 : decode cX2_move 25 = .ok (.getfield 16, 3) := by decide +kernel
theorem dX2_move_28 : decode cX2_move 28 = .ok (.iload_n 1, 1) := by decide +kernel
theorem dX2_move_29 : decode cX2_move 29 = .ok (.bipush 40, 2) := by decide +kernel
theorem dX2_move_31 : decode cX2_move 31 = .ok (.imul, 1) := by decide +kernel
theorem dX2_move_32 : decode cX2_move 32 = .ok (.iload_n 2, 1) := by decide +kernel
theorem dX2_move_33 : decode cX2_move 33 = .ok (.iadd, 1) := by decide +kernel
theorem dX2_move_34 : decode cX2_move 34 = .ok (.aload_n 0, 1) := by decide +kernel
theorem dX2_move_35 : decode cX2_move 35 = .ok (.getfield 16, 3) := by decide +kernel
theorem dX2_move_38 : decode cX2_move 38 = .ok (.iload_n 3, 1) := by decide +kernel
theorem dX2_move_39 : decode cX2_move 39 = .ok (.bipush 40, 2) := by decide +kernel
theorem dX2_move_41 : decode cX2_move 41 = .ok (.imul, 1) := by decide +kernel
theorem dX2_move_42 : decode cX2_move 42 = .ok (.iload 4, 2) := by decide +kernel
theorem dX2_move_44 : decode cX2_move 44 = .ok (.iadd, 1) := by decide +kernel
theorem dX2_move_45 : decode cX2_move 45 = .ok (.iload 5, 2) := by decide +kernel
theorem dX2_move_47 : decode cX2_move 47 = .ok (.invokestatic 39, 3) := by decide +kernel
theorem dX2_move_50 : decode cX2_move 50 = .ok (.return_, 1) := by decide +kernel
theorem dX3_init_0 : decode cX3_init 0 = .ok (.aload_n 0, 1) := by decide +kernel
theorem dX3_init_1 : decode cX3_init 1 = .ok (.invokespecial 3, 3) := by decide +kernel
theorem dX3_init_4 : decode cX3_init 4 = .ok (.aload_n 0, 1) := by decide +kernel
theorem dX3_init_5 : decode cX3_init 5 = .ok (.iconst 0, 1) := by decide +kernel
theorem dX3_init_6 : decode cX3_init 6 = .ok (.putfield 9, 3) := by decide +kernel
theorem dX3_init_9 : decode cX3_init 9 = .ok (.aload_n 0, 1) := by decide +kernel
theorem dX3_init_10 : decode cX3_init 10 = .ok (.iconst 0, 1) := by decide +kernel
theorem dX3_init_11 : decode cX3_init 11 = .ok (.putfield 15, 3) := by decide +kernel
theorem dX3_init_14 : decode cX3_init 14 = .ok (.aload_n 0, 1) := by decide +kernel
theorem dX3_init_15 : decode cX3_init 15 = .ok (.iconst 0, 1) := by decide +kernel
theorem dX3_init_16 : decode cX3_init 16 = .ok (.putfield 18, 3) := by decide +kernel
theorem dX3_init_19 : decode cX3_init 19 = .ok (.aload_n 0, 1) := by decide +kernel
theorem dX3_init_20 : decode cX3_init 20 = .ok (.bipush 6, 2) := by decide +kernel
theorem dX3_init_22 : decode cX3_init 22 = .ok (.newarray .int, 2) := by decide +kernel
theorem dX3_init_24 : decode cX3_init 24 = .ok (.putfield 21, 3) := by decide +kernel
theorem dX3_init_27 : decode cX3_init 27 = .ok (.aload_n 0, 1) := by decide +kernel
theorem dX3_init_28 : decode cX3_init 28 = .ok (.bipush 48, 2) := by decide +kernel
theorem dX3_init_30 : decode cX3_init 30 = .ok (.newarray .int, 2) := by decide +kernel
theorem dX3_init_32 : decode cX3_init 32 = .ok (.putfield 25, 3) := by decide +kernel
theorem dX3_init_35 : decode cX3_init 35 = .ok (.aload_n 0, 1) := by decide +kernel
theorem dX3_init_36 : decode cX3_init 36 = .ok (.sipush 288, 3) := by decide +kernel
theorem dX3_init_39 : decode cX3_init 39 = .ok (.newarray .int, 2) := by decide +kernel
theorem dX3_init_41 : decode cX3_init 41 = .ok (.putfield 28, 3) := by decide +kernel
theorem dX3_init_44 : decode cX3_init 44 = .ok (.aload_n 0, 1) := by decide +kernel
theorem dX3_init_45 : decode cX3_init 45 = .ok (.sipush 288, 3) := by decide +kernel
theorem dX3_init_48 : decode cX3_init 48 = .ok (.newarray .int, 2) := by decide +kernel
theorem dX3_init_50 : decode cX3_init 50 = .ok (.putfield 31, 3) := by decide +kernel
theorem dX3_init_53 : decode cX3_init 53 = .ok (.return_, 1) := by decide +kernel
theorem dX3_become_0 : decode cX3_become 0 = .ok (.aload_n 0, 1) := by decide +kernel
theorem dX3_become_1 : decode cX3_become 1 = .ok (.aload_n 1, 1) := by decide +kernel
theorem dX3_become_2 : decode cX3_become 2 = .ok (.getfield 9, 3) := by decide +kernel
theorem dX3_become_5 : decode cX3_become 5 = .ok (.putfield 9, 3) := by decide +kernel
theorem dX3_become_8 : decode cX3_become 8 = .ok (.aload_n 0, 1) := by decide +kernel
theorem dX3_become_9 : decode cX3_become 9 = .ok (.aload_n 1, 1) := by decide +kernel
theorem dX3_become_10 : decode cX3_become 10 = .ok (.getfield 15, 3) := by decide +kernel
theorem dX3_become_13 : decode cX3_become 13 = .ok (.putfield 15, 3) := by decide +kernel
theorem dX3_become_16 : decode cX3_become 16 = .ok (.aload_n 0, 1) := by decide +kernel
theorem dX3_become_17 : decode cX3_become 17 = .ok (.aload_n 1, 1) := by decide +kernel
theorem dX3_become_18 : decode cX3_become 18 = .ok (.getfield 18, 3) := by decide +kernel
theorem dX3_become_21 : decode cX3_become 21 = .ok (.putfield 18, 3) := by decide +kernel
theorem dX3_become_24 : decode cX3_become 24 = .ok (.aload_n 1, 1) := by decide +kernel
theorem dX3_become_25 : decode cX3_become 25 = .ok (.getfield 21, 3) := by decide +kernel
theorem dX3_become_28 : decode cX3_become 28 = .ok (.iconst 0, 1) := by decide +kernel
theorem dX3_become_29 : decode cX3_become 29 = .ok (.aload_n 0, 1) := by decide +kernel
theorem dX3_become_30 : decode cX3_become 30 = .ok (.getfield 21, 3) := by decide +kernel
theorem dX3_become_33 : decode cX3_become 33 = .ok (.iconst 0, 1) := by decide +kernel
theorem dX3_become_34 : decode cX3_become 34 = .ok (.aload_n 0, 1) := by decide +kernel
theorem dX3_become_35 : decode cX3_become 35 = .ok (.getfield 21, 3) := by decide +kernel
theorem dX3_become_38 : decode cX3_become 38 = .ok (.arraylength, 1) := by decide +kernel
theorem dX3_become_39 : decode cX3_become 39 = .ok (.invokestatic 34, 3) := by decide +kernel
theorem dX3_become_42 : decode cX3_become 42 = .ok (.aload_n 1, 1) := by decide +kernel
theorem dX3_become_43 : decode cX3_become 43 = .ok (.getfield 25, 3) := by decide +kernel
theorem dX3_become_46 : decode cX3_become 46 = .ok (.iconst 0, 1) := by decide +kernel
theorem dX3_become_47 : decode cX3_become 47 = .ok (.aload_n 0, 1) := by decide +kernel
theorem dX3_become_48 : decode cX3_become 48 = .ok (.getfield 25, 3) := by decide +kernel
theorem dX3_become_51 : decode cX3_become 51 = .ok (.iconst 0, 1) := by decide +kernel
theorem dX3_become_52 : decode cX3_become 52 = .ok (.aload_n 0, 1) := by decide +kernel
theorem dX3_become_53 : decode cX3_become 53 = .ok (.getfield 25, 3) := by decide +kernel
theorem dX3_become_56 : decode cX3_become 56 = .ok (.arraylength, 1) := by decide +kernel
theorem dX3_become_57 : decode cX3_become 57 = .ok (.invokestatic 34, 3) := by decide +kernel
theorem dX3_become_60 : decode cX3_become 60 = .ok (.aload_n 1, 1) := by decide +kernel
theorem dX3_become_61 : decode cX3_become 61 = .ok (.getfield 28, 3) := by decide +kernel
theorem dX3_become_64 : decode cX3_become 64 = .ok (.iconst 0, 1) := by decide +kernel
theorem dX3_become_65 : decode cX3_become 65 = .ok (.aload_n 0, 1) := by decide +kernel
theorem dX3_become_66 : decode cX3_become 66 = .ok (.getfield 28, 3) := by decide +kernel
theorem dX3_become_69 : decode cX3_become 69 = .ok (.iconst 0, 1) := by decide +kernel
theorem dX3_become_70 : decode cX3_become 70 = .ok (.aload_n 0, 1) := by decide +kernel
theorem dX3_become_71 : decode cX3_become 71 = .ok (.getfield 28, 3) := by decide +kernel
theorem dX3_become_74 : decode cX3_become 74 = .ok (.arraylength, 1) := by decide +kernel
theorem dX3_become_75 : decode cX3_become 75 = .ok (.invokestatic 34, 3) := by decide +kernel
theorem dX3_become_78 : decode cX3_become 78 = .ok (.aload_n 1, 1) := by decide +kernel
theorem dX3_become_79 : decode cX3_become 79 = .ok (.getfield 31, 3) := by decide +kernel
theorem dX3_become_82 : decode cX3_become 82 = .ok (.iconst 0, 1) := by decide +kernel
theorem dX3_become_83 : decode cX3_become 83 = .ok (.aload_n 0, 1) := by decide +kernel
theorem dX3_become_84 : decode cX3_become 84 = .ok (.getfield 31, 3) := by decide +kernel
theorem dX3_become_87 : decode cX3_become 87 = .ok (.iconst 0, 1) := by decide +kernel
theorem dX3_become_88 : decode cX3_become 88 = .ok (.aload_n 0, 1) := by decide +kernel
theorem dX3_become_89 : decode cX3_become 89 = .ok (.getfield 31, 3) := by decide +kernel
theorem dX3_become_92 : decode cX3_become 92 = .ok (.arraylength, 1) := by decide +kernel
theorem dX3_become_93 : decode cX3_become 93 = .ok (.invokestatic 34, 3) := by decide +kernel
theorem dX3_become_96 : decode cX3_become 96 = .ok (.return_, 1) := by decide +kernel
theorem dX3_hasFlue_0 : decode cX3_hasFlue 0 = .ok (.iload_n 1, 1) := by decide +kernel
theorem dX3_hasFlue_1 : decode cX3_hasFlue 1 = .ok (.ifCond .lt 21, 3) := by decide +kernel
theorem dX3_hasFlue_4 : decode cX3_hasFlue 4 = .ok (.iload_n 1, 1) := by decide +kernel
theorem dX3_hasFlue_5 : decode cX3_hasFlue 5 = .ok (.aload_n 0, 1) := by decide +kernel
theorem dX3_hasFlue_6 : decode cX3_hasFlue 6 = .ok (.getfield 18, 3) := by decide +kernel
theorem dX3_hasFlue_9 : decode cX3_hasFlue 9 = .ok (.if_icmp .ge 13, 3) := by decide +kernel
theorem dX3_hasFlue_12 : decode cX3_hasFlue 12 = .ok (.iload_n 1, 1) := by decide +kernel
theorem dX3_hasFlue_13 : decode cX3_hasFlue 13 = .ok (.bipush 6, 2) := by decide +kernel
theorem dX3_hasFlue_15 : decode cX3_hasFlue 15 = .ok (.if_icmp .ge 7, 3) := by decide +kernel
theorem dX3_hasFlue_18 : decode cX3_hasFlue 18 = .ok (.iconst 1, 1) := by decide +kernel
theorem dX3_hasFlue_19 : decode cX3_hasFlue 19 = .ok (.goto 4, 3) := by decide +kernel
theorem dX3_hasFlue_22 : decode cX3_hasFlue 22 = .ok (.iconst 0, 1) := by decide +kernel
theorem dX3_hasFlue_23 : decode cX3_hasFlue 23 = .ok (.ireturn, 1) := by decide +kernel
theorem dX3_addFlue_0 : decode cX3_addFlue 0 = .ok (.aload_n 0, 1) := by decide +kernel
theorem dX3_addFlue_1 : decode cX3_addFlue 1 = .ok (.getfield 18, 3) := by decide +kernel
theorem dX3_addFlue_4 : decode cX3_addFlue 4 = .ok (.bipush 6, 2) := by decide +kernel
theorem dX3_addFlue_6 : decode cX3_addFlue 6 = .ok (.if_icmp .lt 5, 3) := by decide +kernel
theorem dX3_addFlue_9 : decode cX3_addFlue 9 = .ok (.iconst (-1), 1) := by decide +kernel
theorem dX3_addFlue_10 : decode cX3_addFlue 10 = .ok (.ireturn, 1) := by decide +kernel
theorem dX3_addFlue_11 : decode cX3_addFlue 11 = .ok (.aload_n 0, 1) := by decide +kernel
theorem dX3_addFlue_12 : decode cX3_addFlue 12 = .ok (.getfield 21, 3) := by decide +kernel
theorem dX3_addFlue_15 : decode cX3_addFlue 15 = .ok (.aload_n 0, 1) := by decide +kernel
theorem dX3_addFlue_16 : decode cX3_addFlue 16 = .ok (.getfield 18, 3) := by decide +kernel
theorem dX3_addFlue_19 : decode cX3_addFlue 19 = .ok (.iload_n 1, 1) := by decide +kernel
theorem dX3_addFlue_20 : decode cX3_addFlue 20 = .ok (.iastore, 1) := by decide +kernel
theorem dX3_addFlue_21 : decode cX3_addFlue 21 = .ok (.iconst 0, 1) := by decide +kernel
theorem dX3_addFlue_22 : decode cX3_addFlue 22 = .ok (.istore_n 2, 1) := by decide +kernel
theorem dX3_addFlue_23 : decode cX3_addFlue 23 = .ok (.iload_n 2, 1) := by decide +kernel
theorem dX3_addFlue_24 : decode cX3_addFlue 24 = .ok (.bipush 8, 2) := by decide +kernel
theorem dX3_addFlue_26 : decode cX3_addFlue 26 = .ok (.if_icmp .ge 24, 3) := by decide +kernel
theorem dX3_addFlue_29 : decode cX3_addFlue 29 = .ok (.aload_n 0, 1) := by decide +kernel
theorem dX3_addFlue_30 : decode cX3_addFlue 30 = .ok (.getfield 25, 3) := by decide +kernel
theorem dX3_addFlue_33 : decode cX3_addFlue 33 = .ok (.aload_n 0, 1) := by decide +kernel
theorem dX3_addFlue_34 : decode cX3_addFlue 34 = .ok (.getfield 18, 3) := by decide +kernel
theorem dX3_addFlue_37 : decode cX3_addFlue 37 = .ok (.bipush 8, 2) := by decide +kernel
theorem dX3_addFlue_39 : decode cX3_addFlue 39 = .ok (.imul, 1) := by decide +kernel
theorem dX3_addFlue_40 : decode cX3_addFlue 40 = .ok (.iload_n 2, 1) := by decide +kernel
theorem dX3_addFlue_41 : decode cX3_addFlue 41 = .ok (.iadd, 1) := by decide +kernel
theorem dX3_addFlue_42 : decode cX3_addFlue 42 = .ok (.iconst 0, 1) := by decide +kernel
theorem dX3_addFlue_43 : decode cX3_addFlue 43 = .ok (.iastore, 1) := by decide +kernel
theorem dX3_addFlue_44 : decode cX3_addFlue 44 = .ok (.iinc 2 1, 3) := by decide +kernel
theorem dX3_addFlue_47 : decode cX3_addFlue 47 = .ok (.goto (-24), 3) := by decide +kernel
theorem dX3_addFlue_50 : decode cX3_addFlue 50 = .ok (.aload_n 0, 1) := by decide +kernel
theorem dX3_addFlue_51 : decode cX3_addFlue 51 = .ok (.dup, 1) := by decide +kernel
theorem dX3_addFlue_52 : decode cX3_addFlue 52 = .ok (.getfield 18, 3) := by decide +kernel
theorem dX3_addFlue_55 : decode cX3_addFlue 55 = .ok (.iconst 1, 1) := by decide +kernel
theorem dX3_addFlue_56 : decode cX3_addFlue 56 = .ok (.iadd, 1) := by decide +kernel
theorem dX3_addFlue_57 : decode cX3_addFlue 57 = .ok (.putfield 18, 3) := by decide +kernel
theorem dX3_addFlue_60 : decode cX3_addFlue 60 = .ok (.aload_n 0, 1) := by decide +kernel
theorem dX3_addFlue_61 : decode cX3_addFlue 61 = .ok (.getfield 18, 3) := by decide +kernel
theorem dX3_addFlue_64 : decode cX3_addFlue 64 = .ok (.iconst 1, 1) := by decide +kernel
theorem dX3_addFlue_65 : decode cX3_addFlue 65 = .ok (.isub, 1) := by decide +kernel
theorem dX3_addFlue_66 : decode cX3_addFlue 66 = .ok (.ireturn, 1) := by decide +kernel
theorem dX3_kindOf_0 : decode cX3_kindOf 0 = .ok (.aload_n 0, 1) := by decide +kernel
theorem dX3_kindOf_1 : decode cX3_kindOf 1 = .ok (.iload_n 1, 1) := by decide +kernel
theorem dX3_kindOf_2 : decode cX3_kindOf 2 = .ok (.invokevirtual 40, 3) := by decide +kernel
theorem dX3_kindOf_5 : decode cX3_kindOf 5 = .ok (.ifCond .eq 12, 3) := by decide +kernel
theorem dX3_kindOf_8 : decode cX3_kindOf 8 = .ok (.aload_n 0, 1) := by decide +kernel
theorem dX3_kindOf_9 : decode cX3_kindOf 9 = .ok (.getfield 21, 3) := by decide +kernel
theorem dX3_kindOf_12 : decode cX3_kindOf 12 = .ok (.iload_n 1, 1) := by decide +kernel
theorem dX3_kindOf_13 : decode cX3_kindOf 13 = .ok (.iaload, 1) := by decide +kernel
theorem dX3_kindOf_14 : decode cX3_kindOf 14 = .ok (.goto 4, 3) := by decide +kernel
theorem dX3_kindOf_17 : decode cX3_kindOf 17 = .ok (.iconst 0, 1) := by decide +kernel
theorem dX3_kindOf_18 : decode cX3_kindOf 18 = .ok (.ireturn, 1) := by decide +kernel
theorem dX3_setKind_0 : decode cX3_setKind 0 = .ok (.aload_n 0, 1) := by decide +kernel
theorem dX3_setKind_1 : decode cX3_setKind 1 = .ok (.iload_n 1, 1) := by decide +kernel
theorem dX3_setKind_2 : decode cX3_setKind 2 = .ok (.invokevirtual 40, 3) := by decide +kernel
theorem dX3_setKind_5 : decode cX3_setKind 5 = .ok (.ifCond .eq 10, 3) := by decide +kernel
theorem dX3_setKind_8 : decode cX3_setKind 8 = .ok (.aload_n 0, 1) := by decide +kernel
theorem dX3_setKind_9 : decode cX3_setKind 9 = .ok (.getfield 21, 3) := by decide +kernel
theorem dX3_setKind_12 : decode cX3_setKind 12 = .ok (.iload_n 1, 1) := by decide +kernel
theorem dX3_setKind_13 : decode cX3_setKind 13 = .ok (.iload_n 2, 1) := by decide +kernel
theorem dX3_setKind_14 : decode cX3_setKind 14 = .ok (.iastore, 1) := by decide +kernel
theorem dX3_setKind_15 : decode cX3_setKind 15 = .ok (.return_, 1) := by decide +kernel
theorem dX3_height_0 : decode cX3_height 0 = .ok (.aload_n 0, 1) := by decide +kernel
theorem dX3_height_1 : decode cX3_height 1 = .ok (.iload_n 1, 1) := by decide +kernel
theorem dX3_height_2 : decode cX3_height 2 = .ok (.invokevirtual 40, 3) := by decide +kernel
theorem dX3_height_5 : decode cX3_height 5 = .ok (.ifCond .eq 24, 3) := by decide +kernel
theorem dX3_height_8 : decode cX3_height 8 = .ok (.iload_n 2, 1) := by decide +kernel
theorem dX3_height_9 : decode cX3_height 9 = .ok (.invokestatic 44, 3) := by decide +kernel
theorem dX3_height_12 : decode cX3_height 12 = .ok (.ifCond .eq 17, 3) := by decide +kernel
theorem dX3_height_15 : decode cX3_height 15 = .ok (.aload_n 0, 1) := by decide +kernel
theorem dX3_height_16 : decode cX3_height 16 = .ok (.getfield 25, 3) := by decide +kernel
theorem dX3_height_19 : decode cX3_height 19 = .ok (.iload_n 1, 1) := by decide +kernel
theorem dX3_height_20 : decode cX3_height 20 = .ok (.bipush 8, 2) := by decide +kernel
theorem dX3_height_22 : decode cX3_height 22 = .ok (.imul, 1) := by decide +kernel
theorem dX3_height_23 : decode cX3_height 23 = .ok (.iload_n 2, 1) := by decide +kernel
theorem dX3_height_24 : decode cX3_height 24 = .ok (.iadd, 1) := by decide +kernel
theorem dX3_height_25 : decode cX3_height 25 = .ok (.iaload, 1) := by decide +kernel
theorem dX3_height_26 : decode cX3_height 26 = .ok (.goto 4, 3) := by decide +kernel
theorem dX3_height_29 : decode cX3_height 29 = .ok (.iconst 0, 1) := by decide +kernel
theorem dX3_height_30 : decode cX3_height 30 = .ok (.ireturn, 1) := by decide +kernel
theorem dX3_hasLayer_0 : decode cX3_hasLayer 0 = .ok (.iload_n 3, 1) := by decide +kernel
theorem dX3_hasLayer_1 : decode cX3_hasLayer 1 = .ok (.ifCond .lt 17, 3) := by decide +kernel
theorem dX3_hasLayer_4 : decode cX3_hasLayer 4 = .ok (.iload_n 3, 1) := by decide +kernel
theorem dX3_hasLayer_5 : decode cX3_hasLayer 5 = .ok (.aload_n 0, 1) := by decide +kernel
theorem dX3_hasLayer_6 : decode cX3_hasLayer 6 = .ok (.iload_n 1, 1) := by decide +kernel
theorem dX3_hasLayer_7 : decode cX3_hasLayer 7 = .ok (.iload_n 2, 1) := by decide +kernel
theorem dX3_hasLayer_8 : decode cX3_hasLayer 8 = .ok (.invokevirtual 47, 3) := by decide +kernel
theorem dX3_hasLayer_11 : decode cX3_hasLayer 11 = .ok (.if_icmp .ge 7, 3) := by decide +kernel
theorem dX3_hasLayer_14 : decode cX3_hasLayer 14 = .ok (.iconst 1, 1) := by decide +kernel
theorem dX3_hasLayer_15 : decode cX3_hasLayer 15 = .ok (.goto 4, 3) := by decide +kernel
theorem dX3_hasLayer_18 : decode cX3_hasLayer 18 = .ok (.iconst 0, 1) := by decide +kernel
theorem dX3_hasLayer_19 : decode cX3_hasLayer 19 = .ok (.ireturn, 1) := by decide +kernel
theorem dX3_place_0 : decode cX3_place 0 = .ok (.iload_n 1, 1) := by decide +kernel
theorem dX3_place_1 : decode cX3_place 1 = .ok (.bipush 8, 2) := by decide +kernel
theorem dX3_place_3 : decode cX3_place 3 = .ok (.imul, 1) := by decide +kernel
theorem dX3_place_4 : decode cX3_place 4 = .ok (.iload_n 2, 1) := by decide +kernel
theorem dX3_place_5 : decode cX3_place 5 = .ok (.iadd, 1) := by decide +kernel
theorem dX3_place_6 : decode cX3_place 6 = .ok (.bipush 6, 2) := by decide +kernel
theorem dX3_place_8 : decode cX3_place 8 = .ok (.imul, 1) := by decide +kernel
theorem dX3_place_9 : decode cX3_place 9 = .ok (.aload_n 0, 1) := by decide +kernel
theorem dX3_place_10 : decode cX3_place 10 = .ok (.iload_n 1, 1) := by decide +kernel
theorem dX3_place_11 : decode cX3_place 11 = .ok (.iload_n 2, 1) := by decide +kernel
theorem dX3_place_12 : decode cX3_place 12 = .ok (.invokevirtual 47, 3) := by decide +kernel
theorem dX3_place_15 : decode cX3_place 15 = .ok (.iadd, 1) := by decide +kernel
theorem dX3_place_16 : decode cX3_place 16 = .ok (.iconst 1, 1) := by decide +kernel
theorem dX3_place_17 : decode cX3_place 17 = .ok (.isub, 1) := by decide +kernel
theorem dX3_place_18 : decode cX3_place 18 = .ok (.iload_n 3, 1) := by decide +kernel
theorem dX3_place_19 : decode cX3_place 19 = .ok (.isub, 1) := by decide +kernel
theorem dX3_place_20 : decode cX3_place 20 = .ok (.ireturn, 1) := by decide +kernel
theorem dX3_wordAt_0 : decode cX3_wordAt 0 = .ok (.aload_n 0, 1) := by decide +kernel
theorem dX3_wordAt_1 : decode cX3_wordAt 1 = .ok (.iload_n 1, 1) := by decide +kernel
theorem dX3_wordAt_2 : decode cX3_wordAt 2 = .ok (.iload_n 2, 1) := by decide +kernel
theorem dX3_wordAt_3 : decode cX3_wordAt 3 = .ok (.iload_n 3, 1) := by decide +kernel
theorem dX3_wordAt_4 : decode cX3_wordAt 4 = .ok (.invokevirtual 51, 3) := by decide +kernel
theorem dX3_wordAt_7 : decode cX3_wordAt 7 = .ok (.ifCond .eq 18, 3) := by decide +kernel
theorem dX3_wordAt_10 : decode cX3_wordAt 10 = .ok (.aload_n 0, 1) := by decide +kernel
theorem dX3_wordAt_11 : decode cX3_wordAt 11 = .ok (.getfield 28, 3) := by decide +kernel
theorem dX3_wordAt_14 : decode cX3_wordAt 14 = .ok (.aload_n 0, 1) := by decide +kernel
theorem dX3_wordAt_15 : decode cX3_wordAt 15 = .ok (.iload_n 1, 1) := by decide +kernel
theorem dX3_wordAt_16 : decode cX3_wordAt 16 = .ok (.iload_n 2, 1) := by decide +kernel
theorem dX3_wordAt_17 : decode cX3_wordAt 17 = .ok (.iload_n 3, 1) := by decide +kernel
theorem dX3_wordAt_18 : decode cX3_wordAt 18 = .ok (.invokevirtual 55, 3) := by decide +kernel
theorem dX3_wordAt_21 : decode cX3_wordAt 21 = .ok (.iaload, 1) := by decide +kernel
theorem dX3_wordAt_22 : decode cX3_wordAt 22 = .ok (.goto 4, 3) := by decide +kernel
theorem dX3_wordAt_25 : decode cX3_wordAt 25 = .ok (.iconst 0, 1) := by decide +kernel
theorem dX3_wordAt_26 : decode cX3_wordAt 26 = .ok (.ireturn, 1) := by decide +kernel
theorem dX3_cakeAt_0 : decode cX3_cakeAt 0 = .ok (.aload_n 0, 1) := by decide +kernel
theorem dX3_cakeAt_1 : decode cX3_cakeAt 1 = .ok (.iload_n 1, 1) := by decide +kernel
theorem dX3_cakeAt_2 : decode cX3_cakeAt 2 = .ok (.iload_n 2, 1) := by decide +kernel
theorem dX3_cakeAt_3 : decode cX3_cakeAt 3 = .ok (.iload_n 3, 1) := by decide +kernel
theorem dX3_cakeAt_4 : decode cX3_cakeAt 4 = .ok (.invokevirtual 51, 3) := by decide +kernel
theorem dX3_cakeAt_7 : decode cX3_cakeAt 7 = .ok (.ifCond .eq 18, 3) := by decide +kernel
theorem dX3_cakeAt_10 : decode cX3_cakeAt 10 = .ok (.aload_n 0, 1) := by decide +kernel
theorem dX3_cakeAt_11 : decode cX3_cakeAt 11 = .ok (.getfield 31, 3) := by decide +kernel
theorem dX3_cakeAt_14 : decode cX3_cakeAt 14 = .ok (.aload_n 0, 1) := by decide +kernel
theorem dX3_cakeAt_15 : decode cX3_cakeAt 15 = .ok (.iload_n 1, 1) := by decide +kernel
theorem dX3_cakeAt_16 : decode cX3_cakeAt 16 = .ok (.iload_n 2, 1) := by decide +kernel
theorem dX3_cakeAt_17 : decode cX3_cakeAt 17 = .ok (.iload_n 3, 1) := by decide +kernel
theorem dX3_cakeAt_18 : decode cX3_cakeAt 18 = .ok (.invokevirtual 55, 3) := by decide +kernel
theorem dX3_cakeAt_21 : decode cX3_cakeAt 21 = .ok (.iaload, 1) := by decide +kernel
theorem dX3_cakeAt_22 : decode cX3_cakeAt 22 = .ok (.goto 4, 3) := by decide +kernel
theorem dX3_cakeAt_25 : decode cX3_cakeAt 25 = .ok (.iconst 0, 1) := by decide +kernel
theorem dX3_cakeAt_26 : decode cX3_cakeAt 26 = .ok (.ireturn, 1) := by decide +kernel
theorem dX3_setCake_0 : decode cX3_setCake 0 = .ok (.aload_n 0, 1) := by decide +kernel
theorem dX3_setCake_1 : decode cX3_setCake 1 = .ok (.iload_n 1, 1) := by decide +kernel
theorem dX3_setCake_2 : decode cX3_setCake 2 = .ok (.iload_n 2, 1) := by decide +kernel
theorem dX3_setCake_3 : decode cX3_setCake 3 = .ok (.iload_n 3, 1) := by decide +kernel
theorem dX3_setCake_4 : decode cX3_setCake 4 = .ok (.invokevirtual 51, 3) := by decide +kernel
theorem dX3_setCake_7 : decode cX3_setCake 7 = .ok (.ifCond .eq 17, 3) := by decide +kernel
theorem dX3_setCake_10 : decode cX3_setCake 10 = .ok (.aload_n 0, 1) := by decide +kernel
theorem dX3_setCake_11 : decode cX3_setCake 11 = .ok (.getfield 31, 3) := by decide +kernel
theorem dX3_setCake_14 : decode cX3_setCake 14 = .ok (.aload_n 0, 1) := by decide +kernel
theorem dX3_setCake_15 : decode cX3_setCake 15 = .ok (.iload_n 1, 1) := by decide +kernel
theorem dX3_setCake_16 : decode cX3_setCake 16 = .ok (.iload_n 2, 1) := by decide +kernel
theorem dX3_setCake_17 : decode cX3_setCake 17 = .ok (.iload_n 3, 1) := by decide +kernel
theorem dX3_setCake_18 : decode cX3_setCake 18 = .ok (.invokevirtual 55, 3) := by decide +kernel
theorem dX3_setCake_21 : decode cX3_setCake 21 = .ok (.iload 4, 2) := by decide +kernel
theorem dX3_setCake_23 : decode cX3_setCake 23 = .ok (.iastore, 1) := by decide +kernel
theorem dX3_setCake_24 : decode cX3_setCake 24 = .ok (.return_, 1) := by decide +kernel
theorem dX3_lay_0 : decode cX3_lay 0 = .ok (.aload_n 0, 1) := by decide +kernel
theorem dX3_lay_1 : decode cX3_lay 1 = .ok (.iload_n 1, 1) := by decide +kernel
theorem dX3_lay_2 : decode cX3_lay 2 = .ok (.invokevirtual 40, 3) := by decide +kernel
theorem dX3_lay_5 : decode cX3_lay 5 = .ok (.ifCond .eq 10, 3) := by decide +kernel
theorem dX3_lay_8 : decode cX3_lay 8 = .ok (.iload_n 2, 1) := by decide +kernel
theorem dX3_lay_9 : decode cX3_lay 9 = .ok (.invokestatic 44, 3) := by decide +kernel
theorem dX3_lay_12 : decode cX3_lay 12 = .ok (.ifCond .ne 4, 3) := by decide +kernel
theorem dX3_lay_15 : decode cX3_lay 15 = .ok (.return_, 1) := by decide +kernel
theorem dX3_lay_16 : decode cX3_lay 16 = .ok (.aload_n 0, 1) := by decide +kernel
theorem dX3_lay_17 : decode cX3_lay 17 = .ok (.iload_n 1, 1) := by decide +kernel
theorem dX3_lay_18 : decode cX3_lay 18 = .ok (.iload_n 2, 1) := by decide +kernel
theorem dX3_lay_19 : decode cX3_lay 19 = .ok (.invokevirtual 47, 3) := by decide +kernel
theorem dX3_lay_22 : decode cX3_lay 22 = .ok (.istore 5, 2) := by decide +kernel
theorem dX3_lay_24 : decode cX3_lay 24 = .ok (.iload 5, 2) := by decide +kernel
theorem dX3_lay_26 : decode cX3_lay 26 = .ok (.bipush 6, 2) := by decide +kernel
theorem dX3_lay_28 : decode cX3_lay 28 = .ok (.if_icmp .ge 17, 3) := by decide +kernel
theorem dX3_lay_31 : decode cX3_lay 31 = .ok (.iload 5, 2) := by decide +kernel
theorem dX3_lay_33 : decode cX3_lay 33 = .ok (.aload_n 0, 1) := by decide +kernel
theorem dX3_lay_34 : decode cX3_lay 34 = .ok (.iload_n 1, 1) := by decide +kernel
theorem dX3_lay_35 : decode cX3_lay 35 = .ok (.invokevirtual 59, 3) := by decide +kernel
theorem dX3_lay_38 : decode cX3_lay 38 = .ok (.iload_n 2, 1) := by decide +kernel
theorem dX3_lay_39 : decode cX3_lay 39 = .ok (.invokestatic 63, 3) := by decide +kernel
theorem dX3_lay_42 : decode cX3_lay 42 = .ok (.if_icmp .lt 4, 3) := by decide +kernel
theorem dX3_lay_45 : decode cX3_lay 45 = .ok (.return_, 1) := by decide +kernel
theorem dX3_lay_46 : decode cX3_lay 46 = .ok (.iload_n 1, 1) := by decide +kernel
theorem dX3_lay_47 : decode cX3_lay 47 = .ok (.bipush 8, 2) := by decide +kernel
theorem dX3_lay_49 : decode cX3_lay 49 = .ok (.imul, 1) := by decide +kernel
theorem dX3_lay_50 : decode cX3_lay 50 = .ok (.iload_n 2, 1) := by decide +kernel
theorem dX3_lay_51 : decode cX3_lay 51 = .ok (.iadd, 1) := by decide +kernel
theorem dX3_lay_52 : decode cX3_lay 52 = .ok (.bipush 6, 2) := by decide +kernel
theorem dX3_lay_54 : decode cX3_lay 54 = .ok (.imul, 1) := by decide +kernel
theorem dX3_lay_55 : decode cX3_lay 55 = .ok (.iload 5, 2) := by decide +kernel
theorem dX3_lay_57 : decode cX3_lay 57 = .ok (.iadd, 1) := by decide +kernel
theorem dX3_lay_58 : decode cX3_lay 58 = .ok (.istore 6, 2) := by decide +kernel
theorem dX3_lay_60 : decode cX3_lay 60 = .ok (.aload_n 0, 1) := by decide +kernel
theorem dX3_lay_61 : decode cX3_lay 61 = .ok (.getfield 28, 3) := by decide +kernel
theorem dX3_lay_64 : decode cX3_lay 64 = .ok (.iload 6, 2) := by decide +kernel
theorem dX3_lay_66 : decode cX3_lay 66 = .ok (.iload_n 3, 1) := by decide +kernel
theorem dX3_lay_67 : decode cX3_lay 67 = .ok (.iastore, 1) := by decide +kernel
theorem dX3_lay_68 : decode cX3_lay 68 = .ok (.aload_n 0, 1) := by decide +kernel
theorem dX3_lay_69 : decode cX3_lay 69 = .ok (.getfield 31, 3) := by decide +kernel
theorem dX3_lay_72 : decode cX3_lay 72 = .ok (.iload 6, 2) := by decide +kernel
theorem dX3_lay_74 : decode cX3_lay 74 = .ok (.iload 4, 2) := by decide +kernel
theorem dX3_lay_76 : decode cX3_lay 76 = .ok (.iastore, 1) := by decide +kernel
theorem dX3_lay_77 : decode cX3_lay 77 = .ok (.aload_n 0, 1) := by decide +kernel
theorem dX3_lay_78 : decode cX3_lay 78 = .ok (.getfield 25, 3) := by decide +kernel
theorem dX3_lay_81 : decode cX3_lay 81 = .ok (.iload_n 1, 1) := by decide +kernel
theorem dX3_lay_82 : decode cX3_lay 82 = .ok (.bipush 8, 2) := by decide +kernel
theorem dX3_lay_84 : decode cX3_lay 84 = .ok (.imul, 1) := by decide +kernel
theorem dX3_lay_85 : decode cX3_lay 85 = .ok (.iload_n 2, 1) := by decide +kernel
theorem dX3_lay_86 : decode cX3_lay 86 = .ok (.iadd, 1) := by decide +kernel
theorem dX3_lay_87 : decode cX3_lay 87 = .ok (.iload 5, 2) := by decide +kernel
theorem dX3_lay_89 : decode cX3_lay 89 = .ok (.iconst 1, 1) := by decide +kernel
theorem dX3_lay_90 : decode cX3_lay 90 = .ok (.iadd, 1) := by decide +kernel
theorem dX3_lay_91 : decode cX3_lay 91 = .ok (.iastore, 1) := by decide +kernel
theorem dX3_lay_92 : decode cX3_lay 92 = .ok (.return_, 1) := by decide +kernel
theorem dX3_landing_0 : decode cX3_landing 0 = .ok (.aload_n 0, 1) := by decide +kernel
theorem dX3_landing_1 : decode cX3_landing 1 = .ok (.iload_n 1, 1) := by decide +kernel
theorem dX3_landing_2 : decode cX3_landing 2 = .ok (.invokevirtual 59, 3) := by decide +kernel
theorem dX3_landing_5 : decode cX3_landing 5 = .ok (.istore 4, 2) := by decide +kernel
theorem dX3_landing_7 : decode cX3_landing 7 = .ok (.iload 4, 2) := by decide +kernel
theorem dX3_landing_9 : decode cX3_landing 9 = .ok (.iload 4, 2) := by decide +kernel
theorem dX3_landing_11 : decode cX3_landing 11 = .ok (.iload_n 2, 1) := by decide +kernel
theorem dX3_landing_12 : decode cX3_landing 12 = .ok (.iload_n 3, 1) := by decide +kernel
theorem dX3_landing_13 : decode cX3_landing 13 = .ok (.aload_n 0, 1) := by decide +kernel
theorem dX3_landing_14 : decode cX3_landing 14 = .ok (.getfield 9, 3) := by decide +kernel
theorem dX3_landing_17 : decode cX3_landing 17 = .ok (.invokestatic 68, 3) := by decide +kernel
theorem dX3_landing_20 : decode cX3_landing 20 = .ok (.aload_n 0, 1) := by decide +kernel
theorem dX3_landing_21 : decode cX3_landing 21 = .ok (.getfield 25, 3) := by decide +kernel
theorem dX3_landing_24 : decode cX3_landing 24 = .ok (.iload_n 1, 1) := by decide +kernel
theorem dX3_landing_25 : decode cX3_landing 25 = .ok (.bipush 8, 2) := by decide +kernel
theorem dX3_landing_27 : decode cX3_landing 27 = .ok (.imul, 1) := by decide +kernel
theorem dX3_landing_28 : decode cX3_landing 28 = .ok (.invokestatic 72, 3) := by decide +kernel
theorem dX3_landing_31 : decode cX3_landing 31 = .ok (.ireturn, 1) := by decide +kernel
theorem dX3_speak_0 : decode cX3_speak 0 = .ok (.aload_n 0, 1) := by decide +kernel
theorem dX3_speak_1 : decode cX3_speak 1 = .ok (.iload_n 1, 1) := by decide +kernel
theorem dX3_speak_2 : decode cX3_speak 2 = .ok (.iload_n 2, 1) := by decide +kernel
theorem dX3_speak_3 : decode cX3_speak 3 = .ok (.iload_n 3, 1) := by decide +kernel
theorem dX3_speak_4 : decode cX3_speak 4 = .ok (.invokevirtual 76, 3) := by decide +kernel
theorem dX3_speak_7 : decode cX3_speak 7 = .ok (.istore 4, 2) := by decide +kernel
theorem dX3_speak_9 : decode cX3_speak 9 = .ok (.iload 4, 2) := by decide +kernel
theorem dX3_speak_11 : decode cX3_speak 11 = .ok (.iconst (-1), 1) := by decide +kernel
theorem dX3_speak_12 : decode cX3_speak 12 = .ok (.if_icmp .eq 12, 3) := by decide +kernel
theorem dX3_speak_15 : decode cX3_speak 15 = .ok (.aload_n 0, 1) := by decide +kernel
theorem dX3_speak_16 : decode cX3_speak 16 = .ok (.iload_n 1, 1) := by decide +kernel
theorem dX3_speak_17 : decode cX3_speak 17 = .ok (.iload 4, 2) := by decide +kernel
theorem dX3_speak_19 : decode cX3_speak 19 = .ok (.iload_n 2, 1) := by decide +kernel
theorem dX3_speak_20 : decode cX3_speak 20 = .ok (.iconst 0, 1) := by decide +kernel
theorem dX3_speak_21 : decode cX3_speak 21 = .ok (.invokevirtual 79, 3) := by decide +kernel
theorem dX3_speak_24 : decode cX3_speak 24 = .ok (.iload 4, 2) := by decide +kernel
theorem dX3_speak_26 : decode cX3_speak 26 = .ok (.ireturn, 1) := by decide +kernel
theorem dX3_passDays_0 : decode cX3_passDays 0 = .ok (.iconst 0, 1) := by decide +kernel
theorem dX3_passDays_1 : decode cX3_passDays 1 = .ok (.istore_n 2, 1) := by decide +kernel
theorem dX3_passDays_2 : decode cX3_passDays 2 = .ok (.iload_n 2, 1) := by decide +kernel
theorem dX3_passDays_3 : decode cX3_passDays 3 = .ok (.aload_n 0, 1) := by decide +kernel
theorem dX3_passDays_4 : decode cX3_passDays 4 = .ok (.getfield 18, 3) := by decide +kernel
theorem dX3_passDays_7 : decode cX3_passDays 7 = .ok (.if_icmp .ge 86, 3) := by decide +kernel
theorem dX3_passDays_10 : decode cX3_passDays 10 = .ok (.iload_n 1, 1) := by decide +kernel
theorem dX3_passDays_11 : decode cX3_passDays 11 = .ok (.aload_n 0, 1) := by decide +kernel
theorem dX3_passDays_12 : decode cX3_passDays 12 = .ok (.iload_n 2, 1) := by decide +kernel
theorem dX3_passDays_13 : decode cX3_passDays 13 = .ok (.invokevirtual 59, 3) := by decide +kernel
theorem dX3_passDays_16 : decode cX3_passDays 16 = .ok (.aload_n 0, 1) := by decide +kernel
theorem dX3_passDays_17 : decode cX3_passDays 17 = .ok (.getfield 15, 3) := by decide +kernel
theorem dX3_passDays_20 : decode cX3_passDays 20 = .ok (.invokestatic 83, 3) := by decide +kernel
theorem dX3_passDays_23 : decode cX3_passDays 23 = .ok (.imul, 1) := by decide +kernel
theorem dX3_passDays_24 : decode cX3_passDays 24 = .ok (.istore_n 3, 1) := by decide +kernel
theorem dX3_passDays_25 : decode cX3_passDays 25 = .ok (.iconst 0, 1) := by decide +kernel
theorem dX3_passDays_26 : decode cX3_passDays 26 = .ok (.istore 4, 2) := by decide +kernel
theorem dX3_passDays_28 : decode cX3_passDays 28 = .ok (.iload 4, 2) := by decide +kernel
theorem dX3_passDays_30 : decode cX3_passDays 30 = .ok (.bipush 8, 2) := by decide +kernel
theorem dX3_passDays_32 : decode cX3_passDays 32 = .ok (.if_icmp .ge 55, 3) := by decide +kernel
theorem dX3_passDays_35 : decode cX3_passDays 35 = .ok (.iconst 0, 1) := by decide +kernel
theorem dX3_passDays_36 : decode cX3_passDays 36 = .ok (.istore 5, 2) := by decide +kernel
theorem dX3_passDays_38 : decode cX3_passDays 38 = .ok (.iload 5, 2) := by decide +kernel
theorem dX3_passDays_40 : decode cX3_passDays 40 = .ok (.aload_n 0, 1) := by decide +kernel
theorem dX3_passDays_41 : decode cX3_passDays 41 = .ok (.iload_n 2, 1) := by decide +kernel
theorem dX3_passDays_42 : decode cX3_passDays 42 = .ok (.iload 4, 2) := by decide +kernel
theorem dX3_passDays_44 : decode cX3_passDays 44 = .ok (.invokevirtual 47, 3) := by decide +kernel
theorem dX3_passDays_47 : decode cX3_passDays 47 = .ok (.if_icmp .ge 34, 3) := by decide +kernel
theorem dX3_passDays_50 : decode cX3_passDays 50 = .ok (.aload_n 0, 1) := by decide +kernel
theorem dX3_passDays_51 : decode cX3_passDays 51 = .ok (.iload_n 2, 1) := by decide +kernel
theorem dX3_passDays_52 : decode cX3_passDays 52 = .ok (.iload 4, 2) := by decide +kernel
theorem dX3_passDays_54 : decode cX3_passDays 54 = .ok (.iload 5, 2) := by decide +kernel
theorem dX3_passDays_56 : decode cX3_passDays 56 = .ok (.bipush 9, 2) := by decide +kernel
theorem dX3_passDays_58 : decode cX3_passDays 58 = .ok (.aload_n 0, 1) := by decide +kernel
theorem dX3_passDays_59 : decode cX3_passDays 59 = .ok (.iload_n 2, 1) := by decide +kernel
theorem dX3_passDays_60 : decode cX3_passDays 60 = .ok (.iload 4, 2) := by decide +kernel
theorem dX3_passDays_62 : decode cX3_passDays 62 = .ok (.iload 5, 2) := by decide +kernel
theorem dX3_passDays_64 : decode cX3_passDays 64 = .ok (.invokevirtual 85, 3) := by decide +kernel
theorem dX3_passDays_67 : decode cX3_passDays 67 = .ok (.iload_n 3, 1) := by decide +kernel
theorem dX3_passDays_68 : decode cX3_passDays 68 = .ok (.iadd, 1) := by decide +kernel
theorem dX3_passDays_69 : decode cX3_passDays 69 = .ok (.invokestatic 88, 3) := by decide +kernel
theorem dX3_passDays_72 : decode cX3_passDays 72 = .ok (.invokevirtual 93, 3) := by decide +kernel
theorem dX3_passDays_75 : decode cX3_passDays 75 = .ok (.iinc 5 1, 3) := by decide +kernel
theorem dX3_passDays_78 : decode cX3_passDays 78 = .ok (.goto (-40), 3) := by decide +kernel
theorem dX3_passDays_81 : decode cX3_passDays 81 = .ok (.iinc 4 1, 3) := by decide +kernel
theorem dX3_passDays_84 : decode cX3_passDays 84 = .ok (.goto (-56), 3) := by decide +kernel
theorem dX3_passDays_87 : decode cX3_passDays 87 = .ok (.iinc 2 1, 3) := by decide +kernel
theorem dX3_passDays_90 : decode cX3_passDays 90 = .ok (.goto (-88), 3) := by decide +kernel
theorem dX3_passDays_93 : decode cX3_passDays 93 = .ok (.aload_n 0, 1) := by decide +kernel
theorem dX3_passDays_94 : decode cX3_passDays 94 = .ok (.dup, 1) := by decide +kernel
theorem dX3_passDays_95 : decode cX3_passDays 95 = .ok (.getfield 9, 3) := by decide +kernel
theorem dX3_passDays_98 : decode cX3_passDays 98 = .ok (.iload_n 1, 1) := by decide +kernel
theorem dX3_passDays_99 : decode cX3_passDays 99 = .ok (.iadd, 1) := by decide +kernel
theorem dX3_passDays_100 : decode cX3_passDays 100 = .ok (.putfield 9, 3) := by decide +kernel
theorem dX3_passDays_103 : decode cX3_passDays 103 = .ok (.return_, 1) := by decide +kernel
theorem dX3_loose_0 : decode cX3_loose 0 = .ok (.aload_n 0, 1) := by decide +kernel
theorem dX3_loose_1 : decode cX3_loose 1 = .ok (.iload_n 1, 1) := by decide +kernel
theorem dX3_loose_2 : decode cX3_loose 2 = .ok (.iload_n 2, 1) := by decide +kernel
theorem dX3_loose_3 : decode cX3_loose 3 = .ok (.invokevirtual 47, 3) := by decide +kernel
theorem dX3_loose_6 : decode cX3_loose 6 = .ok (.istore 5, 2) := by decide +kernel
theorem dX3_loose_8 : decode cX3_loose 8 = .ok (.aload_n 0, 1) := by decide +kernel
theorem dX3_loose_9 : decode cX3_loose 9 = .ok (.iload_n 1, 1) := by decide +kernel
theorem dX3_loose_10 : decode cX3_loose 10 = .ok (.iload_n 2, 1) := by decide +kernel
theorem dX3_loose_11 : decode cX3_loose 11 = .ok (.iconst 0, 1) := by decide +kernel
theorem dX3_loose_12 : decode cX3_loose 12 = .ok (.invokevirtual 55, 3) := by decide +kernel
theorem dX3_loose_15 : decode cX3_loose 15 = .ok (.istore 6, 2) := by decide +kernel
theorem dX3_loose_17 : decode cX3_loose 17 = .ok (.iconst 0, 1) := by decide +kernel
theorem dX3_loose_18 : decode cX3_loose 18 = .ok (.istore 7, 2) := by decide +kernel
theorem dX3_loose_20 : decode cX3_loose 20 = .ok (.iload 7, 2) := by decide +kernel
theorem dX3_loose_22 : decode cX3_loose 22 = .ok (.iload 5, 2) := by decide +kernel
theorem dX3_loose_24 : decode cX3_loose 24 = .ok (.if_icmp .ge 29, 3) := by decide +kernel
theorem dX3_loose_27 : decode cX3_loose 27 = .ok (.aload_n 0, 1) := by decide +kernel
theorem dX3_loose_28 : decode cX3_loose 28 = .ok (.getfield 31, 3) := by decide +kernel
theorem dX3_loose_31 : decode cX3_loose 31 = .ok (.iload 6, 2) := by decide +kernel
theorem dX3_loose_33 : decode cX3_loose 33 = .ok (.iload 7, 2) := by decide +kernel
theorem dX3_loose_35 : decode cX3_loose 35 = .ok (.isub, 1) := by decide +kernel
theorem dX3_loose_36 : decode cX3_loose 36 = .ok (.iaload, 1) := by decide +kernel
theorem dX3_loose_37 : decode cX3_loose 37 = .ok (.iload 4, 2) := by decide +kernel
theorem dX3_loose_39 : decode cX3_loose 39 = .ok (.iadd, 1) := by decide +kernel
theorem dX3_loose_40 : decode cX3_loose 40 = .ok (.iload_n 3, 1) := by decide +kernel
theorem dX3_loose_41 : decode cX3_loose 41 = .ok (.if_icmp .lt 6, 3) := by decide +kernel
theorem dX3_loose_44 : decode cX3_loose 44 = .ok (.iload 7, 2) := by decide +kernel
theorem dX3_loose_46 : decode cX3_loose 46 = .ok (.ireturn, 1) := by decide +kernel
theorem dX3_loose_47 : decode cX3_loose 47 = .ok (.iinc 7 1, 3) := by decide +kernel
theorem dX3_loose_50 : decode cX3_loose 50 = .ok (.goto (-30), 3) := by decide +kernel
theorem dX3_loose_53 : decode cX3_loose 53 = .ok (.iload 5, 2) := by decide +kernel
theorem dX3_loose_55 : decode cX3_loose 55 = .ok (.ireturn, 1) := by decide +kernel
theorem dX3_takeDown_0 : decode cX3_takeDown 0 = .ok (.iconst 0, 1) := by decide +kernel
theorem dX3_takeDown_1 : decode cX3_takeDown 1 = .ok (.istore 4, 2) := by decide +kernel
theorem dX3_takeDown_3 : decode cX3_takeDown 3 = .ok (.iconst 0, 1) := by decide +kernel
theorem dX3_takeDown_4 : decode cX3_takeDown 4 = .ok (.istore 5, 2) := by decide +kernel
theorem dX3_takeDown_6 : decode cX3_takeDown 6 = .ok (.iload 5, 2) := by decide +kernel
theorem dX3_takeDown_8 : decode cX3_takeDown 8 = .ok (.iload_n 2, 1) := by decide +kernel
theorem dX3_takeDown_9 : decode cX3_takeDown 9 = .ok (.if_icmp .gt 59, 3) := by decide +kernel
theorem dX3_takeDown_12 : decode cX3_takeDown 12 = .ok (.iload 5, 2) := by decide +kernel
theorem dX3_takeDown_14 : decode cX3_takeDown 14 = .ok (.bipush 8, 2) := by decide +kernel
theorem dX3_takeDown_16 : decode cX3_takeDown 16 = .ok (.if_icmp .ge 52, 3) := by decide +kernel
theorem dX3_takeDown_19 : decode cX3_takeDown 19 = .ok (.aload_n 0, 1) := by decide +kernel
theorem dX3_takeDown_20 : decode cX3_takeDown 20 = .ok (.iload_n 1, 1) := by decide +kernel
theorem dX3_takeDown_21 : decode cX3_takeDown 21 = .ok (.iload 5, 2) := by decide +kernel
theorem dX3_takeDown_23 : decode cX3_takeDown 23 = .ok (.iload_n 3, 1) := by decide +kernel
theorem dX3_takeDown_24 : decode cX3_takeDown 24 = .ok (.iconst 0, 1) := by decide +kernel
theorem dX3_takeDown_25 : decode cX3_takeDown 25 = .ok (.invokevirtual 96, 3) := by decide +kernel
theorem dX3_takeDown_28 : decode cX3_takeDown 28 = .ok (.istore 6, 2) := by decide +kernel
theorem dX3_takeDown_30 : decode cX3_takeDown 30 = .ok (.aload_n 0, 1) := by decide +kernel
theorem dX3_takeDown_31 : decode cX3_takeDown 31 = .ok (.iload_n 1, 1) := by decide +kernel
theorem dX3_takeDown_32 : decode cX3_takeDown 32 = .ok (.invokevirtual 40, 3) := by decide +kernel
theorem dX3_takeDown_35 : decode cX3_takeDown 35 = .ok (.ifCond .eq 20, 3) := by decide +kernel
theorem dX3_takeDown_38 : decode cX3_takeDown 38 = .ok (.aload_n 0, 1) := by decide +kernel
theorem dX3_takeDown_39 : decode cX3_takeDown 39 = .ok (.getfield 25, 3) := by decide +kernel
theorem dX3_takeDown_42 : decode cX3_takeDown 42 = .ok (.iload_n 1, 1) := by decide +kernel
theorem dX3_takeDown_43 : decode cX3_takeDown 43 = .ok (.bipush 8, 2) := by decide +kernel
theorem dX3_takeDown_45 : decode cX3_takeDown 45 = .ok (.imul, 1) := by decide +kernel
theorem dX3_takeDown_46 : decode cX3_takeDown 46 = .ok (.iload 5, 2) := by decide +kernel
theorem dX3_takeDown_48 : decode cX3_takeDown 48 = .ok (.iadd, 1) := by decide +kernel
theorem dX3_takeDown_49 : decode cX3_takeDown 49 = .ok (.dup2, 1) := by decide +kernel
theorem dX3_takeDown_50 : decode cX3_takeDown 50 = .ok (.iaload, 1) := by decide +kernel
theorem dX3_takeDown_51 : decode cX3_takeDown 51 = .ok (.iload 6, 2) := by decide +kernel
theorem dX3_takeDown_53 : decode cX3_takeDown 53 = .ok (.isub, 1) := by decide +kernel
theorem dX3_takeDown_54 : decode cX3_takeDown 54 = .ok (.iastore, 1) := by decide +kernel
theorem dX3_takeDown_55 : decode cX3_takeDown 55 = .ok (.iload 4, 2) := by decide +kernel
theorem dX3_takeDown_57 : decode cX3_takeDown 57 = .ok (.iload 6, 2) := by decide +kernel
theorem dX3_takeDown_59 : decode cX3_takeDown 59 = .ok (.iadd, 1) := by decide +kernel
theorem dX3_takeDown_60 : decode cX3_takeDown 60 = .ok (.istore 4, 2) := by decide +kernel
theorem dX3_takeDown_62 : decode cX3_takeDown 62 = .ok (.iinc 5 1, 3) := by decide +kernel
theorem dX3_takeDown_65 : decode cX3_takeDown 65 = .ok (.goto (-59), 3) := by decide +kernel
theorem dX3_takeDown_68 : decode cX3_takeDown 68 = .ok (.iload 4, 2) := by decide +kernel
theorem dX3_takeDown_70 : decode cX3_takeDown 70 = .ok (.ireturn, 1) := by decide +kernel
theorem dX3_layersIn_0 : decode cX3_layersIn 0 = .ok (.iconst 0, 1) := by decide +kernel
theorem dX3_layersIn_1 : decode cX3_layersIn 1 = .ok (.istore_n 2, 1) := by decide +kernel
theorem dX3_layersIn_2 : decode cX3_layersIn 2 = .ok (.iconst 0, 1) := by decide +kernel
theorem dX3_layersIn_3 : decode cX3_layersIn 3 = .ok (.istore_n 3, 1) := by decide +kernel
theorem dX3_layersIn_4 : decode cX3_layersIn 4 = .ok (.iload_n 3, 1) := by decide +kernel
theorem dX3_layersIn_5 : decode cX3_layersIn 5 = .ok (.bipush 8, 2) := by decide +kernel
theorem dX3_layersIn_7 : decode cX3_layersIn 7 = .ok (.if_icmp .ge 18, 3) := by decide +kernel
theorem dX3_layersIn_10 : decode cX3_layersIn 10 = .ok (.iload_n 2, 1) := by decide +kernel
theorem dX3_layersIn_11 : decode cX3_layersIn 11 = .ok (.aload_n 0, 1) := by decide +kernel
theorem dX3_layersIn_12 : decode cX3_layersIn 12 = .ok (.iload_n 1, 1) := by decide +kernel
theorem dX3_layersIn_13 : decode cX3_layersIn 13 = .ok (.iload_n 3, 1) := by decide +kernel
theorem dX3_layersIn_14 : decode cX3_layersIn 14 = .ok (.invokevirtual 47, 3) := by decide +kernel
theorem dX3_layersIn_17 : decode cX3_layersIn 17 = .ok (.iadd, 1) := by decide +kernel
theorem dX3_layersIn_18 : decode cX3_layersIn 18 = .ok (.istore_n 2, 1) := by decide +kernel
theorem dX3_layersIn_19 : decode cX3_layersIn 19 = .ok (.iinc 3 1, 3) := by decide +kernel
theorem dX3_layersIn_22 : decode cX3_layersIn 22 = .ok (.goto (-18), 3) := by decide +kernel
theorem dX3_layersIn_25 : decode cX3_layersIn 25 = .ok (.iload_n 2, 1) := by decide +kernel
theorem dX3_layersIn_26 : decode cX3_layersIn 26 = .ok (.ireturn, 1) := by decide +kernel
theorem dX3_wordsOn_0 : decode cX3_wordsOn 0 = .ok (.iconst 0, 1) := by decide +kernel
theorem dX3_wordsOn_1 : decode cX3_wordsOn 1 = .ok (.istore_n 3, 1) := by decide +kernel
theorem dX3_wordsOn_2 : decode cX3_wordsOn 2 = .ok (.aload_n 0, 1) := by decide +kernel
theorem dX3_wordsOn_3 : decode cX3_wordsOn 3 = .ok (.iload_n 1, 1) := by decide +kernel
theorem dX3_wordsOn_4 : decode cX3_wordsOn 4 = .ok (.iload_n 2, 1) := by decide +kernel
theorem dX3_wordsOn_5 : decode cX3_wordsOn 5 = .ok (.invokevirtual 47, 3) := by decide +kernel
theorem dX3_wordsOn_8 : decode cX3_wordsOn 8 = .ok (.istore 4, 2) := by decide +kernel
theorem dX3_wordsOn_10 : decode cX3_wordsOn 10 = .ok (.aload_n 0, 1) := by decide +kernel
theorem dX3_wordsOn_11 : decode cX3_wordsOn 11 = .ok (.iload_n 1, 1) := by decide +kernel
theorem dX3_wordsOn_12 : decode cX3_wordsOn 12 = .ok (.iload_n 2, 1) := by decide +kernel
theorem dX3_wordsOn_13 : decode cX3_wordsOn 13 = .ok (.iconst 0, 1) := by decide +kernel
theorem dX3_wordsOn_14 : decode cX3_wordsOn 14 = .ok (.invokevirtual 55, 3) := by decide +kernel
theorem dX3_wordsOn_17 : decode cX3_wordsOn 17 = .ok (.istore 5, 2) := by decide +kernel
theorem dX3_wordsOn_19 : decode cX3_wordsOn 19 = .ok (.iconst 0, 1) := by decide +kernel
theorem dX3_wordsOn_20 : decode cX3_wordsOn 20 = .ok (.istore 6, 2) := by decide +kernel
theorem dX3_wordsOn_22 : decode cX3_wordsOn 22 = .ok (.iload 6, 2) := by decide +kernel
theorem dX3_wordsOn_24 : decode cX3_wordsOn 24 = .ok (.iload 4, 2) := by decide +kernel
theorem dX3_wordsOn_26 : decode cX3_wordsOn 26 = .ok (.if_icmp .ge 24, 3) := by decide +kernel
theorem dX3_wordsOn_29 : decode cX3_wordsOn 29 = .ok (.iload_n 3, 1) := by decide +kernel
theorem dX3_wordsOn_30 : decode cX3_wordsOn 30 = .ok (.iconst 1, 1) := by decide +kernel
theorem dX3_wordsOn_31 : decode cX3_wordsOn 31 = .ok (.aload_n 0, 1) := by decide +kernel
theorem dX3_wordsOn_32 : decode cX3_wordsOn 32 = .ok (.getfield 28, 3) := by decide +kernel
theorem dX3_wordsOn_35 : decode cX3_wordsOn 35 = .ok (.iload 5, 2) := by decide +kernel
theorem dX3_wordsOn_37 : decode cX3_wordsOn 37 = .ok (.iload 6, 2) := by decide +kernel
theorem dX3_wordsOn_39 : decode cX3_wordsOn 39 = .ok (.isub, 1) := by decide +kernel
theorem dX3_wordsOn_40 : decode cX3_wordsOn 40 = .ok (.iaload, 1) := by decide +kernel
theorem dX3_wordsOn_41 : decode cX3_wordsOn 41 = .ok (.ishl, 1) := by decide +kernel
theorem dX3_wordsOn_42 : decode cX3_wordsOn 42 = .ok (.ior, 1) := by decide +kernel
theorem dX3_wordsOn_43 : decode cX3_wordsOn 43 = .ok (.istore_n 3, 1) := by decide +kernel
theorem dX3_wordsOn_44 : decode cX3_wordsOn 44 = .ok (.iinc 6 1, 3) := by decide +kernel
theorem dX3_wordsOn_47 : decode cX3_wordsOn 47 = .ok (.goto (-25), 3) := by decide +kernel
theorem dX3_wordsOn_50 : decode cX3_wordsOn 50 = .ok (.iload_n 3, 1) := by decide +kernel
theorem dX3_wordsOn_51 : decode cX3_wordsOn 51 = .ok (.ireturn, 1) := by decide +kernel
theorem dX3_wordsIn_0 : decode cX3_wordsIn 0 = .ok (.iconst 0, 1) := by decide +kernel
theorem dX3_wordsIn_1 : decode cX3_wordsIn 1 = .ok (.istore_n 2, 1) := by decide +kernel
theorem dX3_wordsIn_2 : decode cX3_wordsIn 2 = .ok (.iconst 0, 1) := by decide +kernel
theorem dX3_wordsIn_3 : decode cX3_wordsIn 3 = .ok (.istore_n 3, 1) := by decide +kernel
theorem dX3_wordsIn_4 : decode cX3_wordsIn 4 = .ok (.iload_n 3, 1) := by decide +kernel
theorem dX3_wordsIn_5 : decode cX3_wordsIn 5 = .ok (.bipush 8, 2) := by decide +kernel
theorem dX3_wordsIn_7 : decode cX3_wordsIn 7 = .ok (.if_icmp .ge 18, 3) := by decide +kernel
theorem dX3_wordsIn_10 : decode cX3_wordsIn 10 = .ok (.iload_n 2, 1) := by decide +kernel
theorem dX3_wordsIn_11 : decode cX3_wordsIn 11 = .ok (.aload_n 0, 1) := by decide +kernel
theorem dX3_wordsIn_12 : decode cX3_wordsIn 12 = .ok (.iload_n 1, 1) := by decide +kernel
theorem dX3_wordsIn_13 : decode cX3_wordsIn 13 = .ok (.iload_n 3, 1) := by decide +kernel
theorem dX3_wordsIn_14 : decode cX3_wordsIn 14 = .ok (.invokevirtual 99, 3) := by decide +kernel
theorem dX3_wordsIn_17 : decode cX3_wordsIn 17 = .ok (.ior, 1) := by decide +kernel
theorem dX3_wordsIn_18 : decode cX3_wordsIn 18 = .ok (.istore_n 2, 1) := by decide +kernel
theorem dX3_wordsIn_19 : decode cX3_wordsIn 19 = .ok (.iinc 3 1, 3) := by decide +kernel
theorem dX3_wordsIn_22 : decode cX3_wordsIn 22 = .ok (.goto (-18), 3) := by decide +kernel
theorem dX3_wordsIn_25 : decode cX3_wordsIn 25 = .ok (.iload_n 2, 1) := by decide +kernel
theorem dX3_wordsIn_26 : decode cX3_wordsIn 26 = .ok (.ireturn, 1) := by decide +kernel
theorem dX3_bareBends_0 : decode cX3_bareBends 0 = .ok (.iconst 0, 1) := by decide +kernel
theorem dX3_bareBends_1 : decode cX3_bareBends 1 = .ok (.istore_n 2, 1) := by decide +kernel
theorem dX3_bareBends_2 : decode cX3_bareBends 2 = .ok (.iconst 0, 1) := by decide +kernel
theorem dX3_bareBends_3 : decode cX3_bareBends 3 = .ok (.istore_n 3, 1) := by decide +kernel
theorem dX3_bareBends_4 : decode cX3_bareBends 4 = .ok (.iload_n 3, 1) := by decide +kernel
theorem dX3_bareBends_5 : decode cX3_bareBends 5 = .ok (.bipush 8, 2) := by decide +kernel
theorem dX3_bareBends_7 : decode cX3_bareBends 7 = .ok (.if_icmp .ge 24, 3) := by decide +kernel
theorem dX3_bareBends_10 : decode cX3_bareBends 10 = .ok (.aload_n 0, 1) := by decide +kernel
theorem dX3_bareBends_11 : decode cX3_bareBends 11 = .ok (.iload_n 1, 1) := by decide +kernel
theorem dX3_bareBends_12 : decode cX3_bareBends 12 = .ok (.iload_n 3, 1) := by decide +kernel
theorem dX3_bareBends_13 : decode cX3_bareBends 13 = .ok (.invokevirtual 47, 3) := by decide +kernel
theorem dX3_bareBends_16 : decode cX3_bareBends 16 = .ok (.ifCond .ne 9, 3) := by decide +kernel
theorem dX3_bareBends_19 : decode cX3_bareBends 19 = .ok (.iload_n 2, 1) := by decide +kernel
theorem dX3_bareBends_20 : decode cX3_bareBends 20 = .ok (.iconst 1, 1) := by decide +kernel
theorem dX3_bareBends_21 : decode cX3_bareBends 21 = .ok (.iload_n 3, 1) := by decide +kernel
theorem dX3_bareBends_22 : decode cX3_bareBends 22 = .ok (.ishl, 1) := by decide +kernel
theorem dX3_bareBends_23 : decode cX3_bareBends 23 = .ok (.ior, 1) := by decide +kernel
theorem dX3_bareBends_24 : decode cX3_bareBends 24 = .ok (.istore_n 2, 1) := by decide +kernel
theorem dX3_bareBends_25 : decode cX3_bareBends 25 = .ok (.iinc 3 1, 3) := by decide +kernel
theorem dX3_bareBends_28 : decode cX3_bareBends 28 = .ok (.goto (-24), 3) := by decide +kernel
theorem dX3_bareBends_31 : decode cX3_bareBends 31 = .ok (.iload_n 2, 1) := by decide +kernel
theorem dX3_bareBends_32 : decode cX3_bareBends 32 = .ok (.ireturn, 1) := by decide +kernel
theorem dX3_lowestWith_0 : decode cX3_lowestWith 0 = .ok (.iconst 0, 1) := by decide +kernel
theorem dX3_lowestWith_1 : decode cX3_lowestWith 1 = .ok (.istore_n 3, 1) := by decide +kernel
theorem dX3_lowestWith_2 : decode cX3_lowestWith 2 = .ok (.iload_n 3, 1) := by decide +kernel
theorem dX3_lowestWith_3 : decode cX3_lowestWith 3 = .ok (.bipush 8, 2) := by decide +kernel
theorem dX3_lowestWith_5 : decode cX3_lowestWith 5 = .ok (.if_icmp .ge 24, 3) := by decide +kernel
theorem dX3_lowestWith_8 : decode cX3_lowestWith 8 = .ok (.aload_n 0, 1) := by decide +kernel
theorem dX3_lowestWith_9 : decode cX3_lowestWith 9 = .ok (.iload_n 1, 1) := by decide +kernel
theorem dX3_lowestWith_10 : decode cX3_lowestWith 10 = .ok (.iload_n 3, 1) := by decide +kernel
theorem dX3_lowestWith_11 : decode cX3_lowestWith 11 = .ok (.invokevirtual 99, 3) := by decide +kernel
theorem dX3_lowestWith_14 : decode cX3_lowestWith 14 = .ok (.iload_n 2, 1) := by decide +kernel
theorem dX3_lowestWith_15 : decode cX3_lowestWith 15 = .ok (.invokestatic 102, 3) := by decide +kernel
theorem dX3_lowestWith_18 : decode cX3_lowestWith 18 = .ok (.ifCond .eq 5, 3) := by decide +kernel
theorem dX3_lowestWith_21 : decode cX3_lowestWith 21 = .ok (.iload_n 3, 1) := by decide +kernel
theorem dX3_lowestWith_22 : decode cX3_lowestWith 22 = .ok (.ireturn, 1) := by decide +kernel
theorem dX3_lowestWith_23 : decode cX3_lowestWith 23 = .ok (.iinc 3 1, 3) := by decide +kernel
theorem dX3_lowestWith_26 : decode cX3_lowestWith 26 = .ok (.goto (-24), 3) := by decide +kernel
theorem dX3_lowestWith_29 : decode cX3_lowestWith 29 = .ok (.iconst (-1), 1) := by decide +kernel
theorem dX3_lowestWith_30 : decode cX3_lowestWith 30 = .ok (.ireturn, 1) := by decide +kernel
theorem dX3_allLayers_0 : decode cX3_allLayers 0 = .ok (.iconst 0, 1) := by decide +kernel
theorem dX3_allLayers_1 : decode cX3_allLayers 1 = .ok (.istore_n 1, 1) := by decide +kernel
theorem dX3_allLayers_2 : decode cX3_allLayers 2 = .ok (.iconst 0, 1) := by decide +kernel
theorem dX3_allLayers_3 : decode cX3_allLayers 3 = .ok (.istore_n 2, 1) := by decide +kernel
theorem dX3_allLayers_4 : decode cX3_allLayers 4 = .ok (.iload_n 2, 1) := by decide +kernel
theorem dX3_allLayers_5 : decode cX3_allLayers 5 = .ok (.aload_n 0, 1) := by decide +kernel
theorem dX3_allLayers_6 : decode cX3_allLayers 6 = .ok (.getfield 18, 3) := by decide +kernel
theorem dX3_allLayers_9 : decode cX3_allLayers 9 = .ok (.if_icmp .ge 17, 3) := by decide +kernel
theorem dX3_allLayers_12 : decode cX3_allLayers 12 = .ok (.iload_n 1, 1) := by decide +kernel
theorem dX3_allLayers_13 : decode cX3_allLayers 13 = .ok (.aload_n 0, 1) := by decide +kernel
theorem dX3_allLayers_14 : decode cX3_allLayers 14 = .ok (.iload_n 2, 1) := by decide +kernel
theorem dX3_allLayers_15 : decode cX3_allLayers 15 = .ok (.invokevirtual 106, 3) := by decide +kernel
theorem dX3_allLayers_18 : decode cX3_allLayers 18 = .ok (.iadd, 1) := by decide +kernel
theorem dX3_allLayers_19 : decode cX3_allLayers 19 = .ok (.istore_n 1, 1) := by decide +kernel
theorem dX3_allLayers_20 : decode cX3_allLayers 20 = .ok (.iinc 2 1, 3) := by decide +kernel
theorem dX3_allLayers_23 : decode cX3_allLayers 23 = .ok (.goto (-19), 3) := by decide +kernel
theorem dX3_allLayers_26 : decode cX3_allLayers 26 = .ok (.iload_n 1, 1) := by decide +kernel
theorem dX3_allLayers_27 : decode cX3_allLayers 27 = .ok (.ireturn, 1) := by decide +kernel
theorem dX3_allWords_0 : decode cX3_allWords 0 = .ok (.iconst 0, 1) := by decide +kernel
theorem dX3_allWords_1 : decode cX3_allWords 1 = .ok (.istore_n 1, 1) := by decide +kernel
theorem dX3_allWords_2 : decode cX3_allWords 2 = .ok (.iconst 0, 1) := by decide +kernel
theorem dX3_allWords_3 : decode cX3_allWords 3 = .ok (.istore_n 2, 1) := by decide +kernel
theorem dX3_allWords_4 : decode cX3_allWords 4 = .ok (.iload_n 2, 1) := by decide +kernel
theorem dX3_allWords_5 : decode cX3_allWords 5 = .ok (.aload_n 0, 1) := by decide +kernel
theorem dX3_allWords_6 : decode cX3_allWords 6 = .ok (.getfield 18, 3) := by decide +kernel
theorem dX3_allWords_9 : decode cX3_allWords 9 = .ok (.if_icmp .ge 17, 3) := by decide +kernel
theorem dX3_allWords_12 : decode cX3_allWords 12 = .ok (.iload_n 1, 1) := by decide +kernel
theorem dX3_allWords_13 : decode cX3_allWords 13 = .ok (.aload_n 0, 1) := by decide +kernel
theorem dX3_allWords_14 : decode cX3_allWords 14 = .ok (.iload_n 2, 1) := by decide +kernel
theorem dX3_allWords_15 : decode cX3_allWords 15 = .ok (.invokevirtual 109, 3) := by decide +kernel
theorem dX3_allWords_18 : decode cX3_allWords 18 = .ok (.ior, 1) := by decide +kernel
theorem dX3_allWords_19 : decode cX3_allWords 19 = .ok (.istore_n 1, 1) := by decide +kernel
theorem dX3_allWords_20 : decode cX3_allWords 20 = .ok (.iinc 2 1, 3) := by decide +kernel
theorem dX3_allWords_23 : decode cX3_allWords 23 = .ok (.goto (-19), 3) := by decide +kernel
theorem dX3_allWords_26 : decode cX3_allWords 26 = .ok (.iload_n 1, 1) := by decide +kernel
theorem dX3_allWords_27 : decode cX3_allWords 27 = .ok (.ireturn, 1) := by decide +kernel
theorem dX3_allCake_0 : decode cX3_allCake 0 = .ok (.iconst 0, 1) := by decide +kernel
theorem dX3_allCake_1 : decode cX3_allCake 1 = .ok (.istore_n 1, 1) := by decide +kernel
theorem dX3_allCake_2 : decode cX3_allCake 2 = .ok (.iconst 0, 1) := by decide +kernel
theorem dX3_allCake_3 : decode cX3_allCake 3 = .ok (.istore_n 2, 1) := by decide +kernel
theorem dX3_allCake_4 : decode cX3_allCake 4 = .ok (.iload_n 2, 1) := by decide +kernel
theorem dX3_allCake_5 : decode cX3_allCake 5 = .ok (.aload_n 0, 1) := by decide +kernel
theorem dX3_allCake_6 : decode cX3_allCake 6 = .ok (.getfield 18, 3) := by decide +kernel
theorem dX3_allCake_9 : decode cX3_allCake 9 = .ok (.if_icmp .ge 54, 3) := by decide +kernel
theorem dX3_allCake_12 : decode cX3_allCake 12 = .ok (.iconst 0, 1) := by decide +kernel
theorem dX3_allCake_13 : decode cX3_allCake 13 = .ok (.istore_n 3, 1) := by decide +kernel
theorem dX3_allCake_14 : decode cX3_allCake 14 = .ok (.iload_n 3, 1) := by decide +kernel
theorem dX3_allCake_15 : decode cX3_allCake 15 = .ok (.bipush 8, 2) := by decide +kernel
theorem dX3_allCake_17 : decode cX3_allCake 17 = .ok (.if_icmp .ge 40, 3) := by decide +kernel
theorem dX3_allCake_20 : decode cX3_allCake 20 = .ok (.iconst 0, 1) := by decide +kernel
theorem dX3_allCake_21 : decode cX3_allCake 21 = .ok (.istore 4, 2) := by decide +kernel
theorem dX3_allCake_23 : decode cX3_allCake 23 = .ok (.iload 4, 2) := by decide +kernel
theorem dX3_allCake_25 : decode cX3_allCake 25 = .ok (.aload_n 0, 1) := by decide +kernel
theorem dX3_allCake_26 : decode cX3_allCake 26 = .ok (.iload_n 2, 1) := by decide +kernel
theorem dX3_allCake_27 : decode cX3_allCake 27 = .ok (.iload_n 3, 1) := by decide +kernel
theorem dX3_allCake_28 : decode cX3_allCake 28 = .ok (.invokevirtual 47, 3) := by decide +kernel
theorem dX3_allCake_31 : decode cX3_allCake 31 = .ok (.if_icmp .ge 20, 3) := by decide +kernel
theorem dX3_allCake_34 : decode cX3_allCake 34 = .ok (.iload_n 1, 1) := by decide +kernel
theorem dX3_allCake_35 : decode cX3_allCake 35 = .ok (.aload_n 0, 1) := by decide +kernel
theorem dX3_allCake_36 : decode cX3_allCake 36 = .ok (.iload_n 2, 1) := by decide +kernel
theorem dX3_allCake_37 : decode cX3_allCake 37 = .ok (.iload_n 3, 1) := by decide +kernel
theorem dX3_allCake_38 : decode cX3_allCake 38 = .ok (.iload 4, 2) := by decide +kernel
theorem dX3_allCake_40 : decode cX3_allCake 40 = .ok (.invokevirtual 85, 3) := by decide +kernel
theorem dX3_allCake_43 : decode cX3_allCake 43 = .ok (.iadd, 1) := by decide +kernel
theorem dX3_allCake_44 : decode cX3_allCake 44 = .ok (.istore_n 1, 1) := by decide +kernel
theorem dX3_allCake_45 : decode cX3_allCake 45 = .ok (.iinc 4 1, 3) := by decide +kernel
theorem dX3_allCake_48 : decode cX3_allCake 48 = .ok (.goto (-25), 3) := by decide +kernel
theorem dX3_allCake_51 : decode cX3_allCake 51 = .ok (.iinc 3 1, 3) := by decide +kernel
theorem dX3_allCake_54 : decode cX3_allCake 54 = .ok (.goto (-40), 3) := by decide +kernel
theorem dX3_allCake_57 : decode cX3_allCake 57 = .ok (.iinc 2 1, 3) := by decide +kernel
theorem dX3_allCake_60 : decode cX3_allCake 60 = .ok (.goto (-56), 3) := by decide +kernel
theorem dX3_allCake_63 : decode cX3_allCake 63 = .ok (.iload_n 1, 1) := by decide +kernel
theorem dX3_allCake_64 : decode cX3_allCake 64 = .ok (.ireturn, 1) := by decide +kernel
theorem dX3_layersOfCake_0 : decode cX3_layersOfCake 0 = .ok (.iconst 0, 1) := by decide +kernel
theorem dX3_layersOfCake_1 : decode cX3_layersOfCake 1 = .ok (.istore_n 2, 1) := by decide +kernel
theorem dX3_layersOfCake_2 : decode cX3_layersOfCake 2 = .ok (.iconst 0, 1) := by decide +kernel
theorem dX3_layersOfCake_3 : decode cX3_layersOfCake 3 = .ok (.istore_n 3, 1) := by decide +kernel
theorem dX3_layersOfCake_4 : decode cX3_layersOfCake 4 = .ok (.iload_n 3, 1) := by decide +kernel
theorem dX3_layersOfCake_5 : decode cX3_layersOfCake 5 = .ok (.aload_n 0, 1) := by decide +kernel
theorem dX3_layersOfCake_6 : decode cX3_layersOfCake 6 = .ok (.getfield 18, 3) := by decide +kernel
theorem dX3_layersOfCake_9 : decode cX3_layersOfCake 9 = .ok (.if_icmp .ge 62, 3) := by decide +kernel
theorem dX3_layersOfCake_12 : decode cX3_layersOfCake 12 = .ok (.iconst 0, 1) := by decide +kernel
theorem dX3_layersOfCake_13 : decode cX3_layersOfCake 13 = .ok (.istore 4, 2) := by decide +kernel
theorem dX3_layersOfCake_15 : decode cX3_layersOfCake 15 = .ok (.iload 4, 2) := by decide +kernel
theorem dX3_layersOfCake_17 : decode cX3_layersOfCake 17 = .ok (.bipush 8, 2) := by decide +kernel
theorem dX3_layersOfCake_19 : decode cX3_layersOfCake 19 = .ok (.if_icmp .ge 46, 3) := by decide +kernel
theorem dX3_layersOfCake_22 : decode cX3_layersOfCake 22 = .ok (.iconst 0, 1) := by decide +kernel
theorem dX3_layersOfCake_23 : decode cX3_layersOfCake 23 = .ok (.istore 5, 2) := by decide +kernel
theorem dX3_layersOfCake_25 : decode cX3_layersOfCake 25 = .ok (.iload 5, 2) := by decide +kernel
theorem dX3_layersOfCake_27 : decode cX3_layersOfCake 27 = .ok (.aload_n 0, 1) := by decide +kernel
theorem dX3_layersOfCake_28 : decode cX3_layersOfCake 28 = .ok (.iload_n 3, 1) := by decide +kernel
theorem dX3_layersOfCake_29 : decode cX3_layersOfCake 29 = .ok (.iload 4, 2) := by decide +kernel
theorem dX3_layersOfCake_31 : decode cX3_layersOfCake 31 = .ok (.invokevirtual 47, 3) := by decide +kernel
theorem dX3_layersOfCake_34 : decode cX3_layersOfCake 34 = .ok (.if_icmp .ge 25, 3) := by decide +kernel
theorem dX3_layersOfCake_37 : decode cX3_layersOfCake 37 = .ok (.aload_n 0, 1) := by decide +kernel
theorem dX3_layersOfCake_38 : decode cX3_layersOfCake 38 = .ok (.iload_n 3, 1) := by decide +kernel
theorem dX3_layersOfCake_39 : decode cX3_layersOfCake 39 = .ok (.iload 4, 2) := by decide +kernel
theorem dX3_layersOfCake_41 : decode cX3_layersOfCake 41 = .ok (.iload 5, 2) := by decide +kernel
theorem dX3_layersOfCake_43 : decode cX3_layersOfCake 43 = .ok (.invokevirtual 85, 3) := by decide +kernel
theorem dX3_layersOfCake_46 : decode cX3_layersOfCake 46 = .ok (.iload_n 1, 1) := by decide +kernel
theorem dX3_layersOfCake_47 : decode cX3_layersOfCake 47 = .ok (.if_icmp .ne 6, 3) := by decide +kernel
theorem dX3_layersOfCake_50 : decode cX3_layersOfCake 50 = .ok (.iinc 2 1, 3) := by decide +kernel
theorem dX3_layersOfCake_53 : decode cX3_layersOfCake 53 = .ok (.iinc 5 1, 3) := by decide +kernel
theorem dX3_layersOfCake_56 : decode cX3_layersOfCake 56 = .ok (.goto (-31), 3) := by decide +kernel
theorem dX3_layersOfCake_59 : decode cX3_layersOfCake 59 = .ok (.iinc 4 1, 3) := by decide +kernel
theorem dX3_layersOfCake_62 : decode cX3_layersOfCake 62 = .ok (.goto (-47), 3) := by decide +kernel
theorem dX3_layersOfCake_65 : decode cX3_layersOfCake 65 = .ok (.iinc 3 1, 3) := by decide +kernel
theorem dX3_layersOfCake_68 : decode cX3_layersOfCake 68 = .ok (.goto (-64), 3) := by decide +kernel
theorem dX3_layersOfCake_71 : decode cX3_layersOfCake 71 = .ok (.iload_n 2, 1) := by decide +kernel
theorem dX3_layersOfCake_72 : decode cX3_layersOfCake 72 = .ok (.ireturn, 1) := by decide +kernel
theorem dX3_fullBends_0 : decode cX3_fullBends 0 = .ok (.iconst 0, 1) := by decide +kernel
theorem dX3_fullBends_1 : decode cX3_fullBends 1 = .ok (.istore_n 1, 1) := by decide +kernel
theorem dX3_fullBends_2 : decode cX3_fullBends 2 = .ok (.iconst 0, 1) := by decide +kernel
theorem dX3_fullBends_3 : decode cX3_fullBends 3 = .ok (.istore_n 2, 1) := by decide +kernel
theorem dX3_fullBends_4 : decode cX3_fullBends 4 = .ok (.iload_n 2, 1) := by decide +kernel
theorem dX3_fullBends_5 : decode cX3_fullBends 5 = .ok (.aload_n 0, 1) := by decide +kernel
theorem dX3_fullBends_6 : decode cX3_fullBends 6 = .ok (.getfield 18, 3) := by decide +kernel
theorem dX3_fullBends_9 : decode cX3_fullBends 9 = .ok (.if_icmp .ge 44, 3) := by decide +kernel
theorem dX3_fullBends_12 : decode cX3_fullBends 12 = .ok (.iconst 0, 1) := by decide +kernel
theorem dX3_fullBends_13 : decode cX3_fullBends 13 = .ok (.istore_n 3, 1) := by decide +kernel
theorem dX3_fullBends_14 : decode cX3_fullBends 14 = .ok (.iload_n 3, 1) := by decide +kernel
theorem dX3_fullBends_15 : decode cX3_fullBends 15 = .ok (.bipush 8, 2) := by decide +kernel
theorem dX3_fullBends_17 : decode cX3_fullBends 17 = .ok (.if_icmp .ge 30, 3) := by decide +kernel
theorem dX3_fullBends_20 : decode cX3_fullBends 20 = .ok (.aload_n 0, 1) := by decide +kernel
theorem dX3_fullBends_21 : decode cX3_fullBends 21 = .ok (.iload_n 2, 1) := by decide +kernel
theorem dX3_fullBends_22 : decode cX3_fullBends 22 = .ok (.iload_n 3, 1) := by decide +kernel
theorem dX3_fullBends_23 : decode cX3_fullBends 23 = .ok (.invokevirtual 47, 3) := by decide +kernel
theorem dX3_fullBends_26 : decode cX3_fullBends 26 = .ok (.aload_n 0, 1) := by decide +kernel
theorem dX3_fullBends_27 : decode cX3_fullBends 27 = .ok (.iload_n 2, 1) := by decide +kernel
theorem dX3_fullBends_28 : decode cX3_fullBends 28 = .ok (.invokevirtual 59, 3) := by decide +kernel
theorem dX3_fullBends_31 : decode cX3_fullBends 31 = .ok (.iload_n 3, 1) := by decide +kernel
theorem dX3_fullBends_32 : decode cX3_fullBends 32 = .ok (.invokestatic 63, 3) := by decide +kernel
theorem dX3_fullBends_35 : decode cX3_fullBends 35 = .ok (.if_icmp .lt 6, 3) := by decide +kernel
theorem dX3_fullBends_38 : decode cX3_fullBends 38 = .ok (.iinc 1 1, 3) := by decide +kernel
theorem dX3_fullBends_41 : decode cX3_fullBends 41 = .ok (.iinc 3 1, 3) := by decide +kernel
theorem dX3_fullBends_44 : decode cX3_fullBends 44 = .ok (.goto (-30), 3) := by decide +kernel
theorem dX3_fullBends_47 : decode cX3_fullBends 47 = .ok (.iinc 2 1, 3) := by decide +kernel
theorem dX3_fullBends_50 : decode cX3_fullBends 50 = .ok (.goto (-46), 3) := by decide +kernel
theorem dX3_fullBends_53 : decode cX3_fullBends 53 = .ok (.iload_n 1, 1) := by decide +kernel
theorem dX3_fullBends_54 : decode cX3_fullBends 54 = .ok (.ireturn, 1) := by decide +kernel
theorem dX4_init_0 : decode cX4_init 0 = .ok (.aload_n 0, 1) := by decide +kernel
theorem dX4_init_1 : decode cX4_init 1 = .ok (.invokespecial 1, 3) := by decide +kernel
theorem dX4_init_4 : decode cX4_init 4 = .ok (.aload_n 0, 1) := by decide +kernel
theorem dX4_init_5 : decode cX4_init 5 = .ok (.iconst 0, 1) := by decide +kernel
theorem dX4_init_6 : decode cX4_init 6 = .ok (.putfield 7, 3) := by decide +kernel
theorem dX4_init_9 : decode cX4_init 9 = .ok (.aload_n 0, 1) := by decide +kernel
theorem dX4_init_10 : decode cX4_init 10 = .ok (.iconst 0, 1) := by decide +kernel
theorem dX4_init_11 : decode cX4_init 11 = .ok (.putfield 13, 3) := by decide +kernel
theorem dX4_init_14 : decode cX4_init 14 = .ok (.aload_n 0, 1) := by decide +kernel
theorem dX4_init_15 : decode cX4_init 15 = .ok (.iconst 0, 1) := by decide +kernel
theorem dX4_init_16 : decode cX4_init 16 = .ok (.putfield 16, 3) := by decide +kernel
theorem dX4_init_19 : decode cX4_init 19 = .ok (.aload_n 0, 1) := by decide +kernel
theorem dX4_init_20 : decode cX4_init 20 = .ok (.iconst 0, 1) := by decide +kernel
theorem dX4_init_21 : decode cX4_init 21 = .ok (.putfield 19, 3) := by decide +kernel
theorem dX4_init_24 : decode cX4_init 24 = .ok (.aload_n 0, 1) := by decide +kernel
theorem dX4_init_25 : decode cX4_init 25 = .ok (.iconst 0, 1) := by decide +kernel
theorem dX4_init_26 : decode cX4_init 26 = .ok (.putfield 22, 3) := by decide +kernel
theorem dX4_init_29 : decode cX4_init 29 = .ok (.aload_n 0, 1) := by decide +kernel
theorem dX4_init_30 : decode cX4_init 30 = .ok (.bipush 120, 2) := by decide +kernel
theorem dX4_init_32 : decode cX4_init 32 = .ok (.newarray .int, 2) := by decide +kernel
theorem dX4_init_34 : decode cX4_init 34 = .ok (.putfield 25, 3) := by decide +kernel
theorem dX4_init_37 : decode cX4_init 37 = .ok (.return_, 1) := by decide +kernel
theorem dX4_hasRoom_0 : decode cX4_hasRoom 0 = .ok (.iload_n 1, 1) := by decide +kernel
theorem dX4_hasRoom_1 : decode cX4_hasRoom 1 = .ok (.bipush 120, 2) := by decide +kernel
theorem dX4_hasRoom_3 : decode cX4_hasRoom 3 = .ok (.aload_n 0, 1) := by decide +kernel
theorem dX4_hasRoom_4 : decode cX4_hasRoom 4 = .ok (.getfield 7, 3) := by decide +kernel
theorem dX4_hasRoom_7 : decode cX4_hasRoom 7 = .ok (.isub, 1) := by decide +kernel
theorem dX4_hasRoom_8 : decode cX4_hasRoom 8 = .ok (.if_icmp .gt 7, 3) := by decide +kernel
theorem dX4_hasRoom_11 : decode cX4_hasRoom 11 = .ok (.iconst 1, 1) := by decide +kernel
theorem dX4_hasRoom_12 : decode cX4_hasRoom 12 = .ok (.goto 4, 3) := by decide +kernel
theorem dX4_hasRoom_15 : decode cX4_hasRoom 15 = .ok (.iconst 0, 1) := by decide +kernel
theorem dX4_hasRoom_16 : decode cX4_hasRoom 16 = .ok (.ireturn, 1) := by decide +kernel
theorem dX4_add_0 : decode cX4_add 0 = .ok (.aload_n 0, 1) := by decide +kernel
theorem dX4_add_1 : decode cX4_add 1 = .ok (.getfield 7, 3) := by decide +kernel
theorem dX4_add_4 : decode cX4_add 4 = .ok (.ifCond .lt 12, 3) := by decide +kernel
theorem dX4_add_7 : decode cX4_add 7 = .ok (.aload_n 0, 1) := by decide +kernel
theorem dX4_add_8 : decode cX4_add 8 = .ok (.getfield 7, 3) := by decide +kernel
theorem dX4_add_11 : decode cX4_add 11 = .ok (.bipush 120, 2) := by decide +kernel
theorem dX4_add_13 : decode cX4_add 13 = .ok (.if_icmp .lt 4, 3) := by decide +kernel
theorem dX4_add_16 : decode cX4_add 16 = .ok (.return_, 1) := by decide +kernel
theorem dX4_add_17 : decode cX4_add 17 = .ok (.aload_n 0, 1) := by decide +kernel
theorem dX4_add_18 : decode cX4_add 18 = .ok (.getfield 25, 3) := by decide +kernel
theorem dX4_add_21 : decode cX4_add 21 = .ok (.aload_n 0, 1) := by decide +kernel
theorem dX4_add_22 : decode cX4_add 22 = .ok (.getfield 7, 3) := by decide +kernel
theorem dX4_add_25 : decode cX4_add 25 = .ok (.iload_n 1, 1) := by decide +kernel
theorem dX4_add_26 : decode cX4_add 26 = .ok (.iastore, 1) := by decide +kernel
theorem dX4_add_27 : decode cX4_add 27 = .ok (.aload_n 0, 1) := by decide +kernel
theorem dX4_add_28 : decode cX4_add 28 = .ok (.dup, 1) := by decide +kernel
theorem dX4_add_29 : decode cX4_add 29 = .ok (.getfield 7, 3) := by decide +kernel
theorem dX4_add_32 : decode cX4_add 32 = .ok (.iconst 1, 1) := by decide +kernel
theorem dX4_add_33 : decode cX4_add 33 = .ok (.iadd, 1) := by decide +kernel
theorem dX4_add_34 : decode cX4_add 34 = .ok (.putfield 7, 3) := by decide +kernel
theorem dX4_add_37 : decode cX4_add 37 = .ok (.return_, 1) := by decide +kernel
theorem dX4_at_0 : decode cX4_at 0 = .ok (.iload_n 1, 1) := by decide +kernel
theorem dX4_at_1 : decode cX4_at 1 = .ok (.ifCond .lt 26, 3) := by decide +kernel
theorem dX4_at_4 : decode cX4_at 4 = .ok (.iload_n 1, 1) := by decide +kernel
theorem dX4_at_5 : decode cX4_at 5 = .ok (.aload_n 0, 1) := by decide +kernel
theorem dX4_at_6 : decode cX4_at 6 = .ok (.getfield 7, 3) := by decide +kernel
theorem dX4_at_9 : decode cX4_at 9 = .ok (.if_icmp .ge 18, 3) := by decide +kernel
theorem dX4_at_12 : decode cX4_at 12 = .ok (.iload_n 1, 1) := by decide +kernel
theorem dX4_at_13 : decode cX4_at 13 = .ok (.bipush 120, 2) := by decide +kernel
theorem dX4_at_15 : decode cX4_at 15 = .ok (.if_icmp .ge 12, 3) := by decide +kernel
theorem dX4_at_18 : decode cX4_at 18 = .ok (.aload_n 0, 1) := by decide +kernel
theorem dX4_at_19 : decode cX4_at 19 = .ok (.getfield 25, 3) := by decide +kernel
theorem dX4_at_22 : decode cX4_at 22 = .ok (.iload_n 1, 1) := by decide +kernel
theorem dX4_at_23 : decode cX4_at 23 = .ok (.iaload, 1) := by decide +kernel
theorem dX4_at_24 : decode cX4_at 24 = .ok (.goto 4, 3) := by decide +kernel
theorem dX4_at_27 : decode cX4_at 27 = .ok (.iconst 0, 1) := by decide +kernel
theorem dX4_at_28 : decode cX4_at 28 = .ok (.ireturn, 1) := by decide +kernel
theorem dX4_begin_0 : decode cX4_begin 0 = .ok (.aload_n 0, 1) := by decide +kernel
theorem dX4_begin_1 : decode cX4_begin 1 = .ok (.iconst 0, 1) := by decide +kernel
theorem dX4_begin_2 : decode cX4_begin 2 = .ok (.putfield 19, 3) := by decide +kernel
theorem dX4_begin_5 : decode cX4_begin 5 = .ok (.aload_n 0, 1) := by decide +kernel
theorem dX4_begin_6 : decode cX4_begin 6 = .ok (.invokevirtual 29, 3) := by decide +kernel
theorem dX4_begin_9 : decode cX4_begin 9 = .ok (.return_, 1) := by decide +kernel
theorem dX4_step_0 : decode cX4_step 0 = .ok (.aload_n 0, 1) := by decide +kernel
theorem dX4_step_1 : decode cX4_step 1 = .ok (.aload_n 0, 1) := by decide +kernel
theorem dX4_step_2 : decode cX4_step 2 = .ok (.getfield 19, 3) := by decide +kernel
theorem dX4_step_5 : decode cX4_step 5 = .ok (.putfield 16, 3) := by decide +kernel
theorem dX4_step_8 : decode cX4_step 8 = .ok (.aload_n 0, 1) := by decide +kernel
theorem dX4_step_9 : decode cX4_step 9 = .ok (.getfield 16, 3) := by decide +kernel
theorem dX4_step_12 : decode cX4_step 12 = .ok (.aload_n 0, 1) := by decide +kernel
theorem dX4_step_13 : decode cX4_step 13 = .ok (.getfield 7, 3) := by decide +kernel
theorem dX4_step_16 : decode cX4_step 16 = .ok (.if_icmp .ge 29, 3) := by decide +kernel
theorem dX4_step_19 : decode cX4_step 19 = .ok (.aload_n 0, 1) := by decide +kernel
theorem dX4_step_20 : decode cX4_step 20 = .ok (.aload_n 0, 1) := by decide +kernel
theorem dX4_step_21 : decode cX4_step 21 = .ok (.getfield 16, 3) := by decide +kernel
theorem dX4_step_24 : decode cX4_step 24 = .ok (.invokevirtual 32, 3) := by decide +kernel
theorem dX4_step_27 : decode cX4_step 27 = .ok (.bipush 32, 2) := by decide +kernel
theorem dX4_step_29 : decode cX4_step 29 = .ok (.if_icmp .ne 16, 3) := by decide +kernel
theorem dX4_step_32 : decode cX4_step 32 = .ok (.aload_n 0, 1) := by decide +kernel
theorem dX4_step_33 : decode cX4_step 33 = .ok (.dup, 1) := by decide +kernel
theorem dX4_step_34 : decode cX4_step 34 = .ok (.getfield 16, 3) := by decide +kernel
theorem dX4_step_37 : decode cX4_step 37 = .ok (.iconst 1, 1) := by decide +kernel
theorem dX4_step_38 : decode cX4_step 38 = .ok (.iadd, 1) := by decide +kernel
theorem dX4_step_39 : decode cX4_step 39 = .ok (.putfield 16, 3) := by decide +kernel
theorem dX4_step_42 : decode cX4_step 42 = .ok (.goto (-34), 3) := by decide +kernel
theorem dX4_step_45 : decode cX4_step 45 = .ok (.aload_n 0, 1) := by decide +kernel
theorem dX4_step_46 : decode cX4_step 46 = .ok (.aload_n 0, 1) := by decide +kernel
theorem dX4_step_47 : decode cX4_step 47 = .ok (.getfield 16, 3) := by decide +kernel
theorem dX4_step_50 : decode cX4_step 50 = .ok (.putfield 19, 3) := by decide +kernel
theorem dX4_step_53 : decode cX4_step 53 = .ok (.aload_n 0, 1) := by decide +kernel
theorem dX4_step_54 : decode cX4_step 54 = .ok (.iconst 0, 1) := by decide +kernel
theorem dX4_step_55 : decode cX4_step 55 = .ok (.putfield 22, 3) := by decide +kernel
theorem dX4_step_58 : decode cX4_step 58 = .ok (.aload_n 0, 1) := by decide +kernel
theorem dX4_step_59 : decode cX4_step 59 = .ok (.getfield 16, 3) := by decide +kernel
theorem dX4_step_62 : decode cX4_step 62 = .ok (.aload_n 0, 1) := by decide +kernel
theorem dX4_step_63 : decode cX4_step 63 = .ok (.getfield 7, 3) := by decide +kernel
theorem dX4_step_66 : decode cX4_step 66 = .ok (.if_icmp .lt 11, 3) := by decide +kernel
theorem dX4_step_69 : decode cX4_step 69 = .ok (.aload_n 0, 1) := by decide +kernel
theorem dX4_step_70 : decode cX4_step 70 = .ok (.iconst 0, 1) := by decide +kernel
theorem dX4_step_71 : decode cX4_step 71 = .ok (.putfield 13, 3) := by decide +kernel
theorem dX4_step_74 : decode cX4_step 74 = .ok (.goto 178, 3) := by decide +kernel
theorem dX4_step_77 : decode cX4_step 77 = .ok (.aload_n 0, 1) := by decide +kernel
theorem dX4_step_78 : decode cX4_step 78 = .ok (.aload_n 0, 1) := by decide +kernel
theorem dX4_step_79 : decode cX4_step 79 = .ok (.getfield 16, 3) := by decide +kernel
theorem dX4_step_82 : decode cX4_step 82 = .ok (.invokevirtual 32, 3) := by decide +kernel
theorem dX4_step_85 : decode cX4_step 85 = .ok (.invokestatic 36, 3) := by decide +kernel
theorem dX4_step_88 : decode cX4_step 88 = .ok (.ifCond .eq 46, 3) := by decide +kernel
theorem dX4_step_91 : decode cX4_step 91 = .ok (.aload_n 0, 1) := by decide +kernel
theorem dX4_step_92 : decode cX4_step 92 = .ok (.iconst 1, 1) := by decide +kernel
theorem dX4_step_93 : decode cX4_step 93 = .ok (.putfield 13, 3) := by decide +kernel
theorem dX4_step_96 : decode cX4_step 96 = .ok (.aload_n 0, 1) := by decide +kernel
theorem dX4_step_97 : decode cX4_step 97 = .ok (.getfield 19, 3) := by decide +kernel
theorem dX4_step_100 : decode cX4_step 100 = .ok (.aload_n 0, 1) := by decide +kernel
theorem dX4_step_101 : decode cX4_step 101 = .ok (.getfield 7, 3) := by decide +kernel
theorem dX4_step_104 : decode cX4_step 104 = .ok (.if_icmp .ge 148, 3) := by decide +kernel
theorem dX4_step_107 : decode cX4_step 107 = .ok (.aload_n 0, 1) := by decide +kernel
theorem dX4_step_108 : decode cX4_step 108 = .ok (.aload_n 0, 1) := by decide +kernel
theorem dX4_step_109 : decode cX4_step 109 = .ok (.getfield 19, 3) := by decide +kernel
theorem dX4_step_112 : decode cX4_step 112 = .ok (.invokevirtual 32, 3) := by decide +kernel
theorem dX4_step_115 : decode cX4_step 115 = .ok (.invokestatic 36, 3) := by decide +kernel
theorem dX4_step_118 : decode cX4_step 118 = .ok (.ifCond .eq 134, 3) := by decide +kernel
theorem dX4_step_121 : decode cX4_step 121 = .ok (.aload_n 0, 1) := by decide +kernel
theorem dX4_step_122 : decode cX4_step 122 = .ok (.dup, 1) := by decide +kernel
theorem dX4_step_123 : decode cX4_step 123 = .ok (.getfield 19, 3) := by decide +kernel
theorem dX4_step_126 : decode cX4_step 126 = .ok (.iconst 1, 1) := by decide +kernel
theorem dX4_step_127 : decode cX4_step 127 = .ok (.iadd, 1) := by decide +kernel
theorem dX4_step_128 : decode cX4_step 128 = .ok (.putfield 19, 3) := by decide +kernel
theorem dX4_step_131 : decode cX4_step 131 = .ok (.goto (-35), 3) := by decide +kernel
theorem dX4_step_134 : decode cX4_step 134 = .ok (.aload_n 0, 1) := by decide +kernel
theorem dX4_step_135 : decode cX4_step 135 = .ok (.aload_n 0, 1) := by decide +kernel
theorem dX4_step_136 : decode cX4_step 136 = .ok (.getfield 16, 3) := by decide +kernel
theorem dX4_step_139 : decode cX4_step 139 = .ok (.invokevirtual 32, 3) := by decide +kernel
theorem dX4_step_142 : decode cX4_step 142 = .ok (.invokestatic 40, 3) := by decide +kernel
theorem dX4_step_145 : decode cX4_step 145 = .ok (.ifCond .eq 75, 3) := by decide +kernel
theorem dX4_step_148 : decode cX4_step 148 = .ok (.aload_n 0, 1) := by decide +kernel
theorem dX4_step_149 : decode cX4_step 149 = .ok (.iconst 2, 1) := by decide +kernel
theorem dX4_step_150 : decode cX4_step 150 = .ok (.putfield 13, 3) := by decide +kernel
theorem dX4_step_153 : decode cX4_step 153 = .ok (.aload_n 0, 1) := by decide +kernel
theorem dX4_step_154 : decode cX4_step 154 = .ok (.getfield 19, 3) := by decide +kernel
theorem dX4_step_157 : decode cX4_step 157 = .ok (.aload_n 0, 1) := by decide +kernel
theorem dX4_step_158 : decode cX4_step 158 = .ok (.getfield 7, 3) := by decide +kernel
theorem dX4_step_161 : decode cX4_step 161 = .ok (.if_icmp .ge 91, 3) := by decide +kernel
theorem dX4_step_164 : decode cX4_step 164 = .ok (.aload_n 0, 1) := by decide +kernel
theorem dX4_step_165 : decode cX4_step 165 = .ok (.aload_n 0, 1) := by decide +kernel
theorem dX4_step_166 : decode cX4_step 166 = .ok (.getfield 19, 3) := by decide +kernel
theorem dX4_step_169 : decode cX4_step 169 = .ok (.invokevirtual 32, 3) := by decide +kernel
theorem dX4_step_172 : decode cX4_step 172 = .ok (.invokestatic 40, 3) := by decide +kernel
theorem dX4_step_175 : decode cX4_step 175 = .ok (.ifCond .eq 77, 3) := by decide +kernel
theorem dX4_step_178 : decode cX4_step 178 = .ok (.aload_n 0, 1) := by decide +kernel
theorem dX4_step_179 : decode cX4_step 179 = .ok (.sipush 1000, 3) := by decide +kernel
theorem dX4_step_182 : decode cX4_step 182 = .ok (.bipush 10, 2) := by decide +kernel
theorem dX4_step_184 : decode cX4_step 184 = .ok (.aload_n 0, 1) := by decide +kernel
theorem dX4_step_185 : decode cX4_step 185 = .ok (.getfield 22, 3) := by decide +kernel
theorem dX4_step_188 : decode cX4_step 188 = .ok (.imul, 1) := by decide +kernel
theorem dX4_step_189 : decode cX4_step 189 = .ok (.aload_n 0, 1) := by decide +kernel
theorem dX4_step_190 : decode cX4_step 190 = .ok (.aload_n 0, 1) := by decide +kernel
theorem dX4_step_191 : decode cX4_step 191 = .ok (.getfield 19, 3) := by decide +kernel
theorem dX4_step_194 : decode cX4_step 194 = .ok (.invokevirtual 32, 3) := by decide +kernel
theorem dX4_step_197 : decode cX4_step 197 = .ok (.iadd, 1) := by decide +kernel
theorem dX4_step_198 : decode cX4_step 198 = .ok (.bipush 48, 2) := by decide +kernel
theorem dX4_step_200 : decode cX4_step 200 = .ok (.isub, 1) := by decide +kernel
theorem dX4_step_201 : decode cX4_step 201 = .ok (.invokestatic 43, 3) := by decide +kernel
theorem dX4_step_204 : decode cX4_step 204 = .ok (.putfield 22, 3) := by decide +kernel
theorem dX4_step_207 : decode cX4_step 207 = .ok (.aload_n 0, 1) := by decide +kernel
theorem dX4_step_208 : decode cX4_step 208 = .ok (.dup, 1) := by decide +kernel
theorem dX4_step_209 : decode cX4_step 209 = .ok (.getfield 19, 3) := by decide +kernel
theorem dX4_step_212 : decode cX4_step 212 = .ok (.iconst 1, 1) := by decide +kernel
theorem dX4_step_213 : decode cX4_step 213 = .ok (.iadd, 1) := by decide +kernel
theorem dX4_step_214 : decode cX4_step 214 = .ok (.putfield 19, 3) := by decide +kernel
theorem dX4_step_217 : decode cX4_step 217 = .ok (.goto (-64), 3) := by decide +kernel
theorem dX4_step_220 : decode cX4_step 220 = .ok (.aload_n 0, 1) := by decide +kernel
theorem dX4_step_221 : decode cX4_step 221 = .ok (.aload_n 0, 1) := by decide +kernel
theorem dX4_step_222 : decode cX4_step 222 = .ok (.aload_n 0, 1) := by decide +kernel
theorem dX4_step_223 : decode cX4_step 223 = .ok (.getfield 16, 3) := by decide +kernel
theorem dX4_step_226 : decode cX4_step 226 = .ok (.invokevirtual 32, 3) := by decide +kernel
theorem dX4_step_229 : decode cX4_step 229 = .ok (.bipush 59, 2) := by decide +kernel
theorem dX4_step_231 : decode cX4_step 231 = .ok (.if_icmp .ne 7, 3) := by decide +kernel
theorem dX4_step_234 : decode cX4_step 234 = .ok (.iconst 3, 1) := by decide +kernel
theorem dX4_step_235 : decode cX4_step 235 = .ok (.goto 4, 3) := by decide +kernel
theorem dX4_step_238 : decode cX4_step 238 = .ok (.iconst 4, 1) := by decide +kernel
theorem dX4_step_239 : decode cX4_step 239 = .ok (.putfield 13, 3) := by decide +kernel
theorem dX4_step_242 : decode cX4_step 242 = .ok (.aload_n 0, 1) := by decide +kernel
theorem dX4_step_243 : decode cX4_step 243 = .ok (.dup, 1) := by decide +kernel
theorem dX4_step_244 : decode cX4_step 244 = .ok (.getfield 19, 3) := by decide +kernel
theorem dX4_step_247 : decode cX4_step 247 = .ok (.iconst 1, 1) := by decide +kernel
theorem dX4_step_248 : decode cX4_step 248 = .ok (.iadd, 1) := by decide +kernel
theorem dX4_step_249 : decode cX4_step 249 = .ok (.putfield 19, 3) := by decide +kernel
theorem dX4_step_252 : decode cX4_step 252 = .ok (.return_, 1) := by decide +kernel
theorem dX4_pass_0 : decode cX4_pass 0 = .ok (.aload_n 0, 1) := by decide +kernel
theorem dX4_pass_1 : decode cX4_pass 1 = .ok (.getfield 13, 3) := by decide +kernel
theorem dX4_pass_4 : decode cX4_pass 4 = .ok (.iconst 1, 1) := by decide +kernel
theorem dX4_pass_5 : decode cX4_pass 5 = .ok (.if_icmp .ne 19, 3) := by decide +kernel
theorem dX4_pass_8 : decode cX4_pass 8 = .ok (.aload_n 0, 1) := by decide +kernel
theorem dX4_pass_9 : decode cX4_pass 9 = .ok (.getfield 19, 3) := by decide +kernel
theorem dX4_pass_12 : decode cX4_pass 12 = .ok (.aload_n 0, 1) := by decide +kernel
theorem dX4_pass_13 : decode cX4_pass 13 = .ok (.getfield 16, 3) := by decide +kernel
theorem dX4_pass_16 : decode cX4_pass 16 = .ok (.isub, 1) := by decide +kernel
theorem dX4_pass_17 : decode cX4_pass 17 = .ok (.aload_n 1, 1) := by decide +kernel
theorem dX4_pass_18 : decode cX4_pass 18 = .ok (.invokevirtual 49, 3) := by decide +kernel
theorem dX4_pass_21 : decode cX4_pass 21 = .ok (.if_icmp .eq 5, 3) := by decide +kernel
theorem dX4_pass_24 : decode cX4_pass 24 = .ok (.iconst 0, 1) := by decide +kernel
theorem dX4_pass_25 : decode cX4_pass 25 = .ok (.ireturn, 1) := by decide +kernel
theorem dX4_pass_26 : decode cX4_pass 26 = .ok (.iconst 0, 1) := by decide +kernel
theorem dX4_pass_27 : decode cX4_pass 27 = .ok (.istore_n 2, 1) := by decide +kernel
theorem dX4_pass_28 : decode cX4_pass 28 = .ok (.iload_n 2, 1) := by decide +kernel
theorem dX4_pass_29 : decode cX4_pass 29 = .ok (.aload_n 1, 1) := by decide +kernel
theorem dX4_pass_30 : decode cX4_pass 30 = .ok (.invokevirtual 49, 3) := by decide +kernel
theorem dX4_pass_33 : decode cX4_pass 33 = .ok (.if_icmp .ge 29, 3) := by decide +kernel
theorem dX4_pass_36 : decode cX4_pass 36 = .ok (.aload_n 0, 1) := by decide +kernel
theorem dX4_pass_37 : decode cX4_pass 37 = .ok (.aload_n 0, 1) := by decide +kernel
theorem dX4_pass_38 : decode cX4_pass 38 = .ok (.getfield 16, 3) := by decide +kernel
theorem dX4_pass_41 : decode cX4_pass 41 = .ok (.iload_n 2, 1) := by decide +kernel
theorem dX4_pass_42 : decode cX4_pass 42 = .ok (.iadd, 1) := by decide +kernel
theorem dX4_pass_43 : decode cX4_pass 43 = .ok (.invokevirtual 32, 3) := by decide +kernel
theorem dX4_pass_46 : decode cX4_pass 46 = .ok (.aload_n 1, 1) := by decide +kernel
theorem dX4_pass_47 : decode cX4_pass 47 = .ok (.iload_n 2, 1) := by decide +kernel
theorem dX4_pass_48 : decode cX4_pass 48 = .ok (.invokevirtual 54, 3) := by decide +kernel
theorem dX4_pass_51 : decode cX4_pass 51 = .ok (.if_icmp .eq 5, 3) := by decide +kernel
theorem dX4_pass_54 : decode cX4_pass 54 = .ok (.iconst 0, 1) := by decide +kernel
theorem dX4_pass_55 : decode cX4_pass 55 = .ok (.ireturn, 1) := by decide +kernel
theorem dX4_pass_56 : decode cX4_pass 56 = .ok (.iinc 2 1, 3) := by decide +kernel
theorem dX4_pass_59 : decode cX4_pass 59 = .ok (.goto (-31), 3) := by decide +kernel
theorem dX4_pass_62 : decode cX4_pass 62 = .ok (.aload_n 0, 1) := by decide +kernel
theorem dX4_pass_63 : decode cX4_pass 63 = .ok (.invokevirtual 29, 3) := by decide +kernel
theorem dX4_pass_66 : decode cX4_pass 66 = .ok (.iconst 1, 1) := by decide +kernel
theorem dX4_pass_67 : decode cX4_pass 67 = .ok (.ireturn, 1) := by decide +kernel
theorem dX4_passNumber_0 : decode cX4_passNumber 0 = .ok (.aload_n 0, 1) := by decide +kernel
theorem dX4_passNumber_1 : decode cX4_passNumber 1 = .ok (.getfield 13, 3) := by decide +kernel
theorem dX4_passNumber_4 : decode cX4_passNumber 4 = .ok (.iconst 2, 1) := by decide +kernel
theorem dX4_passNumber_5 : decode cX4_passNumber 5 = .ok (.if_icmp .ne 11, 3) := by decide +kernel
theorem dX4_passNumber_8 : decode cX4_passNumber 8 = .ok (.aload_n 0, 1) := by decide +kernel
theorem dX4_passNumber_9 : decode cX4_passNumber 9 = .ok (.getfield 22, 3) := by decide +kernel
theorem dX4_passNumber_12 : decode cX4_passNumber 12 = .ok (.iload_n 1, 1) := by decide +kernel
theorem dX4_passNumber_13 : decode cX4_passNumber 13 = .ok (.if_icmp .lt 5, 3) := by decide +kernel
theorem dX4_passNumber_16 : decode cX4_passNumber 16 = .ok (.iconst (-1), 1) := by decide +kernel
theorem dX4_passNumber_17 : decode cX4_passNumber 17 = .ok (.ireturn, 1) := by decide +kernel
theorem dX4_passNumber_18 : decode cX4_passNumber 18 = .ok (.aload_n 0, 1) := by decide +kernel
theorem dX4_passNumber_19 : decode cX4_passNumber 19 = .ok (.getfield 22, 3) := by decide +kernel
theorem dX4_passNumber_22 : decode cX4_passNumber 22 = .ok (.istore_n 2, 1) := by decide +kernel
theorem dX4_passNumber_23 : decode cX4_passNumber 23 = .ok (.aload_n 0, 1) := by decide +kernel
theorem dX4_passNumber_24 : decode cX4_passNumber 24 = .ok (.invokevirtual 29, 3) := by decide +kernel
theorem dX4_passNumber_27 : decode cX4_passNumber 27 = .ok (.iload_n 2, 1) := by decide +kernel
theorem dX4_passNumber_28 : decode cX4_passNumber 28 = .ok (.ireturn, 1) := by decide +kernel
theorem dX4_isLetter_0 : decode cX4_isLetter 0 = .ok (.iload_n 0, 1) := by decide +kernel
theorem dX4_isLetter_1 : decode cX4_isLetter 1 = .ok (.bipush 97, 2) := by decide +kernel
theorem dX4_isLetter_3 : decode cX4_isLetter 3 = .ok (.if_icmp .lt 13, 3) := by decide +kernel
theorem dX4_isLetter_6 : decode cX4_isLetter 6 = .ok (.iload_n 0, 1) := by decide +kernel
theorem dX4_isLetter_7 : decode cX4_isLetter 7 = .ok (.bipush 122, 2) := by decide +kernel
theorem dX4_isLetter_9 : decode cX4_isLetter 9 = .ok (.if_icmp .gt 7, 3) := by decide +kernel
theorem dX4_isLetter_12 : decode cX4_isLetter 12 = .ok (.iconst 1, 1) := by decide +kernel
theorem dX4_isLetter_13 : decode cX4_isLetter 13 = .ok (.goto 4, 3) := by decide +kernel
theorem dX4_isLetter_16 : decode cX4_isLetter 16 = .ok (.iconst 0, 1) := by decide +kernel
theorem dX4_isLetter_17 : decode cX4_isLetter 17 = .ok (.ireturn, 1) := by decide +kernel
theorem dX4_isDigit_0 : decode cX4_isDigit 0 = .ok (.iload_n 0, 1) := by decide +kernel
theorem dX4_isDigit_1 : decode cX4_isDigit 1 = .ok (.bipush 48, 2) := by decide +kernel
theorem dX4_isDigit_3 : decode cX4_isDigit 3 = .ok (.if_icmp .lt 13, 3) := by decide +kernel
theorem dX4_isDigit_6 : decode cX4_isDigit 6 = .ok (.iload_n 0, 1) := by decide +kernel
theorem dX4_isDigit_7 : decode cX4_isDigit 7 = .ok (.bipush 57, 2) := by decide +kernel
theorem dX4_isDigit_9 : decode cX4_isDigit 9 = .ok (.if_icmp .gt 7, 3) := by decide +kernel
theorem dX4_isDigit_12 : decode cX4_isDigit 12 = .ok (.iconst 1, 1) := by decide +kernel
theorem dX4_isDigit_13 : decode cX4_isDigit 13 = .ok (.goto 4, 3) := by decide +kernel
theorem dX4_isDigit_16 : decode cX4_isDigit 16 = .ok (.iconst 0, 1) := by decide +kernel
theorem dX4_isDigit_17 : decode cX4_isDigit 17 = .ok (.ireturn, 1) := by decide +kernel
theorem dX5_init_0 : decode cX5_init 0 = .ok (.aload_n 0, 1) := by decide +kernel
theorem dX5_init_1 : decode cX5_init 1 = .ok (.invokespecial 3, 3) := by decide +kernel
theorem dX5_init_4 : decode cX5_init 4 = .ok (.aload_n 0, 1) := by decide +kernel
theorem dX5_init_5 : decode cX5_init 5 = .ok (.iconst 0, 1) := by decide +kernel
theorem dX5_init_6 : decode cX5_init 6 = .ok (.putfield 9, 3) := by decide +kernel
theorem dX5_init_9 : decode cX5_init 9 = .ok (.aload_n 0, 1) := by decide +kernel
theorem dX5_init_10 : decode cX5_init 10 = .ok (.iconst 0, 1) := by decide +kernel
theorem dX5_init_11 : decode cX5_init 11 = .ok (.putfield 15, 3) := by decide +kernel
theorem dX5_init_14 : decode cX5_init 14 = .ok (.aload_n 0, 1) := by decide +kernel
theorem dX5_init_15 : decode cX5_init 15 = .ok (.iconst 0, 1) := by decide +kernel
theorem dX5_init_16 : decode cX5_init 16 = .ok (.putfield 18, 3) := by decide +kernel
theorem dX5_init_19 : decode cX5_init 19 = .ok (.aload_n 0, 1) := by decide +kernel
theorem dX5_init_20 : decode cX5_init 20 = .ok (.iconst 0, 1) := by decide +kernel
theorem dX5_init_21 : decode cX5_init 21 = .ok (.putfield 21, 3) := by decide +kernel
theorem dX5_init_24 : decode cX5_init 24 = .ok (.aload_n 0, 1) := by decide +kernel
theorem dX5_init_25 : decode cX5_init 25 = .ok (.iconst 0, 1) := by decide +kernel
theorem dX5_init_26 : decode cX5_init 26 = .ok (.putfield 24, 3) := by decide +kernel
theorem dX5_init_29 : decode cX5_init 29 = .ok (.aload_n 0, 1) := by decide +kernel
theorem dX5_init_30 : decode cX5_init 30 = .ok (.iconst 0, 1) := by decide +kernel
theorem dX5_init_31 : decode cX5_init 31 = .ok (.putfield 27, 3) := by decide +kernel
theorem dX5_init_34 : decode cX5_init 34 = .ok (.aload_n 0, 1) := by decide +kernel
theorem dX5_init_35 : decode cX5_init 35 = .ok (.iconst 0, 1) := by decide +kernel
theorem dX5_init_36 : decode cX5_init 36 = .ok (.putfield 30, 3) := by decide +kernel
theorem dX5_init_39 : decode cX5_init 39 = .ok (.aload_n 0, 1) := by decide +kernel
theorem dX5_init_40 : decode cX5_init 40 = .ok (.iconst 0, 1) := by decide +kernel
theorem dX5_init_41 : decode cX5_init 41 = .ok (.putfield 33, 3) := by decide +kernel
theorem dX5_init_44 : decode cX5_init 44 = .ok (.aload_n 0, 1) := by decide +kernel
theorem dX5_init_45 : decode cX5_init 45 = .ok (.iconst 0, 1) := by decide +kernel
theorem dX5_init_46 : decode cX5_init 46 = .ok (.putfield 36, 3) := by decide +kernel
theorem dX5_init_49 : decode cX5_init 49 = .ok (.return_, 1) := by decide +kernel
theorem dX5_goThrough_0 : decode cX5_goThrough 0 = .ok (.aload_n 0, 1) := by decide +kernel
theorem dX5_goThrough_1 : decode cX5_goThrough 1 = .ok (.aload_n 2, 1) := by decide +kernel
theorem dX5_goThrough_2 : decode cX5_goThrough 2 = .ok (.getfield 39, 3) := by decide +kernel
theorem dX5_goThrough_5 : decode cX5_goThrough 5 = .ok (.putfield 9, 3) := by decide +kernel
theorem dX5_goThrough_8 : decode cX5_goThrough 8 = .ok (.aload_n 1, 1) := by decide +kernel
theorem dX5_goThrough_9 : decode cX5_goThrough 9 = .ok (.invokevirtual 42, 3) := by decide +kernel
theorem dX5_goThrough_12 : decode cX5_goThrough 12 = .ok (.iconst 1, 1) := by decide +kernel
theorem dX5_goThrough_13 : decode cX5_goThrough 13 = .ok (.istore 4, 2) := by decide +kernel
theorem dX5_goThrough_15 : decode cX5_goThrough 15 = .ok (.iload 4, 2) := by decide +kernel
theorem dX5_goThrough_17 : decode cX5_goThrough 17 = .ok (.bipush 120, 2) := by decide +kernel
theorem dX5_goThrough_19 : decode cX5_goThrough 19 = .ok (.if_icmp .gt 54, 3) := by decide +kernel
theorem dX5_goThrough_22 : decode cX5_goThrough 22 = .ok (.aload_n 0, 1) := by decide +kernel
theorem dX5_goThrough_23 : decode cX5_goThrough 23 = .ok (.aload_n 1, 1) := by decide +kernel
theorem dX5_goThrough_24 : decode cX5_goThrough 24 = .ok (.invokevirtual 47, 3) := by decide +kernel
theorem dX5_goThrough_27 : decode cX5_goThrough 27 = .ok (.ifCond .ne 6, 3) := by decide +kernel
theorem dX5_goThrough_30 : decode cX5_goThrough 30 = .ok (.goto 43, 3) := by decide +kernel
theorem dX5_goThrough_33 : decode cX5_goThrough 33 = .ok (.iload_n 3, 1) := by decide +kernel
theorem dX5_goThrough_34 : decode cX5_goThrough 34 = .ok (.ifCond .eq 8, 3) := by decide +kernel
theorem dX5_goThrough_37 : decode cX5_goThrough 37 = .ok (.aload_n 0, 1) := by decide +kernel
theorem dX5_goThrough_38 : decode cX5_goThrough 38 = .ok (.aload_n 2, 1) := by decide +kernel
theorem dX5_goThrough_39 : decode cX5_goThrough 39 = .ok (.invokevirtual 51, 3) := by decide +kernel
theorem dX5_goThrough_42 : decode cX5_goThrough 42 = .ok (.aload_n 1, 1) := by decide +kernel
theorem dX5_goThrough_43 : decode cX5_goThrough 43 = .ok (.getfield 55, 3) := by decide +kernel
theorem dX5_goThrough_46 : decode cX5_goThrough 46 = .ok (.ifCond .ne 6, 3) := by decide +kernel
theorem dX5_goThrough_49 : decode cX5_goThrough 49 = .ok (.iload 4, 2) := by decide +kernel
theorem dX5_goThrough_51 : decode cX5_goThrough 51 = .ok (.ireturn, 1) := by decide +kernel
theorem dX5_goThrough_52 : decode cX5_goThrough 52 = .ok (.aload_n 1, 1) := by decide +kernel
theorem dX5_goThrough_53 : decode cX5_goThrough 53 = .ok (.getfield 55, 3) := by decide +kernel
theorem dX5_goThrough_56 : decode cX5_goThrough 56 = .ok (.iconst 3, 1) := by decide +kernel
theorem dX5_goThrough_57 : decode cX5_goThrough 57 = .ok (.if_icmp .eq 6, 3) := by decide +kernel
theorem dX5_goThrough_60 : decode cX5_goThrough 60 = .ok (.goto 13, 3) := by decide +kernel
theorem dX5_goThrough_63 : decode cX5_goThrough 63 = .ok (.aload_n 1, 1) := by decide +kernel
theorem dX5_goThrough_64 : decode cX5_goThrough 64 = .ok (.invokevirtual 58, 3) := by decide +kernel
theorem dX5_goThrough_67 : decode cX5_goThrough 67 = .ok (.iinc 4 1, 3) := by decide +kernel
theorem dX5_goThrough_70 : decode cX5_goThrough 70 = .ok (.goto (-55), 3) := by decide +kernel
theorem dX5_goThrough_73 : decode cX5_goThrough 73 = .ok (.iconst (-1), 1) := by decide +kernel
theorem dX5_goThrough_74 : decode cX5_goThrough 74 = .ok (.aload_n 1, 1) := by decide +kernel
theorem dX5_goThrough_75 : decode cX5_goThrough 75 = .ok (.getfield 61, 3) := by decide +kernel
theorem dX5_goThrough_78 : decode cX5_goThrough 78 = .ok (.isub, 1) := by decide +kernel
theorem dX5_goThrough_79 : decode cX5_goThrough 79 = .ok (.ireturn, 1) := by decide +kernel
theorem dX5_passItem_0 : decode cX5_passItem 0 = .ok (.aload_n 1, 1) := by decide +kernel
theorem dX5_passItem_1 : decode cX5_passItem 1 = .ok (.ldc 64, 2) := by decide +kernel
theorem dX5_passItem_3 : decode cX5_passItem 3 = .ok (.invokevirtual 66, 3) := by decide +kernel
theorem dX5_passItem_6 : decode cX5_passItem 6 = .ok (.ifCond .eq 9, 3) := by decide +kernel
theorem dX5_passItem_9 : decode cX5_passItem 9 = .ok (.aload_n 0, 1) := by decide +kernel
theorem dX5_passItem_10 : decode cX5_passItem 10 = .ok (.aload_n 1, 1) := by decide +kernel
theorem dX5_passItem_11 : decode cX5_passItem 11 = .ok (.invokevirtual 70, 3) := by decide +kernel
theorem dX5_passItem_14 : decode cX5_passItem 14 = .ok (.ireturn, 1) := by decide +kernel
theorem dX5_passItem_15 : decode cX5_passItem 15 = .ok (.aload_n 1, 1) := by decide +kernel
theorem dX5_passItem_16 : decode cX5_passItem 16 = .ok (.ldc 73, 2) := by decide +kernel
theorem dX5_passItem_18 : decode cX5_passItem 18 = .ok (.invokevirtual 66, 3) := by decide +kernel
theorem dX5_passItem_21 : decode cX5_passItem 21 = .ok (.ifCond .eq 9, 3) := by decide +kernel
theorem dX5_passItem_24 : decode cX5_passItem 24 = .ok (.aload_n 0, 1) := by decide +kernel
theorem dX5_passItem_25 : decode cX5_passItem 25 = .ok (.aload_n 1, 1) := by decide +kernel
theorem dX5_passItem_26 : decode cX5_passItem 26 = .ok (.invokevirtual 75, 3) := by decide +kernel
theorem dX5_passItem_29 : decode cX5_passItem 29 = .ok (.ireturn, 1) := by decide +kernel
theorem dX5_passItem_30 : decode cX5_passItem 30 = .ok (.aload_n 1, 1) := by decide +kernel
theorem dX5_passItem_31 : decode cX5_passItem 31 = .ok (.ldc 78, 2) := by decide +kernel
theorem dX5_passItem_33 : decode cX5_passItem 33 = .ok (.invokevirtual 66, 3) := by decide +kernel
theorem dX5_passItem_36 : decode cX5_passItem 36 = .ok (.ifCond .eq 9, 3) := by decide +kernel
theorem dX5_passItem_39 : decode cX5_passItem 39 = .ok (.aload_n 0, 1) := by decide +kernel
theorem dX5_passItem_40 : decode cX5_passItem 40 = .ok (.aload_n 1, 1) := by decide +kernel
theorem dX5_passItem_41 : decode cX5_passItem 41 = .ok (.invokevirtual 79, 3) := by decide +kernel
theorem dX5_passItem_44 : decode cX5_passItem 44 = .ok (.ireturn, 1) := by decide +kernel
theorem dX5_passItem_45 : decode cX5_passItem 45 = .ok (.iconst 0, 1) := by decide +kernel
theorem dX5_passItem_46 : decode cX5_passItem 46 = .ok (.istore_n 2, 1) := by decide +kernel
theorem dX5_passItem_47 : decode cX5_passItem 47 = .ok (.iload_n 2, 1) := by decide +kernel
theorem dX5_passItem_48 : decode cX5_passItem 48 = .ok (.bipush 6, 2) := by decide +kernel
theorem dX5_passItem_50 : decode cX5_passItem 50 = .ok (.if_icmp .ge 35, 3) := by decide +kernel
theorem dX5_passItem_53 : decode cX5_passItem 53 = .ok (.aload_n 0, 1) := by decide +kernel
theorem dX5_passItem_54 : decode cX5_passItem 54 = .ok (.getfield 9, 3) := by decide +kernel
theorem dX5_passItem_57 : decode cX5_passItem 57 = .ok (.bipush 6, 2) := by decide +kernel
theorem dX5_passItem_59 : decode cX5_passItem 59 = .ok (.if_icmp .ge 26, 3) := by decide +kernel
theorem dX5_passItem_62 : decode cX5_passItem 62 = .ok (.aload_n 1, 1) := by decide +kernel
theorem dX5_passItem_63 : decode cX5_passItem 63 = .ok (.iload_n 2, 1) := by decide +kernel
theorem dX5_passItem_64 : decode cX5_passItem 64 = .ok (.invokestatic 82, 3) := by decide +kernel
theorem dX5_passItem_67 : decode cX5_passItem 67 = .ok (.invokevirtual 66, 3) := by decide +kernel
theorem dX5_passItem_70 : decode cX5_passItem 70 = .ok (.ifCond .eq 9, 3) := by decide +kernel
theorem dX5_passItem_73 : decode cX5_passItem 73 = .ok (.aload_n 0, 1) := by decide +kernel
theorem dX5_passItem_74 : decode cX5_passItem 74 = .ok (.iload_n 2, 1) := by decide +kernel
theorem dX5_passItem_75 : decode cX5_passItem 75 = .ok (.invokevirtual 88, 3) := by decide +kernel
theorem dX5_passItem_78 : decode cX5_passItem 78 = .ok (.ireturn, 1) := by decide +kernel
theorem dX5_passItem_79 : decode cX5_passItem 79 = .ok (.iinc 2 1, 3) := by decide +kernel
theorem dX5_passItem_82 : decode cX5_passItem 82 = .ok (.goto (-35), 3) := by decide +kernel
theorem dX5_passItem_85 : decode cX5_passItem 85 = .ok (.iconst 0, 1) := by decide +kernel
theorem dX5_passItem_86 : decode cX5_passItem 86 = .ok (.ireturn, 1) := by decide +kernel
theorem dX5_passFlue_0 : decode cX5_passFlue 0 = .ok (.aload_n 0, 1) := by decide +kernel
theorem dX5_passFlue_1 : decode cX5_passFlue 1 = .ok (.iconst 0, 1) := by decide +kernel
theorem dX5_passFlue_2 : decode cX5_passFlue 2 = .ok (.putfield 15, 3) := by decide +kernel
theorem dX5_passFlue_5 : decode cX5_passFlue 5 = .ok (.aload_n 0, 1) := by decide +kernel
theorem dX5_passFlue_6 : decode cX5_passFlue 6 = .ok (.iload_n 1, 1) := by decide +kernel
theorem dX5_passFlue_7 : decode cX5_passFlue 7 = .ok (.putfield 18, 3) := by decide +kernel
theorem dX5_passFlue_10 : decode cX5_passFlue 10 = .ok (.aload_n 0, 1) := by decide +kernel
theorem dX5_passFlue_11 : decode cX5_passFlue 11 = .ok (.dup, 1) := by decide +kernel
theorem dX5_passFlue_12 : decode cX5_passFlue 12 = .ok (.getfield 9, 3) := by decide +kernel
theorem dX5_passFlue_15 : decode cX5_passFlue 15 = .ok (.iconst 1, 1) := by decide +kernel
theorem dX5_passFlue_16 : decode cX5_passFlue 16 = .ok (.iadd, 1) := by decide +kernel
theorem dX5_passFlue_17 : decode cX5_passFlue 17 = .ok (.putfield 9, 3) := by decide +kernel
theorem dX5_passFlue_20 : decode cX5_passFlue 20 = .ok (.iconst 1, 1) := by decide +kernel
theorem dX5_passFlue_21 : decode cX5_passFlue 21 = .ok (.ireturn, 1) := by decide +kernel
theorem dX5_passSaying_0 : decode cX5_passSaying 0 = .ok (.aload_n 0, 1) := by decide +kernel
theorem dX5_passSaying_1 : decode cX5_passSaying 1 = .ok (.iconst 1, 1) := by decide +kernel
theorem dX5_passSaying_2 : decode cX5_passSaying 2 = .ok (.putfield 15, 3) := by decide +kernel
theorem dX5_passSaying_5 : decode cX5_passSaying 5 = .ok (.aload_n 0, 1) := by decide +kernel
theorem dX5_passSaying_6 : decode cX5_passSaying 6 = .ok (.aload_n 1, 1) := by decide +kernel
theorem dX5_passSaying_7 : decode cX5_passSaying 7 = .ok (.aload_n 0, 1) := by decide +kernel
theorem dX5_passSaying_8 : decode cX5_passSaying 8 = .ok (.getfield 9, 3) := by decide +kernel
theorem dX5_passSaying_11 : decode cX5_passSaying 11 = .ok (.invokevirtual 92, 3) := by decide +kernel
theorem dX5_passSaying_14 : decode cX5_passSaying 14 = .ok (.putfield 21, 3) := by decide +kernel
theorem dX5_passSaying_17 : decode cX5_passSaying 17 = .ok (.aload_n 0, 1) := by decide +kernel
theorem dX5_passSaying_18 : decode cX5_passSaying 18 = .ok (.getfield 21, 3) := by decide +kernel
theorem dX5_passSaying_21 : decode cX5_passSaying 21 = .ok (.ifCond .ge 5, 3) := by decide +kernel
theorem dX5_passSaying_24 : decode cX5_passSaying 24 = .ok (.iconst 0, 1) := by decide +kernel
theorem dX5_passSaying_25 : decode cX5_passSaying 25 = .ok (.ireturn, 1) := by decide +kernel
theorem dX5_passSaying_26 : decode cX5_passSaying 26 = .ok (.aload_n 0, 1) := by decide +kernel
theorem dX5_passSaying_27 : decode cX5_passSaying 27 = .ok (.aload_n 1, 1) := by decide +kernel
theorem dX5_passSaying_28 : decode cX5_passSaying 28 = .ok (.bipush 16, 2) := by decide +kernel
theorem dX5_passSaying_30 : decode cX5_passSaying 30 = .ok (.invokevirtual 92, 3) := by decide +kernel
theorem dX5_passSaying_33 : decode cX5_passSaying 33 = .ok (.putfield 27, 3) := by decide +kernel
theorem dX5_passSaying_36 : decode cX5_passSaying 36 = .ok (.aload_n 0, 1) := by decide +kernel
theorem dX5_passSaying_37 : decode cX5_passSaying 37 = .ok (.getfield 27, 3) := by decide +kernel
theorem dX5_passSaying_40 : decode cX5_passSaying 40 = .ok (.ifCond .ge 5, 3) := by decide +kernel
theorem dX5_passSaying_43 : decode cX5_passSaying 43 = .ok (.iconst 0, 1) := by decide +kernel
theorem dX5_passSaying_44 : decode cX5_passSaying 44 = .ok (.ireturn, 1) := by decide +kernel
theorem dX5_passSaying_45 : decode cX5_passSaying 45 = .ok (.aload_n 0, 1) := by decide +kernel
theorem dX5_passSaying_46 : decode cX5_passSaying 46 = .ok (.aload_n 1, 1) := by decide +kernel
theorem dX5_passSaying_47 : decode cX5_passSaying 47 = .ok (.ldc 96, 2) := by decide +kernel
theorem dX5_passSaying_49 : decode cX5_passSaying 49 = .ok (.invokevirtual 66, 3) := by decide +kernel
theorem dX5_passSaying_52 : decode cX5_passSaying 52 = .ok (.ifCond .eq 12, 3) := by decide +kernel
theorem dX5_passSaying_55 : decode cX5_passSaying 55 = .ok (.aload_n 1, 1) := by decide +kernel
theorem dX5_passSaying_56 : decode cX5_passSaying 56 = .ok (.bipush 10, 2) := by decide +kernel
theorem dX5_passSaying_58 : decode cX5_passSaying 58 = .ok (.invokevirtual 92, 3) := by decide +kernel
theorem dX5_passSaying_61 : decode cX5_passSaying 61 = .ok (.goto 4, 3) := by decide +kernel
theorem dX5_passSaying_64 : decode cX5_passSaying 64 = .ok (.iconst 5, 1) := by decide +kernel
theorem dX5_passSaying_65 : decode cX5_passSaying 65 = .ok (.putfield 30, 3) := by decide +kernel
theorem dX5_passSaying_68 : decode cX5_passSaying 68 = .ok (.aload_n 0, 1) := by decide +kernel
theorem dX5_passSaying_69 : decode cX5_passSaying 69 = .ok (.getfield 30, 3) := by decide +kernel
theorem dX5_passSaying_72 : decode cX5_passSaying 72 = .ok (.ifCond .lt 7, 3) := by decide +kernel
theorem dX5_passSaying_75 : decode cX5_passSaying 75 = .ok (.iconst 1, 1) := by decide +kernel
theorem dX5_passSaying_76 : decode cX5_passSaying 76 = .ok (.goto 4, 3) := by decide +kernel
theorem dX5_passSaying_79 : decode cX5_passSaying 79 = .ok (.iconst 0, 1) := by decide +kernel
theorem dX5_passSaying_80 : decode cX5_passSaying 80 = .ok (.ireturn, 1) := by decide +kernel
theorem dX5_passLayer_0 : decode cX5_passLayer 0 = .ok (.aload_n 0, 1) := by decide +kernel
theorem dX5_passLayer_1 : decode cX5_passLayer 1 = .ok (.iconst 2, 1) := by decide +kernel
theorem dX5_passLayer_2 : decode cX5_passLayer 2 = .ok (.putfield 15, 3) := by decide +kernel
theorem dX5_passLayer_5 : decode cX5_passLayer 5 = .ok (.aload_n 0, 1) := by decide +kernel
theorem dX5_passLayer_6 : decode cX5_passLayer 6 = .ok (.aload_n 1, 1) := by decide +kernel
theorem dX5_passLayer_7 : decode cX5_passLayer 7 = .ok (.aload_n 0, 1) := by decide +kernel
theorem dX5_passLayer_8 : decode cX5_passLayer 8 = .ok (.getfield 9, 3) := by decide +kernel
theorem dX5_passLayer_11 : decode cX5_passLayer 11 = .ok (.invokevirtual 92, 3) := by decide +kernel
theorem dX5_passLayer_14 : decode cX5_passLayer 14 = .ok (.putfield 21, 3) := by decide +kernel
theorem dX5_passLayer_17 : decode cX5_passLayer 17 = .ok (.aload_n 0, 1) := by decide +kernel
theorem dX5_passLayer_18 : decode cX5_passLayer 18 = .ok (.getfield 21, 3) := by decide +kernel
theorem dX5_passLayer_21 : decode cX5_passLayer 21 = .ok (.ifCond .ge 5, 3) := by decide +kernel
theorem dX5_passLayer_24 : decode cX5_passLayer 24 = .ok (.iconst 0, 1) := by decide +kernel
theorem dX5_passLayer_25 : decode cX5_passLayer 25 = .ok (.ireturn, 1) := by decide +kernel
theorem dX5_passLayer_26 : decode cX5_passLayer 26 = .ok (.aload_n 0, 1) := by decide +kernel
theorem dX5_passLayer_27 : decode cX5_passLayer 27 = .ok (.aload_n 1, 1) := by decide +kernel
theorem dX5_passLayer_28 : decode cX5_passLayer 28 = .ok (.bipush 8, 2) := by decide +kernel
theorem dX5_passLayer_30 : decode cX5_passLayer 30 = .ok (.invokevirtual 92, 3) := by decide +kernel
theorem dX5_passLayer_33 : decode cX5_passLayer 33 = .ok (.putfield 24, 3) := by decide +kernel
theorem dX5_passLayer_36 : decode cX5_passLayer 36 = .ok (.aload_n 0, 1) := by decide +kernel
theorem dX5_passLayer_37 : decode cX5_passLayer 37 = .ok (.getfield 24, 3) := by decide +kernel
theorem dX5_passLayer_40 : decode cX5_passLayer 40 = .ok (.ifCond .ge 5, 3) := by decide +kernel
theorem dX5_passLayer_43 : decode cX5_passLayer 43 = .ok (.iconst 0, 1) := by decide +kernel
theorem dX5_passLayer_44 : decode cX5_passLayer 44 = .ok (.ireturn, 1) := by decide +kernel
theorem dX5_passLayer_45 : decode cX5_passLayer 45 = .ok (.aload_n 0, 1) := by decide +kernel
theorem dX5_passLayer_46 : decode cX5_passLayer 46 = .ok (.aload_n 1, 1) := by decide +kernel
theorem dX5_passLayer_47 : decode cX5_passLayer 47 = .ok (.bipush 16, 2) := by decide +kernel
theorem dX5_passLayer_49 : decode cX5_passLayer 49 = .ok (.invokevirtual 92, 3) := by decide +kernel
theorem dX5_passLayer_52 : decode cX5_passLayer 52 = .ok (.putfield 27, 3) := by decide +kernel
theorem dX5_passLayer_55 : decode cX5_passLayer 55 = .ok (.aload_n 0, 1) := by decide +kernel
theorem dX5_passLayer_56 : decode cX5_passLayer 56 = .ok (.getfield 27, 3) := by decide +kernel
theorem dX5_passLayer_59 : decode cX5_passLayer 59 = .ok (.ifCond .ge 5, 3) := by decide +kernel
theorem dX5_passLayer_62 : decode cX5_passLayer 62 = .ok (.iconst 0, 1) := by decide +kernel
theorem dX5_passLayer_63 : decode cX5_passLayer 63 = .ok (.ireturn, 1) := by decide +kernel
theorem dX5_passLayer_64 : decode cX5_passLayer 64 = .ok (.aload_n 0, 1) := by decide +kernel
theorem dX5_passLayer_65 : decode cX5_passLayer 65 = .ok (.aload_n 1, 1) := by decide +kernel
theorem dX5_passLayer_66 : decode cX5_passLayer 66 = .ok (.ldc 97, 2) := by decide +kernel
theorem dX5_passLayer_68 : decode cX5_passLayer 68 = .ok (.invokevirtual 66, 3) := by decide +kernel
theorem dX5_passLayer_71 : decode cX5_passLayer 71 = .ok (.ifCond .eq 12, 3) := by decide +kernel
theorem dX5_passLayer_74 : decode cX5_passLayer 74 = .ok (.aload_n 1, 1) := by decide +kernel
theorem dX5_passLayer_75 : decode cX5_passLayer 75 = .ok (.bipush 10, 2) := by decide +kernel
theorem dX5_passLayer_77 : decode cX5_passLayer 77 = .ok (.invokevirtual 92, 3) := by decide +kernel
theorem dX5_passLayer_80 : decode cX5_passLayer 80 = .ok (.goto 4, 3) := by decide +kernel
theorem dX5_passLayer_83 : decode cX5_passLayer 83 = .ok (.iconst 0, 1) := by decide +kernel
theorem dX5_passLayer_84 : decode cX5_passLayer 84 = .ok (.putfield 33, 3) := by decide +kernel
theorem dX5_passLayer_87 : decode cX5_passLayer 87 = .ok (.aload_n 0, 1) := by decide +kernel
theorem dX5_passLayer_88 : decode cX5_passLayer 88 = .ok (.getfield 33, 3) := by decide +kernel
theorem dX5_passLayer_91 : decode cX5_passLayer 91 = .ok (.ifCond .lt 7, 3) := by decide +kernel
theorem dX5_passLayer_94 : decode cX5_passLayer 94 = .ok (.iconst 1, 1) := by decide +kernel
theorem dX5_passLayer_95 : decode cX5_passLayer 95 = .ok (.goto 4, 3) := by decide +kernel
theorem dX5_passLayer_98 : decode cX5_passLayer 98 = .ok (.iconst 0, 1) := by decide +kernel
theorem dX5_passLayer_99 : decode cX5_passLayer 99 = .ok (.ireturn, 1) := by decide +kernel
theorem dX5_passDamp_0 : decode cX5_passDamp 0 = .ok (.aload_n 0, 1) := by decide +kernel
theorem dX5_passDamp_1 : decode cX5_passDamp 1 = .ok (.iconst 3, 1) := by decide +kernel
theorem dX5_passDamp_2 : decode cX5_passDamp 2 = .ok (.putfield 15, 3) := by decide +kernel
theorem dX5_passDamp_5 : decode cX5_passDamp 5 = .ok (.aload_n 0, 1) := by decide +kernel
theorem dX5_passDamp_6 : decode cX5_passDamp 6 = .ok (.aload_n 1, 1) := by decide +kernel
theorem dX5_passDamp_7 : decode cX5_passDamp 7 = .ok (.bipush 10, 2) := by decide +kernel
theorem dX5_passDamp_9 : decode cX5_passDamp 9 = .ok (.invokevirtual 92, 3) := by decide +kernel
theorem dX5_passDamp_12 : decode cX5_passDamp 12 = .ok (.putfield 36, 3) := by decide +kernel
theorem dX5_passDamp_15 : decode cX5_passDamp 15 = .ok (.aload_n 0, 1) := by decide +kernel
theorem dX5_passDamp_16 : decode cX5_passDamp 16 = .ok (.getfield 36, 3) := by decide +kernel
theorem dX5_passDamp_19 : decode cX5_passDamp 19 = .ok (.ifCond .lt 7, 3) := by decide +kernel
theorem dX5_passDamp_22 : decode cX5_passDamp 22 = .ok (.iconst 1, 1) := by decide +kernel
theorem dX5_passDamp_23 : decode cX5_passDamp 23 = .ok (.goto 4, 3) := by decide +kernel
theorem dX5_passDamp_26 : decode cX5_passDamp 26 = .ok (.iconst 0, 1) := by decide +kernel
theorem dX5_passDamp_27 : decode cX5_passDamp 27 = .ok (.ireturn, 1) := by decide +kernel
theorem dX5_perform_0 : decode cX5_perform 0 = .ok (.aload_n 0, 1) := by decide +kernel
theorem dX5_perform_1 : decode cX5_perform 1 = .ok (.getfield 15, 3) := by decide +kernel
theorem dX5_perform_4 : decode cX5_perform 4 = .ok (.tableswitch 82 1 3 #[28, 48, 71], 28) := by decide +kernel
theorem dX5_perform_32 : decode cX5_perform 32 = .ok (.aload_n 1, 1) := by decide +kernel
theorem dX5_perform_33 : decode cX5_perform 33 = .ok (.aload_n 0, 1) := by decide +kernel
theorem dX5_perform_34 : decode cX5_perform 34 = .ok (.getfield 21, 3) := by decide +kernel
theorem dX5_perform_37 : decode cX5_perform 37 = .ok (.aload_n 0, 1) := by decide +kernel
theorem dX5_perform_38 : decode cX5_perform 38 = .ok (.getfield 27, 3) := by decide +kernel
theorem dX5_perform_41 : decode cX5_perform 41 = .ok (.aload_n 0, 1) := by decide +kernel
theorem dX5_perform_42 : decode cX5_perform 42 = .ok (.getfield 30, 3) := by decide +kernel
theorem dX5_perform_45 : decode cX5_perform 45 = .ok (.invokevirtual 98, 3) := by decide +kernel
theorem dX5_perform_48 : decode cX5_perform 48 = .ok (.pop, 1) := by decide +kernel
theorem dX5_perform_49 : decode cX5_perform 49 = .ok (.goto 46, 3) := by decide +kernel
theorem dX5_perform_52 : decode cX5_perform 52 = .ok (.aload_n 1, 1) := by decide +kernel
theorem dX5_perform_53 : decode cX5_perform 53 = .ok (.aload_n 0, 1) := by decide +kernel
theorem dX5_perform_54 : decode cX5_perform 54 = .ok (.getfield 21, 3) := by decide +kernel
theorem dX5_perform_57 : decode cX5_perform 57 = .ok (.aload_n 0, 1) := by decide +kernel
theorem dX5_perform_58 : decode cX5_perform 58 = .ok (.getfield 24, 3) := by decide +kernel
theorem dX5_perform_61 : decode cX5_perform 61 = .ok (.aload_n 0, 1) := by decide +kernel
theorem dX5_perform_62 : decode cX5_perform 62 = .ok (.getfield 27, 3) := by decide +kernel
theorem dX5_perform_65 : decode cX5_perform 65 = .ok (.aload_n 0, 1) := by decide +kernel
theorem dX5_perform_66 : decode cX5_perform 66 = .ok (.getfield 33, 3) := by decide +kernel
theorem dX5_perform_69 : decode cX5_perform 69 = .ok (.invokevirtual 102, 3) := by decide +kernel
theorem dX5_perform_72 : decode cX5_perform 72 = .ok (.goto 23, 3) := by decide +kernel
theorem dX5_perform_75 : decode cX5_perform 75 = .ok (.aload_n 1, 1) := by decide +kernel
theorem dX5_perform_76 : decode cX5_perform 76 = .ok (.aload_n 0, 1) := by decide +kernel
theorem dX5_perform_77 : decode cX5_perform 77 = .ok (.getfield 36, 3) := by decide +kernel
theorem dX5_perform_80 : decode cX5_perform 80 = .ok (.putfield 106, 3) := by decide +kernel
theorem dX5_perform_83 : decode cX5_perform 83 = .ok (.goto 12, 3) := by decide +kernel
theorem dX5_perform_86 : decode cX5_perform 86 = .ok (.aload_n 1, 1) := by decide +kernel
theorem dX5_perform_87 : decode cX5_perform 87 = .ok (.aload_n 0, 1) := by decide +kernel
theorem dX5_perform_88 : decode cX5_perform 88 = .ok (.getfield 18, 3) := by decide +kernel
theorem dX5_perform_91 : decode cX5_perform 91 = .ok (.invokevirtual 107, 3) := by decide +kernel
theorem dX5_perform_94 : decode cX5_perform 94 = .ok (.pop, 1) := by decide +kernel
theorem dX5_perform_95 : decode cX5_perform 95 = .ok (.return_, 1) := by decide +kernel
theorem dX6_init_0 : decode cX6_init 0 = .ok (.aload_n 0, 1) := by decide +kernel
theorem dX6_init_1 : decode cX6_init 1 = .ok (.invokespecial 3, 3) := by decide +kernel
theorem dX6_init_4 : decode cX6_init 4 = .ok (.aload_n 0, 1) := by decide +kernel
theorem dX6_init_5 : decode cX6_init 5 = .ok (.iconst 0, 1) := by decide +kernel
theorem dX6_init_6 : decode cX6_init 6 = .ok (.putfield 9, 3) := by decide +kernel
theorem dX6_init_9 : decode cX6_init 9 = .ok (.aload_n 0, 1) := by decide +kernel
theorem dX6_init_10 : decode cX6_init 10 = .ok (.iconst 0, 1) := by decide +kernel
theorem dX6_init_11 : decode cX6_init 11 = .ok (.putfield 15, 3) := by decide +kernel
theorem dX6_init_14 : decode cX6_init 14 = .ok (.aload_n 0, 1) := by decide +kernel
theorem dX6_init_15 : decode cX6_init 15 = .ok (.bipush 8, 2) := by decide +kernel
theorem dX6_init_17 : decode cX6_init 17 = .ok (.newarray .int, 2) := by decide +kernel
theorem dX6_init_19 : decode cX6_init 19 = .ok (.putfield 18, 3) := by decide +kernel
theorem dX6_init_22 : decode cX6_init 22 = .ok (.return_, 1) := by decide +kernel
theorem dX6_speakAll_0 : decode cX6_speakAll 0 = .ok (.aload_n 0, 1) := by decide +kernel
theorem dX6_speakAll_1 : decode cX6_speakAll 1 = .ok (.iconst 0, 1) := by decide +kernel
theorem dX6_speakAll_2 : decode cX6_speakAll 2 = .ok (.putfield 9, 3) := by decide +kernel
theorem dX6_speakAll_5 : decode cX6_speakAll 5 = .ok (.aload_n 0, 1) := by decide +kernel
theorem dX6_speakAll_6 : decode cX6_speakAll 6 = .ok (.iconst 0, 1) := by decide +kernel
theorem dX6_speakAll_7 : decode cX6_speakAll 7 = .ok (.putfield 15, 3) := by decide +kernel
theorem dX6_speakAll_10 : decode cX6_speakAll 10 = .ok (.iconst 0, 1) := by decide +kernel
theorem dX6_speakAll_11 : decode cX6_speakAll 11 = .ok (.istore 6, 2) := by decide +kernel
end
section
theorem dX6_speakAll_13 : decode cX6_speakAll 13 = .ok (.iload 6, 2) := by decide +kernel
theorem dX6_speakAll_15 : decode cX6_speakAll 15 = .ok (.bipush 8, 2) := by decide +kernel
theorem dX6_speakAll_17 : decode cX6_speakAll 17 = .ok (.if_icmp .ge 23, 3) := by decide +kernel
theorem dX6_speakAll_20 : decode cX6_speakAll 20 = .ok (.aload_n 0, 1) := by decide +kernel
theorem dX6_speakAll_21 : decode cX6_speakAll 21 = .ok (.getfield 18, 3) := by decide +kernel
theorem dX6_speakAll_24 : decode cX6_speakAll 24 = .ok (.iload 6, 2) := by decide +kernel
theorem dX6_speakAll_26 : decode cX6_speakAll 26 = .ok (.aload_n 1, 1) := by decide +kernel
theorem dX6_speakAll_27 : decode cX6_speakAll 27 = .ok (.iload_n 2, 1) := by decide +kernel
theorem dX6_speakAll_28 : decode cX6_speakAll 28 = .ok (.iload 6, 2) := by decide +kernel
theorem dX6_speakAll_30 : decode cX6_speakAll 30 = .ok (.invokevirtual 22, 3) := by decide +kernel
theorem dX6_speakAll_33 : decode cX6_speakAll 33 = .ok (.iastore, 1) := by decide +kernel
theorem dX6_speakAll_34 : decode cX6_speakAll 34 = .ok (.iinc 6 1, 3) := by decide +kernel
theorem dX6_speakAll_37 : decode cX6_speakAll 37 = .ok (.goto (-24), 3) := by decide +kernel
theorem dX6_speakAll_40 : decode cX6_speakAll 40 = .ok (.iconst 0, 1) := by decide +kernel
theorem dX6_speakAll_41 : decode cX6_speakAll 41 = .ok (.istore 6, 2) := by decide +kernel
theorem dX6_speakAll_43 : decode cX6_speakAll 43 = .ok (.iload 6, 2) := by decide +kernel
theorem dX6_speakAll_45 : decode cX6_speakAll 45 = .ok (.bipush 16, 2) := by decide +kernel
theorem dX6_speakAll_47 : decode cX6_speakAll 47 = .ok (.if_icmp .ge 36, 3) := by decide +kernel
theorem dX6_speakAll_50 : decode cX6_speakAll 50 = .ok (.iload 4, 2) := by decide +kernel
theorem dX6_speakAll_52 : decode cX6_speakAll 52 = .ok (.iload 6, 2) := by decide +kernel
theorem dX6_speakAll_54 : decode cX6_speakAll 54 = .ok (.invokestatic 28, 3) := by decide +kernel
theorem dX6_speakAll_57 : decode cX6_speakAll 57 = .ok (.ifCond .eq 20, 3) := by decide +kernel
theorem dX6_speakAll_60 : decode cX6_speakAll 60 = .ok (.aload_n 0, 1) := by decide +kernel
theorem dX6_speakAll_61 : decode cX6_speakAll 61 = .ok (.iload_n 3, 1) := by decide +kernel
theorem dX6_speakAll_62 : decode cX6_speakAll 62 = .ok (.iload_n 3, 1) := by decide +kernel
theorem dX6_speakAll_63 : decode cX6_speakAll 63 = .ok (.iload 6, 2) := by decide +kernel
theorem dX6_speakAll_65 : decode cX6_speakAll 65 = .ok (.iload 5, 2) := by decide +kernel
theorem dX6_speakAll_67 : decode cX6_speakAll 67 = .ok (.aload_n 1, 1) := by decide +kernel
theorem dX6_speakAll_68 : decode cX6_speakAll 68 = .ok (.getfield 32, 3) := by decide +kernel
theorem dX6_speakAll_71 : decode cX6_speakAll 71 = .ok (.invokestatic 35, 3) := by decide +kernel
theorem dX6_speakAll_74 : decode cX6_speakAll 74 = .ok (.invokevirtual 41, 3) := by decide +kernel
theorem dX6_speakAll_77 : decode cX6_speakAll 77 = .ok (.iinc 6 1, 3) := by decide +kernel
theorem dX6_speakAll_80 : decode cX6_speakAll 80 = .ok (.goto (-37), 3) := by decide +kernel
theorem dX6_speakAll_83 : decode cX6_speakAll 83 = .ok (.return_, 1) := by decide +kernel
theorem dX6_settleOne_0 : decode cX6_settleOne 0 = .ok (.iload_n 1, 1) := by decide +kernel
theorem dX6_settleOne_1 : decode cX6_settleOne 1 = .ok (.iload_n 2, 1) := by decide +kernel
theorem dX6_settleOne_2 : decode cX6_settleOne 2 = .ok (.aload_n 0, 1) := by decide +kernel
theorem dX6_settleOne_3 : decode cX6_settleOne 3 = .ok (.getfield 18, 3) := by decide +kernel
theorem dX6_settleOne_6 : decode cX6_settleOne 6 = .ok (.iconst 0, 1) := by decide +kernel
theorem dX6_settleOne_7 : decode cX6_settleOne 7 = .ok (.invokestatic 45, 3) := by decide +kernel
theorem dX6_settleOne_10 : decode cX6_settleOne 10 = .ok (.istore_n 3, 1) := by decide +kernel
theorem dX6_settleOne_11 : decode cX6_settleOne 11 = .ok (.aload_n 0, 1) := by decide +kernel
theorem dX6_settleOne_12 : decode cX6_settleOne 12 = .ok (.dup, 1) := by decide +kernel
theorem dX6_settleOne_13 : decode cX6_settleOne 13 = .ok (.getfield 15, 3) := by decide +kernel
theorem dX6_settleOne_16 : decode cX6_settleOne 16 = .ok (.iload_n 3, 1) := by decide +kernel
theorem dX6_settleOne_17 : decode cX6_settleOne 17 = .ok (.iadd, 1) := by decide +kernel
theorem dX6_settleOne_18 : decode cX6_settleOne 18 = .ok (.putfield 15, 3) := by decide +kernel
theorem dX6_settleOne_21 : decode cX6_settleOne 21 = .ok (.iload_n 3, 1) := by decide +kernel
theorem dX6_settleOne_22 : decode cX6_settleOne 22 = .ok (.invokestatic 49, 3) := by decide +kernel
theorem dX6_settleOne_25 : decode cX6_settleOne 25 = .ok (.ifCond .ne 4, 3) := by decide +kernel
theorem dX6_settleOne_28 : decode cX6_settleOne 28 = .ok (.return_, 1) := by decide +kernel
theorem dX6_settleOne_29 : decode cX6_settleOne 29 = .ok (.aload_n 0, 1) := by decide +kernel
theorem dX6_settleOne_30 : decode cX6_settleOne 30 = .ok (.getfield 18, 3) := by decide +kernel
theorem dX6_settleOne_33 : decode cX6_settleOne 33 = .ok (.iload_n 3, 1) := by decide +kernel
theorem dX6_settleOne_34 : decode cX6_settleOne 34 = .ok (.dup2, 1) := by decide +kernel
theorem dX6_settleOne_35 : decode cX6_settleOne 35 = .ok (.iaload, 1) := by decide +kernel
theorem dX6_settleOne_36 : decode cX6_settleOne 36 = .ok (.iconst 1, 1) := by decide +kernel
theorem dX6_settleOne_37 : decode cX6_settleOne 37 = .ok (.iadd, 1) := by decide +kernel
theorem dX6_settleOne_38 : decode cX6_settleOne 38 = .ok (.iastore, 1) := by decide +kernel
theorem dX6_settleOne_39 : decode cX6_settleOne 39 = .ok (.aload_n 0, 1) := by decide +kernel
theorem dX6_settleOne_40 : decode cX6_settleOne 40 = .ok (.dup, 1) := by decide +kernel
theorem dX6_settleOne_41 : decode cX6_settleOne 41 = .ok (.getfield 9, 3) := by decide +kernel
theorem dX6_settleOne_44 : decode cX6_settleOne 44 = .ok (.iconst 1, 1) := by decide +kernel
theorem dX6_settleOne_45 : decode cX6_settleOne 45 = .ok (.iadd, 1) := by decide +kernel
theorem dX6_settleOne_46 : decode cX6_settleOne 46 = .ok (.putfield 9, 3) := by decide +kernel
theorem dX6_settleOne_49 : decode cX6_settleOne 49 = .ok (.return_, 1) := by decide +kernel
theorem dX7_init_0 : decode cX7_init 0 = .ok (.aload_n 0, 1) := by decide +kernel
theorem dX7_init_1 : decode cX7_init 1 = .ok (.invokespecial 1, 3) := by decide +kernel
theorem dX7_init_4 : decode cX7_init 4 = .ok (.aload_n 0, 1) := by decide +kernel
theorem dX7_init_5 : decode cX7_init 5 = .ok (.new 7, 3) := by decide +kernel
theorem dX7_init_8 : decode cX7_init 8 = .ok (.dup, 1) := by decide +kernel
theorem dX7_init_9 : decode cX7_init 9 = .ok (.invokespecial 9, 3) := by decide +kernel
theorem dX7_init_12 : decode cX7_init 12 = .ok (.putfield 10, 3) := by decide +kernel
theorem dX7_init_15 : decode cX7_init 15 = .ok (.aload_n 0, 1) := by decide +kernel
theorem dX7_init_16 : decode cX7_init 16 = .ok (.new 7, 3) := by decide +kernel
theorem dX7_init_19 : decode cX7_init 19 = .ok (.dup, 1) := by decide +kernel
theorem dX7_init_20 : decode cX7_init 20 = .ok (.invokespecial 9, 3) := by decide +kernel
theorem dX7_init_23 : decode cX7_init 23 = .ok (.putfield 16, 3) := by decide +kernel
theorem dX7_init_26 : decode cX7_init 26 = .ok (.aload_n 0, 1) := by decide +kernel
theorem dX7_init_27 : decode cX7_init 27 = .ok (.iconst 0, 1) := by decide +kernel
theorem dX7_init_28 : decode cX7_init 28 = .ok (.putfield 19, 3) := by decide +kernel
theorem dX7_init_31 : decode cX7_init 31 = .ok (.aload_n 0, 1) := by decide +kernel
theorem dX7_init_32 : decode cX7_init 32 = .ok (.new 23, 3) := by decide +kernel
theorem dX7_init_35 : decode cX7_init 35 = .ok (.dup, 1) := by decide +kernel
theorem dX7_init_36 : decode cX7_init 36 = .ok (.invokespecial 25, 3) := by decide +kernel
theorem dX7_init_39 : decode cX7_init 39 = .ok (.putfield 26, 3) := by decide +kernel
theorem dX7_init_42 : decode cX7_init 42 = .ok (.aload_n 0, 1) := by decide +kernel
theorem dX7_init_43 : decode cX7_init 43 = .ok (.new 30, 3) := by decide +kernel
theorem dX7_init_46 : decode cX7_init 46 = .ok (.dup, 1) := by decide +kernel
theorem dX7_init_47 : decode cX7_init 47 = .ok (.invokespecial 32, 3) := by decide +kernel
theorem dX7_init_50 : decode cX7_init 50 = .ok (.putfield 33, 3) := by decide +kernel
theorem dX7_init_53 : decode cX7_init 53 = .ok (.aload_n 0, 1) := by decide +kernel
theorem dX7_init_54 : decode cX7_init 54 = .ok (.new 37, 3) := by decide +kernel
theorem dX7_init_57 : decode cX7_init 57 = .ok (.dup, 1) := by decide +kernel
theorem dX7_init_58 : decode cX7_init 58 = .ok (.invokespecial 39, 3) := by decide +kernel
theorem dX7_init_61 : decode cX7_init 61 = .ok (.putfield 40, 3) := by decide +kernel
theorem dX7_init_64 : decode cX7_init 64 = .ok (.aload_n 0, 1) := by decide +kernel
theorem dX7_init_65 : decode cX7_init 65 = .ok (.new 44, 3) := by decide +kernel
theorem dX7_init_68 : decode cX7_init 68 = .ok (.dup, 1) := by decide +kernel
theorem dX7_init_69 : decode cX7_init 69 = .ok (.invokespecial 46, 3) := by decide +kernel
theorem dX7_init_72 : decode cX7_init 72 = .ok (.putfield 47, 3) := by decide +kernel
theorem dX7_init_75 : decode cX7_init 75 = .ok (.aload_n 0, 1) := by decide +kernel
theorem dX7_init_76 : decode cX7_init 76 = .ok (.new 51, 3) := by decide +kernel
theorem dX7_init_79 : decode cX7_init 79 = .ok (.dup, 1) := by decide +kernel
theorem dX7_init_80 : decode cX7_init 80 = .ok (.invokespecial 53, 3) := by decide +kernel
theorem dX7_init_83 : decode cX7_init 83 = .ok (.putfield 54, 3) := by decide +kernel
theorem dX7_init_86 : decode cX7_init 86 = .ok (.aload_n 0, 1) := by decide +kernel
theorem dX7_init_87 : decode cX7_init 87 = .ok (.bipush 7, 2) := by decide +kernel
theorem dX7_init_89 : decode cX7_init 89 = .ok (.newarray .int, 2) := by decide +kernel
theorem dX7_init_91 : decode cX7_init 91 = .ok (.putfield 58, 3) := by decide +kernel
theorem dX7_init_94 : decode cX7_init 94 = .ok (.aload_n 0, 1) := by decide +kernel
theorem dX7_init_95 : decode cX7_init 95 = .ok (.bipush 6, 2) := by decide +kernel
theorem dX7_init_97 : decode cX7_init 97 = .ok (.newarray .int, 2) := by decide +kernel
theorem dX7_init_99 : decode cX7_init 99 = .ok (.putfield 62, 3) := by decide +kernel
theorem dX7_init_102 : decode cX7_init 102 = .ok (.return_, 1) := by decide +kernel
theorem dX7_flue_0 : decode cX7_flue 0 = .ok (.iload_n 1, 1) := by decide +kernel
theorem dX7_flue_1 : decode cX7_flue 1 = .ok (.invokestatic 65, 3) := by decide +kernel
theorem dX7_flue_4 : decode cX7_flue 4 = .ok (.ifCond .ne 10, 3) := by decide +kernel
theorem dX7_flue_7 : decode cX7_flue 7 = .ok (.aload_n 0, 1) := by decide +kernel
theorem dX7_flue_8 : decode cX7_flue 8 = .ok (.ldc 69, 2) := by decide +kernel
theorem dX7_flue_10 : decode cX7_flue 10 = .ok (.invokevirtual 70, 3) := by decide +kernel
theorem dX7_flue_13 : decode cX7_flue 13 = .ok (.ireturn, 1) := by decide +kernel
theorem dX7_flue_14 : decode cX7_flue 14 = .ok (.aload_n 0, 1) := by decide +kernel
theorem dX7_flue_15 : decode cX7_flue 15 = .ok (.getfield 10, 3) := by decide +kernel
theorem dX7_flue_18 : decode cX7_flue 18 = .ok (.getfield 74, 3) := by decide +kernel
theorem dX7_flue_21 : decode cX7_flue 21 = .ok (.bipush 6, 2) := by decide +kernel
theorem dX7_flue_23 : decode cX7_flue 23 = .ok (.if_icmp .lt 10, 3) := by decide +kernel
theorem dX7_flue_26 : decode cX7_flue 26 = .ok (.aload_n 0, 1) := by decide +kernel
theorem dX7_flue_27 : decode cX7_flue 27 = .ok (.ldc 78, 2) := by decide +kernel
theorem dX7_flue_29 : decode cX7_flue 29 = .ok (.invokevirtual 70, 3) := by decide +kernel
theorem dX7_flue_32 : decode cX7_flue 32 = .ok (.ireturn, 1) := by decide +kernel
theorem dX7_flue_33 : decode cX7_flue 33 = .ok (.aload_n 0, 1) := by decide +kernel
theorem dX7_flue_34 : decode cX7_flue 34 = .ok (.getfield 10, 3) := by decide +kernel
theorem dX7_flue_37 : decode cX7_flue 37 = .ok (.iload_n 1, 1) := by decide +kernel
theorem dX7_flue_38 : decode cX7_flue 38 = .ok (.invokevirtual 79, 3) := by decide +kernel
theorem dX7_flue_41 : decode cX7_flue 41 = .ok (.ireturn, 1) := by decide +kernel
theorem dX7_of_0 : decode cX7_of 0 = .ok (.aload_n 0, 1) := by decide +kernel
theorem dX7_of_1 : decode cX7_of 1 = .ok (.getfield 10, 3) := by decide +kernel
theorem dX7_of_4 : decode cX7_of 4 = .ok (.iload_n 1, 1) := by decide +kernel
theorem dX7_of_5 : decode cX7_of 5 = .ok (.invokevirtual 82, 3) := by decide +kernel
theorem dX7_of_8 : decode cX7_of 8 = .ok (.ifCond .ne 10, 3) := by decide +kernel
theorem dX7_of_11 : decode cX7_of 11 = .ok (.aload_n 0, 1) := by decide +kernel
theorem dX7_of_12 : decode cX7_of 12 = .ok (.ldc 69, 2) := by decide +kernel
theorem dX7_of_14 : decode cX7_of 14 = .ok (.invokevirtual 70, 3) := by decide +kernel
theorem dX7_of_17 : decode cX7_of 17 = .ok (.ireturn, 1) := by decide +kernel
theorem dX7_of_18 : decode cX7_of 18 = .ok (.iload_n 2, 1) := by decide +kernel
theorem dX7_of_19 : decode cX7_of 19 = .ok (.tableswitch 88 0 4 #[33, 42, 51, 60, 69], 33) := by decide +kernel
theorem dX7_of_52 : decode cX7_of 52 = .ok (.aload_n 0, 1) := by decide +kernel
theorem dX7_of_53 : decode cX7_of 53 = .ok (.getfield 10, 3) := by decide +kernel
theorem dX7_of_56 : decode cX7_of 56 = .ok (.iload_n 1, 1) := by decide +kernel
theorem dX7_of_57 : decode cX7_of 57 = .ok (.invokevirtual 85, 3) := by decide +kernel
theorem dX7_of_60 : decode cX7_of 60 = .ok (.ireturn, 1) := by decide +kernel
theorem dX7_of_61 : decode cX7_of 61 = .ok (.aload_n 0, 1) := by decide +kernel
theorem dX7_of_62 : decode cX7_of 62 = .ok (.getfield 10, 3) := by decide +kernel
theorem dX7_of_65 : decode cX7_of 65 = .ok (.iload_n 1, 1) := by decide +kernel
theorem dX7_of_66 : decode cX7_of 66 = .ok (.invokevirtual 88, 3) := by decide +kernel
theorem dX7_of_69 : decode cX7_of 69 = .ok (.ireturn, 1) := by decide +kernel
theorem dX7_of_70 : decode cX7_of 70 = .ok (.aload_n 0, 1) := by decide +kernel
theorem dX7_of_71 : decode cX7_of 71 = .ok (.getfield 10, 3) := by decide +kernel
theorem dX7_of_74 : decode cX7_of 74 = .ok (.iload_n 1, 1) := by decide +kernel
theorem dX7_of_75 : decode cX7_of 75 = .ok (.invokevirtual 91, 3) := by decide +kernel
theorem dX7_of_78 : decode cX7_of 78 = .ok (.ireturn, 1) := by decide +kernel
theorem dX7_of_79 : decode cX7_of 79 = .ok (.aload_n 0, 1) := by decide +kernel
theorem dX7_of_80 : decode cX7_of 80 = .ok (.getfield 10, 3) := by decide +kernel
theorem dX7_of_83 : decode cX7_of 83 = .ok (.iload_n 1, 1) := by decide +kernel
theorem dX7_of_84 : decode cX7_of 84 = .ok (.invokevirtual 94, 3) := by decide +kernel
theorem dX7_of_87 : decode cX7_of 87 = .ok (.ireturn, 1) := by decide +kernel
theorem dX7_of_88 : decode cX7_of 88 = .ok (.aload_n 0, 1) := by decide +kernel
theorem dX7_of_89 : decode cX7_of 89 = .ok (.getfield 10, 3) := by decide +kernel
theorem dX7_of_92 : decode cX7_of 92 = .ok (.iload_n 1, 1) := by decide +kernel
theorem dX7_of_93 : decode cX7_of 93 = .ok (.invokevirtual 85, 3) := by decide +kernel
theorem dX7_of_96 : decode cX7_of 96 = .ok (.aload_n 0, 1) := by decide +kernel
theorem dX7_of_97 : decode cX7_of 97 = .ok (.getfield 10, 3) := by decide +kernel
theorem dX7_of_100 : decode cX7_of 100 = .ok (.getfield 97, 3) := by decide +kernel
theorem dX7_of_103 : decode cX7_of 103 = .ok (.invokestatic 100, 3) := by decide +kernel
theorem dX7_of_106 : decode cX7_of 106 = .ok (.ireturn, 1) := by decide +kernel
theorem dX7_of_107 : decode cX7_of 107 = .ok (.aload_n 0, 1) := by decide +kernel
theorem dX7_of_108 : decode cX7_of 108 = .ok (.ldc 69, 2) := by decide +kernel
theorem dX7_of_110 : decode cX7_of 110 = .ok (.invokevirtual 70, 3) := by decide +kernel
theorem dX7_of_113 : decode cX7_of 113 = .ok (.ireturn, 1) := by decide +kernel
theorem dX7_bend_0 : decode cX7_bend 0 = .ok (.aload_n 0, 1) := by decide +kernel
theorem dX7_bend_1 : decode cX7_bend 1 = .ok (.iload_n 1, 1) := by decide +kernel
theorem dX7_bend_2 : decode cX7_bend 2 = .ok (.iload_n 2, 1) := by decide +kernel
theorem dX7_bend_3 : decode cX7_bend 3 = .ok (.invokevirtual 106, 3) := by decide +kernel
theorem dX7_bend_6 : decode cX7_bend 6 = .ok (.ifCond .ne 10, 3) := by decide +kernel
theorem dX7_bend_9 : decode cX7_bend 9 = .ok (.aload_n 0, 1) := by decide +kernel
theorem dX7_bend_10 : decode cX7_bend 10 = .ok (.ldc 69, 2) := by decide +kernel
theorem dX7_bend_12 : decode cX7_bend 12 = .ok (.invokevirtual 70, 3) := by decide +kernel
theorem dX7_bend_15 : decode cX7_bend 15 = .ok (.ireturn, 1) := by decide +kernel
theorem dX7_bend_16 : decode cX7_bend 16 = .ok (.iload_n 3, 1) := by decide +kernel
theorem dX7_bend_17 : decode cX7_bend 17 = .ok (.tableswitch 60 0 2 #[27, 37, 50], 27) := by decide +kernel
theorem dX7_bend_44 : decode cX7_bend 44 = .ok (.aload_n 0, 1) := by decide +kernel
theorem dX7_bend_45 : decode cX7_bend 45 = .ok (.getfield 10, 3) := by decide +kernel
theorem dX7_bend_48 : decode cX7_bend 48 = .ok (.iload_n 1, 1) := by decide +kernel
theorem dX7_bend_49 : decode cX7_bend 49 = .ok (.iload_n 2, 1) := by decide +kernel
theorem dX7_bend_50 : decode cX7_bend 50 = .ok (.invokevirtual 110, 3) := by decide +kernel
theorem dX7_bend_53 : decode cX7_bend 53 = .ok (.ireturn, 1) := by decide +kernel
theorem dX7_bend_54 : decode cX7_bend 54 = .ok (.aload_n 0, 1) := by decide +kernel
theorem dX7_bend_55 : decode cX7_bend 55 = .ok (.getfield 10, 3) := by decide +kernel
theorem dX7_bend_58 : decode cX7_bend 58 = .ok (.iload_n 1, 1) := by decide +kernel
theorem dX7_bend_59 : decode cX7_bend 59 = .ok (.invokevirtual 85, 3) := by decide +kernel
theorem dX7_bend_62 : decode cX7_bend 62 = .ok (.iload_n 2, 1) := by decide +kernel
theorem dX7_bend_63 : decode cX7_bend 63 = .ok (.invokestatic 113, 3) := by decide +kernel
theorem dX7_bend_66 : decode cX7_bend 66 = .ok (.ireturn, 1) := by decide +kernel
theorem dX7_bend_67 : decode cX7_bend 67 = .ok (.aload_n 0, 1) := by decide +kernel
theorem dX7_bend_68 : decode cX7_bend 68 = .ok (.getfield 10, 3) := by decide +kernel
theorem dX7_bend_71 : decode cX7_bend 71 = .ok (.iload_n 1, 1) := by decide +kernel
theorem dX7_bend_72 : decode cX7_bend 72 = .ok (.iload_n 2, 1) := by decide +kernel
theorem dX7_bend_73 : decode cX7_bend 73 = .ok (.invokevirtual 116, 3) := by decide +kernel
theorem dX7_bend_76 : decode cX7_bend 76 = .ok (.ireturn, 1) := by decide +kernel
theorem dX7_bend_77 : decode cX7_bend 77 = .ok (.aload_n 0, 1) := by decide +kernel
theorem dX7_bend_78 : decode cX7_bend 78 = .ok (.ldc 69, 2) := by decide +kernel
theorem dX7_bend_80 : decode cX7_bend 80 = .ok (.invokevirtual 70, 3) := by decide +kernel
theorem dX7_bend_83 : decode cX7_bend 83 = .ok (.ireturn, 1) := by decide +kernel
theorem dX7_layer_0 : decode cX7_layer 0 = .ok (.aload_n 0, 1) := by decide +kernel
theorem dX7_layer_1 : decode cX7_layer 1 = .ok (.iload_n 1, 1) := by decide +kernel
theorem dX7_layer_2 : decode cX7_layer 2 = .ok (.iload_n 2, 1) := by decide +kernel
theorem dX7_layer_3 : decode cX7_layer 3 = .ok (.invokevirtual 106, 3) := by decide +kernel
theorem dX7_layer_6 : decode cX7_layer 6 = .ok (.ifCond .eq 12, 3) := by decide +kernel
theorem dX7_layer_9 : decode cX7_layer 9 = .ok (.iload 4, 2) := by decide +kernel
theorem dX7_layer_11 : decode cX7_layer 11 = .ok (.iconst 2, 1) := by decide +kernel
theorem dX7_layer_12 : decode cX7_layer 12 = .ok (.invokestatic 119, 3) := by decide +kernel
theorem dX7_layer_15 : decode cX7_layer 15 = .ok (.ifCond .ne 10, 3) := by decide +kernel
theorem dX7_layer_18 : decode cX7_layer 18 = .ok (.aload_n 0, 1) := by decide +kernel
theorem dX7_layer_19 : decode cX7_layer 19 = .ok (.ldc 69, 2) := by decide +kernel
theorem dX7_layer_21 : decode cX7_layer 21 = .ok (.invokevirtual 70, 3) := by decide +kernel
theorem dX7_layer_24 : decode cX7_layer 24 = .ok (.ireturn, 1) := by decide +kernel
theorem dX7_layer_25 : decode cX7_layer 25 = .ok (.aload_n 0, 1) := by decide +kernel
theorem dX7_layer_26 : decode cX7_layer 26 = .ok (.getfield 10, 3) := by decide +kernel
theorem dX7_layer_29 : decode cX7_layer 29 = .ok (.iload_n 1, 1) := by decide +kernel
theorem dX7_layer_30 : decode cX7_layer 30 = .ok (.iload_n 2, 1) := by decide +kernel
theorem dX7_layer_31 : decode cX7_layer 31 = .ok (.iload_n 3, 1) := by decide +kernel
theorem dX7_layer_32 : decode cX7_layer 32 = .ok (.invokevirtual 122, 3) := by decide +kernel
theorem dX7_layer_35 : decode cX7_layer 35 = .ok (.ifCond .ne 10, 3) := by decide +kernel
theorem dX7_layer_38 : decode cX7_layer 38 = .ok (.aload_n 0, 1) := by decide +kernel
theorem dX7_layer_39 : decode cX7_layer 39 = .ok (.ldc 126, 2) := by decide +kernel
theorem dX7_layer_41 : decode cX7_layer 41 = .ok (.invokevirtual 70, 3) := by decide +kernel
theorem dX7_layer_44 : decode cX7_layer 44 = .ok (.ireturn, 1) := by decide +kernel
theorem dX7_layer_45 : decode cX7_layer 45 = .ok (.iload 4, 2) := by decide +kernel
theorem dX7_layer_47 : decode cX7_layer 47 = .ok (.ifCond .ne 16, 3) := by decide +kernel
theorem dX7_layer_50 : decode cX7_layer 50 = .ok (.aload_n 0, 1) := by decide +kernel
theorem dX7_layer_51 : decode cX7_layer 51 = .ok (.getfield 10, 3) := by decide +kernel
theorem dX7_layer_54 : decode cX7_layer 54 = .ok (.iload_n 1, 1) := by decide +kernel
theorem dX7_layer_55 : decode cX7_layer 55 = .ok (.iload_n 2, 1) := by decide +kernel
theorem dX7_layer_56 : decode cX7_layer 56 = .ok (.iload_n 3, 1) := by decide +kernel
theorem dX7_layer_57 : decode cX7_layer 57 = .ok (.invokevirtual 127, 3) := by decide +kernel
theorem dX7_layer_60 : decode cX7_layer 60 = .ok (.goto 13, 3) := by decide +kernel
theorem dX7_layer_63 : decode cX7_layer 63 = .ok (.aload_n 0, 1) := by decide +kernel
theorem dX7_layer_64 : decode cX7_layer 64 = .ok (.getfield 10, 3) := by decide +kernel
theorem dX7_layer_67 : decode cX7_layer 67 = .ok (.iload_n 1, 1) := by decide +kernel
theorem dX7_layer_68 : decode cX7_layer 68 = .ok (.iload_n 2, 1) := by decide +kernel
theorem dX7_layer_69 : decode cX7_layer 69 = .ok (.iload_n 3, 1) := by decide +kernel
theorem dX7_layer_70 : decode cX7_layer 70 = .ok (.invokevirtual 131, 3) := by decide +kernel
theorem dX7_layer_73 : decode cX7_layer 73 = .ok (.ireturn, 1) := by decide +kernel
theorem dX7_turn_0 : decode cX7_turn 0 = .ok (.aload_n 0, 1) := by decide +kernel
theorem dX7_turn_1 : decode cX7_turn 1 = .ok (.getfield 10, 3) := by decide +kernel
theorem dX7_turn_4 : decode cX7_turn 4 = .ok (.iload_n 1, 1) := by decide +kernel
theorem dX7_turn_5 : decode cX7_turn 5 = .ok (.invokevirtual 82, 3) := by decide +kernel
theorem dX7_turn_8 : decode cX7_turn 8 = .ok (.ifCond .eq 10, 3) := by decide +kernel
theorem dX7_turn_11 : decode cX7_turn 11 = .ok (.iload_n 2, 1) := by decide +kernel
theorem dX7_turn_12 : decode cX7_turn 12 = .ok (.invokestatic 65, 3) := by decide +kernel
theorem dX7_turn_15 : decode cX7_turn 15 = .ok (.ifCond .ne 10, 3) := by decide +kernel
theorem dX7_turn_18 : decode cX7_turn 18 = .ok (.aload_n 0, 1) := by decide +kernel
theorem dX7_turn_19 : decode cX7_turn 19 = .ok (.ldc 69, 2) := by decide +kernel
theorem dX7_turn_21 : decode cX7_turn 21 = .ok (.invokevirtual 70, 3) := by decide +kernel
theorem dX7_turn_24 : decode cX7_turn 24 = .ok (.ireturn, 1) := by decide +kernel
theorem dX7_turn_25 : decode cX7_turn 25 = .ok (.aload_n 0, 1) := by decide +kernel
theorem dX7_turn_26 : decode cX7_turn 26 = .ok (.getfield 10, 3) := by decide +kernel
theorem dX7_turn_29 : decode cX7_turn 29 = .ok (.iload_n 1, 1) := by decide +kernel
theorem dX7_turn_30 : decode cX7_turn 30 = .ok (.invokevirtual 85, 3) := by decide +kernel
theorem dX7_turn_33 : decode cX7_turn 33 = .ok (.istore_n 3, 1) := by decide +kernel
theorem dX7_turn_34 : decode cX7_turn 34 = .ok (.aload_n 0, 1) := by decide +kernel
theorem dX7_turn_35 : decode cX7_turn 35 = .ok (.getfield 10, 3) := by decide +kernel
theorem dX7_turn_38 : decode cX7_turn 38 = .ok (.iload_n 1, 1) := by decide +kernel
theorem dX7_turn_39 : decode cX7_turn 39 = .ok (.iload_n 2, 1) := by decide +kernel
theorem dX7_turn_40 : decode cX7_turn 40 = .ok (.invokevirtual 134, 3) := by decide +kernel
theorem dX7_turn_43 : decode cX7_turn 43 = .ok (.iload_n 3, 1) := by decide +kernel
theorem dX7_turn_44 : decode cX7_turn 44 = .ok (.ireturn, 1) := by decide +kernel
theorem dX7_as_0 : decode cX7_as 0 = .ok (.aload_n 0, 1) := by decide +kernel
theorem dX7_as_1 : decode cX7_as 1 = .ok (.getfield 10, 3) := by decide +kernel
theorem dX7_as_4 : decode cX7_as 4 = .ok (.iload_n 1, 1) := by decide +kernel
theorem dX7_as_5 : decode cX7_as 5 = .ok (.invokevirtual 82, 3) := by decide +kernel
theorem dX7_as_8 : decode cX7_as 8 = .ok (.ifCond .eq 10, 3) := by decide +kernel
theorem dX7_as_11 : decode cX7_as 11 = .ok (.iload_n 2, 1) := by decide +kernel
theorem dX7_as_12 : decode cX7_as 12 = .ok (.invokestatic 65, 3) := by decide +kernel
theorem dX7_as_15 : decode cX7_as 15 = .ok (.ifCond .ne 10, 3) := by decide +kernel
theorem dX7_as_18 : decode cX7_as 18 = .ok (.aload_n 0, 1) := by decide +kernel
theorem dX7_as_19 : decode cX7_as 19 = .ok (.ldc 69, 2) := by decide +kernel
theorem dX7_as_21 : decode cX7_as 21 = .ok (.invokevirtual 70, 3) := by decide +kernel
theorem dX7_as_24 : decode cX7_as 24 = .ok (.ireturn, 1) := by decide +kernel
theorem dX7_as_25 : decode cX7_as 25 = .ok (.aload_n 0, 1) := by decide +kernel
theorem dX7_as_26 : decode cX7_as 26 = .ok (.getfield 10, 3) := by decide +kernel
theorem dX7_as_29 : decode cX7_as 29 = .ok (.iload_n 1, 1) := by decide +kernel
theorem dX7_as_30 : decode cX7_as 30 = .ok (.invokevirtual 85, 3) := by decide +kernel
theorem dX7_as_33 : decode cX7_as 33 = .ok (.iload_n 2, 1) := by decide +kernel
theorem dX7_as_34 : decode cX7_as 34 = .ok (.invokestatic 138, 3) := by decide +kernel
theorem dX7_as_37 : decode cX7_as 37 = .ok (.ifCond .ne 10, 3) := by decide +kernel
theorem dX7_as_40 : decode cX7_as 40 = .ok (.aload_n 0, 1) := by decide +kernel
theorem dX7_as_41 : decode cX7_as 41 = .ok (.ldc 141, 2) := by decide +kernel
theorem dX7_as_43 : decode cX7_as 43 = .ok (.invokevirtual 70, 3) := by decide +kernel
theorem dX7_as_46 : decode cX7_as 46 = .ok (.ireturn, 1) := by decide +kernel
theorem dX7_as_47 : decode cX7_as 47 = .ok (.aload_n 0, 1) := by decide +kernel
theorem dX7_as_48 : decode cX7_as 48 = .ok (.getfield 10, 3) := by decide +kernel
theorem dX7_as_51 : decode cX7_as 51 = .ok (.iload_n 1, 1) := by decide +kernel
theorem dX7_as_52 : decode cX7_as 52 = .ok (.invokevirtual 88, 3) := by decide +kernel
theorem dX7_as_55 : decode cX7_as 55 = .ok (.ireturn, 1) := by decide +kernel
theorem dX7_damp_0 : decode cX7_damp 0 = .ok (.iload_n 1, 1) := by decide +kernel
theorem dX7_damp_1 : decode cX7_damp 1 = .ok (.bipush 10, 2) := by decide +kernel
theorem dX7_damp_3 : decode cX7_damp 3 = .ok (.invokestatic 119, 3) := by decide +kernel
theorem dX7_damp_6 : decode cX7_damp 6 = .ok (.ifCond .ne 10, 3) := by decide +kernel
theorem dX7_damp_9 : decode cX7_damp 9 = .ok (.aload_n 0, 1) := by decide +kernel
theorem dX7_damp_10 : decode cX7_damp 10 = .ok (.ldc 69, 2) := by decide +kernel
theorem dX7_damp_12 : decode cX7_damp 12 = .ok (.invokevirtual 70, 3) := by decide +kernel
theorem dX7_damp_15 : decode cX7_damp 15 = .ok (.ireturn, 1) := by decide +kernel
theorem dX7_damp_16 : decode cX7_damp 16 = .ok (.aload_n 0, 1) := by decide +kernel
theorem dX7_damp_17 : decode cX7_damp 17 = .ok (.getfield 10, 3) := by decide +kernel
theorem dX7_damp_20 : decode cX7_damp 20 = .ok (.getfield 97, 3) := by decide +kernel
theorem dX7_damp_23 : decode cX7_damp 23 = .ok (.istore_n 2, 1) := by decide +kernel
theorem dX7_damp_24 : decode cX7_damp 24 = .ok (.aload_n 0, 1) := by decide +kernel
theorem dX7_damp_25 : decode cX7_damp 25 = .ok (.getfield 10, 3) := by decide +kernel
theorem dX7_damp_28 : decode cX7_damp 28 = .ok (.iload_n 1, 1) := by decide +kernel
theorem dX7_damp_29 : decode cX7_damp 29 = .ok (.putfield 97, 3) := by decide +kernel
theorem dX7_damp_32 : decode cX7_damp 32 = .ok (.iload_n 2, 1) := by decide +kernel
theorem dX7_damp_33 : decode cX7_damp 33 = .ok (.ireturn, 1) := by decide +kernel
theorem dX7_rises_0 : decode cX7_rises 0 = .ok (.aload_n 0, 1) := by decide +kernel
theorem dX7_rises_1 : decode cX7_rises 1 = .ok (.getfield 10, 3) := by decide +kernel
theorem dX7_rises_4 : decode cX7_rises 4 = .ok (.iload_n 1, 1) := by decide +kernel
theorem dX7_rises_5 : decode cX7_rises 5 = .ok (.invokevirtual 82, 3) := by decide +kernel
theorem dX7_rises_8 : decode cX7_rises 8 = .ok (.ifCond .eq 17, 3) := by decide +kernel
theorem dX7_rises_11 : decode cX7_rises 11 = .ok (.iload_n 2, 1) := by decide +kernel
theorem dX7_rises_12 : decode cX7_rises 12 = .ok (.invokestatic 142, 3) := by decide +kernel
theorem dX7_rises_15 : decode cX7_rises 15 = .ok (.ifCond .eq 10, 3) := by decide +kernel
theorem dX7_rises_18 : decode cX7_rises 18 = .ok (.iload_n 3, 1) := by decide +kernel
theorem dX7_rises_19 : decode cX7_rises 19 = .ok (.invokestatic 145, 3) := by decide +kernel
theorem dX7_rises_22 : decode cX7_rises 22 = .ok (.ifCond .ne 10, 3) := by decide +kernel
theorem dX7_rises_25 : decode cX7_rises 25 = .ok (.aload_n 0, 1) := by decide +kernel
theorem dX7_rises_26 : decode cX7_rises 26 = .ok (.ldc 69, 2) := by decide +kernel
theorem dX7_rises_28 : decode cX7_rises 28 = .ok (.invokevirtual 70, 3) := by decide +kernel
theorem dX7_rises_31 : decode cX7_rises 31 = .ok (.ireturn, 1) := by decide +kernel
theorem dX7_rises_32 : decode cX7_rises 32 = .ok (.aload_n 0, 1) := by decide +kernel
theorem dX7_rises_33 : decode cX7_rises 33 = .ok (.getfield 10, 3) := by decide +kernel
theorem dX7_rises_36 : decode cX7_rises 36 = .ok (.iload_n 1, 1) := by decide +kernel
theorem dX7_rises_37 : decode cX7_rises 37 = .ok (.invokevirtual 85, 3) := by decide +kernel
theorem dX7_rises_40 : decode cX7_rises 40 = .ok (.iload_n 2, 1) := by decide +kernel
theorem dX7_rises_41 : decode cX7_rises 41 = .ok (.iload_n 3, 1) := by decide +kernel
theorem dX7_rises_42 : decode cX7_rises 42 = .ok (.aload_n 0, 1) := by decide +kernel
theorem dX7_rises_43 : decode cX7_rises 43 = .ok (.getfield 10, 3) := by decide +kernel
theorem dX7_rises_46 : decode cX7_rises 46 = .ok (.getfield 148, 3) := by decide +kernel
theorem dX7_rises_49 : decode cX7_rises 49 = .ok (.invokestatic 151, 3) := by decide +kernel
theorem dX7_rises_52 : decode cX7_rises 52 = .ok (.istore 4, 2) := by decide +kernel
theorem dX7_rises_54 : decode cX7_rises 54 = .ok (.iload 4, 2) := by decide +kernel
theorem dX7_rises_56 : decode cX7_rises 56 = .ok (.iconst (-1), 1) := by decide +kernel
theorem dX7_rises_57 : decode cX7_rises 57 = .ok (.if_icmp .ne 12, 3) := by decide +kernel
theorem dX7_rises_60 : decode cX7_rises 60 = .ok (.aload_n 0, 1) := by decide +kernel
theorem dX7_rises_61 : decode cX7_rises 61 = .ok (.ldc 126, 2) := by decide +kernel
theorem dX7_rises_63 : decode cX7_rises 63 = .ok (.invokevirtual 70, 3) := by decide +kernel
theorem dX7_rises_66 : decode cX7_rises 66 = .ok (.goto 5, 3) := by decide +kernel
theorem dX7_rises_69 : decode cX7_rises 69 = .ok (.iload 4, 2) := by decide +kernel
theorem dX7_rises_71 : decode cX7_rises 71 = .ok (.ireturn, 1) := by decide +kernel
theorem dX7_say_0 : decode cX7_say 0 = .ok (.aload_n 0, 1) := by decide +kernel
theorem dX7_say_1 : decode cX7_say 1 = .ok (.getfield 10, 3) := by decide +kernel
theorem dX7_say_4 : decode cX7_say 4 = .ok (.iload_n 1, 1) := by decide +kernel
theorem dX7_say_5 : decode cX7_say 5 = .ok (.invokevirtual 82, 3) := by decide +kernel
theorem dX7_say_8 : decode cX7_say 8 = .ok (.ifCond .eq 17, 3) := by decide +kernel
theorem dX7_say_11 : decode cX7_say 11 = .ok (.iload_n 2, 1) := by decide +kernel
theorem dX7_say_12 : decode cX7_say 12 = .ok (.invokestatic 142, 3) := by decide +kernel
theorem dX7_say_15 : decode cX7_say 15 = .ok (.ifCond .eq 10, 3) := by decide +kernel
theorem dX7_say_18 : decode cX7_say 18 = .ok (.iload_n 3, 1) := by decide +kernel
theorem dX7_say_19 : decode cX7_say 19 = .ok (.invokestatic 145, 3) := by decide +kernel
theorem dX7_say_22 : decode cX7_say 22 = .ok (.ifCond .ne 10, 3) := by decide +kernel
theorem dX7_say_25 : decode cX7_say 25 = .ok (.aload_n 0, 1) := by decide +kernel
theorem dX7_say_26 : decode cX7_say 26 = .ok (.ldc 69, 2) := by decide +kernel
theorem dX7_say_28 : decode cX7_say 28 = .ok (.invokevirtual 70, 3) := by decide +kernel
theorem dX7_say_31 : decode cX7_say 31 = .ok (.ireturn, 1) := by decide +kernel
theorem dX7_say_32 : decode cX7_say 32 = .ok (.aload_n 0, 1) := by decide +kernel
theorem dX7_say_33 : decode cX7_say 33 = .ok (.getfield 10, 3) := by decide +kernel
theorem dX7_say_36 : decode cX7_say 36 = .ok (.iload_n 1, 1) := by decide +kernel
theorem dX7_say_37 : decode cX7_say 37 = .ok (.iload_n 2, 1) := by decide +kernel
theorem dX7_say_38 : decode cX7_say 38 = .ok (.iload_n 3, 1) := by decide +kernel
theorem dX7_say_39 : decode cX7_say 39 = .ok (.invokevirtual 155, 3) := by decide +kernel
theorem dX7_say_42 : decode cX7_say 42 = .ok (.ireturn, 1) := by decide +kernel
theorem dX7_cake_0 : decode cX7_cake 0 = .ok (.aload_n 0, 1) := by decide +kernel
theorem dX7_cake_1 : decode cX7_cake 1 = .ok (.iload_n 1, 1) := by decide +kernel
theorem dX7_cake_2 : decode cX7_cake 2 = .ok (.iload_n 2, 1) := by decide +kernel
theorem dX7_cake_3 : decode cX7_cake 3 = .ok (.invokevirtual 106, 3) := by decide +kernel
theorem dX7_cake_6 : decode cX7_cake 6 = .ok (.ifCond .eq 13, 3) := by decide +kernel
theorem dX7_cake_9 : decode cX7_cake 9 = .ok (.iload 4, 2) := by decide +kernel
theorem dX7_cake_11 : decode cX7_cake 11 = .ok (.bipush 10, 2) := by decide +kernel
theorem dX7_cake_13 : decode cX7_cake 13 = .ok (.invokestatic 119, 3) := by decide +kernel
theorem dX7_cake_16 : decode cX7_cake 16 = .ok (.ifCond .ne 10, 3) := by decide +kernel
theorem dX7_cake_19 : decode cX7_cake 19 = .ok (.aload_n 0, 1) := by decide +kernel
theorem dX7_cake_20 : decode cX7_cake 20 = .ok (.ldc 69, 2) := by decide +kernel
theorem dX7_cake_22 : decode cX7_cake 22 = .ok (.invokevirtual 70, 3) := by decide +kernel
theorem dX7_cake_25 : decode cX7_cake 25 = .ok (.ireturn, 1) := by decide +kernel
theorem dX7_cake_26 : decode cX7_cake 26 = .ok (.aload_n 0, 1) := by decide +kernel
theorem dX7_cake_27 : decode cX7_cake 27 = .ok (.getfield 10, 3) := by decide +kernel
theorem dX7_cake_30 : decode cX7_cake 30 = .ok (.iload_n 1, 1) := by decide +kernel
theorem dX7_cake_31 : decode cX7_cake 31 = .ok (.iload_n 2, 1) := by decide +kernel
theorem dX7_cake_32 : decode cX7_cake 32 = .ok (.iload_n 3, 1) := by decide +kernel
theorem dX7_cake_33 : decode cX7_cake 33 = .ok (.invokevirtual 122, 3) := by decide +kernel
theorem dX7_cake_36 : decode cX7_cake 36 = .ok (.ifCond .ne 10, 3) := by decide +kernel
theorem dX7_cake_39 : decode cX7_cake 39 = .ok (.aload_n 0, 1) := by decide +kernel
theorem dX7_cake_40 : decode cX7_cake 40 = .ok (.ldc 126, 2) := by decide +kernel
theorem dX7_cake_42 : decode cX7_cake 42 = .ok (.invokevirtual 70, 3) := by decide +kernel
theorem dX7_cake_45 : decode cX7_cake 45 = .ok (.ireturn, 1) := by decide +kernel
theorem dX7_cake_46 : decode cX7_cake 46 = .ok (.aload_n 0, 1) := by decide +kernel
theorem dX7_cake_47 : decode cX7_cake 47 = .ok (.getfield 10, 3) := by decide +kernel
theorem dX7_cake_50 : decode cX7_cake 50 = .ok (.iload_n 1, 1) := by decide +kernel
theorem dX7_cake_51 : decode cX7_cake 51 = .ok (.iload_n 2, 1) := by decide +kernel
theorem dX7_cake_52 : decode cX7_cake 52 = .ok (.iload_n 3, 1) := by decide +kernel
theorem dX7_cake_53 : decode cX7_cake 53 = .ok (.invokevirtual 131, 3) := by decide +kernel
theorem dX7_cake_56 : decode cX7_cake 56 = .ok (.istore 5, 2) := by decide +kernel
theorem dX7_cake_58 : decode cX7_cake 58 = .ok (.aload_n 0, 1) := by decide +kernel
theorem dX7_cake_59 : decode cX7_cake 59 = .ok (.getfield 10, 3) := by decide +kernel
theorem dX7_cake_62 : decode cX7_cake 62 = .ok (.iload_n 1, 1) := by decide +kernel
theorem dX7_cake_63 : decode cX7_cake 63 = .ok (.iload_n 2, 1) := by decide +kernel
theorem dX7_cake_64 : decode cX7_cake 64 = .ok (.iload_n 3, 1) := by decide +kernel
theorem dX7_cake_65 : decode cX7_cake 65 = .ok (.iload 4, 2) := by decide +kernel
theorem dX7_cake_67 : decode cX7_cake 67 = .ok (.invokevirtual 158, 3) := by decide +kernel
theorem dX7_cake_70 : decode cX7_cake 70 = .ok (.iload 5, 2) := by decide +kernel
theorem dX7_cake_72 : decode cX7_cake 72 = .ok (.ireturn, 1) := by decide +kernel
theorem dX7_days_0 : decode cX7_days 0 = .ok (.iload_n 1, 1) := by decide +kernel
theorem dX7_days_1 : decode cX7_days 1 = .ok (.iconst 1, 1) := by decide +kernel
theorem dX7_days_2 : decode cX7_days 2 = .ok (.if_icmp .lt 9, 3) := by decide +kernel
theorem dX7_days_5 : decode cX7_days 5 = .ok (.iload_n 1, 1) := by decide +kernel
theorem dX7_days_6 : decode cX7_days 6 = .ok (.bipush 60, 2) := by decide +kernel
theorem dX7_days_8 : decode cX7_days 8 = .ok (.if_icmp .le 10, 3) := by decide +kernel
theorem dX7_days_11 : decode cX7_days 11 = .ok (.aload_n 0, 1) := by decide +kernel
theorem dX7_days_12 : decode cX7_days 12 = .ok (.ldc 69, 2) := by decide +kernel
theorem dX7_days_14 : decode cX7_days 14 = .ok (.invokevirtual 70, 3) := by decide +kernel
theorem dX7_days_17 : decode cX7_days 17 = .ok (.ireturn, 1) := by decide +kernel
theorem dX7_days_18 : decode cX7_days 18 = .ok (.aload_n 0, 1) := by decide +kernel
theorem dX7_days_19 : decode cX7_days 19 = .ok (.getfield 10, 3) := by decide +kernel
theorem dX7_days_22 : decode cX7_days 22 = .ok (.getfield 148, 3) := by decide +kernel
theorem dX7_days_25 : decode cX7_days 25 = .ok (.iload_n 1, 1) := by decide +kernel
theorem dX7_days_26 : decode cX7_days 26 = .ok (.iadd, 1) := by decide +kernel
theorem dX7_days_27 : decode cX7_days 27 = .ok (.sipush 9999, 3) := by decide +kernel
theorem dX7_days_30 : decode cX7_days 30 = .ok (.if_icmp .le 10, 3) := by decide +kernel
theorem dX7_days_33 : decode cX7_days 33 = .ok (.aload_n 0, 1) := by decide +kernel
theorem dX7_days_34 : decode cX7_days 34 = .ok (.ldc 162, 2) := by decide +kernel
theorem dX7_days_36 : decode cX7_days 36 = .ok (.invokevirtual 70, 3) := by decide +kernel
theorem dX7_days_39 : decode cX7_days 39 = .ok (.ireturn, 1) := by decide +kernel
theorem dX7_days_40 : decode cX7_days 40 = .ok (.aload_n 0, 1) := by decide +kernel
theorem dX7_days_41 : decode cX7_days 41 = .ok (.getfield 10, 3) := by decide +kernel
theorem dX7_days_44 : decode cX7_days 44 = .ok (.iload_n 1, 1) := by decide +kernel
theorem dX7_days_45 : decode cX7_days 45 = .ok (.invokevirtual 163, 3) := by decide +kernel
theorem dX7_days_48 : decode cX7_days 48 = .ok (.aload_n 0, 1) := by decide +kernel
theorem dX7_days_49 : decode cX7_days 49 = .ok (.getfield 10, 3) := by decide +kernel
theorem dX7_days_52 : decode cX7_days 52 = .ok (.bipush 9, 2) := by decide +kernel
theorem dX7_days_54 : decode cX7_days 54 = .ok (.invokevirtual 167, 3) := by decide +kernel
theorem dX7_days_57 : decode cX7_days 57 = .ok (.ireturn, 1) := by decide +kernel
theorem dX7_now_0 : decode cX7_now 0 = .ok (.iload_n 1, 1) := by decide +kernel
theorem dX7_now_1 : decode cX7_now 1 = .ok (.tableswitch 75 0 4 #[35, 43, 51, 59, 67], 35) := by decide +kernel
theorem dX7_now_36 : decode cX7_now 36 = .ok (.aload_n 0, 1) := by decide +kernel
theorem dX7_now_37 : decode cX7_now 37 = .ok (.getfield 10, 3) := by decide +kernel
theorem dX7_now_40 : decode cX7_now 40 = .ok (.getfield 148, 3) := by decide +kernel
theorem dX7_now_43 : decode cX7_now 43 = .ok (.ireturn, 1) := by decide +kernel
theorem dX7_now_44 : decode cX7_now 44 = .ok (.aload_n 0, 1) := by decide +kernel
theorem dX7_now_45 : decode cX7_now 45 = .ok (.getfield 10, 3) := by decide +kernel
theorem dX7_now_48 : decode cX7_now 48 = .ok (.getfield 97, 3) := by decide +kernel
theorem dX7_now_51 : decode cX7_now 51 = .ok (.ireturn, 1) := by decide +kernel
theorem dX7_now_52 : decode cX7_now 52 = .ok (.aload_n 0, 1) := by decide +kernel
theorem dX7_now_53 : decode cX7_now 53 = .ok (.getfield 10, 3) := by decide +kernel
theorem dX7_now_56 : decode cX7_now 56 = .ok (.invokevirtual 170, 3) := by decide +kernel
theorem dX7_now_59 : decode cX7_now 59 = .ok (.ireturn, 1) := by decide +kernel
theorem dX7_now_60 : decode cX7_now 60 = .ok (.aload_n 0, 1) := by decide +kernel
theorem dX7_now_61 : decode cX7_now 61 = .ok (.getfield 10, 3) := by decide +kernel
theorem dX7_now_64 : decode cX7_now 64 = .ok (.invokevirtual 174, 3) := by decide +kernel
theorem dX7_now_67 : decode cX7_now 67 = .ok (.ireturn, 1) := by decide +kernel
theorem dX7_now_68 : decode cX7_now 68 = .ok (.aload_n 0, 1) := by decide +kernel
theorem dX7_now_69 : decode cX7_now 69 = .ok (.getfield 10, 3) := by decide +kernel
theorem dX7_now_72 : decode cX7_now 72 = .ok (.invokevirtual 177, 3) := by decide +kernel
theorem dX7_now_75 : decode cX7_now 75 = .ok (.ireturn, 1) := by decide +kernel
theorem dX7_now_76 : decode cX7_now 76 = .ok (.aload_n 0, 1) := by decide +kernel
theorem dX7_now_77 : decode cX7_now 77 = .ok (.ldc 69, 2) := by decide +kernel
theorem dX7_now_79 : decode cX7_now 79 = .ok (.invokevirtual 70, 3) := by decide +kernel
theorem dX7_now_82 : decode cX7_now 82 = .ok (.ireturn, 1) := by decide +kernel
theorem dX7_sweep_0 : decode cX7_sweep 0 = .ok (.aload_n 0, 1) := by decide +kernel
theorem dX7_sweep_1 : decode cX7_sweep 1 = .ok (.iload_n 1, 1) := by decide +kernel
theorem dX7_sweep_2 : decode cX7_sweep 2 = .ok (.iload_n 2, 1) := by decide +kernel
theorem dX7_sweep_3 : decode cX7_sweep 3 = .ok (.invokevirtual 106, 3) := by decide +kernel
theorem dX7_sweep_6 : decode cX7_sweep 6 = .ok (.ifCond .eq 10, 3) := by decide +kernel
theorem dX7_sweep_9 : decode cX7_sweep 9 = .ok (.iload_n 3, 1) := by decide +kernel
theorem dX7_sweep_10 : decode cX7_sweep 10 = .ok (.invokestatic 180, 3) := by decide +kernel
theorem dX7_sweep_13 : decode cX7_sweep 13 = .ok (.ifCond .ne 10, 3) := by decide +kernel
theorem dX7_sweep_16 : decode cX7_sweep 16 = .ok (.aload_n 0, 1) := by decide +kernel
theorem dX7_sweep_17 : decode cX7_sweep 17 = .ok (.ldc 69, 2) := by decide +kernel
theorem dX7_sweep_19 : decode cX7_sweep 19 = .ok (.invokevirtual 70, 3) := by decide +kernel
theorem dX7_sweep_22 : decode cX7_sweep 22 = .ok (.ireturn, 1) := by decide +kernel
theorem dX7_sweep_23 : decode cX7_sweep 23 = .ok (.aload_n 0, 1) := by decide +kernel
theorem dX7_sweep_24 : decode cX7_sweep 24 = .ok (.getfield 10, 3) := by decide +kernel
theorem dX7_sweep_27 : decode cX7_sweep 27 = .ok (.iload_n 1, 1) := by decide +kernel
theorem dX7_sweep_28 : decode cX7_sweep 28 = .ok (.iload_n 2, 1) := by decide +kernel
theorem dX7_sweep_29 : decode cX7_sweep 29 = .ok (.iload_n 3, 1) := by decide +kernel
theorem dX7_sweep_30 : decode cX7_sweep 30 = .ok (.invokevirtual 183, 3) := by decide +kernel
theorem dX7_sweep_33 : decode cX7_sweep 33 = .ok (.ireturn, 1) := by decide +kernel
theorem dX7_brought_0 : decode cX7_brought 0 = .ok (.aload_n 0, 1) := by decide +kernel
theorem dX7_brought_1 : decode cX7_brought 1 = .ok (.iload_n 1, 1) := by decide +kernel
theorem dX7_brought_2 : decode cX7_brought 2 = .ok (.iload_n 2, 1) := by decide +kernel
theorem dX7_brought_3 : decode cX7_brought 3 = .ok (.invokevirtual 106, 3) := by decide +kernel
theorem dX7_brought_6 : decode cX7_brought 6 = .ok (.ifCond .eq 10, 3) := by decide +kernel
theorem dX7_brought_9 : decode cX7_brought 9 = .ok (.iload_n 3, 1) := by decide +kernel
theorem dX7_brought_10 : decode cX7_brought 10 = .ok (.invokestatic 180, 3) := by decide +kernel
theorem dX7_brought_13 : decode cX7_brought 13 = .ok (.ifCond .ne 10, 3) := by decide +kernel
theorem dX7_brought_16 : decode cX7_brought 16 = .ok (.aload_n 0, 1) := by decide +kernel
theorem dX7_brought_17 : decode cX7_brought 17 = .ok (.ldc 69, 2) := by decide +kernel
theorem dX7_brought_19 : decode cX7_brought 19 = .ok (.invokevirtual 70, 3) := by decide +kernel
theorem dX7_brought_22 : decode cX7_brought 22 = .ok (.ireturn, 1) := by decide +kernel
theorem dX7_brought_23 : decode cX7_brought 23 = .ok (.aload_n 0, 1) := by decide +kernel
theorem dX7_brought_24 : decode cX7_brought 24 = .ok (.getfield 26, 3) := by decide +kernel
theorem dX7_brought_27 : decode cX7_brought 27 = .ok (.aload_n 0, 1) := by decide +kernel
theorem dX7_brought_28 : decode cX7_brought 28 = .ok (.getfield 10, 3) := by decide +kernel
theorem dX7_brought_31 : decode cX7_brought 31 = .ok (.iload_n 1, 1) := by decide +kernel
theorem dX7_brought_32 : decode cX7_brought 32 = .ok (.iload_n 2, 1) := by decide +kernel
theorem dX7_brought_33 : decode cX7_brought 33 = .ok (.iload_n 3, 1) := by decide +kernel
theorem dX7_brought_34 : decode cX7_brought 34 = .ok (.iconst 0, 1) := by decide +kernel
theorem dX7_brought_35 : decode cX7_brought 35 = .ok (.invokevirtual 186, 3) := by decide +kernel
theorem dX7_brought_38 : decode cX7_brought 38 = .ok (.aload_n 0, 1) := by decide +kernel
theorem dX7_brought_39 : decode cX7_brought 39 = .ok (.getfield 26, 3) := by decide +kernel
theorem dX7_brought_42 : decode cX7_brought 42 = .ok (.getfield 190, 3) := by decide +kernel
theorem dX7_brought_45 : decode cX7_brought 45 = .ok (.ireturn, 1) := by decide +kernel
theorem dX7_order_0 : decode cX7_order 0 = .ok (.aload_n 0, 1) := by decide +kernel
theorem dX7_order_1 : decode cX7_order 1 = .ok (.iload_n 1, 1) := by decide +kernel
theorem dX7_order_2 : decode cX7_order 2 = .ok (.iload_n 2, 1) := by decide +kernel
theorem dX7_order_3 : decode cX7_order 3 = .ok (.invokevirtual 106, 3) := by decide +kernel
theorem dX7_order_6 : decode cX7_order 6 = .ok (.ifCond .eq 15, 3) := by decide +kernel
theorem dX7_order_9 : decode cX7_order 9 = .ok (.iload_n 3, 1) := by decide +kernel
theorem dX7_order_10 : decode cX7_order 10 = .ok (.invokestatic 180, 3) := by decide +kernel
theorem dX7_order_13 : decode cX7_order 13 = .ok (.ifCond .eq 8, 3) := by decide +kernel
theorem dX7_order_16 : decode cX7_order 16 = .ok (.iload 4, 2) := by decide +kernel
theorem dX7_order_18 : decode cX7_order 18 = .ok (.ifCond .ge 10, 3) := by decide +kernel
theorem dX7_order_21 : decode cX7_order 21 = .ok (.aload_n 0, 1) := by decide +kernel
theorem dX7_order_22 : decode cX7_order 22 = .ok (.ldc 69, 2) := by decide +kernel
theorem dX7_order_24 : decode cX7_order 24 = .ok (.invokevirtual 70, 3) := by decide +kernel
theorem dX7_order_27 : decode cX7_order 27 = .ok (.ireturn, 1) := by decide +kernel
theorem dX7_order_28 : decode cX7_order 28 = .ok (.aload_n 0, 1) := by decide +kernel
theorem dX7_order_29 : decode cX7_order 29 = .ok (.getfield 26, 3) := by decide +kernel
theorem dX7_order_32 : decode cX7_order 32 = .ok (.aload_n 0, 1) := by decide +kernel
theorem dX7_order_33 : decode cX7_order 33 = .ok (.getfield 10, 3) := by decide +kernel
theorem dX7_order_36 : decode cX7_order 36 = .ok (.iload_n 1, 1) := by decide +kernel
theorem dX7_order_37 : decode cX7_order 37 = .ok (.iload_n 2, 1) := by decide +kernel
theorem dX7_order_38 : decode cX7_order 38 = .ok (.iload_n 3, 1) := by decide +kernel
theorem dX7_order_39 : decode cX7_order 39 = .ok (.iconst 0, 1) := by decide +kernel
theorem dX7_order_40 : decode cX7_order 40 = .ok (.invokevirtual 186, 3) := by decide +kernel
theorem dX7_order_43 : decode cX7_order 43 = .ok (.iload 4, 2) := by decide +kernel
theorem dX7_order_45 : decode cX7_order 45 = .ok (.aload_n 0, 1) := by decide +kernel
theorem dX7_order_46 : decode cX7_order 46 = .ok (.getfield 26, 3) := by decide +kernel
theorem dX7_order_49 : decode cX7_order 49 = .ok (.getfield 193, 3) := by decide +kernel
theorem dX7_order_52 : decode cX7_order 52 = .ok (.if_icmp .ge 15, 3) := by decide +kernel
theorem dX7_order_55 : decode cX7_order 55 = .ok (.aload_n 0, 1) := by decide +kernel
theorem dX7_order_56 : decode cX7_order 56 = .ok (.getfield 26, 3) := by decide +kernel
theorem dX7_order_59 : decode cX7_order 59 = .ok (.iload 4, 2) := by decide +kernel
theorem dX7_order_61 : decode cX7_order 61 = .ok (.invokevirtual 196, 3) := by decide +kernel
theorem dX7_order_64 : decode cX7_order 64 = .ok (.goto 9, 3) := by decide +kernel
theorem dX7_order_67 : decode cX7_order 67 = .ok (.aload_n 0, 1) := by decide +kernel
theorem dX7_order_68 : decode cX7_order 68 = .ok (.ldc 126, 2) := by decide +kernel
theorem dX7_order_70 : decode cX7_order 70 = .ok (.invokevirtual 70, 3) := by decide +kernel
theorem dX7_order_73 : decode cX7_order 73 = .ok (.ireturn, 1) := by decide +kernel
theorem dX7_on_0 : decode cX7_on 0 = .ok (.aload_n 0, 1) := by decide +kernel
theorem dX7_on_1 : decode cX7_on 1 = .ok (.iload_n 1, 1) := by decide +kernel
theorem dX7_on_2 : decode cX7_on 2 = .ok (.iload_n 2, 1) := by decide +kernel
theorem dX7_on_3 : decode cX7_on 3 = .ok (.invokevirtual 106, 3) := by decide +kernel
theorem dX7_on_6 : decode cX7_on 6 = .ok (.ifCond .eq 20, 3) := by decide +kernel
theorem dX7_on_9 : decode cX7_on 9 = .ok (.iload_n 3, 1) := by decide +kernel
theorem dX7_on_10 : decode cX7_on 10 = .ok (.invokestatic 180, 3) := by decide +kernel
theorem dX7_on_13 : decode cX7_on 13 = .ok (.ifCond .eq 13, 3) := by decide +kernel
theorem dX7_on_16 : decode cX7_on 16 = .ok (.iload 4, 2) := by decide +kernel
theorem dX7_on_18 : decode cX7_on 18 = .ok (.bipush 61, 2) := by decide +kernel
theorem dX7_on_20 : decode cX7_on 20 = .ok (.invokestatic 119, 3) := by decide +kernel
theorem dX7_on_23 : decode cX7_on 23 = .ok (.ifCond .ne 10, 3) := by decide +kernel
theorem dX7_on_26 : decode cX7_on 26 = .ok (.aload_n 0, 1) := by decide +kernel
theorem dX7_on_27 : decode cX7_on 27 = .ok (.ldc 69, 2) := by decide +kernel
theorem dX7_on_29 : decode cX7_on 29 = .ok (.invokevirtual 70, 3) := by decide +kernel
theorem dX7_on_32 : decode cX7_on 32 = .ok (.ireturn, 1) := by decide +kernel
theorem dX7_on_33 : decode cX7_on 33 = .ok (.aload_n 0, 1) := by decide +kernel
theorem dX7_on_34 : decode cX7_on 34 = .ok (.getfield 26, 3) := by decide +kernel
theorem dX7_on_37 : decode cX7_on 37 = .ok (.aload_n 0, 1) := by decide +kernel
theorem dX7_on_38 : decode cX7_on 38 = .ok (.getfield 10, 3) := by decide +kernel
theorem dX7_on_41 : decode cX7_on 41 = .ok (.iload_n 1, 1) := by decide +kernel
theorem dX7_on_42 : decode cX7_on 42 = .ok (.iload_n 2, 1) := by decide +kernel
theorem dX7_on_43 : decode cX7_on 43 = .ok (.iload_n 3, 1) := by decide +kernel
theorem dX7_on_44 : decode cX7_on 44 = .ok (.iload 4, 2) := by decide +kernel
theorem dX7_on_46 : decode cX7_on 46 = .ok (.invokevirtual 186, 3) := by decide +kernel
theorem dX7_on_49 : decode cX7_on 49 = .ok (.aload_n 0, 1) := by decide +kernel
theorem dX7_on_50 : decode cX7_on 50 = .ok (.getfield 26, 3) := by decide +kernel
theorem dX7_on_53 : decode cX7_on 53 = .ok (.getfield 193, 3) := by decide +kernel
theorem dX7_on_56 : decode cX7_on 56 = .ok (.ireturn, 1) := by decide +kernel
theorem dX7_reach_0 : decode cX7_reach 0 = .ok (.aload_n 0, 1) := by decide +kernel
theorem dX7_reach_1 : decode cX7_reach 1 = .ok (.getfield 10, 3) := by decide +kernel
theorem dX7_reach_4 : decode cX7_reach 4 = .ok (.iload_n 1, 1) := by decide +kernel
theorem dX7_reach_5 : decode cX7_reach 5 = .ok (.invokevirtual 82, 3) := by decide +kernel
theorem dX7_reach_8 : decode cX7_reach 8 = .ok (.ifCond .eq 17, 3) := by decide +kernel
theorem dX7_reach_11 : decode cX7_reach 11 = .ok (.iload_n 2, 1) := by decide +kernel
theorem dX7_reach_12 : decode cX7_reach 12 = .ok (.invokestatic 199, 3) := by decide +kernel
theorem dX7_reach_15 : decode cX7_reach 15 = .ok (.ifCond .eq 10, 3) := by decide +kernel
theorem dX7_reach_18 : decode cX7_reach 18 = .ok (.iload_n 3, 1) := by decide +kernel
theorem dX7_reach_19 : decode cX7_reach 19 = .ok (.invokestatic 180, 3) := by decide +kernel
theorem dX7_reach_22 : decode cX7_reach 22 = .ok (.ifCond .ne 10, 3) := by decide +kernel
theorem dX7_reach_25 : decode cX7_reach 25 = .ok (.aload_n 0, 1) := by decide +kernel
theorem dX7_reach_26 : decode cX7_reach 26 = .ok (.ldc 69, 2) := by decide +kernel
theorem dX7_reach_28 : decode cX7_reach 28 = .ok (.invokevirtual 70, 3) := by decide +kernel
theorem dX7_reach_31 : decode cX7_reach 31 = .ok (.ireturn, 1) := by decide +kernel
theorem dX7_reach_32 : decode cX7_reach 32 = .ok (.iconst 0, 1) := by decide +kernel
theorem dX7_reach_33 : decode cX7_reach 33 = .ok (.istore 4, 2) := by decide +kernel
theorem dX7_reach_35 : decode cX7_reach 35 = .ok (.iload 4, 2) := by decide +kernel
theorem dX7_reach_37 : decode cX7_reach 37 = .ok (.bipush 8, 2) := by decide +kernel
theorem dX7_reach_39 : decode cX7_reach 39 = .ok (.if_icmp .ge 39, 3) := by decide +kernel
theorem dX7_reach_42 : decode cX7_reach 42 = .ok (.aload_n 0, 1) := by decide +kernel
theorem dX7_reach_43 : decode cX7_reach 43 = .ok (.getfield 26, 3) := by decide +kernel
theorem dX7_reach_46 : decode cX7_reach 46 = .ok (.aload_n 0, 1) := by decide +kernel
theorem dX7_reach_47 : decode cX7_reach 47 = .ok (.getfield 10, 3) := by decide +kernel
theorem dX7_reach_50 : decode cX7_reach 50 = .ok (.iload_n 1, 1) := by decide +kernel
theorem dX7_reach_51 : decode cX7_reach 51 = .ok (.iload 4, 2) := by decide +kernel
theorem dX7_reach_53 : decode cX7_reach 53 = .ok (.iload_n 3, 1) := by decide +kernel
theorem dX7_reach_54 : decode cX7_reach 54 = .ok (.iconst 0, 1) := by decide +kernel
theorem dX7_reach_55 : decode cX7_reach 55 = .ok (.invokevirtual 186, 3) := by decide +kernel
theorem dX7_reach_58 : decode cX7_reach 58 = .ok (.aload_n 0, 1) := by decide +kernel
theorem dX7_reach_59 : decode cX7_reach 59 = .ok (.getfield 26, 3) := by decide +kernel
theorem dX7_reach_62 : decode cX7_reach 62 = .ok (.iload_n 2, 1) := by decide +kernel
theorem dX7_reach_63 : decode cX7_reach 63 = .ok (.invokevirtual 202, 3) := by decide +kernel
theorem dX7_reach_66 : decode cX7_reach 66 = .ok (.ifCond .eq 6, 3) := by decide +kernel
theorem dX7_reach_69 : decode cX7_reach 69 = .ok (.iload 4, 2) := by decide +kernel
theorem dX7_reach_71 : decode cX7_reach 71 = .ok (.ireturn, 1) := by decide +kernel
theorem dX7_reach_72 : decode cX7_reach 72 = .ok (.iinc 4 1, 3) := by decide +kernel
theorem dX7_reach_75 : decode cX7_reach 75 = .ok (.goto (-40), 3) := by decide +kernel
theorem dX7_reach_78 : decode cX7_reach 78 = .ok (.aload_n 0, 1) := by decide +kernel
theorem dX7_reach_79 : decode cX7_reach 79 = .ok (.ldc 126, 2) := by decide +kernel
theorem dX7_reach_81 : decode cX7_reach 81 = .ok (.invokevirtual 70, 3) := by decide +kernel
theorem dX7_reach_84 : decode cX7_reach 84 = .ok (.ireturn, 1) := by decide +kernel
theorem dX7_strength_0 : decode cX7_strength 0 = .ok (.aload_n 0, 1) := by decide +kernel
theorem dX7_strength_1 : decode cX7_strength 1 = .ok (.iload_n 1, 1) := by decide +kernel
theorem dX7_strength_2 : decode cX7_strength 2 = .ok (.iload_n 2, 1) := by decide +kernel
theorem dX7_strength_3 : decode cX7_strength 3 = .ok (.invokevirtual 106, 3) := by decide +kernel
theorem dX7_strength_6 : decode cX7_strength 6 = .ok (.ifCond .eq 10, 3) := by decide +kernel
theorem dX7_strength_9 : decode cX7_strength 9 = .ok (.iload_n 3, 1) := by decide +kernel
theorem dX7_strength_10 : decode cX7_strength 10 = .ok (.invokestatic 199, 3) := by decide +kernel
theorem dX7_strength_13 : decode cX7_strength 13 = .ok (.ifCond .ne 10, 3) := by decide +kernel
theorem dX7_strength_16 : decode cX7_strength 16 = .ok (.aload_n 0, 1) := by decide +kernel
theorem dX7_strength_17 : decode cX7_strength 17 = .ok (.ldc 69, 2) := by decide +kernel
theorem dX7_strength_19 : decode cX7_strength 19 = .ok (.invokevirtual 70, 3) := by decide +kernel
theorem dX7_strength_22 : decode cX7_strength 22 = .ok (.ireturn, 1) := by decide +kernel
theorem dX7_strength_23 : decode cX7_strength 23 = .ok (.iconst 1, 1) := by decide +kernel
theorem dX7_strength_24 : decode cX7_strength 24 = .ok (.istore 4, 2) := by decide +kernel
theorem dX7_strength_26 : decode cX7_strength 26 = .ok (.iload 4, 2) := by decide +kernel
theorem dX7_strength_28 : decode cX7_strength 28 = .ok (.bipush 9, 2) := by decide +kernel
theorem dX7_strength_30 : decode cX7_strength 30 = .ok (.if_icmp .gt 39, 3) := by decide +kernel
theorem dX7_strength_33 : decode cX7_strength 33 = .ok (.aload_n 0, 1) := by decide +kernel
theorem dX7_strength_34 : decode cX7_strength 34 = .ok (.getfield 26, 3) := by decide +kernel
theorem dX7_strength_37 : decode cX7_strength 37 = .ok (.aload_n 0, 1) := by decide +kernel
theorem dX7_strength_38 : decode cX7_strength 38 = .ok (.getfield 10, 3) := by decide +kernel
theorem dX7_strength_41 : decode cX7_strength 41 = .ok (.iload_n 1, 1) := by decide +kernel
theorem dX7_strength_42 : decode cX7_strength 42 = .ok (.iload_n 2, 1) := by decide +kernel
theorem dX7_strength_43 : decode cX7_strength 43 = .ok (.iload 4, 2) := by decide +kernel
theorem dX7_strength_45 : decode cX7_strength 45 = .ok (.iconst 0, 1) := by decide +kernel
theorem dX7_strength_46 : decode cX7_strength 46 = .ok (.invokevirtual 186, 3) := by decide +kernel
theorem dX7_strength_49 : decode cX7_strength 49 = .ok (.aload_n 0, 1) := by decide +kernel
theorem dX7_strength_50 : decode cX7_strength 50 = .ok (.getfield 26, 3) := by decide +kernel
theorem dX7_strength_53 : decode cX7_strength 53 = .ok (.iload_n 3, 1) := by decide +kernel
theorem dX7_strength_54 : decode cX7_strength 54 = .ok (.invokevirtual 202, 3) := by decide +kernel
theorem dX7_strength_57 : decode cX7_strength 57 = .ok (.ifCond .eq 6, 3) := by decide +kernel
theorem dX7_strength_60 : decode cX7_strength 60 = .ok (.iload 4, 2) := by decide +kernel
theorem dX7_strength_62 : decode cX7_strength 62 = .ok (.ireturn, 1) := by decide +kernel
theorem dX7_strength_63 : decode cX7_strength 63 = .ok (.iinc 4 1, 3) := by decide +kernel
theorem dX7_strength_66 : decode cX7_strength 66 = .ok (.goto (-40), 3) := by decide +kernel
theorem dX7_strength_69 : decode cX7_strength 69 = .ok (.aload_n 0, 1) := by decide +kernel
theorem dX7_strength_70 : decode cX7_strength 70 = .ok (.ldc 126, 2) := by decide +kernel
theorem dX7_strength_72 : decode cX7_strength 72 = .ok (.invokevirtual 70, 3) := by decide +kernel
theorem dX7_strength_75 : decode cX7_strength 75 = .ok (.ireturn, 1) := by decide +kernel
theorem dX7_secret_0 : decode cX7_secret 0 = .ok (.aload_n 0, 1) := by decide +kernel
theorem dX7_secret_1 : decode cX7_secret 1 = .ok (.getfield 10, 3) := by decide +kernel
theorem dX7_secret_4 : decode cX7_secret 4 = .ok (.iload_n 1, 1) := by decide +kernel
theorem dX7_secret_5 : decode cX7_secret 5 = .ok (.invokevirtual 82, 3) := by decide +kernel
theorem dX7_secret_8 : decode cX7_secret 8 = .ok (.ifCond .eq 17, 3) := by decide +kernel
theorem dX7_secret_11 : decode cX7_secret 11 = .ok (.iload_n 2, 1) := by decide +kernel
theorem dX7_secret_12 : decode cX7_secret 12 = .ok (.invokestatic 199, 3) := by decide +kernel
theorem dX7_secret_15 : decode cX7_secret 15 = .ok (.ifCond .eq 10, 3) := by decide +kernel
theorem dX7_secret_18 : decode cX7_secret 18 = .ok (.iload_n 3, 1) := by decide +kernel
theorem dX7_secret_19 : decode cX7_secret 19 = .ok (.invokestatic 199, 3) := by decide +kernel
theorem dX7_secret_22 : decode cX7_secret 22 = .ok (.ifCond .ne 10, 3) := by decide +kernel
theorem dX7_secret_25 : decode cX7_secret 25 = .ok (.aload_n 0, 1) := by decide +kernel
theorem dX7_secret_26 : decode cX7_secret 26 = .ok (.ldc 69, 2) := by decide +kernel
theorem dX7_secret_28 : decode cX7_secret 28 = .ok (.invokevirtual 70, 3) := by decide +kernel
theorem dX7_secret_31 : decode cX7_secret 31 = .ok (.ireturn, 1) := by decide +kernel
theorem dX7_secret_32 : decode cX7_secret 32 = .ok (.iconst 0, 1) := by decide +kernel
theorem dX7_secret_33 : decode cX7_secret 33 = .ok (.istore 4, 2) := by decide +kernel
theorem dX7_secret_35 : decode cX7_secret 35 = .ok (.iload 4, 2) := by decide +kernel
theorem dX7_secret_37 : decode cX7_secret 37 = .ok (.bipush 8, 2) := by decide +kernel
theorem dX7_secret_39 : decode cX7_secret 39 = .ok (.if_icmp .ge 74, 3) := by decide +kernel
theorem dX7_secret_42 : decode cX7_secret 42 = .ok (.iconst 1, 1) := by decide +kernel
theorem dX7_secret_43 : decode cX7_secret 43 = .ok (.istore 5, 2) := by decide +kernel
theorem dX7_secret_45 : decode cX7_secret 45 = .ok (.iload 5, 2) := by decide +kernel
theorem dX7_secret_47 : decode cX7_secret 47 = .ok (.bipush 9, 2) := by decide +kernel
theorem dX7_secret_49 : decode cX7_secret 49 = .ok (.if_icmp .gt 58, 3) := by decide +kernel
theorem dX7_secret_52 : decode cX7_secret 52 = .ok (.aload_n 0, 1) := by decide +kernel
theorem dX7_secret_53 : decode cX7_secret 53 = .ok (.getfield 26, 3) := by decide +kernel
theorem dX7_secret_56 : decode cX7_secret 56 = .ok (.aload_n 0, 1) := by decide +kernel
theorem dX7_secret_57 : decode cX7_secret 57 = .ok (.getfield 10, 3) := by decide +kernel
theorem dX7_secret_60 : decode cX7_secret 60 = .ok (.iload_n 1, 1) := by decide +kernel
theorem dX7_secret_61 : decode cX7_secret 61 = .ok (.iload 4, 2) := by decide +kernel
theorem dX7_secret_63 : decode cX7_secret 63 = .ok (.iload 5, 2) := by decide +kernel
theorem dX7_secret_65 : decode cX7_secret 65 = .ok (.iconst 0, 1) := by decide +kernel
theorem dX7_secret_66 : decode cX7_secret 66 = .ok (.invokevirtual 186, 3) := by decide +kernel
theorem dX7_secret_69 : decode cX7_secret 69 = .ok (.aload_n 0, 1) := by decide +kernel
theorem dX7_secret_70 : decode cX7_secret 70 = .ok (.getfield 26, 3) := by decide +kernel
theorem dX7_secret_73 : decode cX7_secret 73 = .ok (.iload_n 2, 1) := by decide +kernel
theorem dX7_secret_74 : decode cX7_secret 74 = .ok (.invokevirtual 202, 3) := by decide +kernel
theorem dX7_secret_77 : decode cX7_secret 77 = .ok (.ifCond .eq 24, 3) := by decide +kernel
theorem dX7_secret_80 : decode cX7_secret 80 = .ok (.aload_n 0, 1) := by decide +kernel
theorem dX7_secret_81 : decode cX7_secret 81 = .ok (.getfield 26, 3) := by decide +kernel
theorem dX7_secret_84 : decode cX7_secret 84 = .ok (.getfield 190, 3) := by decide +kernel
theorem dX7_secret_87 : decode cX7_secret 87 = .ok (.iload_n 3, 1) := by decide +kernel
theorem dX7_secret_88 : decode cX7_secret 88 = .ok (.iand, 1) := by decide +kernel
theorem dX7_secret_89 : decode cX7_secret 89 = .ok (.ifCond .ne 12, 3) := by decide +kernel
theorem dX7_secret_92 : decode cX7_secret 92 = .ok (.bipush 10, 2) := by decide +kernel
theorem dX7_secret_94 : decode cX7_secret 94 = .ok (.iload 4, 2) := by decide +kernel
theorem dX7_secret_96 : decode cX7_secret 96 = .ok (.imul, 1) := by decide +kernel
theorem dX7_secret_97 : decode cX7_secret 97 = .ok (.iload 5, 2) := by decide +kernel
theorem dX7_secret_99 : decode cX7_secret 99 = .ok (.iadd, 1) := by decide +kernel
theorem dX7_secret_100 : decode cX7_secret 100 = .ok (.ireturn, 1) := by decide +kernel
theorem dX7_secret_101 : decode cX7_secret 101 = .ok (.iinc 5 1, 3) := by decide +kernel
theorem dX7_secret_104 : decode cX7_secret 104 = .ok (.goto (-59), 3) := by decide +kernel
theorem dX7_secret_107 : decode cX7_secret 107 = .ok (.iinc 4 1, 3) := by decide +kernel
theorem dX7_secret_110 : decode cX7_secret 110 = .ok (.goto (-75), 3) := by decide +kernel
theorem dX7_secret_113 : decode cX7_secret 113 = .ok (.aload_n 0, 1) := by decide +kernel
theorem dX7_secret_114 : decode cX7_secret 114 = .ok (.ldc 126, 2) := by decide +kernel
theorem dX7_secret_116 : decode cX7_secret 116 = .ok (.invokevirtual 70, 3) := by decide +kernel
theorem dX7_secret_119 : decode cX7_secret 119 = .ok (.ireturn, 1) := by decide +kernel
theorem dX7_fewest_0 : decode cX7_fewest 0 = .ok (.iload_n 1, 1) := by decide +kernel
theorem dX7_fewest_1 : decode cX7_fewest 1 = .ok (.invokestatic 199, 3) := by decide +kernel
theorem dX7_fewest_4 : decode cX7_fewest 4 = .ok (.ifCond .eq 10, 3) := by decide +kernel
theorem dX7_fewest_7 : decode cX7_fewest 7 = .ok (.iload_n 2, 1) := by decide +kernel
theorem dX7_fewest_8 : decode cX7_fewest 8 = .ok (.invokestatic 180, 3) := by decide +kernel
theorem dX7_fewest_11 : decode cX7_fewest 11 = .ok (.ifCond .ne 10, 3) := by decide +kernel
theorem dX7_fewest_14 : decode cX7_fewest 14 = .ok (.aload_n 0, 1) := by decide +kernel
theorem dX7_fewest_15 : decode cX7_fewest 15 = .ok (.ldc 69, 2) := by decide +kernel
theorem dX7_fewest_17 : decode cX7_fewest 17 = .ok (.invokevirtual 70, 3) := by decide +kernel
theorem dX7_fewest_20 : decode cX7_fewest 20 = .ok (.ireturn, 1) := by decide +kernel
theorem dX7_fewest_21 : decode cX7_fewest 21 = .ok (.iconst 0, 1) := by decide +kernel
theorem dX7_fewest_22 : decode cX7_fewest 22 = .ok (.istore_n 3, 1) := by decide +kernel
theorem dX7_fewest_23 : decode cX7_fewest 23 = .ok (.iload_n 3, 1) := by decide +kernel
theorem dX7_fewest_24 : decode cX7_fewest 24 = .ok (.aload_n 0, 1) := by decide +kernel
theorem dX7_fewest_25 : decode cX7_fewest 25 = .ok (.getfield 10, 3) := by decide +kernel
theorem dX7_fewest_28 : decode cX7_fewest 28 = .ok (.getfield 74, 3) := by decide +kernel
theorem dX7_fewest_31 : decode cX7_fewest 31 = .ok (.if_icmp .ge 44, 3) := by decide +kernel
theorem dX7_fewest_34 : decode cX7_fewest 34 = .ok (.iload_n 3, 1) := by decide +kernel
theorem dX7_fewest_35 : decode cX7_fewest 35 = .ok (.bipush 6, 2) := by decide +kernel
theorem dX7_fewest_37 : decode cX7_fewest 37 = .ok (.if_icmp .ge 38, 3) := by decide +kernel
theorem dX7_fewest_40 : decode cX7_fewest 40 = .ok (.aload_n 0, 1) := by decide +kernel
theorem dX7_fewest_41 : decode cX7_fewest 41 = .ok (.getfield 26, 3) := by decide +kernel
theorem dX7_fewest_44 : decode cX7_fewest 44 = .ok (.aload_n 0, 1) := by decide +kernel
theorem dX7_fewest_45 : decode cX7_fewest 45 = .ok (.getfield 10, 3) := by decide +kernel
theorem dX7_fewest_48 : decode cX7_fewest 48 = .ok (.iload_n 3, 1) := by decide +kernel
theorem dX7_fewest_49 : decode cX7_fewest 49 = .ok (.bipush 7, 2) := by decide +kernel
theorem dX7_fewest_51 : decode cX7_fewest 51 = .ok (.iload_n 2, 1) := by decide +kernel
theorem dX7_fewest_52 : decode cX7_fewest 52 = .ok (.iconst 0, 1) := by decide +kernel
theorem dX7_fewest_53 : decode cX7_fewest 53 = .ok (.invokevirtual 186, 3) := by decide +kernel
theorem dX7_fewest_56 : decode cX7_fewest 56 = .ok (.aload_n 0, 1) := by decide +kernel
theorem dX7_fewest_57 : decode cX7_fewest 57 = .ok (.getfield 62, 3) := by decide +kernel
theorem dX7_fewest_60 : decode cX7_fewest 60 = .ok (.iload_n 3, 1) := by decide +kernel
theorem dX7_fewest_61 : decode cX7_fewest 61 = .ok (.aload_n 0, 1) := by decide +kernel
theorem dX7_fewest_62 : decode cX7_fewest 62 = .ok (.getfield 26, 3) := by decide +kernel
theorem dX7_fewest_65 : decode cX7_fewest 65 = .ok (.getfield 190, 3) := by decide +kernel
theorem dX7_fewest_68 : decode cX7_fewest 68 = .ok (.iastore, 1) := by decide +kernel
theorem dX7_fewest_69 : decode cX7_fewest 69 = .ok (.iinc 3 1, 3) := by decide +kernel
theorem dX7_fewest_72 : decode cX7_fewest 72 = .ok (.goto (-49), 3) := by decide +kernel
theorem dX7_fewest_75 : decode cX7_fewest 75 = .ok (.iconst (-1), 1) := by decide +kernel
theorem dX7_fewest_76 : decode cX7_fewest 76 = .ok (.istore_n 3, 1) := by decide +kernel
theorem dX7_fewest_77 : decode cX7_fewest 77 = .ok (.iconst 0, 1) := by decide +kernel
theorem dX7_fewest_78 : decode cX7_fewest 78 = .ok (.istore 4, 2) := by decide +kernel
theorem dX7_fewest_80 : decode cX7_fewest 80 = .ok (.iload 4, 2) := by decide +kernel
theorem dX7_fewest_82 : decode cX7_fewest 82 = .ok (.iconst 1, 1) := by decide +kernel
theorem dX7_fewest_83 : decode cX7_fewest 83 = .ok (.aload_n 0, 1) := by decide +kernel
theorem dX7_fewest_84 : decode cX7_fewest 84 = .ok (.getfield 10, 3) := by decide +kernel
theorem dX7_fewest_87 : decode cX7_fewest 87 = .ok (.getfield 74, 3) := by decide +kernel
theorem dX7_fewest_90 : decode cX7_fewest 90 = .ok (.ishl, 1) := by decide +kernel
theorem dX7_fewest_91 : decode cX7_fewest 91 = .ok (.if_icmp .ge 54, 3) := by decide +kernel
theorem dX7_fewest_94 : decode cX7_fewest 94 = .ok (.iload_n 3, 1) := by decide +kernel
theorem dX7_fewest_95 : decode cX7_fewest 95 = .ok (.iconst (-1), 1) := by decide +kernel
theorem dX7_fewest_96 : decode cX7_fewest 96 = .ok (.if_icmp .eq 15, 3) := by decide +kernel
theorem dX7_fewest_99 : decode cX7_fewest 99 = .ok (.iload 4, 2) := by decide +kernel
theorem dX7_fewest_101 : decode cX7_fewest 101 = .ok (.invokestatic 205, 3) := by decide +kernel
theorem dX7_fewest_104 : decode cX7_fewest 104 = .ok (.iload_n 3, 1) := by decide +kernel
theorem dX7_fewest_105 : decode cX7_fewest 105 = .ok (.invokestatic 205, 3) := by decide +kernel
theorem dX7_fewest_108 : decode cX7_fewest 108 = .ok (.if_icmp .ge 7, 3) := by decide +kernel
theorem dX7_fewest_111 : decode cX7_fewest 111 = .ok (.iconst 1, 1) := by decide +kernel
theorem dX7_fewest_112 : decode cX7_fewest 112 = .ok (.goto 4, 3) := by decide +kernel
theorem dX7_fewest_115 : decode cX7_fewest 115 = .ok (.iconst 0, 1) := by decide +kernel
theorem dX7_fewest_116 : decode cX7_fewest 116 = .ok (.istore 5, 2) := by decide +kernel
theorem dX7_fewest_118 : decode cX7_fewest 118 = .ok (.iload 5, 2) := by decide +kernel
theorem dX7_fewest_120 : decode cX7_fewest 120 = .ok (.ifCond .eq 19, 3) := by decide +kernel
theorem dX7_fewest_123 : decode cX7_fewest 123 = .ok (.iload_n 1, 1) := by decide +kernel
theorem dX7_fewest_124 : decode cX7_fewest 124 = .ok (.aload_n 0, 1) := by decide +kernel
theorem dX7_fewest_125 : decode cX7_fewest 125 = .ok (.iload 4, 2) := by decide +kernel
theorem dX7_fewest_127 : decode cX7_fewest 127 = .ok (.invokevirtual 210, 3) := by decide +kernel
theorem dX7_fewest_130 : decode cX7_fewest 130 = .ok (.iconst (-1), 1) := by decide +kernel
theorem dX7_fewest_131 : decode cX7_fewest 131 = .ok (.ixor, 1) := by decide +kernel
theorem dX7_fewest_132 : decode cX7_fewest 132 = .ok (.iand, 1) := by decide +kernel
theorem dX7_fewest_133 : decode cX7_fewest 133 = .ok (.ifCond .ne 6, 3) := by decide +kernel
theorem dX7_fewest_136 : decode cX7_fewest 136 = .ok (.iload 4, 2) := by decide +kernel
theorem dX7_fewest_138 : decode cX7_fewest 138 = .ok (.istore_n 3, 1) := by decide +kernel
theorem dX7_fewest_139 : decode cX7_fewest 139 = .ok (.iinc 4 1, 3) := by decide +kernel
theorem dX7_fewest_142 : decode cX7_fewest 142 = .ok (.goto (-62), 3) := by decide +kernel
theorem dX7_fewest_145 : decode cX7_fewest 145 = .ok (.iload_n 3, 1) := by decide +kernel
theorem dX7_fewest_146 : decode cX7_fewest 146 = .ok (.iconst (-1), 1) := by decide +kernel
theorem dX7_fewest_147 : decode cX7_fewest 147 = .ok (.if_icmp .ne 12, 3) := by decide +kernel
theorem dX7_fewest_150 : decode cX7_fewest 150 = .ok (.aload_n 0, 1) := by decide +kernel
theorem dX7_fewest_151 : decode cX7_fewest 151 = .ok (.ldc 126, 2) := by decide +kernel
theorem dX7_fewest_153 : decode cX7_fewest 153 = .ok (.invokevirtual 70, 3) := by decide +kernel
theorem dX7_fewest_156 : decode cX7_fewest 156 = .ok (.goto 4, 3) := by decide +kernel
theorem dX7_fewest_159 : decode cX7_fewest 159 = .ok (.iload_n 3, 1) := by decide +kernel
theorem dX7_fewest_160 : decode cX7_fewest 160 = .ok (.ireturn, 1) := by decide +kernel
theorem dX7_where_0 : decode cX7_where 0 = .ok (.iload_n 1, 1) := by decide +kernel
theorem dX7_where_1 : decode cX7_where 1 = .ok (.invokestatic 142, 3) := by decide +kernel
theorem dX7_where_4 : decode cX7_where 4 = .ok (.ifCond .ne 10, 3) := by decide +kernel
theorem dX7_where_7 : decode cX7_where 7 = .ok (.aload_n 0, 1) := by decide +kernel
theorem dX7_where_8 : decode cX7_where 8 = .ok (.ldc 69, 2) := by decide +kernel
theorem dX7_where_10 : decode cX7_where 10 = .ok (.invokevirtual 70, 3) := by decide +kernel
theorem dX7_where_13 : decode cX7_where 13 = .ok (.ireturn, 1) := by decide +kernel
theorem dX7_where_14 : decode cX7_where 14 = .ok (.iconst 0, 1) := by decide +kernel
theorem dX7_where_15 : decode cX7_where 15 = .ok (.istore_n 2, 1) := by decide +kernel
theorem dX7_where_16 : decode cX7_where 16 = .ok (.iconst 0, 1) := by decide +kernel
theorem dX7_where_17 : decode cX7_where 17 = .ok (.istore_n 3, 1) := by decide +kernel
theorem dX7_where_18 : decode cX7_where 18 = .ok (.iload_n 3, 1) := by decide +kernel
theorem dX7_where_19 : decode cX7_where 19 = .ok (.aload_n 0, 1) := by decide +kernel
theorem dX7_where_20 : decode cX7_where 20 = .ok (.getfield 10, 3) := by decide +kernel
theorem dX7_where_23 : decode cX7_where 23 = .ok (.getfield 74, 3) := by decide +kernel
theorem dX7_where_26 : decode cX7_where 26 = .ok (.if_icmp .ge 30, 3) := by decide +kernel
theorem dX7_where_29 : decode cX7_where 29 = .ok (.aload_n 0, 1) := by decide +kernel
theorem dX7_where_30 : decode cX7_where 30 = .ok (.getfield 10, 3) := by decide +kernel
theorem dX7_where_33 : decode cX7_where 33 = .ok (.iload_n 3, 1) := by decide +kernel
theorem dX7_where_34 : decode cX7_where 34 = .ok (.invokevirtual 91, 3) := by decide +kernel
theorem dX7_where_37 : decode cX7_where 37 = .ok (.iload_n 1, 1) := by decide +kernel
theorem dX7_where_38 : decode cX7_where 38 = .ok (.invokestatic 213, 3) := by decide +kernel
theorem dX7_where_41 : decode cX7_where 41 = .ok (.ifCond .eq 9, 3) := by decide +kernel
theorem dX7_where_44 : decode cX7_where 44 = .ok (.iload_n 2, 1) := by decide +kernel
theorem dX7_where_45 : decode cX7_where 45 = .ok (.iconst 1, 1) := by decide +kernel
theorem dX7_where_46 : decode cX7_where 46 = .ok (.iload_n 3, 1) := by decide +kernel
theorem dX7_where_47 : decode cX7_where 47 = .ok (.ishl, 1) := by decide +kernel
theorem dX7_where_48 : decode cX7_where 48 = .ok (.ior, 1) := by decide +kernel
theorem dX7_where_49 : decode cX7_where 49 = .ok (.istore_n 2, 1) := by decide +kernel
theorem dX7_where_50 : decode cX7_where 50 = .ok (.iinc 3 1, 3) := by decide +kernel
theorem dX7_where_53 : decode cX7_where 53 = .ok (.goto (-35), 3) := by decide +kernel
theorem dX7_where_56 : decode cX7_where 56 = .ok (.iload_n 2, 1) := by decide +kernel
theorem dX7_where_57 : decode cX7_where 57 = .ok (.ireturn, 1) := by decide +kernel
theorem dX7_lost_0 : decode cX7_lost 0 = .ok (.aload_n 0, 1) := by decide +kernel
theorem dX7_lost_1 : decode cX7_lost 1 = .ok (.getfield 10, 3) := by decide +kernel
theorem dX7_lost_4 : decode cX7_lost 4 = .ok (.iload_n 1, 1) := by decide +kernel
theorem dX7_lost_5 : decode cX7_lost 5 = .ok (.invokevirtual 82, 3) := by decide +kernel
theorem dX7_lost_8 : decode cX7_lost 8 = .ok (.ifCond .eq 17, 3) := by decide +kernel
theorem dX7_lost_11 : decode cX7_lost 11 = .ok (.iload_n 2, 1) := by decide +kernel
theorem dX7_lost_12 : decode cX7_lost 12 = .ok (.invokestatic 142, 3) := by decide +kernel
theorem dX7_lost_15 : decode cX7_lost 15 = .ok (.ifCond .eq 10, 3) := by decide +kernel
theorem dX7_lost_18 : decode cX7_lost 18 = .ok (.iload_n 3, 1) := by decide +kernel
theorem dX7_lost_19 : decode cX7_lost 19 = .ok (.invokestatic 180, 3) := by decide +kernel
theorem dX7_lost_22 : decode cX7_lost 22 = .ok (.ifCond .ne 10, 3) := by decide +kernel
theorem dX7_lost_25 : decode cX7_lost 25 = .ok (.aload_n 0, 1) := by decide +kernel
theorem dX7_lost_26 : decode cX7_lost 26 = .ok (.ldc 69, 2) := by decide +kernel
theorem dX7_lost_28 : decode cX7_lost 28 = .ok (.invokevirtual 70, 3) := by decide +kernel
theorem dX7_lost_31 : decode cX7_lost 31 = .ok (.ireturn, 1) := by decide +kernel
theorem dX7_lost_32 : decode cX7_lost 32 = .ok (.iconst 0, 1) := by decide +kernel
theorem dX7_lost_33 : decode cX7_lost 33 = .ok (.istore 4, 2) := by decide +kernel
theorem dX7_lost_35 : decode cX7_lost 35 = .ok (.iload 4, 2) := by decide +kernel
theorem dX7_lost_37 : decode cX7_lost 37 = .ok (.bipush 60, 2) := by decide +kernel
theorem dX7_lost_39 : decode cX7_lost 39 = .ok (.if_icmp .gt 43, 3) := by decide +kernel
theorem dX7_lost_42 : decode cX7_lost 42 = .ok (.aload_n 0, 1) := by decide +kernel
theorem dX7_lost_43 : decode cX7_lost 43 = .ok (.getfield 26, 3) := by decide +kernel
theorem dX7_lost_46 : decode cX7_lost 46 = .ok (.aload_n 0, 1) := by decide +kernel
theorem dX7_lost_47 : decode cX7_lost 47 = .ok (.getfield 10, 3) := by decide +kernel
theorem dX7_lost_50 : decode cX7_lost 50 = .ok (.iload_n 1, 1) := by decide +kernel
theorem dX7_lost_51 : decode cX7_lost 51 = .ok (.bipush 7, 2) := by decide +kernel
theorem dX7_lost_53 : decode cX7_lost 53 = .ok (.iload_n 3, 1) := by decide +kernel
theorem dX7_lost_54 : decode cX7_lost 54 = .ok (.iload 4, 2) := by decide +kernel
theorem dX7_lost_56 : decode cX7_lost 56 = .ok (.invokevirtual 186, 3) := by decide +kernel
theorem dX7_lost_59 : decode cX7_lost 59 = .ok (.aload_n 0, 1) := by decide +kernel
theorem dX7_lost_60 : decode cX7_lost 60 = .ok (.getfield 26, 3) := by decide +kernel
theorem dX7_lost_63 : decode cX7_lost 63 = .ok (.getfield 190, 3) := by decide +kernel
theorem dX7_lost_66 : decode cX7_lost 66 = .ok (.iload_n 2, 1) := by decide +kernel
theorem dX7_lost_67 : decode cX7_lost 67 = .ok (.invokestatic 213, 3) := by decide +kernel
theorem dX7_lost_70 : decode cX7_lost 70 = .ok (.ifCond .ne 6, 3) := by decide +kernel
theorem dX7_lost_73 : decode cX7_lost 73 = .ok (.iload 4, 2) := by decide +kernel
theorem dX7_lost_75 : decode cX7_lost 75 = .ok (.ireturn, 1) := by decide +kernel
theorem dX7_lost_76 : decode cX7_lost 76 = .ok (.iinc 4 1, 3) := by decide +kernel
theorem dX7_lost_79 : decode cX7_lost 79 = .ok (.goto (-44), 3) := by decide +kernel
theorem dX7_lost_82 : decode cX7_lost 82 = .ok (.aload_n 0, 1) := by decide +kernel
theorem dX7_lost_83 : decode cX7_lost 83 = .ok (.ldc 126, 2) := by decide +kernel
theorem dX7_lost_85 : decode cX7_lost 85 = .ok (.invokevirtual 70, 3) := by decide +kernel
theorem dX7_lost_88 : decode cX7_lost 88 = .ok (.ireturn, 1) := by decide +kernel
theorem dX7_covers_0 : decode cX7_covers 0 = .ok (.aload_n 0, 1) := by decide +kernel
theorem dX7_covers_1 : decode cX7_covers 1 = .ok (.getfield 10, 3) := by decide +kernel
theorem dX7_covers_4 : decode cX7_covers 4 = .ok (.iload_n 1, 1) := by decide +kernel
theorem dX7_covers_5 : decode cX7_covers 5 = .ok (.invokevirtual 82, 3) := by decide +kernel
theorem dX7_covers_8 : decode cX7_covers 8 = .ok (.ifCond .eq 17, 3) := by decide +kernel
theorem dX7_covers_11 : decode cX7_covers 11 = .ok (.iload_n 2, 1) := by decide +kernel
theorem dX7_covers_12 : decode cX7_covers 12 = .ok (.invokestatic 142, 3) := by decide +kernel
theorem dX7_covers_15 : decode cX7_covers 15 = .ok (.ifCond .eq 10, 3) := by decide +kernel
theorem dX7_covers_18 : decode cX7_covers 18 = .ok (.iload_n 3, 1) := by decide +kernel
theorem dX7_covers_19 : decode cX7_covers 19 = .ok (.invokestatic 142, 3) := by decide +kernel
theorem dX7_covers_22 : decode cX7_covers 22 = .ok (.ifCond .ne 10, 3) := by decide +kernel
theorem dX7_covers_25 : decode cX7_covers 25 = .ok (.aload_n 0, 1) := by decide +kernel
theorem dX7_covers_26 : decode cX7_covers 26 = .ok (.ldc 69, 2) := by decide +kernel
theorem dX7_covers_28 : decode cX7_covers 28 = .ok (.invokevirtual 70, 3) := by decide +kernel
theorem dX7_covers_31 : decode cX7_covers 31 = .ok (.ireturn, 1) := by decide +kernel
theorem dX7_covers_32 : decode cX7_covers 32 = .ok (.aload_n 0, 1) := by decide +kernel
theorem dX7_covers_33 : decode cX7_covers 33 = .ok (.getfield 10, 3) := by decide +kernel
theorem dX7_covers_36 : decode cX7_covers 36 = .ok (.iload_n 1, 1) := by decide +kernel
theorem dX7_covers_37 : decode cX7_covers 37 = .ok (.iload_n 3, 1) := by decide +kernel
theorem dX7_covers_38 : decode cX7_covers 38 = .ok (.invokevirtual 216, 3) := by decide +kernel
theorem dX7_covers_41 : decode cX7_covers 41 = .ok (.istore 4, 2) := by decide +kernel
theorem dX7_covers_43 : decode cX7_covers 43 = .ok (.iload 4, 2) := by decide +kernel
theorem dX7_covers_45 : decode cX7_covers 45 = .ok (.iconst (-1), 1) := by decide +kernel
theorem dX7_covers_46 : decode cX7_covers 46 = .ok (.if_icmp .ne 10, 3) := by decide +kernel
theorem dX7_covers_49 : decode cX7_covers 49 = .ok (.aload_n 0, 1) := by decide +kernel
theorem dX7_covers_50 : decode cX7_covers 50 = .ok (.ldc 126, 2) := by decide +kernel
theorem dX7_covers_52 : decode cX7_covers 52 = .ok (.invokevirtual 70, 3) := by decide +kernel
theorem dX7_covers_55 : decode cX7_covers 55 = .ok (.ireturn, 1) := by decide +kernel
theorem dX7_covers_56 : decode cX7_covers 56 = .ok (.iconst 0, 1) := by decide +kernel
theorem dX7_covers_57 : decode cX7_covers 57 = .ok (.istore 5, 2) := by decide +kernel
theorem dX7_covers_59 : decode cX7_covers 59 = .ok (.iload 5, 2) := by decide +kernel
theorem dX7_covers_61 : decode cX7_covers 61 = .ok (.bipush 10, 2) := by decide +kernel
theorem dX7_covers_63 : decode cX7_covers 63 = .ok (.if_icmp .ge 28, 3) := by decide +kernel
theorem dX7_covers_66 : decode cX7_covers 66 = .ok (.aload_n 0, 1) := by decide +kernel
theorem dX7_covers_67 : decode cX7_covers 67 = .ok (.getfield 10, 3) := by decide +kernel
theorem dX7_covers_70 : decode cX7_covers 70 = .ok (.iload_n 1, 1) := by decide +kernel
theorem dX7_covers_71 : decode cX7_covers 71 = .ok (.iload_n 2, 1) := by decide +kernel
theorem dX7_covers_72 : decode cX7_covers 72 = .ok (.iload 5, 2) := by decide +kernel
theorem dX7_covers_74 : decode cX7_covers 74 = .ok (.invokevirtual 219, 3) := by decide +kernel
theorem dX7_covers_77 : decode cX7_covers 77 = .ok (.iload 4, 2) := by decide +kernel
theorem dX7_covers_79 : decode cX7_covers 79 = .ok (.if_icmp .ne 6, 3) := by decide +kernel
theorem dX7_covers_82 : decode cX7_covers 82 = .ok (.iload 5, 2) := by decide +kernel
theorem dX7_covers_84 : decode cX7_covers 84 = .ok (.ireturn, 1) := by decide +kernel
theorem dX7_covers_85 : decode cX7_covers 85 = .ok (.iinc 5 1, 3) := by decide +kernel
theorem dX7_covers_88 : decode cX7_covers 88 = .ok (.goto (-29), 3) := by decide +kernel
theorem dX7_covers_91 : decode cX7_covers 91 = .ok (.aload_n 0, 1) := by decide +kernel
theorem dX7_covers_92 : decode cX7_covers 92 = .ok (.ldc 126, 2) := by decide +kernel
theorem dX7_covers_94 : decode cX7_covers 94 = .ok (.invokevirtual 70, 3) := by decide +kernel
theorem dX7_covers_97 : decode cX7_covers 97 = .ok (.ireturn, 1) := by decide +kernel
theorem dX7_kind_0 : decode cX7_kind 0 = .ok (.aload_n 0, 1) := by decide +kernel
theorem dX7_kind_1 : decode cX7_kind 1 = .ok (.getfield 10, 3) := by decide +kernel
theorem dX7_kind_4 : decode cX7_kind 4 = .ok (.iload_n 1, 1) := by decide +kernel
theorem dX7_kind_5 : decode cX7_kind 5 = .ok (.invokevirtual 82, 3) := by decide +kernel
theorem dX7_kind_8 : decode cX7_kind 8 = .ok (.ifCond .eq 17, 3) := by decide +kernel
theorem dX7_kind_11 : decode cX7_kind 11 = .ok (.iload_n 2, 1) := by decide +kernel
theorem dX7_kind_12 : decode cX7_kind 12 = .ok (.invokestatic 199, 3) := by decide +kernel
theorem dX7_kind_15 : decode cX7_kind 15 = .ok (.ifCond .eq 10, 3) := by decide +kernel
theorem dX7_kind_18 : decode cX7_kind 18 = .ok (.iload_n 3, 1) := by decide +kernel
theorem dX7_kind_19 : decode cX7_kind 19 = .ok (.invokestatic 145, 3) := by decide +kernel
theorem dX7_kind_22 : decode cX7_kind 22 = .ok (.ifCond .ne 10, 3) := by decide +kernel
theorem dX7_kind_25 : decode cX7_kind 25 = .ok (.aload_n 0, 1) := by decide +kernel
theorem dX7_kind_26 : decode cX7_kind 26 = .ok (.ldc 69, 2) := by decide +kernel
theorem dX7_kind_28 : decode cX7_kind 28 = .ok (.invokevirtual 70, 3) := by decide +kernel
theorem dX7_kind_31 : decode cX7_kind 31 = .ok (.ireturn, 1) := by decide +kernel
theorem dX7_kind_32 : decode cX7_kind 32 = .ok (.iconst 0, 1) := by decide +kernel
theorem dX7_kind_33 : decode cX7_kind 33 = .ok (.istore 4, 2) := by decide +kernel
theorem dX7_kind_35 : decode cX7_kind 35 = .ok (.iconst (-1), 1) := by decide +kernel
theorem dX7_kind_36 : decode cX7_kind 36 = .ok (.istore 5, 2) := by decide +kernel
theorem dX7_kind_38 : decode cX7_kind 38 = .ok (.iconst 0, 1) := by decide +kernel
theorem dX7_kind_39 : decode cX7_kind 39 = .ok (.istore 6, 2) := by decide +kernel
theorem dX7_kind_41 : decode cX7_kind 41 = .ok (.iload 6, 2) := by decide +kernel
theorem dX7_kind_43 : decode cX7_kind 43 = .ok (.bipush 6, 2) := by decide +kernel
theorem dX7_kind_45 : decode cX7_kind 45 = .ok (.if_icmp .ge 50, 3) := by decide +kernel
theorem dX7_kind_48 : decode cX7_kind 48 = .ok (.aload_n 0, 1) := by decide +kernel
theorem dX7_kind_49 : decode cX7_kind 49 = .ok (.getfield 33, 3) := by decide +kernel
theorem dX7_kind_52 : decode cX7_kind 52 = .ok (.aload_n 0, 1) := by decide +kernel
theorem dX7_kind_53 : decode cX7_kind 53 = .ok (.getfield 10, 3) := by decide +kernel
theorem dX7_kind_56 : decode cX7_kind 56 = .ok (.iload_n 1, 1) := by decide +kernel
theorem dX7_kind_57 : decode cX7_kind 57 = .ok (.iload 6, 2) := by decide +kernel
theorem dX7_kind_59 : decode cX7_kind 59 = .ok (.iload_n 2, 1) := by decide +kernel
theorem dX7_kind_60 : decode cX7_kind 60 = .ok (.iload_n 3, 1) := by decide +kernel
theorem dX7_kind_61 : decode cX7_kind 61 = .ok (.invokevirtual 222, 3) := by decide +kernel
theorem dX7_kind_64 : decode cX7_kind 64 = .ok (.aload_n 0, 1) := by decide +kernel
theorem dX7_kind_65 : decode cX7_kind 65 = .ok (.getfield 33, 3) := by decide +kernel
theorem dX7_kind_68 : decode cX7_kind 68 = .ok (.getfield 225, 3) := by decide +kernel
theorem dX7_kind_71 : decode cX7_kind 71 = .ok (.iload 5, 2) := by decide +kernel
theorem dX7_kind_73 : decode cX7_kind 73 = .ok (.if_icmp .le 16, 3) := by decide +kernel
theorem dX7_kind_76 : decode cX7_kind 76 = .ok (.aload_n 0, 1) := by decide +kernel
theorem dX7_kind_77 : decode cX7_kind 77 = .ok (.getfield 33, 3) := by decide +kernel
theorem dX7_kind_80 : decode cX7_kind 80 = .ok (.getfield 225, 3) := by decide +kernel
theorem dX7_kind_83 : decode cX7_kind 83 = .ok (.istore 5, 2) := by decide +kernel
theorem dX7_kind_85 : decode cX7_kind 85 = .ok (.iload 6, 2) := by decide +kernel
theorem dX7_kind_87 : decode cX7_kind 87 = .ok (.istore 4, 2) := by decide +kernel
theorem dX7_kind_89 : decode cX7_kind 89 = .ok (.iinc 6 1, 3) := by decide +kernel
theorem dX7_kind_92 : decode cX7_kind 92 = .ok (.goto (-51), 3) := by decide +kernel
theorem dX7_kind_95 : decode cX7_kind 95 = .ok (.iload 4, 2) := by decide +kernel
theorem dX7_kind_97 : decode cX7_kind 97 = .ok (.ireturn, 1) := by decide +kernel
theorem dX7_best_0 : decode cX7_best 0 = .ok (.iload_n 1, 1) := by decide +kernel
theorem dX7_best_1 : decode cX7_best 1 = .ok (.invokestatic 199, 3) := by decide +kernel
theorem dX7_best_4 : decode cX7_best 4 = .ok (.ifCond .eq 10, 3) := by decide +kernel
theorem dX7_best_7 : decode cX7_best 7 = .ok (.iload_n 2, 1) := by decide +kernel
theorem dX7_best_8 : decode cX7_best 8 = .ok (.invokestatic 145, 3) := by decide +kernel
theorem dX7_best_11 : decode cX7_best 11 = .ok (.ifCond .ne 10, 3) := by decide +kernel
theorem dX7_best_14 : decode cX7_best 14 = .ok (.aload_n 0, 1) := by decide +kernel
theorem dX7_best_15 : decode cX7_best 15 = .ok (.ldc 69, 2) := by decide +kernel
theorem dX7_best_17 : decode cX7_best 17 = .ok (.invokevirtual 70, 3) := by decide +kernel
theorem dX7_best_20 : decode cX7_best 20 = .ok (.ireturn, 1) := by decide +kernel
theorem dX7_best_21 : decode cX7_best 21 = .ok (.aload_n 0, 1) := by decide +kernel
theorem dX7_best_22 : decode cX7_best 22 = .ok (.getfield 10, 3) := by decide +kernel
theorem dX7_best_25 : decode cX7_best 25 = .ok (.getfield 74, 3) := by decide +kernel
theorem dX7_best_28 : decode cX7_best 28 = .ok (.ifCond .ne 10, 3) := by decide +kernel
theorem dX7_best_31 : decode cX7_best 31 = .ok (.aload_n 0, 1) := by decide +kernel
theorem dX7_best_32 : decode cX7_best 32 = .ok (.ldc 126, 2) := by decide +kernel
theorem dX7_best_34 : decode cX7_best 34 = .ok (.invokevirtual 70, 3) := by decide +kernel
theorem dX7_best_37 : decode cX7_best 37 = .ok (.ireturn, 1) := by decide +kernel
theorem dX7_best_38 : decode cX7_best 38 = .ok (.iconst 0, 1) := by decide +kernel
theorem dX7_best_39 : decode cX7_best 39 = .ok (.istore_n 3, 1) := by decide +kernel
theorem dX7_best_40 : decode cX7_best 40 = .ok (.iconst 0, 1) := by decide +kernel
theorem dX7_best_41 : decode cX7_best 41 = .ok (.istore 4, 2) := by decide +kernel
theorem dX7_best_43 : decode cX7_best 43 = .ok (.iconst 0, 1) := by decide +kernel
theorem dX7_best_44 : decode cX7_best 44 = .ok (.istore 5, 2) := by decide +kernel
theorem dX7_best_46 : decode cX7_best 46 = .ok (.iload 5, 2) := by decide +kernel
theorem dX7_best_48 : decode cX7_best 48 = .ok (.aload_n 0, 1) := by decide +kernel
theorem dX7_best_49 : decode cX7_best 49 = .ok (.getfield 10, 3) := by decide +kernel
theorem dX7_best_52 : decode cX7_best 52 = .ok (.getfield 74, 3) := by decide +kernel
theorem dX7_best_55 : decode cX7_best 55 = .ok (.if_icmp .ge 62, 3) := by decide +kernel
theorem dX7_best_58 : decode cX7_best 58 = .ok (.aload_n 0, 1) := by decide +kernel
theorem dX7_best_59 : decode cX7_best 59 = .ok (.getfield 33, 3) := by decide +kernel
theorem dX7_best_62 : decode cX7_best 62 = .ok (.aload_n 0, 1) := by decide +kernel
theorem dX7_best_63 : decode cX7_best 63 = .ok (.getfield 10, 3) := by decide +kernel
theorem dX7_best_66 : decode cX7_best 66 = .ok (.iload 5, 2) := by decide +kernel
theorem dX7_best_68 : decode cX7_best 68 = .ok (.aload_n 0, 1) := by decide +kernel
theorem dX7_best_69 : decode cX7_best 69 = .ok (.getfield 10, 3) := by decide +kernel
theorem dX7_best_72 : decode cX7_best 72 = .ok (.iload 5, 2) := by decide +kernel
theorem dX7_best_74 : decode cX7_best 74 = .ok (.invokevirtual 85, 3) := by decide +kernel
theorem dX7_best_77 : decode cX7_best 77 = .ok (.iload_n 1, 1) := by decide +kernel
theorem dX7_best_78 : decode cX7_best 78 = .ok (.iload_n 2, 1) := by decide +kernel
theorem dX7_best_79 : decode cX7_best 79 = .ok (.invokevirtual 222, 3) := by decide +kernel
theorem dX7_best_82 : decode cX7_best 82 = .ok (.iload 5, 2) := by decide +kernel
theorem dX7_best_84 : decode cX7_best 84 = .ok (.ifCond .eq 15, 3) := by decide +kernel
theorem dX7_best_87 : decode cX7_best 87 = .ok (.aload_n 0, 1) := by decide +kernel
theorem dX7_best_88 : decode cX7_best 88 = .ok (.getfield 33, 3) := by decide +kernel
theorem dX7_best_91 : decode cX7_best 91 = .ok (.getfield 228, 3) := by decide +kernel
theorem dX7_best_94 : decode cX7_best 94 = .ok (.iload 4, 2) := by decide +kernel
theorem dX7_best_96 : decode cX7_best 96 = .ok (.if_icmp .le 15, 3) := by decide +kernel
theorem dX7_best_99 : decode cX7_best 99 = .ok (.aload_n 0, 1) := by decide +kernel
theorem dX7_best_100 : decode cX7_best 100 = .ok (.getfield 33, 3) := by decide +kernel
theorem dX7_best_103 : decode cX7_best 103 = .ok (.getfield 228, 3) := by decide +kernel
theorem dX7_best_106 : decode cX7_best 106 = .ok (.istore 4, 2) := by decide +kernel
theorem dX7_best_108 : decode cX7_best 108 = .ok (.iload 5, 2) := by decide +kernel
theorem dX7_best_110 : decode cX7_best 110 = .ok (.istore_n 3, 1) := by decide +kernel
theorem dX7_best_111 : decode cX7_best 111 = .ok (.iinc 5 1, 3) := by decide +kernel
theorem dX7_best_114 : decode cX7_best 114 = .ok (.goto (-68), 3) := by decide +kernel
theorem dX7_best_117 : decode cX7_best 117 = .ok (.iload_n 3, 1) := by decide +kernel
theorem dX7_best_118 : decode cX7_best 118 = .ok (.ireturn, 1) := by decide +kernel
theorem dX7_richest_0 : decode cX7_richest 0 = .ok (.aload_n 0, 1) := by decide +kernel
theorem dX7_richest_1 : decode cX7_richest 1 = .ok (.getfield 10, 3) := by decide +kernel
theorem dX7_richest_4 : decode cX7_richest 4 = .ok (.iload_n 1, 1) := by decide +kernel
theorem dX7_richest_5 : decode cX7_richest 5 = .ok (.invokevirtual 82, 3) := by decide +kernel
theorem dX7_richest_8 : decode cX7_richest 8 = .ok (.ifCond .ne 10, 3) := by decide +kernel
theorem dX7_richest_11 : decode cX7_richest 11 = .ok (.aload_n 0, 1) := by decide +kernel
theorem dX7_richest_12 : decode cX7_richest 12 = .ok (.ldc 69, 2) := by decide +kernel
theorem dX7_richest_14 : decode cX7_richest 14 = .ok (.invokevirtual 70, 3) := by decide +kernel
theorem dX7_richest_17 : decode cX7_richest 17 = .ok (.ireturn, 1) := by decide +kernel
theorem dX7_richest_18 : decode cX7_richest 18 = .ok (.iconst 0, 1) := by decide +kernel
theorem dX7_richest_19 : decode cX7_richest 19 = .ok (.istore_n 2, 1) := by decide +kernel
theorem dX7_richest_20 : decode cX7_richest 20 = .ok (.iconst 0, 1) := by decide +kernel
theorem dX7_richest_21 : decode cX7_richest 21 = .ok (.istore_n 3, 1) := by decide +kernel
theorem dX7_richest_22 : decode cX7_richest 22 = .ok (.iconst 0, 1) := by decide +kernel
theorem dX7_richest_23 : decode cX7_richest 23 = .ok (.istore 4, 2) := by decide +kernel
theorem dX7_richest_25 : decode cX7_richest 25 = .ok (.iload 4, 2) := by decide +kernel
theorem dX7_richest_27 : decode cX7_richest 27 = .ok (.bipush 8, 2) := by decide +kernel
theorem dX7_richest_29 : decode cX7_richest 29 = .ok (.if_icmp .ge 36, 3) := by decide +kernel
theorem dX7_richest_32 : decode cX7_richest 32 = .ok (.aload_n 0, 1) := by decide +kernel
theorem dX7_richest_33 : decode cX7_richest 33 = .ok (.getfield 10, 3) := by decide +kernel
theorem dX7_richest_36 : decode cX7_richest 36 = .ok (.iload_n 1, 1) := by decide +kernel
theorem dX7_richest_37 : decode cX7_richest 37 = .ok (.iload 4, 2) := by decide +kernel
theorem dX7_richest_39 : decode cX7_richest 39 = .ok (.invokevirtual 116, 3) := by decide +kernel
theorem dX7_richest_42 : decode cX7_richest 42 = .ok (.invokestatic 205, 3) := by decide +kernel
theorem dX7_richest_45 : decode cX7_richest 45 = .ok (.istore 5, 2) := by decide +kernel
theorem dX7_richest_47 : decode cX7_richest 47 = .ok (.iload 5, 2) := by decide +kernel
theorem dX7_richest_49 : decode cX7_richest 49 = .ok (.iload_n 3, 1) := by decide +kernel
theorem dX7_richest_50 : decode cX7_richest 50 = .ok (.if_icmp .le 9, 3) := by decide +kernel
theorem dX7_richest_53 : decode cX7_richest 53 = .ok (.iload 5, 2) := by decide +kernel
theorem dX7_richest_55 : decode cX7_richest 55 = .ok (.istore_n 3, 1) := by decide +kernel
theorem dX7_richest_56 : decode cX7_richest 56 = .ok (.iload 4, 2) := by decide +kernel
theorem dX7_richest_58 : decode cX7_richest 58 = .ok (.istore_n 2, 1) := by decide +kernel
theorem dX7_richest_59 : decode cX7_richest 59 = .ok (.iinc 4 1, 3) := by decide +kernel
theorem dX7_richest_62 : decode cX7_richest 62 = .ok (.goto (-37), 3) := by decide +kernel
theorem dX7_richest_65 : decode cX7_richest 65 = .ok (.iload_n 3, 1) := by decide +kernel
theorem dX7_richest_66 : decode cX7_richest 66 = .ok (.ifCond .ne 12, 3) := by decide +kernel
theorem dX7_richest_69 : decode cX7_richest 69 = .ok (.aload_n 0, 1) := by decide +kernel
theorem dX7_richest_70 : decode cX7_richest 70 = .ok (.ldc 126, 2) := by decide +kernel
theorem dX7_richest_72 : decode cX7_richest 72 = .ok (.invokevirtual 70, 3) := by decide +kernel
theorem dX7_richest_75 : decode cX7_richest 75 = .ok (.goto 4, 3) := by decide +kernel
theorem dX7_richest_78 : decode cX7_richest 78 = .ok (.iload_n 2, 1) := by decide +kernel
theorem dX7_richest_79 : decode cX7_richest 79 = .ok (.ireturn, 1) := by decide +kernel
theorem dX7_feed_0 : decode cX7_feed 0 = .ok (.iload_n 2, 1) := by decide +kernel
theorem dX7_feed_1 : decode cX7_feed 1 = .ok (.iconst 1, 1) := by decide +kernel
theorem dX7_feed_2 : decode cX7_feed 2 = .ok (.if_icmp .lt 8, 3) := by decide +kernel
theorem dX7_feed_5 : decode cX7_feed 5 = .ok (.iload_n 2, 1) := by decide +kernel
theorem dX7_feed_6 : decode cX7_feed 6 = .ok (.iconst 4, 1) := by decide +kernel
theorem dX7_feed_7 : decode cX7_feed 7 = .ok (.if_icmp .le 10, 3) := by decide +kernel
theorem dX7_feed_10 : decode cX7_feed 10 = .ok (.aload_n 0, 1) := by decide +kernel
theorem dX7_feed_11 : decode cX7_feed 11 = .ok (.ldc 69, 2) := by decide +kernel
theorem dX7_feed_13 : decode cX7_feed 13 = .ok (.invokevirtual 70, 3) := by decide +kernel
theorem dX7_feed_16 : decode cX7_feed 16 = .ok (.ireturn, 1) := by decide +kernel
theorem dX7_feed_17 : decode cX7_feed 17 = .ok (.aload_n 0, 1) := by decide +kernel
theorem dX7_feed_18 : decode cX7_feed 18 = .ok (.getfield 40, 3) := by decide +kernel
theorem dX7_feed_21 : decode cX7_feed 21 = .ok (.iload_n 2, 1) := by decide +kernel
theorem dX7_feed_22 : decode cX7_feed 22 = .ok (.invokevirtual 231, 3) := by decide +kernel
theorem dX7_feed_25 : decode cX7_feed 25 = .ok (.ifCond .ne 10, 3) := by decide +kernel
theorem dX7_feed_28 : decode cX7_feed 28 = .ok (.aload_n 0, 1) := by decide +kernel
theorem dX7_feed_29 : decode cX7_feed 29 = .ok (.ldc 78, 2) := by decide +kernel
theorem dX7_feed_31 : decode cX7_feed 31 = .ok (.invokevirtual 70, 3) := by decide +kernel
theorem dX7_feed_34 : decode cX7_feed 34 = .ok (.ireturn, 1) := by decide +kernel
theorem dX7_feed_35 : decode cX7_feed 35 = .ok (.iload_n 2, 1) := by decide +kernel
theorem dX7_feed_36 : decode cX7_feed 36 = .ok (.iconst 1, 1) := by decide +kernel
theorem dX7_feed_37 : decode cX7_feed 37 = .ok (.isub, 1) := by decide +kernel
theorem dX7_feed_38 : decode cX7_feed 38 = .ok (.istore_n 3, 1) := by decide +kernel
theorem dX7_feed_39 : decode cX7_feed 39 = .ok (.iload_n 3, 1) := by decide +kernel
theorem dX7_feed_40 : decode cX7_feed 40 = .ok (.ifCond .lt 26, 3) := by decide +kernel
theorem dX7_feed_43 : decode cX7_feed 43 = .ok (.aload_n 0, 1) := by decide +kernel
theorem dX7_feed_44 : decode cX7_feed 44 = .ok (.getfield 40, 3) := by decide +kernel
theorem dX7_feed_47 : decode cX7_feed 47 = .ok (.iload_n 1, 1) := by decide +kernel
theorem dX7_feed_48 : decode cX7_feed 48 = .ok (.bipush 8, 2) := by decide +kernel
theorem dX7_feed_50 : decode cX7_feed 50 = .ok (.iload_n 3, 1) := by decide +kernel
theorem dX7_feed_51 : decode cX7_feed 51 = .ok (.imul, 1) := by decide +kernel
theorem dX7_feed_52 : decode cX7_feed 52 = .ok (.ishr, 1) := by decide +kernel
theorem dX7_feed_53 : decode cX7_feed 53 = .ok (.sipush 255, 3) := by decide +kernel
theorem dX7_feed_56 : decode cX7_feed 56 = .ok (.iand, 1) := by decide +kernel
theorem dX7_feed_57 : decode cX7_feed 57 = .ok (.invokevirtual 234, 3) := by decide +kernel
theorem dX7_feed_60 : decode cX7_feed 60 = .ok (.iinc 3 (-1), 3) := by decide +kernel
theorem dX7_feed_63 : decode cX7_feed 63 = .ok (.goto (-24), 3) := by decide +kernel
theorem dX7_feed_66 : decode cX7_feed 66 = .ok (.aload_n 0, 1) := by decide +kernel
theorem dX7_feed_67 : decode cX7_feed 67 = .ok (.getfield 40, 3) := by decide +kernel
theorem dX7_feed_70 : decode cX7_feed 70 = .ok (.getfield 237, 3) := by decide +kernel
theorem dX7_feed_73 : decode cX7_feed 73 = .ok (.ireturn, 1) := by decide +kernel
theorem dX7_wipe_0 : decode cX7_wipe 0 = .ok (.aload_n 0, 1) := by decide +kernel
theorem dX7_wipe_1 : decode cX7_wipe 1 = .ok (.getfield 40, 3) := by decide +kernel
theorem dX7_wipe_4 : decode cX7_wipe 4 = .ok (.getfield 237, 3) := by decide +kernel
theorem dX7_wipe_7 : decode cX7_wipe 7 = .ok (.istore_n 1, 1) := by decide +kernel
theorem dX7_wipe_8 : decode cX7_wipe 8 = .ok (.aload_n 0, 1) := by decide +kernel
theorem dX7_wipe_9 : decode cX7_wipe 9 = .ok (.getfield 40, 3) := by decide +kernel
theorem dX7_wipe_12 : decode cX7_wipe 12 = .ok (.iconst 0, 1) := by decide +kernel
theorem dX7_wipe_13 : decode cX7_wipe 13 = .ok (.putfield 237, 3) := by decide +kernel
theorem dX7_wipe_16 : decode cX7_wipe 16 = .ok (.iload_n 1, 1) := by decide +kernel
theorem dX7_wipe_17 : decode cX7_wipe 17 = .ok (.ireturn, 1) := by decide +kernel
theorem dX7_house_0 : decode cX7_house 0 = .ok (.aload_n 0, 1) := by decide +kernel
theorem dX7_house_1 : decode cX7_house 1 = .ok (.getfield 47, 3) := by decide +kernel
theorem dX7_house_4 : decode cX7_house 4 = .ok (.aload_n 0, 1) := by decide +kernel
theorem dX7_house_5 : decode cX7_house 5 = .ok (.getfield 40, 3) := by decide +kernel
theorem dX7_house_8 : decode cX7_house 8 = .ok (.aload_n 0, 1) := by decide +kernel
theorem dX7_house_9 : decode cX7_house 9 = .ok (.getfield 10, 3) := by decide +kernel
theorem dX7_house_12 : decode cX7_house 12 = .ok (.iconst 0, 1) := by decide +kernel
theorem dX7_house_13 : decode cX7_house 13 = .ok (.invokevirtual 240, 3) := by decide +kernel
theorem dX7_house_16 : decode cX7_house 16 = .ok (.istore_n 1, 1) := by decide +kernel
theorem dX7_house_17 : decode cX7_house 17 = .ok (.iload_n 1, 1) := by decide +kernel
theorem dX7_house_18 : decode cX7_house 18 = .ok (.ifCond .lt 20, 3) := by decide +kernel
theorem dX7_house_21 : decode cX7_house 21 = .ok (.aload_n 0, 1) := by decide +kernel
theorem dX7_house_22 : decode cX7_house 22 = .ok (.getfield 47, 3) := by decide +kernel
theorem dX7_house_25 : decode cX7_house 25 = .ok (.aload_n 0, 1) := by decide +kernel
theorem dX7_house_26 : decode cX7_house 26 = .ok (.getfield 40, 3) := by decide +kernel
theorem dX7_house_29 : decode cX7_house 29 = .ok (.aload_n 0, 1) := by decide +kernel
theorem dX7_house_30 : decode cX7_house 30 = .ok (.getfield 10, 3) := by decide +kernel
theorem dX7_house_33 : decode cX7_house 33 = .ok (.iconst 1, 1) := by decide +kernel
theorem dX7_house_34 : decode cX7_house 34 = .ok (.invokevirtual 240, 3) := by decide +kernel
theorem dX7_house_37 : decode cX7_house 37 = .ok (.istore_n 1, 1) := by decide +kernel
theorem dX7_house_38 : decode cX7_house 38 = .ok (.aload_n 0, 1) := by decide +kernel
theorem dX7_house_39 : decode cX7_house 39 = .ok (.getfield 40, 3) := by decide +kernel
theorem dX7_house_42 : decode cX7_house 42 = .ok (.iconst 0, 1) := by decide +kernel
theorem dX7_house_43 : decode cX7_house 43 = .ok (.putfield 237, 3) := by decide +kernel
theorem dX7_house_46 : decode cX7_house 46 = .ok (.iload_n 1, 1) := by decide +kernel
theorem dX7_house_47 : decode cX7_house 47 = .ok (.ireturn, 1) := by decide +kernel
theorem dX7_sheet_0 : decode cX7_sheet 0 = .ok (.iload_n 1, 1) := by decide +kernel
theorem dX7_sheet_1 : decode cX7_sheet 1 = .ok (.invokestatic 244, 3) := by decide +kernel
theorem dX7_sheet_4 : decode cX7_sheet 4 = .ok (.ifCond .eq 10, 3) := by decide +kernel
theorem dX7_sheet_7 : decode cX7_sheet 7 = .ok (.iload_n 2, 1) := by decide +kernel
theorem dX7_sheet_8 : decode cX7_sheet 8 = .ok (.invokestatic 247, 3) := by decide +kernel
theorem dX7_sheet_11 : decode cX7_sheet 11 = .ok (.ifCond .ne 10, 3) := by decide +kernel
theorem dX7_sheet_14 : decode cX7_sheet 14 = .ok (.aload_n 0, 1) := by decide +kernel
theorem dX7_sheet_15 : decode cX7_sheet 15 = .ok (.ldc 69, 2) := by decide +kernel
theorem dX7_sheet_17 : decode cX7_sheet 17 = .ok (.invokevirtual 70, 3) := by decide +kernel
theorem dX7_sheet_20 : decode cX7_sheet 20 = .ok (.ireturn, 1) := by decide +kernel
theorem dX7_sheet_21 : decode cX7_sheet 21 = .ok (.iload_n 3, 1) := by decide +kernel
theorem dX7_sheet_22 : decode cX7_sheet 22 = .ok (.ifCond .ge 10, 3) := by decide +kernel
theorem dX7_sheet_25 : decode cX7_sheet 25 = .ok (.aload_n 0, 1) := by decide +kernel
theorem dX7_sheet_26 : decode cX7_sheet 26 = .ok (.ldc 250, 2) := by decide +kernel
theorem dX7_sheet_28 : decode cX7_sheet 28 = .ok (.invokevirtual 70, 3) := by decide +kernel
theorem dX7_sheet_31 : decode cX7_sheet 31 = .ok (.ireturn, 1) := by decide +kernel
theorem dX7_sheet_32 : decode cX7_sheet 32 = .ok (.iload_n 3, 1) := by decide +kernel
theorem dX7_sheet_33 : decode cX7_sheet 33 = .ok (.bipush 40, 2) := by decide +kernel
theorem dX7_sheet_35 : decode cX7_sheet 35 = .ok (.if_icmp .le 10, 3) := by decide +kernel
theorem dX7_sheet_38 : decode cX7_sheet 38 = .ok (.aload_n 0, 1) := by decide +kernel
theorem dX7_sheet_39 : decode cX7_sheet 39 = .ok (.ldc 69, 2) := by decide +kernel
theorem dX7_sheet_41 : decode cX7_sheet 41 = .ok (.invokevirtual 70, 3) := by decide +kernel
theorem dX7_sheet_44 : decode cX7_sheet 44 = .ok (.ireturn, 1) := by decide +kernel
theorem dX7_sheet_45 : decode cX7_sheet 45 = .ok (.aload_n 0, 1) := by decide +kernel
theorem dX7_sheet_46 : decode cX7_sheet 46 = .ok (.getfield 54, 3) := by decide +kernel
theorem dX7_sheet_49 : decode cX7_sheet 49 = .ok (.iload_n 1, 1) := by decide +kernel
theorem dX7_sheet_50 : decode cX7_sheet 50 = .ok (.iload_n 2, 1) := by decide +kernel
theorem dX7_sheet_51 : decode cX7_sheet 51 = .ok (.iload_n 3, 1) := by decide +kernel
theorem dX7_sheet_52 : decode cX7_sheet 52 = .ok (.invokevirtual 251, 3) := by decide +kernel
theorem dX7_sheet_55 : decode cX7_sheet 55 = .ok (.ireturn, 1) := by decide +kernel
theorem dX7_write_0 : decode cX7_write 0 = .ok (.aload_n 0, 1) := by decide +kernel
theorem dX7_write_1 : decode cX7_write 1 = .ok (.iload_n 1, 1) := by decide +kernel
theorem dX7_write_2 : decode cX7_write 2 = .ok (.invokevirtual 254, 3) := by decide +kernel
theorem dX7_write_5 : decode cX7_write 5 = .ok (.istore 5, 2) := by decide +kernel
theorem dX7_write_7 : decode cX7_write 7 = .ok (.iload 5, 2) := by decide +kernel
theorem dX7_write_9 : decode cX7_write 9 = .ok (.ifCond .eq 7, 3) := by decide +kernel
theorem dX7_write_12 : decode cX7_write 12 = .ok (.iload 5, 2) := by decide +kernel
theorem dX7_write_14 : decode cX7_write 14 = .ok (.i2l, 1) := by decide +kernel
theorem dX7_write_15 : decode cX7_write 15 = .ok (.lreturn, 1) := by decide +kernel
theorem dX7_write_16 : decode cX7_write 16 = .ok (.iload_n 2, 1) := by decide +kernel
theorem dX7_write_17 : decode cX7_write 17 = .ok (.aload_n 0, 1) := by decide +kernel
theorem dX7_write_18 : decode cX7_write 18 = .ok (.getfield 54, 3) := by decide +kernel
theorem dX7_write_21 : decode cX7_write 21 = .ok (.iload_n 1, 1) := by decide +kernel
theorem dX7_write_22 : decode cX7_write 22 = .ok (.invokevirtual 257, 3) := by decide +kernel
theorem dX7_write_25 : decode cX7_write 25 = .ok (.invokestatic 119, 3) := by decide +kernel
theorem dX7_write_28 : decode cX7_write 28 = .ok (.ifCond .ne 11, 3) := by decide +kernel
theorem dX7_write_31 : decode cX7_write 31 = .ok (.aload_n 0, 1) := by decide +kernel
theorem dX7_write_32 : decode cX7_write 32 = .ok (.ldc 69, 2) := by decide +kernel
theorem dX7_write_34 : decode cX7_write 34 = .ok (.invokevirtual 70, 3) := by decide +kernel
theorem dX7_write_37 : decode cX7_write 37 = .ok (.i2l, 1) := by decide +kernel
theorem dX7_write_38 : decode cX7_write 38 = .ok (.lreturn, 1) := by decide +kernel
theorem dX7_write_39 : decode cX7_write 39 = .ok (.aload_n 0, 1) := by decide +kernel
theorem dX7_write_40 : decode cX7_write 40 = .ok (.getfield 54, 3) := by decide +kernel
theorem dX7_write_43 : decode cX7_write 43 = .ok (.iload_n 1, 1) := by decide +kernel
theorem dX7_write_44 : decode cX7_write 44 = .ok (.iload_n 2, 1) := by decide +kernel
theorem dX7_write_45 : decode cX7_write 45 = .ok (.invokevirtual 259, 3) := by decide +kernel
theorem dX7_write_48 : decode cX7_write 48 = .ok (.lstore 6, 2) := by decide +kernel
theorem dX7_write_50 : decode cX7_write 50 = .ok (.aload_n 0, 1) := by decide +kernel
theorem dX7_write_51 : decode cX7_write 51 = .ok (.getfield 54, 3) := by decide +kernel
theorem dX7_write_54 : decode cX7_write 54 = .ok (.iload_n 1, 1) := by decide +kernel
theorem dX7_write_55 : decode cX7_write 55 = .ok (.iload_n 2, 1) := by decide +kernel
theorem dX7_write_56 : decode cX7_write 56 = .ok (.lload_n 3, 1) := by decide +kernel
theorem dX7_write_57 : decode cX7_write 57 = .ok (.invokevirtual 262, 3) := by decide +kernel
theorem dX7_write_60 : decode cX7_write 60 = .ok (.lload 6, 2) := by decide +kernel
theorem dX7_write_62 : decode cX7_write 62 = .ok (.lreturn, 1) := by decide +kernel
theorem dX7_copy_0 : decode cX7_copy 0 = .ok (.iload_n 1, 1) := by decide +kernel
theorem dX7_copy_1 : decode cX7_copy 1 = .ok (.invokestatic 244, 3) := by decide +kernel
theorem dX7_copy_4 : decode cX7_copy 4 = .ok (.ifCond .eq 10, 3) := by decide +kernel
theorem dX7_copy_7 : decode cX7_copy 7 = .ok (.iload_n 3, 1) := by decide +kernel
theorem dX7_copy_8 : decode cX7_copy 8 = .ok (.invokestatic 244, 3) := by decide +kernel
theorem dX7_copy_11 : decode cX7_copy 11 = .ok (.ifCond .ne 10, 3) := by decide +kernel
theorem dX7_copy_14 : decode cX7_copy 14 = .ok (.aload_n 0, 1) := by decide +kernel
theorem dX7_copy_15 : decode cX7_copy 15 = .ok (.ldc 69, 2) := by decide +kernel
theorem dX7_copy_17 : decode cX7_copy 17 = .ok (.invokevirtual 70, 3) := by decide +kernel
theorem dX7_copy_20 : decode cX7_copy 20 = .ok (.ireturn, 1) := by decide +kernel
theorem dX7_copy_21 : decode cX7_copy 21 = .ok (.aload_n 0, 1) := by decide +kernel
theorem dX7_copy_22 : decode cX7_copy 22 = .ok (.getfield 54, 3) := by decide +kernel
theorem dX7_copy_25 : decode cX7_copy 25 = .ok (.iload_n 1, 1) := by decide +kernel
theorem dX7_copy_26 : decode cX7_copy 26 = .ok (.invokevirtual 266, 3) := by decide +kernel
theorem dX7_copy_29 : decode cX7_copy 29 = .ok (.ifCond .ne 14, 3) := by decide +kernel
theorem dX7_copy_32 : decode cX7_copy 32 = .ok (.aload_n 0, 1) := by decide +kernel
theorem dX7_copy_33 : decode cX7_copy 33 = .ok (.getfield 54, 3) := by decide +kernel
theorem dX7_copy_36 : decode cX7_copy 36 = .ok (.iload_n 3, 1) := by decide +kernel
theorem dX7_copy_37 : decode cX7_copy 37 = .ok (.invokevirtual 266, 3) := by decide +kernel
theorem dX7_copy_40 : decode cX7_copy 40 = .ok (.ifCond .eq 11, 3) := by decide +kernel
theorem dX7_copy_43 : decode cX7_copy 43 = .ok (.aload_n 0, 1) := by decide +kernel
theorem dX7_copy_44 : decode cX7_copy 44 = .ok (.ldc_w 269, 3) := by decide +kernel
theorem dX7_copy_47 : decode cX7_copy 47 = .ok (.invokevirtual 70, 3) := by decide +kernel
theorem dX7_copy_50 : decode cX7_copy 50 = .ok (.ireturn, 1) := by decide +kernel
theorem dX7_copy_51 : decode cX7_copy 51 = .ok (.aload_n 0, 1) := by decide +kernel
theorem dX7_copy_52 : decode cX7_copy 52 = .ok (.getfield 54, 3) := by decide +kernel
theorem dX7_copy_55 : decode cX7_copy 55 = .ok (.iload_n 1, 1) := by decide +kernel
theorem dX7_copy_56 : decode cX7_copy 56 = .ok (.invokevirtual 270, 3) := by decide +kernel
theorem dX7_copy_59 : decode cX7_copy 59 = .ok (.aload_n 0, 1) := by decide +kernel
theorem dX7_copy_60 : decode cX7_copy 60 = .ok (.getfield 54, 3) := by decide +kernel
theorem dX7_copy_63 : decode cX7_copy 63 = .ok (.iload_n 3, 1) := by decide +kernel
theorem dX7_copy_64 : decode cX7_copy 64 = .ok (.invokevirtual 270, 3) := by decide +kernel
theorem dX7_copy_67 : decode cX7_copy 67 = .ok (.if_icmp .eq 10, 3) := by decide +kernel
theorem dX7_copy_70 : decode cX7_copy 70 = .ok (.aload_n 0, 1) := by decide +kernel
theorem dX7_copy_71 : decode cX7_copy 71 = .ok (.ldc 141, 2) := by decide +kernel
theorem dX7_copy_73 : decode cX7_copy 73 = .ok (.invokevirtual 70, 3) := by decide +kernel
theorem dX7_copy_76 : decode cX7_copy 76 = .ok (.ireturn, 1) := by decide +kernel
theorem dX7_copy_77 : decode cX7_copy 77 = .ok (.aload_n 0, 1) := by decide +kernel
theorem dX7_copy_78 : decode cX7_copy 78 = .ok (.getfield 54, 3) := by decide +kernel
theorem dX7_copy_81 : decode cX7_copy 81 = .ok (.iload_n 1, 1) := by decide +kernel
theorem dX7_copy_82 : decode cX7_copy 82 = .ok (.iload_n 2, 1) := by decide +kernel
theorem dX7_copy_83 : decode cX7_copy 83 = .ok (.iload 5, 2) := by decide +kernel
theorem dX7_copy_85 : decode cX7_copy 85 = .ok (.invokevirtual 273, 3) := by decide +kernel
theorem dX7_copy_88 : decode cX7_copy 88 = .ok (.ifCond .eq 18, 3) := by decide +kernel
theorem dX7_copy_91 : decode cX7_copy 91 = .ok (.aload_n 0, 1) := by decide +kernel
theorem dX7_copy_92 : decode cX7_copy 92 = .ok (.getfield 54, 3) := by decide +kernel
theorem dX7_copy_95 : decode cX7_copy 95 = .ok (.iload_n 3, 1) := by decide +kernel
theorem dX7_copy_96 : decode cX7_copy 96 = .ok (.iload 4, 2) := by decide +kernel
theorem dX7_copy_98 : decode cX7_copy 98 = .ok (.iload 5, 2) := by decide +kernel
theorem dX7_copy_100 : decode cX7_copy 100 = .ok (.invokevirtual 273, 3) := by decide +kernel
theorem dX7_copy_103 : decode cX7_copy 103 = .ok (.ifCond .ne 10, 3) := by decide +kernel
theorem dX7_copy_106 : decode cX7_copy 106 = .ok (.aload_n 0, 1) := by decide +kernel
theorem dX7_copy_107 : decode cX7_copy 107 = .ok (.ldc 69, 2) := by decide +kernel
theorem dX7_copy_109 : decode cX7_copy 109 = .ok (.invokevirtual 70, 3) := by decide +kernel
theorem dX7_copy_112 : decode cX7_copy 112 = .ok (.ireturn, 1) := by decide +kernel
theorem dX7_copy_113 : decode cX7_copy 113 = .ok (.aload_n 0, 1) := by decide +kernel
theorem dX7_copy_114 : decode cX7_copy 114 = .ok (.getfield 54, 3) := by decide +kernel
theorem dX7_copy_117 : decode cX7_copy 117 = .ok (.iload_n 1, 1) := by decide +kernel
theorem dX7_copy_118 : decode cX7_copy 118 = .ok (.iload_n 2, 1) := by decide +kernel
theorem dX7_copy_119 : decode cX7_copy 119 = .ok (.iload_n 3, 1) := by decide +kernel
theorem dX7_copy_120 : decode cX7_copy 120 = .ok (.iload 4, 2) := by decide +kernel
theorem dX7_copy_122 : decode cX7_copy 122 = .ok (.iload 5, 2) := by decide +kernel
theorem dX7_copy_124 : decode cX7_copy 124 = .ok (.invokevirtual 276, 3) := by decide +kernel
theorem dX7_copy_127 : decode cX7_copy 127 = .ok (.iload 5, 2) := by decide +kernel
theorem dX7_copy_129 : decode cX7_copy 129 = .ok (.ireturn, 1) := by decide +kernel
theorem dX7_lays_0 : decode cX7_lays 0 = .ok (.aload_n 0, 1) := by decide +kernel
theorem dX7_lays_1 : decode cX7_lays 1 = .ok (.iload_n 1, 1) := by decide +kernel
theorem dX7_lays_2 : decode cX7_lays 2 = .ok (.iload_n 2, 1) := by decide +kernel
theorem dX7_lays_3 : decode cX7_lays 3 = .ok (.invokevirtual 280, 3) := by decide +kernel
theorem dX7_lays_6 : decode cX7_lays 6 = .ok (.istore_n 3, 1) := by decide +kernel
theorem dX7_lays_7 : decode cX7_lays 7 = .ok (.iload_n 3, 1) := by decide +kernel
theorem dX7_lays_8 : decode cX7_lays 8 = .ok (.ifCond .eq 5, 3) := by decide +kernel
theorem dX7_lays_11 : decode cX7_lays 11 = .ok (.iload_n 3, 1) := by decide +kernel
theorem dX7_lays_12 : decode cX7_lays 12 = .ok (.ireturn, 1) := by decide +kernel
theorem dX7_lays_13 : decode cX7_lays 13 = .ok (.iconst 0, 1) := by decide +kernel
theorem dX7_lays_14 : decode cX7_lays 14 = .ok (.istore 4, 2) := by decide +kernel
theorem dX7_lays_16 : decode cX7_lays 16 = .ok (.iconst 0, 1) := by decide +kernel
theorem dX7_lays_17 : decode cX7_lays 17 = .ok (.istore 5, 2) := by decide +kernel
theorem dX7_lays_19 : decode cX7_lays 19 = .ok (.iload 5, 2) := by decide +kernel
theorem dX7_lays_21 : decode cX7_lays 21 = .ok (.aload_n 0, 1) := by decide +kernel
theorem dX7_lays_22 : decode cX7_lays 22 = .ok (.getfield 54, 3) := by decide +kernel
theorem dX7_lays_25 : decode cX7_lays 25 = .ok (.iload_n 1, 1) := by decide +kernel
theorem dX7_lays_26 : decode cX7_lays 26 = .ok (.invokevirtual 257, 3) := by decide +kernel
theorem dX7_lays_29 : decode cX7_lays 29 = .ok (.if_icmp .ge 59, 3) := by decide +kernel
theorem dX7_lays_32 : decode cX7_lays 32 = .ok (.aload_n 0, 1) := by decide +kernel
theorem dX7_lays_33 : decode cX7_lays 33 = .ok (.getfield 54, 3) := by decide +kernel
theorem dX7_lays_36 : decode cX7_lays 36 = .ok (.iload_n 1, 1) := by decide +kernel
theorem dX7_lays_37 : decode cX7_lays 37 = .ok (.iload 5, 2) := by decide +kernel
theorem dX7_lays_39 : decode cX7_lays 39 = .ok (.invokevirtual 259, 3) := by decide +kernel
theorem dX7_lays_42 : decode cX7_lays 42 = .ok (.lstore 6, 2) := by decide +kernel
theorem dX7_lays_44 : decode cX7_lays 44 = .ok (.lload 6, 2) := by decide +kernel
theorem dX7_lays_46 : decode cX7_lays 46 = .ok (.lconst 0, 1) := by decide +kernel
theorem dX7_lays_47 : decode cX7_lays 47 = .ok (.lcmp, 1) := by decide +kernel
theorem dX7_lays_48 : decode cX7_lays 48 = .ok (.ifCond .lt 34, 3) := by decide +kernel
theorem dX7_lays_51 : decode cX7_lays 51 = .ok (.lload 6, 2) := by decide +kernel
theorem dX7_lays_53 : decode cX7_lays 53 = .ok (.ldc2_w 283, 3) := by decide +kernel
theorem dX7_lays_56 : decode cX7_lays 56 = .ok (.lcmp, 1) := by decide +kernel
theorem dX7_lays_57 : decode cX7_lays 57 = .ok (.ifCond .lt 6, 3) := by decide +kernel
theorem dX7_lays_60 : decode cX7_lays 60 = .ok (.goto 22, 3) := by decide +kernel
theorem dX7_lays_63 : decode cX7_lays 63 = .ok (.aload_n 0, 1) := by decide +kernel
theorem dX7_lays_64 : decode cX7_lays 64 = .ok (.getfield 10, 3) := by decide +kernel
theorem dX7_lays_67 : decode cX7_lays 67 = .ok (.iload_n 2, 1) := by decide +kernel
theorem dX7_lays_68 : decode cX7_lays 68 = .ok (.lload 6, 2) := by decide +kernel
theorem dX7_lays_70 : decode cX7_lays 70 = .ok (.l2i, 1) := by decide +kernel
theorem dX7_lays_71 : decode cX7_lays 71 = .ok (.iconst 5, 1) := by decide +kernel
theorem dX7_lays_72 : decode cX7_lays 72 = .ok (.invokevirtual 155, 3) := by decide +kernel
theorem dX7_lays_75 : decode cX7_lays 75 = .ok (.iconst (-1), 1) := by decide +kernel
theorem dX7_lays_76 : decode cX7_lays 76 = .ok (.if_icmp .eq 6, 3) := by decide +kernel
theorem dX7_lays_79 : decode cX7_lays 79 = .ok (.iinc 4 1, 3) := by decide +kernel
theorem dX7_lays_82 : decode cX7_lays 82 = .ok (.iinc 5 1, 3) := by decide +kernel
theorem dX7_lays_85 : decode cX7_lays 85 = .ok (.goto (-66), 3) := by decide +kernel
theorem dX7_lays_88 : decode cX7_lays 88 = .ok (.iload 4, 2) := by decide +kernel
theorem dX7_lays_90 : decode cX7_lays 90 = .ok (.ireturn, 1) := by decide +kernel
theorem dX7_book_0 : decode cX7_book 0 = .ok (.aload_n 0, 1) := by decide +kernel
theorem dX7_book_1 : decode cX7_book 1 = .ok (.iload_n 1, 1) := by decide +kernel
theorem dX7_book_2 : decode cX7_book 2 = .ok (.iload_n 2, 1) := by decide +kernel
theorem dX7_book_3 : decode cX7_book 3 = .ok (.invokevirtual 280, 3) := by decide +kernel
theorem dX7_book_6 : decode cX7_book 6 = .ok (.istore_n 3, 1) := by decide +kernel
theorem dX7_book_7 : decode cX7_book 7 = .ok (.iload_n 3, 1) := by decide +kernel
theorem dX7_book_8 : decode cX7_book 8 = .ok (.ifCond .eq 5, 3) := by decide +kernel
theorem dX7_book_11 : decode cX7_book 11 = .ok (.iload_n 3, 1) := by decide +kernel
theorem dX7_book_12 : decode cX7_book 12 = .ok (.ireturn, 1) := by decide +kernel
theorem dX7_book_13 : decode cX7_book 13 = .ok (.aload_n 0, 1) := by decide +kernel
theorem dX7_book_14 : decode cX7_book 14 = .ok (.getfield 26, 3) := by decide +kernel
theorem dX7_book_17 : decode cX7_book 17 = .ok (.aload_n 0, 1) := by decide +kernel
theorem dX7_book_18 : decode cX7_book 18 = .ok (.getfield 10, 3) := by decide +kernel
theorem dX7_book_21 : decode cX7_book 21 = .ok (.iload_n 2, 1) := by decide +kernel
theorem dX7_book_22 : decode cX7_book 22 = .ok (.bipush 7, 2) := by decide +kernel
theorem dX7_book_24 : decode cX7_book 24 = .ok (.bipush 9, 2) := by decide +kernel
theorem dX7_book_26 : decode cX7_book 26 = .ok (.iconst 0, 1) := by decide +kernel
theorem dX7_book_27 : decode cX7_book 27 = .ok (.invokevirtual 186, 3) := by decide +kernel
theorem dX7_book_30 : decode cX7_book 30 = .ok (.iconst 0, 1) := by decide +kernel
theorem dX7_book_31 : decode cX7_book 31 = .ok (.istore 4, 2) := by decide +kernel
theorem dX7_book_33 : decode cX7_book 33 = .ok (.iload 4, 2) := by decide +kernel
theorem dX7_book_35 : decode cX7_book 35 = .ok (.aload_n 0, 1) := by decide +kernel
theorem dX7_book_36 : decode cX7_book 36 = .ok (.getfield 54, 3) := by decide +kernel
theorem dX7_book_39 : decode cX7_book 39 = .ok (.iload_n 1, 1) := by decide +kernel
theorem dX7_book_40 : decode cX7_book 40 = .ok (.invokevirtual 257, 3) := by decide +kernel
theorem dX7_book_43 : decode cX7_book 43 = .ok (.if_icmp .ge 47, 3) := by decide +kernel
theorem dX7_book_46 : decode cX7_book 46 = .ok (.aload_n 0, 1) := by decide +kernel
theorem dX7_book_47 : decode cX7_book 47 = .ok (.getfield 54, 3) := by decide +kernel
theorem dX7_book_50 : decode cX7_book 50 = .ok (.iload_n 1, 1) := by decide +kernel
theorem dX7_book_51 : decode cX7_book 51 = .ok (.iload 4, 2) := by decide +kernel
theorem dX7_book_53 : decode cX7_book 53 = .ok (.iload 4, 2) := by decide +kernel
theorem dX7_book_55 : decode cX7_book 55 = .ok (.aload_n 0, 1) := by decide +kernel
theorem dX7_book_56 : decode cX7_book 56 = .ok (.getfield 26, 3) := by decide +kernel
theorem dX7_book_59 : decode cX7_book 59 = .ok (.getfield 193, 3) := by decide +kernel
theorem dX7_book_62 : decode cX7_book 62 = .ok (.if_icmp .ge 16, 3) := by decide +kernel
theorem dX7_book_65 : decode cX7_book 65 = .ok (.aload_n 0, 1) := by decide +kernel
theorem dX7_book_66 : decode cX7_book 66 = .ok (.getfield 26, 3) := by decide +kernel
theorem dX7_book_69 : decode cX7_book 69 = .ok (.iload 4, 2) := by decide +kernel
theorem dX7_book_71 : decode cX7_book 71 = .ok (.invokevirtual 196, 3) := by decide +kernel
theorem dX7_book_74 : decode cX7_book 74 = .ok (.i2l, 1) := by decide +kernel
theorem dX7_book_75 : decode cX7_book 75 = .ok (.goto 6, 3) := by decide +kernel
theorem dX7_book_78 : decode cX7_book 78 = .ok (.ldc2_w 285, 3) := by decide +kernel
theorem dX7_book_81 : decode cX7_book 81 = .ok (.invokevirtual 262, 3) := by decide +kernel
theorem dX7_book_84 : decode cX7_book 84 = .ok (.iinc 4 1, 3) := by decide +kernel
theorem dX7_book_87 : decode cX7_book 87 = .ok (.goto (-54), 3) := by decide +kernel
theorem dX7_book_90 : decode cX7_book 90 = .ok (.aload_n 0, 1) := by decide +kernel
theorem dX7_book_91 : decode cX7_book 91 = .ok (.getfield 26, 3) := by decide +kernel
theorem dX7_book_94 : decode cX7_book 94 = .ok (.getfield 193, 3) := by decide +kernel
theorem dX7_book_97 : decode cX7_book 97 = .ok (.ireturn, 1) := by decide +kernel
theorem dX7_read_0 : decode cX7_read 0 = .ok (.aload_n 0, 1) := by decide +kernel
theorem dX7_read_1 : decode cX7_read 1 = .ok (.iload_n 1, 1) := by decide +kernel
theorem dX7_read_2 : decode cX7_read 2 = .ok (.iload_n 2, 1) := by decide +kernel
theorem dX7_read_3 : decode cX7_read 3 = .ok (.invokevirtual 280, 3) := by decide +kernel
theorem dX7_read_6 : decode cX7_read 6 = .ok (.istore_n 3, 1) := by decide +kernel
theorem dX7_read_7 : decode cX7_read 7 = .ok (.iload_n 3, 1) := by decide +kernel
theorem dX7_read_8 : decode cX7_read 8 = .ok (.ifCond .eq 5, 3) := by decide +kernel
theorem dX7_read_11 : decode cX7_read 11 = .ok (.iload_n 3, 1) := by decide +kernel
theorem dX7_read_12 : decode cX7_read 12 = .ok (.ireturn, 1) := by decide +kernel
theorem dX7_read_13 : decode cX7_read 13 = .ok (.iconst 0, 1) := by decide +kernel
theorem dX7_read_14 : decode cX7_read 14 = .ok (.istore 4, 2) := by decide +kernel
theorem dX7_read_16 : decode cX7_read 16 = .ok (.iconst 0, 1) := by decide +kernel
theorem dX7_read_17 : decode cX7_read 17 = .ok (.istore 5, 2) := by decide +kernel
theorem dX7_read_19 : decode cX7_read 19 = .ok (.iload 5, 2) := by decide +kernel
theorem dX7_read_21 : decode cX7_read 21 = .ok (.bipush 8, 2) := by decide +kernel
theorem dX7_read_23 : decode cX7_read 23 = .ok (.if_icmp .ge 53, 3) := by decide +kernel
theorem dX7_read_26 : decode cX7_read 26 = .ok (.iconst 1, 1) := by decide +kernel
theorem dX7_read_27 : decode cX7_read 27 = .ok (.istore 6, 2) := by decide +kernel
theorem dX7_read_29 : decode cX7_read 29 = .ok (.iload 6, 2) := by decide +kernel
theorem dX7_read_31 : decode cX7_read 31 = .ok (.bipush 9, 2) := by decide +kernel
theorem dX7_read_33 : decode cX7_read 33 = .ok (.if_icmp .gt 37, 3) := by decide +kernel
theorem dX7_read_36 : decode cX7_read 36 = .ok (.aload_n 0, 1) := by decide +kernel
theorem dX7_read_37 : decode cX7_read 37 = .ok (.getfield 26, 3) := by decide +kernel
theorem dX7_read_40 : decode cX7_read 40 = .ok (.aload_n 0, 1) := by decide +kernel
theorem dX7_read_41 : decode cX7_read 41 = .ok (.getfield 10, 3) := by decide +kernel
theorem dX7_read_44 : decode cX7_read 44 = .ok (.iload_n 2, 1) := by decide +kernel
theorem dX7_read_45 : decode cX7_read 45 = .ok (.iload 5, 2) := by decide +kernel
theorem dX7_read_47 : decode cX7_read 47 = .ok (.iload 6, 2) := by decide +kernel
theorem dX7_read_49 : decode cX7_read 49 = .ok (.iconst 0, 1) := by decide +kernel
theorem dX7_read_50 : decode cX7_read 50 = .ok (.invokevirtual 186, 3) := by decide +kernel
theorem dX7_read_53 : decode cX7_read 53 = .ok (.aload_n 0, 1) := by decide +kernel
theorem dX7_read_54 : decode cX7_read 54 = .ok (.iload_n 1, 1) := by decide +kernel
theorem dX7_read_55 : decode cX7_read 55 = .ok (.invokevirtual 287, 3) := by decide +kernel
theorem dX7_read_58 : decode cX7_read 58 = .ok (.ifCond .eq 6, 3) := by decide +kernel
theorem dX7_read_61 : decode cX7_read 61 = .ok (.iinc 4 1, 3) := by decide +kernel
theorem dX7_read_64 : decode cX7_read 64 = .ok (.iinc 6 1, 3) := by decide +kernel
theorem dX7_read_67 : decode cX7_read 67 = .ok (.goto (-38), 3) := by decide +kernel
theorem dX7_read_70 : decode cX7_read 70 = .ok (.iinc 5 1, 3) := by decide +kernel
theorem dX7_read_73 : decode cX7_read 73 = .ok (.goto (-54), 3) := by decide +kernel
theorem dX7_read_76 : decode cX7_read 76 = .ok (.iload 4, 2) := by decide +kernel
theorem dX7_read_78 : decode cX7_read 78 = .ok (.ireturn, 1) := by decide +kernel
theorem dX7_image_0 : decode cX7_image 0 = .ok (.aload_n 0, 1) := by decide +kernel
theorem dX7_image_1 : decode cX7_image 1 = .ok (.getfield 16, 3) := by decide +kernel
theorem dX7_image_4 : decode cX7_image 4 = .ok (.aload_n 0, 1) := by decide +kernel
theorem dX7_image_5 : decode cX7_image 5 = .ok (.getfield 10, 3) := by decide +kernel
theorem dX7_image_8 : decode cX7_image 8 = .ok (.invokevirtual 290, 3) := by decide +kernel
theorem dX7_image_11 : decode cX7_image 11 = .ok (.aload_n 0, 1) := by decide +kernel
theorem dX7_image_12 : decode cX7_image 12 = .ok (.iconst 1, 1) := by decide +kernel
theorem dX7_image_13 : decode cX7_image 13 = .ok (.putfield 19, 3) := by decide +kernel
theorem dX7_image_16 : decode cX7_image 16 = .ok (.iconst 1, 1) := by decide +kernel
theorem dX7_image_17 : decode cX7_image 17 = .ok (.ireturn, 1) := by decide +kernel
theorem dX7_undo_0 : decode cX7_undo 0 = .ok (.aload_n 0, 1) := by decide +kernel
theorem dX7_undo_1 : decode cX7_undo 1 = .ok (.getfield 19, 3) := by decide +kernel
theorem dX7_undo_4 : decode cX7_undo 4 = .ok (.ifCond .ne 10, 3) := by decide +kernel
theorem dX7_undo_7 : decode cX7_undo 7 = .ok (.aload_n 0, 1) := by decide +kernel
theorem dX7_undo_8 : decode cX7_undo 8 = .ok (.ldc 126, 2) := by decide +kernel
theorem dX7_undo_10 : decode cX7_undo 10 = .ok (.invokevirtual 70, 3) := by decide +kernel
theorem dX7_undo_13 : decode cX7_undo 13 = .ok (.ireturn, 1) := by decide +kernel
theorem dX7_undo_14 : decode cX7_undo 14 = .ok (.aload_n 0, 1) := by decide +kernel
theorem dX7_undo_15 : decode cX7_undo 15 = .ok (.getfield 10, 3) := by decide +kernel
theorem dX7_undo_18 : decode cX7_undo 18 = .ok (.aload_n 0, 1) := by decide +kernel
theorem dX7_undo_19 : decode cX7_undo 19 = .ok (.getfield 16, 3) := by decide +kernel
theorem dX7_undo_22 : decode cX7_undo 22 = .ok (.invokevirtual 290, 3) := by decide +kernel
theorem dX7_undo_25 : decode cX7_undo 25 = .ok (.aload_n 0, 1) := by decide +kernel
theorem dX7_undo_26 : decode cX7_undo 26 = .ok (.getfield 10, 3) := by decide +kernel
theorem dX7_undo_29 : decode cX7_undo 29 = .ok (.getfield 74, 3) := by decide +kernel
theorem dX7_undo_32 : decode cX7_undo 32 = .ok (.ireturn, 1) := by decide +kernel
theorem dX7_tear_0 : decode cX7_tear 0 = .ok (.aload_n 0, 1) := by decide +kernel
theorem dX7_tear_1 : decode cX7_tear 1 = .ok (.getfield 19, 3) := by decide +kernel
theorem dX7_tear_4 : decode cX7_tear 4 = .ok (.ifCond .eq 7, 3) := by decide +kernel
theorem dX7_tear_7 : decode cX7_tear 7 = .ok (.iconst 1, 1) := by decide +kernel
theorem dX7_tear_8 : decode cX7_tear 8 = .ok (.goto 4, 3) := by decide +kernel
theorem dX7_tear_11 : decode cX7_tear 11 = .ok (.iconst 0, 1) := by decide +kernel
theorem dX7_tear_12 : decode cX7_tear 12 = .ok (.istore_n 1, 1) := by decide +kernel
theorem dX7_tear_13 : decode cX7_tear 13 = .ok (.aload_n 0, 1) := by decide +kernel
theorem dX7_tear_14 : decode cX7_tear 14 = .ok (.iconst 0, 1) := by decide +kernel
theorem dX7_tear_15 : decode cX7_tear 15 = .ok (.putfield 19, 3) := by decide +kernel
theorem dX7_tear_18 : decode cX7_tear 18 = .ok (.iload_n 1, 1) := by decide +kernel
theorem dX7_tear_19 : decode cX7_tear 19 = .ok (.ireturn, 1) := by decide +kernel
theorem dX7_count_0 : decode cX7_count 0 = .ok (.iload_n 1, 1) := by decide +kernel
theorem dX7_count_1 : decode cX7_count 1 = .ok (.tableswitch 64 0 3 #[31, 39, 47, 56], 31) := by decide +kernel
theorem dX7_count_32 : decode cX7_count 32 = .ok (.aload_n 0, 1) := by decide +kernel
theorem dX7_count_33 : decode cX7_count 33 = .ok (.getfield 10, 3) := by decide +kernel
theorem dX7_count_36 : decode cX7_count 36 = .ok (.getfield 74, 3) := by decide +kernel
theorem dX7_count_39 : decode cX7_count 39 = .ok (.ireturn, 1) := by decide +kernel
theorem dX7_count_40 : decode cX7_count 40 = .ok (.aload_n 0, 1) := by decide +kernel
theorem dX7_count_41 : decode cX7_count 41 = .ok (.getfield 40, 3) := by decide +kernel
theorem dX7_count_44 : decode cX7_count 44 = .ok (.getfield 237, 3) := by decide +kernel
theorem dX7_count_47 : decode cX7_count 47 = .ok (.ireturn, 1) := by decide +kernel
theorem dX7_count_48 : decode cX7_count 48 = .ok (.aload_n 0, 1) := by decide +kernel
theorem dX7_count_49 : decode cX7_count 49 = .ok (.getfield 10, 3) := by decide +kernel
theorem dX7_count_52 : decode cX7_count 52 = .ok (.iconst 0, 1) := by decide +kernel
theorem dX7_count_53 : decode cX7_count 53 = .ok (.invokevirtual 167, 3) := by decide +kernel
theorem dX7_count_56 : decode cX7_count 56 = .ok (.ireturn, 1) := by decide +kernel
theorem dX7_count_57 : decode cX7_count 57 = .ok (.aload_n 0, 1) := by decide +kernel
theorem dX7_count_58 : decode cX7_count 58 = .ok (.getfield 10, 3) := by decide +kernel
theorem dX7_count_61 : decode cX7_count 61 = .ok (.invokevirtual 294, 3) := by decide +kernel
theorem dX7_count_64 : decode cX7_count 64 = .ok (.ireturn, 1) := by decide +kernel
theorem dX7_count_65 : decode cX7_count 65 = .ok (.aload_n 0, 1) := by decide +kernel
theorem dX7_count_66 : decode cX7_count 66 = .ok (.ldc 69, 2) := by decide +kernel
theorem dX7_count_68 : decode cX7_count 68 = .ok (.invokevirtual 70, 3) := by decide +kernel
theorem dX7_count_71 : decode cX7_count 71 = .ok (.ireturn, 1) := by decide +kernel
theorem dX7_status_0 : decode cX7_status 0 = .ok (.iload_n 1, 1) := by decide +kernel
theorem dX7_status_1 : decode cX7_status 1 = .ok (.iconst (-1), 1) := by decide +kernel
theorem dX7_status_2 : decode cX7_status 2 = .ok (.if_icmp .lt 9, 3) := by decide +kernel
theorem dX7_status_5 : decode cX7_status 5 = .ok (.iload_n 1, 1) := by decide +kernel
theorem dX7_status_6 : decode cX7_status 6 = .ok (.bipush 7, 2) := by decide +kernel
theorem dX7_status_8 : decode cX7_status 8 = .ok (.if_icmp .lt 10, 3) := by decide +kernel
theorem dX7_status_11 : decode cX7_status 11 = .ok (.aload_n 0, 1) := by decide +kernel
theorem dX7_status_12 : decode cX7_status 12 = .ok (.ldc 69, 2) := by decide +kernel
theorem dX7_status_14 : decode cX7_status 14 = .ok (.invokevirtual 70, 3) := by decide +kernel
theorem dX7_status_17 : decode cX7_status 17 = .ok (.ireturn, 1) := by decide +kernel
theorem dX7_status_18 : decode cX7_status 18 = .ok (.iload_n 1, 1) := by decide +kernel
theorem dX7_status_19 : decode cX7_status 19 = .ok (.ifCond .lt 10, 3) := by decide +kernel
theorem dX7_status_22 : decode cX7_status 22 = .ok (.aload_n 0, 1) := by decide +kernel
theorem dX7_status_23 : decode cX7_status 23 = .ok (.getfield 58, 3) := by decide +kernel
theorem dX7_status_26 : decode cX7_status 26 = .ok (.iload_n 1, 1) := by decide +kernel
theorem dX7_status_27 : decode cX7_status 27 = .ok (.iaload, 1) := by decide +kernel
theorem dX7_status_28 : decode cX7_status 28 = .ok (.ireturn, 1) := by decide +kernel
theorem dX7_status_29 : decode cX7_status 29 = .ok (.iconst 0, 1) := by decide +kernel
theorem dX7_status_30 : decode cX7_status 30 = .ok (.istore_n 2, 1) := by decide +kernel
theorem dX7_status_31 : decode cX7_status 31 = .ok (.iconst 0, 1) := by decide +kernel
theorem dX7_status_32 : decode cX7_status 32 = .ok (.istore_n 3, 1) := by decide +kernel
theorem dX7_status_33 : decode cX7_status 33 = .ok (.iload_n 3, 1) := by decide +kernel
theorem dX7_status_34 : decode cX7_status 34 = .ok (.bipush 7, 2) := by decide +kernel
theorem dX7_status_36 : decode cX7_status 36 = .ok (.if_icmp .ge 18, 3) := by decide +kernel
theorem dX7_status_39 : decode cX7_status 39 = .ok (.iload_n 2, 1) := by decide +kernel
theorem dX7_status_40 : decode cX7_status 40 = .ok (.aload_n 0, 1) := by decide +kernel
theorem dX7_status_41 : decode cX7_status 41 = .ok (.getfield 58, 3) := by decide +kernel
theorem dX7_status_44 : decode cX7_status 44 = .ok (.iload_n 3, 1) := by decide +kernel
theorem dX7_status_45 : decode cX7_status 45 = .ok (.iaload, 1) := by decide +kernel
theorem dX7_status_46 : decode cX7_status 46 = .ok (.iadd, 1) := by decide +kernel
theorem dX7_status_47 : decode cX7_status 47 = .ok (.istore_n 2, 1) := by decide +kernel
theorem dX7_status_48 : decode cX7_status 48 = .ok (.iinc 3 1, 3) := by decide +kernel
theorem dX7_status_51 : decode cX7_status 51 = .ok (.goto (-18), 3) := by decide +kernel
theorem dX7_status_54 : decode cX7_status 54 = .ok (.iload_n 2, 1) := by decide +kernel
theorem dX7_status_55 : decode cX7_status 55 = .ok (.ireturn, 1) := by decide +kernel
theorem dX7_found_0 : decode cX7_found 0 = .ok (.ldc 69, 2) := by decide +kernel
theorem dX7_found_2 : decode cX7_found 2 = .ok (.iload_n 1, 1) := by decide +kernel
theorem dX7_found_3 : decode cX7_found 3 = .ok (.isub, 1) := by decide +kernel
theorem dX7_found_4 : decode cX7_found 4 = .ok (.istore_n 2, 1) := by decide +kernel
theorem dX7_found_5 : decode cX7_found 5 = .ok (.iload_n 2, 1) := by decide +kernel
theorem dX7_found_6 : decode cX7_found 6 = .ok (.ifCond .lt 19, 3) := by decide +kernel
theorem dX7_found_9 : decode cX7_found 9 = .ok (.iload_n 2, 1) := by decide +kernel
theorem dX7_found_10 : decode cX7_found 10 = .ok (.bipush 7, 2) := by decide +kernel
theorem dX7_found_12 : decode cX7_found 12 = .ok (.if_icmp .ge 13, 3) := by decide +kernel
theorem dX7_found_15 : decode cX7_found 15 = .ok (.aload_n 0, 1) := by decide +kernel
theorem dX7_found_16 : decode cX7_found 16 = .ok (.getfield 58, 3) := by decide +kernel
theorem dX7_found_19 : decode cX7_found 19 = .ok (.iload_n 2, 1) := by decide +kernel
theorem dX7_found_20 : decode cX7_found 20 = .ok (.dup2, 1) := by decide +kernel
theorem dX7_found_21 : decode cX7_found 21 = .ok (.iaload, 1) := by decide +kernel
theorem dX7_found_22 : decode cX7_found 22 = .ok (.iconst 1, 1) := by decide +kernel
theorem dX7_found_23 : decode cX7_found 23 = .ok (.iadd, 1) := by decide +kernel
theorem dX7_found_24 : decode cX7_found 24 = .ok (.iastore, 1) := by decide +kernel
theorem dX7_found_25 : decode cX7_found 25 = .ok (.iload_n 1, 1) := by decide +kernel
theorem dX7_found_26 : decode cX7_found 26 = .ok (.ireturn, 1) := by decide +kernel
theorem dX7_sheetFinding_0 : decode cX7_sheetFinding 0 = .ok (.iload_n 1, 1) := by decide +kernel
theorem dX7_sheetFinding_1 : decode cX7_sheetFinding 1 = .ok (.invokestatic 244, 3) := by decide +kernel
theorem dX7_sheetFinding_4 : decode cX7_sheetFinding 4 = .ok (.ifCond .ne 10, 3) := by decide +kernel
theorem dX7_sheetFinding_7 : decode cX7_sheetFinding 7 = .ok (.aload_n 0, 1) := by decide +kernel
theorem dX7_sheetFinding_8 : decode cX7_sheetFinding 8 = .ok (.ldc 69, 2) := by decide +kernel
theorem dX7_sheetFinding_10 : decode cX7_sheetFinding 10 = .ok (.invokevirtual 70, 3) := by decide +kernel
theorem dX7_sheetFinding_13 : decode cX7_sheetFinding 13 = .ok (.ireturn, 1) := by decide +kernel
theorem dX7_sheetFinding_14 : decode cX7_sheetFinding 14 = .ok (.aload_n 0, 1) := by decide +kernel
theorem dX7_sheetFinding_15 : decode cX7_sheetFinding 15 = .ok (.getfield 54, 3) := by decide +kernel
theorem dX7_sheetFinding_18 : decode cX7_sheetFinding 18 = .ok (.iload_n 1, 1) := by decide +kernel
theorem dX7_sheetFinding_19 : decode cX7_sheetFinding 19 = .ok (.invokevirtual 266, 3) := by decide +kernel
theorem dX7_sheetFinding_22 : decode cX7_sheetFinding 22 = .ok (.ifCond .eq 13, 3) := by decide +kernel
theorem dX7_sheetFinding_25 : decode cX7_sheetFinding 25 = .ok (.aload_n 0, 1) := by decide +kernel
theorem dX7_sheetFinding_26 : decode cX7_sheetFinding 26 = .ok (.ldc_w 269, 3) := by decide +kernel
theorem dX7_sheetFinding_29 : decode cX7_sheetFinding 29 = .ok (.invokevirtual 70, 3) := by decide +kernel
theorem dX7_sheetFinding_32 : decode cX7_sheetFinding 32 = .ok (.goto 4, 3) := by decide +kernel
theorem dX7_sheetFinding_35 : decode cX7_sheetFinding 35 = .ok (.iconst 0, 1) := by decide +kernel
theorem dX7_sheetFinding_36 : decode cX7_sheetFinding 36 = .ok (.ireturn, 1) := by decide +kernel
theorem dX7_sheetAndFlueFinding_0 : decode cX7_sheetAndFlueFinding 0 = .ok (.aload_n 0, 1) := by decide +kernel
theorem dX7_sheetAndFlueFinding_1 : decode cX7_sheetAndFlueFinding 1 = .ok (.iload_n 1, 1) := by decide +kernel
theorem dX7_sheetAndFlueFinding_2 : decode cX7_sheetAndFlueFinding 2 = .ok (.invokevirtual 254, 3) := by decide +kernel
theorem dX7_sheetAndFlueFinding_5 : decode cX7_sheetAndFlueFinding 5 = .ok (.istore_n 3, 1) := by decide +kernel
theorem dX7_sheetAndFlueFinding_6 : decode cX7_sheetAndFlueFinding 6 = .ok (.iload_n 3, 1) := by decide +kernel
theorem dX7_sheetAndFlueFinding_7 : decode cX7_sheetAndFlueFinding 7 = .ok (.ifCond .eq 5, 3) := by decide +kernel
theorem dX7_sheetAndFlueFinding_10 : decode cX7_sheetAndFlueFinding 10 = .ok (.iload_n 3, 1) := by decide +kernel
theorem dX7_sheetAndFlueFinding_11 : decode cX7_sheetAndFlueFinding 11 = .ok (.ireturn, 1) := by decide +kernel
theorem dX7_sheetAndFlueFinding_12 : decode cX7_sheetAndFlueFinding 12 = .ok (.aload_n 0, 1) := by decide +kernel
theorem dX7_sheetAndFlueFinding_13 : decode cX7_sheetAndFlueFinding 13 = .ok (.getfield 10, 3) := by decide +kernel
theorem dX7_sheetAndFlueFinding_16 : decode cX7_sheetAndFlueFinding 16 = .ok (.iload_n 2, 1) := by decide +kernel
theorem dX7_sheetAndFlueFinding_17 : decode cX7_sheetAndFlueFinding 17 = .ok (.invokevirtual 82, 3) := by decide +kernel
theorem dX7_sheetAndFlueFinding_20 : decode cX7_sheetAndFlueFinding 20 = .ok (.ifCond .eq 7, 3) := by decide +kernel
theorem dX7_sheetAndFlueFinding_23 : decode cX7_sheetAndFlueFinding 23 = .ok (.iconst 0, 1) := by decide +kernel
theorem dX7_sheetAndFlueFinding_24 : decode cX7_sheetAndFlueFinding 24 = .ok (.goto 9, 3) := by decide +kernel
theorem dX7_sheetAndFlueFinding_27 : decode cX7_sheetAndFlueFinding 27 = .ok (.aload_n 0, 1) := by decide +kernel
theorem dX7_sheetAndFlueFinding_28 : decode cX7_sheetAndFlueFinding 28 = .ok (.ldc 69, 2) := by decide +kernel
theorem dX7_sheetAndFlueFinding_30 : decode cX7_sheetAndFlueFinding 30 = .ok (.invokevirtual 70, 3) := by decide +kernel
theorem dX7_sheetAndFlueFinding_33 : decode cX7_sheetAndFlueFinding 33 = .ok (.ireturn, 1) := by decide +kernel
theorem dX7_isPlace_0 : decode cX7_isPlace 0 = .ok (.aload_n 0, 1) := by decide +kernel
theorem dX7_isPlace_1 : decode cX7_isPlace 1 = .ok (.getfield 10, 3) := by decide +kernel
theorem dX7_isPlace_4 : decode cX7_isPlace 4 = .ok (.iload_n 1, 1) := by decide +kernel
theorem dX7_isPlace_5 : decode cX7_isPlace 5 = .ok (.invokevirtual 82, 3) := by decide +kernel
theorem dX7_isPlace_8 : decode cX7_isPlace 8 = .ok (.ifCond .eq 14, 3) := by decide +kernel
theorem dX7_isPlace_11 : decode cX7_isPlace 11 = .ok (.iload_n 2, 1) := by decide +kernel
theorem dX7_isPlace_12 : decode cX7_isPlace 12 = .ok (.invokestatic 297, 3) := by decide +kernel
theorem dX7_isPlace_15 : decode cX7_isPlace 15 = .ok (.ifCond .eq 7, 3) := by decide +kernel
theorem dX7_isPlace_18 : decode cX7_isPlace 18 = .ok (.iconst 1, 1) := by decide +kernel
theorem dX7_isPlace_19 : decode cX7_isPlace 19 = .ok (.goto 4, 3) := by decide +kernel
theorem dX7_isPlace_22 : decode cX7_isPlace 22 = .ok (.iconst 0, 1) := by decide +kernel
theorem dX7_isPlace_23 : decode cX7_isPlace 23 = .ok (.ireturn, 1) := by decide +kernel
theorem dX7_joined_0 : decode cX7_joined 0 = .ok (.iconst 0, 1) := by decide +kernel
theorem dX7_joined_1 : decode cX7_joined 1 = .ok (.istore_n 2, 1) := by decide +kernel
theorem dX7_joined_2 : decode cX7_joined 2 = .ok (.iconst 0, 1) := by decide +kernel
theorem dX7_joined_3 : decode cX7_joined 3 = .ok (.istore_n 3, 1) := by decide +kernel
theorem dX7_joined_4 : decode cX7_joined 4 = .ok (.iload_n 3, 1) := by decide +kernel
theorem dX7_joined_5 : decode cX7_joined 5 = .ok (.bipush 6, 2) := by decide +kernel
theorem dX7_joined_7 : decode cX7_joined 7 = .ok (.if_icmp .ge 26, 3) := by decide +kernel
theorem dX7_joined_10 : decode cX7_joined 10 = .ok (.iload_n 1, 1) := by decide +kernel
theorem dX7_joined_11 : decode cX7_joined 11 = .ok (.iload_n 3, 1) := by decide +kernel
theorem dX7_joined_12 : decode cX7_joined 12 = .ok (.invokestatic 213, 3) := by decide +kernel
theorem dX7_joined_15 : decode cX7_joined 15 = .ok (.ifCond .eq 12, 3) := by decide +kernel
theorem dX7_joined_18 : decode cX7_joined 18 = .ok (.iload_n 2, 1) := by decide +kernel
theorem dX7_joined_19 : decode cX7_joined 19 = .ok (.aload_n 0, 1) := by decide +kernel
theorem dX7_joined_20 : decode cX7_joined 20 = .ok (.getfield 62, 3) := by decide +kernel
theorem dX7_joined_23 : decode cX7_joined 23 = .ok (.iload_n 3, 1) := by decide +kernel
theorem dX7_joined_24 : decode cX7_joined 24 = .ok (.iaload, 1) := by decide +kernel
theorem dX7_joined_25 : decode cX7_joined 25 = .ok (.ior, 1) := by decide +kernel
theorem dX7_joined_26 : decode cX7_joined 26 = .ok (.istore_n 2, 1) := by decide +kernel
theorem dX7_joined_27 : decode cX7_joined 27 = .ok (.iinc 3 1, 3) := by decide +kernel
theorem dX7_joined_30 : decode cX7_joined 30 = .ok (.goto (-26), 3) := by decide +kernel
theorem dX7_joined_33 : decode cX7_joined 33 = .ok (.iload_n 2, 1) := by decide +kernel
theorem dX7_joined_34 : decode cX7_joined 34 = .ok (.ireturn, 1) := by decide +kernel
theorem dX7_isJustBrought_0 : decode cX7_isJustBrought 0 = .ok (.aload_n 0, 1) := by decide +kernel
theorem dX7_isJustBrought_1 : decode cX7_isJustBrought 1 = .ok (.getfield 54, 3) := by decide +kernel
theorem dX7_isJustBrought_4 : decode cX7_isJustBrought 4 = .ok (.iload_n 1, 1) := by decide +kernel
theorem dX7_isJustBrought_5 : decode cX7_isJustBrought 5 = .ok (.invokevirtual 257, 3) := by decide +kernel
theorem dX7_isJustBrought_8 : decode cX7_isJustBrought 8 = .ok (.aload_n 0, 1) := by decide +kernel
theorem dX7_isJustBrought_9 : decode cX7_isJustBrought 9 = .ok (.getfield 26, 3) := by decide +kernel
theorem dX7_isJustBrought_12 : decode cX7_isJustBrought 12 = .ok (.getfield 193, 3) := by decide +kernel
theorem dX7_isJustBrought_15 : decode cX7_isJustBrought 15 = .ok (.if_icmp .eq 5, 3) := by decide +kernel
theorem dX7_isJustBrought_18 : decode cX7_isJustBrought 18 = .ok (.iconst 0, 1) := by decide +kernel
theorem dX7_isJustBrought_19 : decode cX7_isJustBrought 19 = .ok (.ireturn, 1) := by decide +kernel
theorem dX7_isJustBrought_20 : decode cX7_isJustBrought 20 = .ok (.iconst 0, 1) := by decide +kernel
theorem dX7_isJustBrought_21 : decode cX7_isJustBrought 21 = .ok (.istore_n 2, 1) := by decide +kernel
theorem dX7_isJustBrought_22 : decode cX7_isJustBrought 22 = .ok (.iload_n 2, 1) := by decide +kernel
theorem dX7_isJustBrought_23 : decode cX7_isJustBrought 23 = .ok (.aload_n 0, 1) := by decide +kernel
theorem dX7_isJustBrought_24 : decode cX7_isJustBrought 24 = .ok (.getfield 26, 3) := by decide +kernel
theorem dX7_isJustBrought_27 : decode cX7_isJustBrought 27 = .ok (.getfield 193, 3) := by decide +kernel
theorem dX7_isJustBrought_30 : decode cX7_isJustBrought 30 = .ok (.if_icmp .ge 33, 3) := by decide +kernel
theorem dX7_isJustBrought_33 : decode cX7_isJustBrought 33 = .ok (.aload_n 0, 1) := by decide +kernel
theorem dX7_isJustBrought_34 : decode cX7_isJustBrought 34 = .ok (.getfield 54, 3) := by decide +kernel
theorem dX7_isJustBrought_37 : decode cX7_isJustBrought 37 = .ok (.iload_n 1, 1) := by decide +kernel
theorem dX7_isJustBrought_38 : decode cX7_isJustBrought 38 = .ok (.iload_n 2, 1) := by decide +kernel
theorem dX7_isJustBrought_39 : decode cX7_isJustBrought 39 = .ok (.invokevirtual 259, 3) := by decide +kernel
theorem dX7_isJustBrought_42 : decode cX7_isJustBrought 42 = .ok (.aload_n 0, 1) := by decide +kernel
theorem dX7_isJustBrought_43 : decode cX7_isJustBrought 43 = .ok (.getfield 26, 3) := by decide +kernel
theorem dX7_isJustBrought_46 : decode cX7_isJustBrought 46 = .ok (.iload_n 2, 1) := by decide +kernel
theorem dX7_isJustBrought_47 : decode cX7_isJustBrought 47 = .ok (.invokevirtual 196, 3) := by decide +kernel
theorem dX7_isJustBrought_50 : decode cX7_isJustBrought 50 = .ok (.i2l, 1) := by decide +kernel
theorem dX7_isJustBrought_51 : decode cX7_isJustBrought 51 = .ok (.lcmp, 1) := by decide +kernel
theorem dX7_isJustBrought_52 : decode cX7_isJustBrought 52 = .ok (.ifCond .eq 5, 3) := by decide +kernel
theorem dX7_isJustBrought_55 : decode cX7_isJustBrought 55 = .ok (.iconst 0, 1) := by decide +kernel
theorem dX7_isJustBrought_56 : decode cX7_isJustBrought 56 = .ok (.ireturn, 1) := by decide +kernel
theorem dX7_isJustBrought_57 : decode cX7_isJustBrought 57 = .ok (.iinc 2 1, 3) := by decide +kernel
theorem dX7_isJustBrought_60 : decode cX7_isJustBrought 60 = .ok (.goto (-38), 3) := by decide +kernel
theorem dX7_isJustBrought_63 : decode cX7_isJustBrought 63 = .ok (.iconst 1, 1) := by decide +kernel
theorem dX7_isJustBrought_64 : decode cX7_isJustBrought 64 = .ok (.ireturn, 1) := by decide +kernel
theorem dX7_isBelow_0 : decode cX7_isBelow 0 = .ok (.iload_n 0, 1) := by decide +kernel
theorem dX7_isBelow_1 : decode cX7_isBelow 1 = .ok (.ifCond .lt 12, 3) := by decide +kernel
theorem dX7_isBelow_4 : decode cX7_isBelow 4 = .ok (.iload_n 0, 1) := by decide +kernel
theorem dX7_isBelow_5 : decode cX7_isBelow 5 = .ok (.iload_n 1, 1) := by decide +kernel
theorem dX7_isBelow_6 : decode cX7_isBelow 6 = .ok (.if_icmp .ge 7, 3) := by decide +kernel
theorem dX7_isBelow_9 : decode cX7_isBelow 9 = .ok (.iconst 1, 1) := by decide +kernel
theorem dX7_isBelow_10 : decode cX7_isBelow 10 = .ok (.goto 4, 3) := by decide +kernel
theorem dX7_isBelow_13 : decode cX7_isBelow 13 = .ok (.iconst 0, 1) := by decide +kernel
theorem dX7_isBelow_14 : decode cX7_isBelow 14 = .ok (.ireturn, 1) := by decide +kernel
theorem dX7_isKind_0 : decode cX7_isKind 0 = .ok (.iload_n 0, 1) := by decide +kernel
theorem dX7_isKind_1 : decode cX7_isKind 1 = .ok (.bipush 6, 2) := by decide +kernel
theorem dX7_isKind_3 : decode cX7_isKind 3 = .ok (.invokestatic 119, 3) := by decide +kernel
theorem dX7_isKind_6 : decode cX7_isKind 6 = .ok (.ireturn, 1) := by decide +kernel
theorem dX7_isBend_0 : decode cX7_isBend 0 = .ok (.iload_n 0, 1) := by decide +kernel
theorem dX7_isBend_1 : decode cX7_isBend 1 = .ok (.ifCond .lt 13, 3) := by decide +kernel
theorem dX7_isBend_4 : decode cX7_isBend 4 = .ok (.iload_n 0, 1) := by decide +kernel
theorem dX7_isBend_5 : decode cX7_isBend 5 = .ok (.bipush 8, 2) := by decide +kernel
theorem dX7_isBend_7 : decode cX7_isBend 7 = .ok (.if_icmp .ge 7, 3) := by decide +kernel
theorem dX7_isBend_10 : decode cX7_isBend 10 = .ok (.iconst 1, 1) := by decide +kernel
theorem dX7_isBend_11 : decode cX7_isBend 11 = .ok (.goto 4, 3) := by decide +kernel
theorem dX7_isBend_14 : decode cX7_isBend 14 = .ok (.iconst 0, 1) := by decide +kernel
theorem dX7_isBend_15 : decode cX7_isBend 15 = .ok (.ireturn, 1) := by decide +kernel
theorem dX7_isWord_0 : decode cX7_isWord 0 = .ok (.iload_n 0, 1) := by decide +kernel
theorem dX7_isWord_1 : decode cX7_isWord 1 = .ok (.bipush 16, 2) := by decide +kernel
theorem dX7_isWord_3 : decode cX7_isWord 3 = .ok (.invokestatic 119, 3) := by decide +kernel
theorem dX7_isWord_6 : decode cX7_isWord 6 = .ok (.ireturn, 1) := by decide +kernel
theorem dX7_isSet_0 : decode cX7_isSet 0 = .ok (.iload_n 0, 1) := by decide +kernel
theorem dX7_isSet_1 : decode cX7_isSet 1 = .ok (.ldc_w 300, 3) := by decide +kernel
theorem dX7_isSet_4 : decode cX7_isSet 4 = .ok (.invokestatic 119, 3) := by decide +kernel
theorem dX7_isSet_7 : decode cX7_isSet 7 = .ok (.ireturn, 1) := by decide +kernel
theorem dX7_isVoice_0 : decode cX7_isVoice 0 = .ok (.iload_n 0, 1) := by decide +kernel
theorem dX7_isVoice_1 : decode cX7_isVoice 1 = .ok (.bipush 10, 2) := by decide +kernel
theorem dX7_isVoice_3 : decode cX7_isVoice 3 = .ok (.invokestatic 119, 3) := by decide +kernel
theorem dX7_isVoice_6 : decode cX7_isVoice 6 = .ok (.ireturn, 1) := by decide +kernel
theorem dX7_isStrength_0 : decode cX7_isStrength 0 = .ok (.iload_n 0, 1) := by decide +kernel
theorem dX7_isStrength_1 : decode cX7_isStrength 1 = .ok (.iconst 1, 1) := by decide +kernel
theorem dX7_isStrength_2 : decode cX7_isStrength 2 = .ok (.if_icmp .lt 13, 3) := by decide +kernel
theorem dX7_isStrength_5 : decode cX7_isStrength 5 = .ok (.iload_n 0, 1) := by decide +kernel
theorem dX7_isStrength_6 : decode cX7_isStrength 6 = .ok (.bipush 9, 2) := by decide +kernel
theorem dX7_isStrength_8 : decode cX7_isStrength 8 = .ok (.if_icmp .gt 7, 3) := by decide +kernel
theorem dX7_isStrength_11 : decode cX7_isStrength 11 = .ok (.iconst 1, 1) := by decide +kernel
theorem dX7_isStrength_12 : decode cX7_isStrength 12 = .ok (.goto 4, 3) := by decide +kernel
theorem dX7_isStrength_15 : decode cX7_isStrength 15 = .ok (.iconst 0, 1) := by decide +kernel
theorem dX7_isStrength_16 : decode cX7_isStrength 16 = .ok (.ireturn, 1) := by decide +kernel
theorem dX7_hasBit_0 : decode cX7_hasBit 0 = .ok (.iload_n 0, 1) := by decide +kernel
theorem dX7_hasBit_1 : decode cX7_hasBit 1 = .ok (.iload_n 1, 1) := by decide +kernel
theorem dX7_hasBit_2 : decode cX7_hasBit 2 = .ok (.ishr, 1) := by decide +kernel
theorem dX7_hasBit_3 : decode cX7_hasBit 3 = .ok (.iconst 1, 1) := by decide +kernel
theorem dX7_hasBit_4 : decode cX7_hasBit 4 = .ok (.iand, 1) := by decide +kernel
theorem dX7_hasBit_5 : decode cX7_hasBit 5 = .ok (.iconst 1, 1) := by decide +kernel
theorem dX7_hasBit_6 : decode cX7_hasBit 6 = .ok (.if_icmp .ne 7, 3) := by decide +kernel
theorem dX7_hasBit_9 : decode cX7_hasBit 9 = .ok (.iconst 1, 1) := by decide +kernel
theorem dX7_hasBit_10 : decode cX7_hasBit 10 = .ok (.goto 4, 3) := by decide +kernel
theorem dX7_hasBit_13 : decode cX7_hasBit 13 = .ok (.iconst 0, 1) := by decide +kernel
theorem dX7_hasBit_14 : decode cX7_hasBit 14 = .ok (.ireturn, 1) := by decide +kernel
theorem dJ6_bitCount_0f7a4_0 : decode cJ6_bitCount_0f7a4 0 = .ok (.iload_n 0, 1) := by decide +kernel
theorem dJ6_bitCount_0f7a4_1 : decode cJ6_bitCount_0f7a4 1 = .ok (.iload_n 0, 1) := by decide +kernel
theorem dJ6_bitCount_0f7a4_2 : decode cJ6_bitCount_0f7a4 2 = .ok (.iconst 1, 1) := by decide +kernel
theorem dJ6_bitCount_0f7a4_3 : decode cJ6_bitCount_0f7a4 3 = .ok (.iushr, 1) := by decide +kernel
theorem dJ6_bitCount_0f7a4_4 : decode cJ6_bitCount_0f7a4 4 = .ok (.ldc_w 265, 3) := by decide +kernel
theorem dJ6_bitCount_0f7a4_7 : decode cJ6_bitCount_0f7a4 7 = .ok (.iand, 1) := by decide +kernel
theorem dJ6_bitCount_0f7a4_8 : decode cJ6_bitCount_0f7a4 8 = .ok (.isub, 1) := by decide +kernel
theorem dJ6_bitCount_0f7a4_9 : decode cJ6_bitCount_0f7a4 9 = .ok (.istore_n 0, 1) := by decide +kernel
theorem dJ6_bitCount_0f7a4_10 : decode cJ6_bitCount_0f7a4 10 = .ok (.iload_n 0, 1) := by decide +kernel
theorem dJ6_bitCount_0f7a4_11 : decode cJ6_bitCount_0f7a4 11 = .ok (.ldc_w 266, 3) := by decide +kernel
theorem dJ6_bitCount_0f7a4_14 : decode cJ6_bitCount_0f7a4 14 = .ok (.iand, 1) := by decide +kernel
theorem dJ6_bitCount_0f7a4_15 : decode cJ6_bitCount_0f7a4 15 = .ok (.iload_n 0, 1) := by decide +kernel
theorem dJ6_bitCount_0f7a4_16 : decode cJ6_bitCount_0f7a4 16 = .ok (.iconst 2, 1) := by decide +kernel
theorem dJ6_bitCount_0f7a4_17 : decode cJ6_bitCount_0f7a4 17 = .ok (.iushr, 1) := by decide +kernel
theorem dJ6_bitCount_0f7a4_18 : decode cJ6_bitCount_0f7a4 18 = .ok (.ldc_w 266, 3) := by decide +kernel
theorem dJ6_bitCount_0f7a4_21 : decode cJ6_bitCount_0f7a4 21 = .ok (.iand, 1) := by decide +kernel
theorem dJ6_bitCount_0f7a4_22 : decode cJ6_bitCount_0f7a4 22 = .ok (.iadd, 1) := by decide +kernel
theorem dJ6_bitCount_0f7a4_23 : decode cJ6_bitCount_0f7a4 23 = .ok (.istore_n 0, 1) := by decide +kernel
theorem dJ6_bitCount_0f7a4_24 : decode cJ6_bitCount_0f7a4 24 = .ok (.iload_n 0, 1) := by decide +kernel
theorem dJ6_bitCount_0f7a4_25 : decode cJ6_bitCount_0f7a4 25 = .ok (.iload_n 0, 1) := by decide +kernel
theorem dJ6_bitCount_0f7a4_26 : decode cJ6_bitCount_0f7a4 26 = .ok (.iconst 4, 1) := by decide +kernel
theorem dJ6_bitCount_0f7a4_27 : decode cJ6_bitCount_0f7a4 27 = .ok (.iushr, 1) := by decide +kernel
theorem dJ6_bitCount_0f7a4_28 : decode cJ6_bitCount_0f7a4 28 = .ok (.iadd, 1) := by decide +kernel
theorem dJ6_bitCount_0f7a4_29 : decode cJ6_bitCount_0f7a4 29 = .ok (.ldc_w 267, 3) := by decide +kernel
theorem dJ6_bitCount_0f7a4_32 : decode cJ6_bitCount_0f7a4 32 = .ok (.iand, 1) := by decide +kernel
theorem dJ6_bitCount_0f7a4_33 : decode cJ6_bitCount_0f7a4 33 = .ok (.istore_n 0, 1) := by decide +kernel
theorem dJ6_bitCount_0f7a4_34 : decode cJ6_bitCount_0f7a4 34 = .ok (.iload_n 0, 1) := by decide +kernel
theorem dJ6_bitCount_0f7a4_35 : decode cJ6_bitCount_0f7a4 35 = .ok (.iload_n 0, 1) := by decide +kernel
theorem dJ6_bitCount_0f7a4_36 : decode cJ6_bitCount_0f7a4 36 = .ok (.bipush 8, 2) := by decide +kernel
theorem dJ6_bitCount_0f7a4_38 : decode cJ6_bitCount_0f7a4 38 = .ok (.iushr, 1) := by decide +kernel
theorem dJ6_bitCount_0f7a4_39 : decode cJ6_bitCount_0f7a4 39 = .ok (.iadd, 1) := by decide +kernel
theorem dJ6_bitCount_0f7a4_40 : decode cJ6_bitCount_0f7a4 40 = .ok (.istore_n 0, 1) := by decide +kernel
theorem dJ6_bitCount_0f7a4_41 : decode cJ6_bitCount_0f7a4 41 = .ok (.iload_n 0, 1) := by decide +kernel
theorem dJ6_bitCount_0f7a4_42 : decode cJ6_bitCount_0f7a4 42 = .ok (.iload_n 0, 1) := by decide +kernel
theorem dJ6_bitCount_0f7a4_43 : decode cJ6_bitCount_0f7a4 43 = .ok (.bipush 16, 2) := by decide +kernel
theorem dJ6_bitCount_0f7a4_45 : decode cJ6_bitCount_0f7a4 45 = .ok (.iushr, 1) := by decide +kernel
theorem dJ6_bitCount_0f7a4_46 : decode cJ6_bitCount_0f7a4 46 = .ok (.iadd, 1) := by decide +kernel
theorem dJ6_bitCount_0f7a4_47 : decode cJ6_bitCount_0f7a4 47 = .ok (.istore_n 0, 1) := by decide +kernel
theorem dJ6_bitCount_0f7a4_48 : decode cJ6_bitCount_0f7a4 48 = .ok (.iload_n 0, 1) := by decide +kernel
theorem dJ6_bitCount_0f7a4_49 : decode cJ6_bitCount_0f7a4 49 = .ok (.bipush 63, 2) := by decide +kernel
theorem dJ6_bitCount_0f7a4_51 : decode cJ6_bitCount_0f7a4 51 = .ok (.iand, 1) := by decide +kernel
theorem dJ6_bitCount_0f7a4_52 : decode cJ6_bitCount_0f7a4 52 = .ok (.ireturn, 1) := by decide +kernel
theorem dJ9_max_7cf53_0 : decode cJ9_max_7cf53 0 = .ok (.iload_n 0, 1) := by decide +kernel
theorem dJ9_max_7cf53_1 : decode cJ9_max_7cf53 1 = .ok (.iload_n 1, 1) := by decide +kernel
theorem dJ9_max_7cf53_2 : decode cJ9_max_7cf53 2 = .ok (.if_icmp .lt 7, 3) := by decide +kernel
theorem dJ9_max_7cf53_5 : decode cJ9_max_7cf53 5 = .ok (.iload_n 0, 1) := by decide +kernel
theorem dJ9_max_7cf53_6 : decode cJ9_max_7cf53 6 = .ok (.goto 4, 3) := by decide +kernel
theorem dJ9_max_7cf53_9 : decode cJ9_max_7cf53 9 = .ok (.iload_n 1, 1) := by decide +kernel
theorem dJ9_max_7cf53_10 : decode cJ9_max_7cf53 10 = .ok (.ireturn, 1) := by decide +kernel
theorem dJ9_min_7cf53_0 : decode cJ9_min_7cf53 0 = .ok (.iload_n 0, 1) := by decide +kernel
theorem dJ9_min_7cf53_1 : decode cJ9_min_7cf53 1 = .ok (.iload_n 1, 1) := by decide +kernel
theorem dJ9_min_7cf53_2 : decode cJ9_min_7cf53 2 = .ok (.if_icmp .gt 7, 3) := by decide +kernel
theorem dJ9_min_7cf53_5 : decode cJ9_min_7cf53 5 = .ok (.iload_n 0, 1) := by decide +kernel
theorem dJ9_min_7cf53_6 : decode cJ9_min_7cf53 6 = .ok (.goto 4, 3) := by decide +kernel
theorem dJ9_min_7cf53_9 : decode cJ9_min_7cf53 9 = .ok (.iload_n 1, 1) := by decide +kernel
theorem dJ9_min_7cf53_10 : decode cJ9_min_7cf53 10 = .ok (.ireturn, 1) := by decide +kernel
theorem dJ0_length_8abf5_0 : decode cJ0_length_8abf5 0 = .ok (.aload_n 0, 1) := by decide +kernel
theorem dJ0_length_8abf5_1 : decode cJ0_length_8abf5 1 = .ok (.getfield 9, 3) := by decide +kernel
theorem dJ0_length_8abf5_4 : decode cJ0_length_8abf5 4 = .ok (.arraylength, 1) := by decide +kernel
theorem dJ0_length_8abf5_5 : decode cJ0_length_8abf5 5 = .ok (.aload_n 0, 1) := by decide +kernel
theorem dJ0_length_8abf5_6 : decode cJ0_length_8abf5 6 = .ok (.invokevirtual 335, 3) := by decide +kernel
theorem dJ0_length_8abf5_9 : decode cJ0_length_8abf5 9 = .ok (.ishr, 1) := by decide +kernel
theorem dJ0_length_8abf5_10 : decode cJ0_length_8abf5 10 = .ok (.ireturn, 1) := by decide +kernel
theorem dJ0_charAt_5068e_0 : decode cJ0_charAt_5068e 0 = .ok (.aload_n 0, 1) := by decide +kernel
theorem dJ0_charAt_5068e_1 : decode cJ0_charAt_5068e 1 = .ok (.invokevirtual 492, 3) := by decide +kernel
theorem dJ0_charAt_5068e_4 : decode cJ0_charAt_5068e 4 = .ok (.ifCond .eq 12, 3) := by decide +kernel
theorem dJ0_charAt_5068e_7 : decode cJ0_charAt_5068e 7 = .ok (.aload_n 0, 1) := by decide +kernel
theorem dJ0_charAt_5068e_8 : decode cJ0_charAt_5068e 8 = .ok (.getfield 9, 3) := by decide +kernel
theorem dJ0_charAt_5068e_11 : decode cJ0_charAt_5068e 11 = .ok (.iload_n 1, 1) := by decide +kernel
theorem dJ0_charAt_5068e_12 : decode cJ0_charAt_5068e 12 = .ok (.invokestatic 495, 3) := by decide +kernel
theorem dJ0_charAt_5068e_15 : decode cJ0_charAt_5068e 15 = .ok (.ireturn, 1) := by decide +kernel
theorem dJ0_charAt_5068e_16 : decode cJ0_charAt_5068e 16 = .ok (.aload_n 0, 1) := by decide +kernel
theorem dJ0_charAt_5068e_17 : decode cJ0_charAt_5068e 17 = .ok (.getfield 9, 3) := by decide +kernel
theorem dJ0_charAt_5068e_20 : decode cJ0_charAt_5068e 20 = .ok (.iload_n 1, 1) := by decide +kernel
theorem dJ0_charAt_5068e_21 : decode cJ0_charAt_5068e 21 = .ok (.invokestatic 498, 3) := by decide +kernel
theorem dJ0_charAt_5068e_24 : decode cJ0_charAt_5068e 24 = .ok (.ireturn, 1) := by decide +kernel
theorem dJ0_coder_7d493_0 : decode cJ0_coder_7d493 0 = .ok (.getstatic 38, 3) := by decide +kernel
theorem dJ0_coder_7d493_3 : decode cJ0_coder_7d493 3 = .ok (.ifCond .eq 10, 3) := by decide +kernel
theorem dJ0_coder_7d493_6 : decode cJ0_coder_7d493 6 = .ok (.aload_n 0, 1) := by decide +kernel
theorem dJ0_coder_7d493_7 : decode cJ0_coder_7d493 7 = .ok (.getfield 15, 3) := by decide +kernel
theorem dJ0_coder_7d493_10 : decode cJ0_coder_7d493 10 = .ok (.goto 4, 3) := by decide +kernel
theorem dJ0_coder_7d493_13 : decode cJ0_coder_7d493 13 = .ok (.iconst 1, 1) := by decide +kernel
theorem dJ0_coder_7d493_14 : decode cJ0_coder_7d493 14 = .ok (.ireturn, 1) := by decide +kernel
theorem dJ0_isLatin1_aae02_0 : decode cJ0_isLatin1_aae02 0 = .ok (.getstatic 38, 3) := by decide +kernel
theorem dJ0_isLatin1_aae02_3 : decode cJ0_isLatin1_aae02 3 = .ok (.ifCond .eq 14, 3) := by decide +kernel
theorem dJ0_isLatin1_aae02_6 : decode cJ0_isLatin1_aae02 6 = .ok (.aload_n 0, 1) := by decide +kernel
theorem dJ0_isLatin1_aae02_7 : decode cJ0_isLatin1_aae02 7 = .ok (.getfield 15, 3) := by decide +kernel
theorem dJ0_isLatin1_aae02_10 : decode cJ0_isLatin1_aae02 10 = .ok (.ifCond .ne 7, 3) := by decide +kernel
theorem dJ0_isLatin1_aae02_13 : decode cJ0_isLatin1_aae02 13 = .ok (.iconst 1, 1) := by decide +kernel
theorem dJ0_isLatin1_aae02_14 : decode cJ0_isLatin1_aae02 14 = .ok (.goto 4, 3) := by decide +kernel
theorem dJ0_isLatin1_aae02_17 : decode cJ0_isLatin1_aae02 17 = .ok (.iconst 0, 1) := by decide +kernel
theorem dJ0_isLatin1_aae02_18 : decode cJ0_isLatin1_aae02 18 = .ok (.ireturn, 1) := by decide +kernel
theorem dJ0_checkIndex_df160_0 : decode cJ0_checkIndex_df160 0 = .ok (.iload_n 0, 1) := by decide +kernel
theorem dJ0_checkIndex_df160_1 : decode cJ0_checkIndex_df160 1 = .ok (.iload_n 1, 1) := by decide +kernel
theorem dJ0_checkIndex_df160_2 : decode cJ0_checkIndex_df160 2 = .ok (.getstatic 1053, 3) := by decide +kernel
theorem dJ0_checkIndex_df160_5 : decode cJ0_checkIndex_df160 5 = .ok (.invokestatic 1059, 3) := by decide +kernel
theorem dJ0_checkIndex_df160_8 : decode cJ0_checkIndex_df160 8 = .ok (.pop, 1) := by decide +kernel
theorem dJ0_checkIndex_df160_9 : decode cJ0_checkIndex_df160 9 = .ok (.return_, 1) := by decide +kernel
theorem dJ1_charAt_3b067_0 : decode cJ1_charAt_3b067 0 = .ok (.iload_n 1, 1) := by decide +kernel
theorem dJ1_charAt_3b067_1 : decode cJ1_charAt_3b067 1 = .ok (.aload_n 0, 1) := by decide +kernel
theorem dJ1_charAt_3b067_2 : decode cJ1_charAt_3b067 2 = .ok (.arraylength, 1) := by decide +kernel
theorem dJ1_charAt_3b067_3 : decode cJ1_charAt_3b067 3 = .ok (.invokestatic 9, 3) := by decide +kernel
theorem dJ1_charAt_3b067_6 : decode cJ1_charAt_3b067 6 = .ok (.aload_n 0, 1) := by decide +kernel
theorem dJ1_charAt_3b067_7 : decode cJ1_charAt_3b067 7 = .ok (.iload_n 1, 1) := by decide +kernel
theorem dJ1_charAt_3b067_8 : decode cJ1_charAt_3b067 8 = .ok (.baload, 1) := by decide +kernel
theorem dJ1_charAt_3b067_9 : decode cJ1_charAt_3b067 9 = .ok (.sipush 255, 3) := by decide +kernel
theorem dJ1_charAt_3b067_12 : decode cJ1_charAt_3b067 12 = .ok (.iand, 1) := by decide +kernel
theorem dJ1_charAt_3b067_13 : decode cJ1_charAt_3b067 13 = .ok (.i2c, 1) := by decide +kernel
theorem dJ1_charAt_3b067_14 : decode cJ1_charAt_3b067 14 = .ok (.ireturn, 1) := by decide +kernel
theorem dJ2_getChar_3b067_0 : decode cJ2_getChar_3b067 0 = .ok (.getstatic 44, 3) := by decide +kernel
theorem dJ2_getChar_3b067_3 : decode cJ2_getChar_3b067 3 = .ok (.ifCond .ne 25, 3) := by decide +kernel
theorem dJ2_getChar_3b067_6 : decode cJ2_getChar_3b067 6 = .ok (.iload_n 1, 1) := by decide +kernel
theorem dJ2_getChar_3b067_7 : decode cJ2_getChar_3b067 7 = .ok (.ifCond .lt 11, 3) := by decide +kernel
theorem dJ2_getChar_3b067_10 : decode cJ2_getChar_3b067 10 = .ok (.iload_n 1, 1) := by decide +kernel
theorem dJ2_getChar_3b067_11 : decode cJ2_getChar_3b067 11 = .ok (.aload_n 0, 1) := by decide +kernel
theorem dJ2_getChar_3b067_12 : decode cJ2_getChar_3b067 12 = .ok (.invokestatic 48, 3) := by decide +kernel
theorem dJ2_getChar_3b067_15 : decode cJ2_getChar_3b067 15 = .ok (.if_icmp .lt 13, 3) := by decide +kernel
theorem dJ2_getChar_3b067_18 : decode cJ2_getChar_3b067 18 = .ok (.new 52, 3) := by decide +kernel
theorem dJ2_getChar_3b067_21 : decode cJ2_getChar_3b067 21 = .ok (.dup, 1) := by decide +kernel
theorem dJ2_getChar_3b067_22 : decode cJ2_getChar_3b067 22 = .ok (.ldc 54, 2) := by decide +kernel
theorem dJ2_getChar_3b067_24 : decode cJ2_getChar_3b067 24 = .ok (.invokespecial 56, 3) := by decide +kernel
theorem dJ2_getChar_3b067_27 : decode cJ2_getChar_3b067 27 = .ok (.athrow, 1) := by decide +kernel
theorem dJ2_getChar_3b067_28 : decode cJ2_getChar_3b067 28 = .ok (.iload_n 1, 1) := by decide +kernel
theorem dJ2_getChar_3b067_29 : decode cJ2_getChar_3b067 29 = .ok (.iconst 1, 1) := by decide +kernel
theorem dJ2_getChar_3b067_30 : decode cJ2_getChar_3b067 30 = .ok (.ishl, 1) := by decide +kernel
theorem dJ2_getChar_3b067_31 : decode cJ2_getChar_3b067 31 = .ok (.istore_n 1, 1) := by decide +kernel
theorem dJ2_getChar_3b067_32 : decode cJ2_getChar_3b067 32 = .ok (.aload_n 0, 1) := by decide +kernel
theorem dJ2_getChar_3b067_33 : decode cJ2_getChar_3b067 33 = .ok (.iload_n 1, 1) := by decide +kernel
theorem dJ2_getChar_3b067_34 : decode cJ2_getChar_3b067 34 = .ok (.iinc 1 1, 3) := by decide +kernel
theorem dJ2_getChar_3b067_37 : decode cJ2_getChar_3b067 37 = .ok (.baload, 1) := by decide +kernel
theorem dJ2_getChar_3b067_38 : decode cJ2_getChar_3b067 38 = .ok (.sipush 255, 3) := by decide +kernel
theorem dJ2_getChar_3b067_41 : decode cJ2_getChar_3b067 41 = .ok (.iand, 1) := by decide +kernel
theorem dJ2_getChar_3b067_42 : decode cJ2_getChar_3b067 42 = .ok (.getstatic 59, 3) := by decide +kernel
theorem dJ2_getChar_3b067_45 : decode cJ2_getChar_3b067 45 = .ok (.ishl, 1) := by decide +kernel
theorem dJ2_getChar_3b067_46 : decode cJ2_getChar_3b067 46 = .ok (.aload_n 0, 1) := by decide +kernel
theorem dJ2_getChar_3b067_47 : decode cJ2_getChar_3b067 47 = .ok (.iload_n 1, 1) := by decide +kernel
theorem dJ2_getChar_3b067_48 : decode cJ2_getChar_3b067 48 = .ok (.baload, 1) := by decide +kernel
theorem dJ2_getChar_3b067_49 : decode cJ2_getChar_3b067 49 = .ok (.sipush 255, 3) := by decide +kernel
theorem dJ2_getChar_3b067_52 : decode cJ2_getChar_3b067 52 = .ok (.iand, 1) := by decide +kernel
theorem dJ2_getChar_3b067_53 : decode cJ2_getChar_3b067 53 = .ok (.getstatic 63, 3) := by decide +kernel
theorem dJ2_getChar_3b067_56 : decode cJ2_getChar_3b067 56 = .ok (.ishl, 1) := by decide +kernel
theorem dJ2_getChar_3b067_57 : decode cJ2_getChar_3b067 57 = .ok (.ior, 1) := by decide +kernel
theorem dJ2_getChar_3b067_58 : decode cJ2_getChar_3b067 58 = .ok (.i2c, 1) := by decide +kernel
theorem dJ2_getChar_3b067_59 : decode cJ2_getChar_3b067 59 = .ok (.ireturn, 1) := by decide +kernel
theorem dJ2_length_9d52b_0 : decode cJ2_length_9d52b 0 = .ok (.aload_n 0, 1) := by decide +kernel
theorem dJ2_length_9d52b_1 : decode cJ2_length_9d52b 1 = .ok (.arraylength, 1) := by decide +kernel
theorem dJ2_length_9d52b_2 : decode cJ2_length_9d52b 2 = .ok (.iconst 1, 1) := by decide +kernel
theorem dJ2_length_9d52b_3 : decode cJ2_length_9d52b 3 = .ok (.ishr, 1) := by decide +kernel
theorem dJ2_length_9d52b_4 : decode cJ2_length_9d52b 4 = .ok (.ireturn, 1) := by decide +kernel
theorem dJ2_charAt_3b067_0 : decode cJ2_charAt_3b067 0 = .ok (.iload_n 1, 1) := by decide +kernel
theorem dJ2_charAt_3b067_1 : decode cJ2_charAt_3b067 1 = .ok (.aload_n 0, 1) := by decide +kernel
theorem dJ2_charAt_3b067_2 : decode cJ2_charAt_3b067 2 = .ok (.invokestatic 67, 3) := by decide +kernel
theorem dJ2_charAt_3b067_5 : decode cJ2_charAt_3b067 5 = .ok (.aload_n 0, 1) := by decide +kernel
theorem dJ2_charAt_3b067_6 : decode cJ2_charAt_3b067 6 = .ok (.iload_n 1, 1) := by decide +kernel
theorem dJ2_charAt_3b067_7 : decode cJ2_charAt_3b067 7 = .ok (.invokestatic 71, 3) := by decide +kernel
theorem dJ2_charAt_3b067_10 : decode cJ2_charAt_3b067 10 = .ok (.ireturn, 1) := by decide +kernel
theorem dJ2_checkIndex_2214a_0 : decode cJ2_checkIndex_2214a 0 = .ok (.iload_n 0, 1) := by decide +kernel
theorem dJ2_checkIndex_2214a_1 : decode cJ2_checkIndex_2214a 1 = .ok (.aload_n 1, 1) := by decide +kernel
theorem dJ2_checkIndex_2214a_2 : decode cJ2_checkIndex_2214a 2 = .ok (.invokestatic 48, 3) := by decide +kernel
theorem dJ2_checkIndex_2214a_5 : decode cJ2_checkIndex_2214a 5 = .ok (.invokestatic 414, 3) := by decide +kernel
theorem dJ2_checkIndex_2214a_8 : decode cJ2_checkIndex_2214a 8 = .ok (.return_, 1) := by decide +kernel
theorem dJ3_checkIndex_8e157_0 : decode cJ3_checkIndex_8e157 0 = .ok (.iload_n 0, 1) := by decide +kernel
theorem dJ3_checkIndex_8e157_1 : decode cJ3_checkIndex_8e157 1 = .ok (.ifCond .lt 8, 3) := by decide +kernel
theorem dJ3_checkIndex_8e157_4 : decode cJ3_checkIndex_8e157 4 = .ok (.iload_n 0, 1) := by decide +kernel
theorem dJ3_checkIndex_8e157_5 : decode cJ3_checkIndex_8e157 5 = .ok (.iload_n 1, 1) := by decide +kernel
theorem dJ3_checkIndex_8e157_6 : decode cJ3_checkIndex_8e157 6 = .ok (.if_icmp .lt 10, 3) := by decide +kernel
theorem dJ3_checkIndex_8e157_9 : decode cJ3_checkIndex_8e157 9 = .ok (.aload_n 2, 1) := by decide +kernel
theorem dJ3_checkIndex_8e157_10 : decode cJ3_checkIndex_8e157 10 = .ok (.iload_n 0, 1) := by decide +kernel
theorem dJ3_checkIndex_8e157_11 : decode cJ3_checkIndex_8e157 11 = .ok (.iload_n 1, 1) := by decide +kernel
theorem dJ3_checkIndex_8e157_12 : decode cJ3_checkIndex_8e157 12 = .ok (.invokestatic 95, 3) := by decide +kernel
theorem dJ3_checkIndex_8e157_15 : decode cJ3_checkIndex_8e157 15 = .ok (.athrow, 1) := by decide +kernel
theorem dJ3_checkIndex_8e157_16 : decode cJ3_checkIndex_8e157 16 = .ok (.iload_n 0, 1) := by decide +kernel
theorem dJ3_checkIndex_8e157_17 : decode cJ3_checkIndex_8e157 17 = .ok (.ireturn, 1) := by decide +kernel
end
section
theorem dX8_init_0 : decode cX8_init 0 = .ok (.aload_n 0, 1) := by decide +kernel
theorem dX8_init_1 : decode cX8_init 1 = .ok (.invokespecial 1, 3) := by decide +kernel
theorem dX8_init_4 : decode cX8_init 4 = .ok (.aload_n 0, 1) := by decide +kernel
theorem dX8_init_5 : decode cX8_init 5 = .ok (.sipush 633, 3) := by decide +kernel
theorem dX8_init_8 : decode cX8_init 8 = .ok (.newarray .int, 2) := by decide +kernel
theorem dX8_init_10 : decode cX8_init 10 = .ok (.putfield 7, 3) := by decide +kernel
theorem dX8_init_13 : decode cX8_init 13 = .ok (.aload_n 0, 1) := by decide +kernel
theorem dX8_init_14 : decode cX8_init 14 = .ok (.sipush 633, 3) := by decide +kernel
theorem dX8_init_17 : decode cX8_init 17 = .ok (.newarray .int, 2) := by decide +kernel
theorem dX8_init_19 : decode cX8_init 19 = .ok (.putfield 13, 3) := by decide +kernel
theorem dX8_init_22 : decode cX8_init 22 = .ok (.aload_n 0, 1) := by decide +kernel
theorem dX8_init_23 : decode cX8_init 23 = .ok (.sipush 633, 3) := by decide +kernel
theorem dX8_init_26 : decode cX8_init 26 = .ok (.newarray .int, 2) := by decide +kernel
theorem dX8_init_28 : decode cX8_init 28 = .ok (.putfield 16, 3) := by decide +kernel
theorem dX8_init_31 : decode cX8_init 31 = .ok (.aload_n 0, 1) := by decide +kernel
theorem dX8_init_32 : decode cX8_init 32 = .ok (.sipush 633, 3) := by decide +kernel
theorem dX8_init_35 : decode cX8_init 35 = .ok (.newarray .int, 2) := by decide +kernel
theorem dX8_init_37 : decode cX8_init 37 = .ok (.putfield 19, 3) := by decide +kernel
theorem dX8_init_40 : decode cX8_init 40 = .ok (.aload_n 0, 1) := by decide +kernel
theorem dX8_init_41 : decode cX8_init 41 = .ok (.bipush 7, 2) := by decide +kernel
theorem dX8_init_43 : decode cX8_init 43 = .ok (.newarray .int, 2) := by decide +kernel
theorem dX8_init_45 : decode cX8_init 45 = .ok (.putfield 22, 3) := by decide +kernel
theorem dX8_init_48 : decode cX8_init 48 = .ok (.aload_n 0, 1) := by decide +kernel
theorem dX8_init_49 : decode cX8_init 49 = .ok (.bipush 48, 2) := by decide +kernel
theorem dX8_init_51 : decode cX8_init 51 = .ok (.newarray .int, 2) := by decide +kernel
theorem dX8_init_53 : decode cX8_init 53 = .ok (.putfield 25, 3) := by decide +kernel
theorem dX8_init_56 : decode cX8_init 56 = .ok (.aload_n 0, 1) := by decide +kernel
theorem dX8_init_57 : decode cX8_init 57 = .ok (.bipush 120, 2) := by decide +kernel
theorem dX8_init_59 : decode cX8_init 59 = .ok (.newarray .int, 2) := by decide +kernel
theorem dX8_init_61 : decode cX8_init 61 = .ok (.putfield 28, 3) := by decide +kernel
theorem dX8_init_64 : decode cX8_init 64 = .ok (.aload_n 0, 1) := by decide +kernel
theorem dX8_init_65 : decode cX8_init 65 = .ok (.iconst 4, 1) := by decide +kernel
theorem dX8_init_66 : decode cX8_init 66 = .ok (.newarray .int, 2) := by decide +kernel
theorem dX8_init_68 : decode cX8_init 68 = .ok (.putfield 31, 3) := by decide +kernel
theorem dX8_init_71 : decode cX8_init 71 = .ok (.aload_n 0, 1) := by decide +kernel
theorem dX8_init_72 : decode cX8_init 72 = .ok (.iconst 4, 1) := by decide +kernel
theorem dX8_init_73 : decode cX8_init 73 = .ok (.newarray .int, 2) := by decide +kernel
theorem dX8_init_75 : decode cX8_init 75 = .ok (.putfield 34, 3) := by decide +kernel
theorem dX8_init_78 : decode cX8_init 78 = .ok (.aload_n 0, 1) := by decide +kernel
theorem dX8_init_79 : decode cX8_init 79 = .ok (.sipush 160, 3) := by decide +kernel
theorem dX8_init_82 : decode cX8_init 82 = .ok (.newarray .long, 2) := by decide +kernel
theorem dX8_init_84 : decode cX8_init 84 = .ok (.putfield 37, 3) := by decide +kernel
theorem dX8_init_87 : decode cX8_init 87 = .ok (.aload_n 0, 1) := by decide +kernel
theorem dX8_init_88 : decode cX8_init 88 = .ok (.bipush 40, 2) := by decide +kernel
theorem dX8_init_90 : decode cX8_init 90 = .ok (.newarray .long, 2) := by decide +kernel
theorem dX8_init_92 : decode cX8_init 92 = .ok (.putfield 41, 3) := by decide +kernel
theorem dX8_init_95 : decode cX8_init 95 = .ok (.return_, 1) := by decide +kernel
theorem dX8_in_0 : decode cX8_in 0 = .ok (.lload_n 0, 1) := by decide +kernel
theorem dX8_in_1 : decode cX8_in 1 = .ok (.lload_n 2, 1) := by decide +kernel
theorem dX8_in_2 : decode cX8_in 2 = .ok (.lcmp, 1) := by decide +kernel
theorem dX8_in_3 : decode cX8_in 3 = .ok (.ifCond .lt 14, 3) := by decide +kernel
theorem dX8_in_6 : decode cX8_in 6 = .ok (.lload_n 0, 1) := by decide +kernel
theorem dX8_in_7 : decode cX8_in 7 = .ok (.lload 4, 2) := by decide +kernel
theorem dX8_in_9 : decode cX8_in 9 = .ok (.lcmp, 1) := by decide +kernel
theorem dX8_in_10 : decode cX8_in 10 = .ok (.ifCond .gt 7, 3) := by decide +kernel
theorem dX8_in_13 : decode cX8_in 13 = .ok (.iconst 1, 1) := by decide +kernel
theorem dX8_in_14 : decode cX8_in 14 = .ok (.goto 4, 3) := by decide +kernel
theorem dX8_in_17 : decode cX8_in 17 = .ok (.iconst 0, 1) := by decide +kernel
theorem dX8_in_18 : decode cX8_in 18 = .ok (.ireturn, 1) := by decide +kernel
theorem dX8_finds_0 : decode cX8_finds 0 = .ok (.aload_n 0, 1) := by decide +kernel
theorem dX8_finds_1 : decode cX8_finds 1 = .ok (.getfield 22, 3) := by decide +kernel
theorem dX8_finds_4 : decode cX8_finds 4 = .ok (.ldc 44, 2) := by decide +kernel
theorem dX8_finds_6 : decode cX8_finds 6 = .ok (.iload_n 1, 1) := by decide +kernel
theorem dX8_finds_7 : decode cX8_finds 7 = .ok (.isub, 1) := by decide +kernel
theorem dX8_finds_8 : decode cX8_finds 8 = .ok (.dup2, 1) := by decide +kernel
theorem dX8_finds_9 : decode cX8_finds 9 = .ok (.iaload, 1) := by decide +kernel
theorem dX8_finds_10 : decode cX8_finds 10 = .ok (.iconst 1, 1) := by decide +kernel
theorem dX8_finds_11 : decode cX8_finds 11 = .ok (.iadd, 1) := by decide +kernel
theorem dX8_finds_12 : decode cX8_finds 12 = .ok (.iastore, 1) := by decide +kernel
theorem dX8_finds_13 : decode cX8_finds 13 = .ok (.iload_n 1, 1) := by decide +kernel
theorem dX8_finds_14 : decode cX8_finds 14 = .ok (.ireturn, 1) := by decide +kernel
theorem dX8_saves_0 : decode cX8_saves 0 = .ok (.iconst 0, 1) := by decide +kernel
theorem dX8_saves_1 : decode cX8_saves 1 = .ok (.istore_n 1, 1) := by decide +kernel
theorem dX8_saves_2 : decode cX8_saves 2 = .ok (.iload_n 1, 1) := by decide +kernel
theorem dX8_saves_3 : decode cX8_saves 3 = .ok (.sipush 633, 3) := by decide +kernel
theorem dX8_saves_6 : decode cX8_saves 6 = .ok (.if_icmp .ge 21, 3) := by decide +kernel
theorem dX8_saves_9 : decode cX8_saves 9 = .ok (.aload_n 0, 1) := by decide +kernel
theorem dX8_saves_10 : decode cX8_saves 10 = .ok (.getfield 16, 3) := by decide +kernel
theorem dX8_saves_13 : decode cX8_saves 13 = .ok (.iload_n 1, 1) := by decide +kernel
theorem dX8_saves_14 : decode cX8_saves 14 = .ok (.aload_n 0, 1) := by decide +kernel
theorem dX8_saves_15 : decode cX8_saves 15 = .ok (.getfield 7, 3) := by decide +kernel
theorem dX8_saves_18 : decode cX8_saves 18 = .ok (.iload_n 1, 1) := by decide +kernel
theorem dX8_saves_19 : decode cX8_saves 19 = .ok (.iaload, 1) := by decide +kernel
theorem dX8_saves_20 : decode cX8_saves 20 = .ok (.iastore, 1) := by decide +kernel
theorem dX8_saves_21 : decode cX8_saves 21 = .ok (.iinc 1 1, 3) := by decide +kernel
theorem dX8_saves_24 : decode cX8_saves 24 = .ok (.goto (-22), 3) := by decide +kernel
theorem dX8_saves_27 : decode cX8_saves 27 = .ok (.return_, 1) := by decide +kernel
theorem dX8_putsBack_0 : decode cX8_putsBack 0 = .ok (.iconst 0, 1) := by decide +kernel
theorem dX8_putsBack_1 : decode cX8_putsBack 1 = .ok (.istore_n 1, 1) := by decide +kernel
theorem dX8_putsBack_2 : decode cX8_putsBack 2 = .ok (.iload_n 1, 1) := by decide +kernel
theorem dX8_putsBack_3 : decode cX8_putsBack 3 = .ok (.sipush 633, 3) := by decide +kernel
theorem dX8_putsBack_6 : decode cX8_putsBack 6 = .ok (.if_icmp .ge 21, 3) := by decide +kernel
theorem dX8_putsBack_9 : decode cX8_putsBack 9 = .ok (.aload_n 0, 1) := by decide +kernel
theorem dX8_putsBack_10 : decode cX8_putsBack 10 = .ok (.getfield 7, 3) := by decide +kernel
theorem dX8_putsBack_13 : decode cX8_putsBack 13 = .ok (.iload_n 1, 1) := by decide +kernel
theorem dX8_putsBack_14 : decode cX8_putsBack 14 = .ok (.aload_n 0, 1) := by decide +kernel
theorem dX8_putsBack_15 : decode cX8_putsBack 15 = .ok (.getfield 16, 3) := by decide +kernel
theorem dX8_putsBack_18 : decode cX8_putsBack 18 = .ok (.iload_n 1, 1) := by decide +kernel
theorem dX8_putsBack_19 : decode cX8_putsBack 19 = .ok (.iaload, 1) := by decide +kernel
theorem dX8_putsBack_20 : decode cX8_putsBack 20 = .ok (.iastore, 1) := by decide +kernel
theorem dX8_putsBack_21 : decode cX8_putsBack 21 = .ok (.iinc 1 1, 3) := by decide +kernel
theorem dX8_putsBack_24 : decode cX8_putsBack 24 = .ok (.goto (-22), 3) := by decide +kernel
theorem dX8_putsBack_27 : decode cX8_putsBack 27 = .ok (.return_, 1) := by decide +kernel
theorem dX8_laysAside_0 : decode cX8_laysAside 0 = .ok (.iconst 0, 1) := by decide +kernel
theorem dX8_laysAside_1 : decode cX8_laysAside 1 = .ok (.istore_n 1, 1) := by decide +kernel
theorem dX8_laysAside_2 : decode cX8_laysAside 2 = .ok (.iload_n 1, 1) := by decide +kernel
theorem dX8_laysAside_3 : decode cX8_laysAside 3 = .ok (.sipush 633, 3) := by decide +kernel
theorem dX8_laysAside_6 : decode cX8_laysAside 6 = .ok (.if_icmp .ge 21, 3) := by decide +kernel
theorem dX8_laysAside_9 : decode cX8_laysAside 9 = .ok (.aload_n 0, 1) := by decide +kernel
theorem dX8_laysAside_10 : decode cX8_laysAside 10 = .ok (.getfield 19, 3) := by decide +kernel
theorem dX8_laysAside_13 : decode cX8_laysAside 13 = .ok (.iload_n 1, 1) := by decide +kernel
theorem dX8_laysAside_14 : decode cX8_laysAside 14 = .ok (.aload_n 0, 1) := by decide +kernel
theorem dX8_laysAside_15 : decode cX8_laysAside 15 = .ok (.getfield 7, 3) := by decide +kernel
theorem dX8_laysAside_18 : decode cX8_laysAside 18 = .ok (.iload_n 1, 1) := by decide +kernel
theorem dX8_laysAside_19 : decode cX8_laysAside 19 = .ok (.iaload, 1) := by decide +kernel
theorem dX8_laysAside_20 : decode cX8_laysAside 20 = .ok (.iastore, 1) := by decide +kernel
theorem dX8_laysAside_21 : decode cX8_laysAside 21 = .ok (.iinc 1 1, 3) := by decide +kernel
theorem dX8_laysAside_24 : decode cX8_laysAside 24 = .ok (.goto (-22), 3) := by decide +kernel
theorem dX8_laysAside_27 : decode cX8_laysAside 27 = .ok (.return_, 1) := by decide +kernel
theorem dX8_takesBack_0 : decode cX8_takesBack 0 = .ok (.iconst 0, 1) := by decide +kernel
theorem dX8_takesBack_1 : decode cX8_takesBack 1 = .ok (.istore_n 2, 1) := by decide +kernel
theorem dX8_takesBack_2 : decode cX8_takesBack 2 = .ok (.iload_n 2, 1) := by decide +kernel
theorem dX8_takesBack_3 : decode cX8_takesBack 3 = .ok (.sipush 633, 3) := by decide +kernel
theorem dX8_takesBack_6 : decode cX8_takesBack 6 = .ok (.if_icmp .ge 21, 3) := by decide +kernel
theorem dX8_takesBack_9 : decode cX8_takesBack 9 = .ok (.aload_n 0, 1) := by decide +kernel
theorem dX8_takesBack_10 : decode cX8_takesBack 10 = .ok (.getfield 7, 3) := by decide +kernel
theorem dX8_takesBack_13 : decode cX8_takesBack 13 = .ok (.iload_n 2, 1) := by decide +kernel
theorem dX8_takesBack_14 : decode cX8_takesBack 14 = .ok (.aload_n 0, 1) := by decide +kernel
theorem dX8_takesBack_15 : decode cX8_takesBack 15 = .ok (.getfield 19, 3) := by decide +kernel
theorem dX8_takesBack_18 : decode cX8_takesBack 18 = .ok (.iload_n 2, 1) := by decide +kernel
theorem dX8_takesBack_19 : decode cX8_takesBack 19 = .ok (.iaload, 1) := by decide +kernel
theorem dX8_takesBack_20 : decode cX8_takesBack 20 = .ok (.iastore, 1) := by decide +kernel
theorem dX8_takesBack_21 : decode cX8_takesBack 21 = .ok (.iinc 2 1, 3) := by decide +kernel
theorem dX8_takesBack_24 : decode cX8_takesBack 24 = .ok (.goto (-22), 3) := by decide +kernel
theorem dX8_takesBack_27 : decode cX8_takesBack 27 = .ok (.iload_n 1, 1) := by decide +kernel
theorem dX8_takesBack_28 : decode cX8_takesBack 28 = .ok (.ireturn, 1) := by decide +kernel
theorem dX8_becomes_0 : decode cX8_becomes 0 = .ok (.aload_n 0, 1) := by decide +kernel
theorem dX8_becomes_1 : decode cX8_becomes 1 = .ok (.getfield 7, 3) := by decide +kernel
theorem dX8_becomes_4 : decode cX8_becomes 4 = .ok (.iload_n 1, 1) := by decide +kernel
theorem dX8_becomes_5 : decode cX8_becomes 5 = .ok (.iaload, 1) := by decide +kernel
theorem dX8_becomes_6 : decode cX8_becomes 6 = .ok (.istore_n 3, 1) := by decide +kernel
theorem dX8_becomes_7 : decode cX8_becomes 7 = .ok (.aload_n 0, 1) := by decide +kernel
theorem dX8_becomes_8 : decode cX8_becomes 8 = .ok (.getfield 7, 3) := by decide +kernel
theorem dX8_becomes_11 : decode cX8_becomes 11 = .ok (.iload_n 1, 1) := by decide +kernel
theorem dX8_becomes_12 : decode cX8_becomes 12 = .ok (.iload_n 2, 1) := by decide +kernel
theorem dX8_becomes_13 : decode cX8_becomes 13 = .ok (.iastore, 1) := by decide +kernel
theorem dX8_becomes_14 : decode cX8_becomes 14 = .ok (.iload_n 3, 1) := by decide +kernel
theorem dX8_becomes_15 : decode cX8_becomes 15 = .ok (.ireturn, 1) := by decide +kernel
theorem dX8_isFlue_0 : decode cX8_isFlue 0 = .ok (.iload_n 1, 1) := by decide +kernel
theorem dX8_isFlue_1 : decode cX8_isFlue 1 = .ok (.i2l, 1) := by decide +kernel
theorem dX8_isFlue_2 : decode cX8_isFlue 2 = .ok (.lconst 0, 1) := by decide +kernel
theorem dX8_isFlue_3 : decode cX8_isFlue 3 = .ok (.aload_n 0, 1) := by decide +kernel
theorem dX8_isFlue_4 : decode cX8_isFlue 4 = .ok (.getfield 7, 3) := by decide +kernel
theorem dX8_isFlue_7 : decode cX8_isFlue 7 = .ok (.iconst 0, 1) := by decide +kernel
theorem dX8_isFlue_8 : decode cX8_isFlue 8 = .ok (.iaload, 1) := by decide +kernel
theorem dX8_isFlue_9 : decode cX8_isFlue 9 = .ok (.iconst 1, 1) := by decide +kernel
theorem dX8_isFlue_10 : decode cX8_isFlue 10 = .ok (.isub, 1) := by decide +kernel
theorem dX8_isFlue_11 : decode cX8_isFlue 11 = .ok (.i2l, 1) := by decide +kernel
theorem dX8_isFlue_12 : decode cX8_isFlue 12 = .ok (.invokestatic 45, 3) := by decide +kernel
theorem dX8_isFlue_15 : decode cX8_isFlue 15 = .ok (.ireturn, 1) := by decide +kernel
theorem dX8_isBend_0 : decode cX8_isBend 0 = .ok (.iload_n 0, 1) := by decide +kernel
theorem dX8_isBend_1 : decode cX8_isBend 1 = .ok (.i2l, 1) := by decide +kernel
theorem dX8_isBend_2 : decode cX8_isBend 2 = .ok (.lconst 0, 1) := by decide +kernel
theorem dX8_isBend_3 : decode cX8_isBend 3 = .ok (.ldc2_w 49, 3) := by decide +kernel
theorem dX8_isBend_6 : decode cX8_isBend 6 = .ok (.invokestatic 45, 3) := by decide +kernel
theorem dX8_isBend_9 : decode cX8_isBend 9 = .ok (.ireturn, 1) := by decide +kernel
theorem dX8_isKind_0 : decode cX8_isKind 0 = .ok (.iload_n 0, 1) := by decide +kernel
theorem dX8_isKind_1 : decode cX8_isKind 1 = .ok (.i2l, 1) := by decide +kernel
theorem dX8_isKind_2 : decode cX8_isKind 2 = .ok (.lconst 0, 1) := by decide +kernel
theorem dX8_isKind_3 : decode cX8_isKind 3 = .ok (.ldc2_w 51, 3) := by decide +kernel
theorem dX8_isKind_6 : decode cX8_isKind 6 = .ok (.invokestatic 45, 3) := by decide +kernel
theorem dX8_isKind_9 : decode cX8_isKind 9 = .ok (.ireturn, 1) := by decide +kernel
theorem dX8_isWord_0 : decode cX8_isWord 0 = .ok (.iload_n 0, 1) := by decide +kernel
theorem dX8_isWord_1 : decode cX8_isWord 1 = .ok (.i2l, 1) := by decide +kernel
theorem dX8_isWord_2 : decode cX8_isWord 2 = .ok (.lconst 0, 1) := by decide +kernel
theorem dX8_isWord_3 : decode cX8_isWord 3 = .ok (.ldc2_w 53, 3) := by decide +kernel
theorem dX8_isWord_6 : decode cX8_isWord 6 = .ok (.invokestatic 45, 3) := by decide +kernel
theorem dX8_isWord_9 : decode cX8_isWord 9 = .ok (.ireturn, 1) := by decide +kernel
theorem dX8_areWords_0 : decode cX8_areWords 0 = .ok (.iload_n 0, 1) := by decide +kernel
theorem dX8_areWords_1 : decode cX8_areWords 1 = .ok (.i2l, 1) := by decide +kernel
theorem dX8_areWords_2 : decode cX8_areWords 2 = .ok (.lconst 0, 1) := by decide +kernel
theorem dX8_areWords_3 : decode cX8_areWords 3 = .ok (.ldc2_w 55, 3) := by decide +kernel
theorem dX8_areWords_6 : decode cX8_areWords 6 = .ok (.invokestatic 45, 3) := by decide +kernel
theorem dX8_areWords_9 : decode cX8_areWords 9 = .ok (.ireturn, 1) := by decide +kernel
theorem dX8_isVoice_0 : decode cX8_isVoice 0 = .ok (.iload_n 0, 1) := by decide +kernel
theorem dX8_isVoice_1 : decode cX8_isVoice 1 = .ok (.i2l, 1) := by decide +kernel
theorem dX8_isVoice_2 : decode cX8_isVoice 2 = .ok (.lconst 0, 1) := by decide +kernel
theorem dX8_isVoice_3 : decode cX8_isVoice 3 = .ok (.ldc2_w 57, 3) := by decide +kernel
theorem dX8_isVoice_6 : decode cX8_isVoice 6 = .ok (.invokestatic 45, 3) := by decide +kernel
theorem dX8_isVoice_9 : decode cX8_isVoice 9 = .ok (.ireturn, 1) := by decide +kernel
theorem dX8_isStrength_0 : decode cX8_isStrength 0 = .ok (.iload_n 0, 1) := by decide +kernel
theorem dX8_isStrength_1 : decode cX8_isStrength 1 = .ok (.i2l, 1) := by decide +kernel
theorem dX8_isStrength_2 : decode cX8_isStrength 2 = .ok (.lconst 1, 1) := by decide +kernel
theorem dX8_isStrength_3 : decode cX8_isStrength 3 = .ok (.ldc2_w 57, 3) := by decide +kernel
theorem dX8_isStrength_6 : decode cX8_isStrength 6 = .ok (.invokestatic 45, 3) := by decide +kernel
theorem dX8_isStrength_9 : decode cX8_isStrength 9 = .ok (.ireturn, 1) := by decide +kernel
theorem dX8_kindOf_0 : decode cX8_kindOf 0 = .ok (.aload_n 0, 1) := by decide +kernel
theorem dX8_kindOf_1 : decode cX8_kindOf 1 = .ok (.getfield 7, 3) := by decide +kernel
theorem dX8_kindOf_4 : decode cX8_kindOf 4 = .ok (.iconst 3, 1) := by decide +kernel
theorem dX8_kindOf_5 : decode cX8_kindOf 5 = .ok (.iload_n 1, 1) := by decide +kernel
theorem dX8_kindOf_6 : decode cX8_kindOf 6 = .ok (.iadd, 1) := by decide +kernel
theorem dX8_kindOf_7 : decode cX8_kindOf 7 = .ok (.iaload, 1) := by decide +kernel
theorem dX8_kindOf_8 : decode cX8_kindOf 8 = .ok (.ireturn, 1) := by decide +kernel
theorem dX8_place_0 : decode cX8_place 0 = .ok (.bipush 8, 2) := by decide +kernel
theorem dX8_place_2 : decode cX8_place 2 = .ok (.iload_n 0, 1) := by decide +kernel
theorem dX8_place_3 : decode cX8_place 3 = .ok (.imul, 1) := by decide +kernel
theorem dX8_place_4 : decode cX8_place 4 = .ok (.iload_n 1, 1) := by decide +kernel
theorem dX8_place_5 : decode cX8_place 5 = .ok (.iadd, 1) := by decide +kernel
theorem dX8_place_6 : decode cX8_place 6 = .ok (.ireturn, 1) := by decide +kernel
theorem dX8_layers_0 : decode cX8_layers 0 = .ok (.aload_n 0, 1) := by decide +kernel
theorem dX8_layers_1 : decode cX8_layers 1 = .ok (.getfield 7, 3) := by decide +kernel
theorem dX8_layers_4 : decode cX8_layers 4 = .ok (.bipush 9, 2) := by decide +kernel
theorem dX8_layers_6 : decode cX8_layers 6 = .ok (.iload_n 1, 1) := by decide +kernel
theorem dX8_layers_7 : decode cX8_layers 7 = .ok (.iload_n 2, 1) := by decide +kernel
theorem dX8_layers_8 : decode cX8_layers 8 = .ok (.invokestatic 59, 3) := by decide +kernel
theorem dX8_layers_11 : decode cX8_layers 11 = .ok (.iadd, 1) := by decide +kernel
theorem dX8_layers_12 : decode cX8_layers 12 = .ok (.iaload, 1) := by decide +kernel
theorem dX8_layers_13 : decode cX8_layers 13 = .ok (.ireturn, 1) := by decide +kernel
theorem dX8_spot_0 : decode cX8_spot 0 = .ok (.bipush 6, 2) := by decide +kernel
theorem dX8_spot_2 : decode cX8_spot 2 = .ok (.iload_n 0, 1) := by decide +kernel
theorem dX8_spot_3 : decode cX8_spot 3 = .ok (.iload_n 1, 1) := by decide +kernel
theorem dX8_spot_4 : decode cX8_spot 4 = .ok (.invokestatic 59, 3) := by decide +kernel
theorem dX8_spot_7 : decode cX8_spot 7 = .ok (.imul, 1) := by decide +kernel
theorem dX8_spot_8 : decode cX8_spot 8 = .ok (.iload_n 2, 1) := by decide +kernel
theorem dX8_spot_9 : decode cX8_spot 9 = .ok (.iadd, 1) := by decide +kernel
theorem dX8_spot_10 : decode cX8_spot 10 = .ok (.ireturn, 1) := by decide +kernel
theorem dX8_adds_0 : decode cX8_adds 0 = .ok (.aload_n 0, 1) := by decide +kernel
theorem dX8_adds_1 : decode cX8_adds 1 = .ok (.getfield 7, 3) := by decide +kernel
theorem dX8_adds_4 : decode cX8_adds 4 = .ok (.iconst 0, 1) := by decide +kernel
theorem dX8_adds_5 : decode cX8_adds 5 = .ok (.iaload, 1) := by decide +kernel
theorem dX8_adds_6 : decode cX8_adds 6 = .ok (.istore_n 2, 1) := by decide +kernel
theorem dX8_adds_7 : decode cX8_adds 7 = .ok (.aload_n 0, 1) := by decide +kernel
theorem dX8_adds_8 : decode cX8_adds 8 = .ok (.getfield 7, 3) := by decide +kernel
theorem dX8_adds_11 : decode cX8_adds 11 = .ok (.iconst 3, 1) := by decide +kernel
theorem dX8_adds_12 : decode cX8_adds 12 = .ok (.iload_n 2, 1) := by decide +kernel
theorem dX8_adds_13 : decode cX8_adds 13 = .ok (.iadd, 1) := by decide +kernel
theorem dX8_adds_14 : decode cX8_adds 14 = .ok (.iload_n 1, 1) := by decide +kernel
theorem dX8_adds_15 : decode cX8_adds 15 = .ok (.iastore, 1) := by decide +kernel
theorem dX8_adds_16 : decode cX8_adds 16 = .ok (.iconst 0, 1) := by decide +kernel
theorem dX8_adds_17 : decode cX8_adds 17 = .ok (.istore_n 3, 1) := by decide +kernel
theorem dX8_adds_18 : decode cX8_adds 18 = .ok (.iload_n 3, 1) := by decide +kernel
theorem dX8_adds_19 : decode cX8_adds 19 = .ok (.bipush 8, 2) := by decide +kernel
theorem dX8_adds_21 : decode cX8_adds 21 = .ok (.if_icmp .ge 23, 3) := by decide +kernel
theorem dX8_adds_24 : decode cX8_adds 24 = .ok (.aload_n 0, 1) := by decide +kernel
theorem dX8_adds_25 : decode cX8_adds 25 = .ok (.getfield 7, 3) := by decide +kernel
theorem dX8_adds_28 : decode cX8_adds 28 = .ok (.bipush 9, 2) := by decide +kernel
theorem dX8_adds_30 : decode cX8_adds 30 = .ok (.iload_n 2, 1) := by decide +kernel
theorem dX8_adds_31 : decode cX8_adds 31 = .ok (.iload_n 3, 1) := by decide +kernel
theorem dX8_adds_32 : decode cX8_adds 32 = .ok (.invokestatic 59, 3) := by decide +kernel
theorem dX8_adds_35 : decode cX8_adds 35 = .ok (.iadd, 1) := by decide +kernel
theorem dX8_adds_36 : decode cX8_adds 36 = .ok (.iconst 0, 1) := by decide +kernel
theorem dX8_adds_37 : decode cX8_adds 37 = .ok (.iastore, 1) := by decide +kernel
theorem dX8_adds_38 : decode cX8_adds 38 = .ok (.iinc 3 1, 3) := by decide +kernel
theorem dX8_adds_41 : decode cX8_adds 41 = .ok (.goto (-23), 3) := by decide +kernel
theorem dX8_adds_44 : decode cX8_adds 44 = .ok (.aload_n 0, 1) := by decide +kernel
theorem dX8_adds_45 : decode cX8_adds 45 = .ok (.getfield 7, 3) := by decide +kernel
theorem dX8_adds_48 : decode cX8_adds 48 = .ok (.iconst 0, 1) := by decide +kernel
theorem dX8_adds_49 : decode cX8_adds 49 = .ok (.dup2, 1) := by decide +kernel
theorem dX8_adds_50 : decode cX8_adds 50 = .ok (.iaload, 1) := by decide +kernel
theorem dX8_adds_51 : decode cX8_adds 51 = .ok (.iconst 1, 1) := by decide +kernel
theorem dX8_adds_52 : decode cX8_adds 52 = .ok (.iadd, 1) := by decide +kernel
theorem dX8_adds_53 : decode cX8_adds 53 = .ok (.iastore, 1) := by decide +kernel
theorem dX8_adds_54 : decode cX8_adds 54 = .ok (.iload_n 2, 1) := by decide +kernel
theorem dX8_adds_55 : decode cX8_adds 55 = .ok (.ireturn, 1) := by decide +kernel
theorem dX8_flue_0 : decode cX8_flue 0 = .ok (.iload_n 1, 1) := by decide +kernel
theorem dX8_flue_1 : decode cX8_flue 1 = .ok (.invokestatic 63, 3) := by decide +kernel
theorem dX8_flue_4 : decode cX8_flue 4 = .ok (.ifCond .ne 10, 3) := by decide +kernel
theorem dX8_flue_7 : decode cX8_flue 7 = .ok (.aload_n 0, 1) := by decide +kernel
theorem dX8_flue_8 : decode cX8_flue 8 = .ok (.ldc 44, 2) := by decide +kernel
theorem dX8_flue_10 : decode cX8_flue 10 = .ok (.invokevirtual 67, 3) := by decide +kernel
theorem dX8_flue_13 : decode cX8_flue 13 = .ok (.ireturn, 1) := by decide +kernel
theorem dX8_flue_14 : decode cX8_flue 14 = .ok (.aload_n 0, 1) := by decide +kernel
theorem dX8_flue_15 : decode cX8_flue 15 = .ok (.getfield 7, 3) := by decide +kernel
theorem dX8_flue_18 : decode cX8_flue 18 = .ok (.iconst 0, 1) := by decide +kernel
theorem dX8_flue_19 : decode cX8_flue 19 = .ok (.iaload, 1) := by decide +kernel
theorem dX8_flue_20 : decode cX8_flue 20 = .ok (.bipush 6, 2) := by decide +kernel
theorem dX8_flue_22 : decode cX8_flue 22 = .ok (.if_icmp .ne 12, 3) := by decide +kernel
theorem dX8_flue_25 : decode cX8_flue 25 = .ok (.aload_n 0, 1) := by decide +kernel
theorem dX8_flue_26 : decode cX8_flue 26 = .ok (.ldc 71, 2) := by decide +kernel
theorem dX8_flue_28 : decode cX8_flue 28 = .ok (.invokevirtual 67, 3) := by decide +kernel
theorem dX8_flue_31 : decode cX8_flue 31 = .ok (.goto 8, 3) := by decide +kernel
theorem dX8_flue_34 : decode cX8_flue 34 = .ok (.aload_n 0, 1) := by decide +kernel
theorem dX8_flue_35 : decode cX8_flue 35 = .ok (.iload_n 1, 1) := by decide +kernel
theorem dX8_flue_36 : decode cX8_flue 36 = .ok (.invokevirtual 72, 3) := by decide +kernel
theorem dX8_flue_39 : decode cX8_flue 39 = .ok (.ireturn, 1) := by decide +kernel
theorem dX8_holds_0 : decode cX8_holds 0 = .ok (.aload_n 0, 1) := by decide +kernel
theorem dX8_holds_1 : decode cX8_holds 1 = .ok (.iload_n 1, 1) := by decide +kernel
theorem dX8_holds_2 : decode cX8_holds 2 = .ok (.invokevirtual 75, 3) := by decide +kernel
theorem dX8_holds_5 : decode cX8_holds 5 = .ok (.tableswitch 77 1 5 #[35, 49, 77, 51, 65], 35) := by decide +kernel
theorem dX8_holds_40 : decode cX8_holds 40 = .ok (.iload_n 2, 1) := by decide +kernel
theorem dX8_holds_41 : decode cX8_holds 41 = .ok (.iconst 2, 1) := by decide +kernel
theorem dX8_holds_42 : decode cX8_holds 42 = .ok (.irem, 1) := by decide +kernel
theorem dX8_holds_43 : decode cX8_holds 43 = .ok (.iconst 1, 1) := by decide +kernel
theorem dX8_holds_44 : decode cX8_holds 44 = .ok (.if_icmp .ne 7, 3) := by decide +kernel
theorem dX8_holds_47 : decode cX8_holds 47 = .ok (.iconst 4, 1) := by decide +kernel
theorem dX8_holds_48 : decode cX8_holds 48 = .ok (.goto 5, 3) := by decide +kernel
theorem dX8_holds_51 : decode cX8_holds 51 = .ok (.bipush 6, 2) := by decide +kernel
theorem dX8_holds_53 : decode cX8_holds 53 = .ok (.ireturn, 1) := by decide +kernel
theorem dX8_holds_54 : decode cX8_holds 54 = .ok (.iconst 3, 1) := by decide +kernel
theorem dX8_holds_55 : decode cX8_holds 55 = .ok (.ireturn, 1) := by decide +kernel
theorem dX8_holds_56 : decode cX8_holds 56 = .ok (.iload_n 2, 1) := by decide +kernel
theorem dX8_holds_57 : decode cX8_holds 57 = .ok (.iconst 2, 1) := by decide +kernel
theorem dX8_holds_58 : decode cX8_holds 58 = .ok (.irem, 1) := by decide +kernel
theorem dX8_holds_59 : decode cX8_holds 59 = .ok (.iconst 1, 1) := by decide +kernel
theorem dX8_holds_60 : decode cX8_holds 60 = .ok (.if_icmp .ne 7, 3) := by decide +kernel
theorem dX8_holds_63 : decode cX8_holds 63 = .ok (.iconst 5, 1) := by decide +kernel
theorem dX8_holds_64 : decode cX8_holds 64 = .ok (.goto 5, 3) := by decide +kernel
theorem dX8_holds_67 : decode cX8_holds 67 = .ok (.bipush 6, 2) := by decide +kernel
theorem dX8_holds_69 : decode cX8_holds 69 = .ok (.ireturn, 1) := by decide +kernel
theorem dX8_holds_70 : decode cX8_holds 70 = .ok (.iload_n 2, 1) := by decide +kernel
theorem dX8_holds_71 : decode cX8_holds 71 = .ok (.bipush 7, 2) := by decide +kernel
theorem dX8_holds_73 : decode cX8_holds 73 = .ok (.if_icmp .ne 7, 3) := by decide +kernel
theorem dX8_holds_76 : decode cX8_holds 76 = .ok (.iconst 5, 1) := by decide +kernel
theorem dX8_holds_77 : decode cX8_holds 77 = .ok (.goto 4, 3) := by decide +kernel
theorem dX8_holds_80 : decode cX8_holds 80 = .ok (.iconst 3, 1) := by decide +kernel
theorem dX8_holds_81 : decode cX8_holds 81 = .ok (.ireturn, 1) := by decide +kernel
theorem dX8_holds_82 : decode cX8_holds 82 = .ok (.bipush 6, 2) := by decide +kernel
theorem dX8_holds_84 : decode cX8_holds 84 = .ok (.ireturn, 1) := by decide +kernel
theorem dX8_isFull_0 : decode cX8_isFull 0 = .ok (.aload_n 0, 1) := by decide +kernel
theorem dX8_isFull_1 : decode cX8_isFull 1 = .ok (.iload_n 1, 1) := by decide +kernel
theorem dX8_isFull_2 : decode cX8_isFull 2 = .ok (.iload_n 2, 1) := by decide +kernel
theorem dX8_isFull_3 : decode cX8_isFull 3 = .ok (.invokevirtual 78, 3) := by decide +kernel
theorem dX8_isFull_6 : decode cX8_isFull 6 = .ok (.aload_n 0, 1) := by decide +kernel
theorem dX8_isFull_7 : decode cX8_isFull 7 = .ok (.iload_n 1, 1) := by decide +kernel
theorem dX8_isFull_8 : decode cX8_isFull 8 = .ok (.iload_n 2, 1) := by decide +kernel
theorem dX8_isFull_9 : decode cX8_isFull 9 = .ok (.invokevirtual 81, 3) := by decide +kernel
theorem dX8_isFull_12 : decode cX8_isFull 12 = .ok (.if_icmp .lt 7, 3) := by decide +kernel
theorem dX8_isFull_15 : decode cX8_isFull 15 = .ok (.iconst 1, 1) := by decide +kernel
theorem dX8_isFull_16 : decode cX8_isFull 16 = .ok (.goto 4, 3) := by decide +kernel
theorem dX8_isFull_19 : decode cX8_isFull 19 = .ok (.iconst 0, 1) := by decide +kernel
theorem dX8_isFull_20 : decode cX8_isFull 20 = .ok (.ireturn, 1) := by decide +kernel
theorem dX8_cakes_0 : decode cX8_cakes 0 = .ok (.aload_n 0, 1) := by decide +kernel
theorem dX8_cakes_1 : decode cX8_cakes 1 = .ok (.getfield 7, 3) := by decide +kernel
theorem dX8_cakes_4 : decode cX8_cakes 4 = .ok (.iconst 2, 1) := by decide +kernel
theorem dX8_cakes_5 : decode cX8_cakes 5 = .ok (.iaload, 1) := by decide +kernel
theorem dX8_cakes_6 : decode cX8_cakes 6 = .ok (.iconst 3, 1) := by decide +kernel
theorem dX8_cakes_7 : decode cX8_cakes 7 = .ok (.idiv, 1) := by decide +kernel
theorem dX8_cakes_8 : decode cX8_cakes 8 = .ok (.istore_n 2, 1) := by decide +kernel
theorem dX8_cakes_9 : decode cX8_cakes 9 = .ok (.aload_n 0, 1) := by decide +kernel
theorem dX8_cakes_10 : decode cX8_cakes 10 = .ok (.iload_n 1, 1) := by decide +kernel
theorem dX8_cakes_11 : decode cX8_cakes 11 = .ok (.invokevirtual 75, 3) := by decide +kernel
theorem dX8_cakes_14 : decode cX8_cakes 14 = .ok (.tableswitch 68 1 5 #[34, 68, 52, 34, 56], 34) := by decide +kernel
theorem dX8_cakes_48 : decode cX8_cakes 48 = .ok (.aload_n 0, 1) := by decide +kernel
theorem dX8_cakes_49 : decode cX8_cakes 49 = .ok (.getfield 7, 3) := by decide +kernel
theorem dX8_cakes_52 : decode cX8_cakes 52 = .ok (.iconst 2, 1) := by decide +kernel
theorem dX8_cakes_53 : decode cX8_cakes 53 = .ok (.iaload, 1) := by decide +kernel
theorem dX8_cakes_54 : decode cX8_cakes 54 = .ok (.iconst 5, 1) := by decide +kernel
theorem dX8_cakes_55 : decode cX8_cakes 55 = .ok (.if_icmp .le 9, 3) := by decide +kernel
theorem dX8_cakes_58 : decode cX8_cakes 58 = .ok (.iload_n 2, 1) := by decide +kernel
theorem dX8_cakes_59 : decode cX8_cakes 59 = .ok (.iconst 1, 1) := by decide +kernel
theorem dX8_cakes_60 : decode cX8_cakes 60 = .ok (.iadd, 1) := by decide +kernel
theorem dX8_cakes_61 : decode cX8_cakes 61 = .ok (.goto 4, 3) := by decide +kernel
theorem dX8_cakes_64 : decode cX8_cakes 64 = .ok (.iload_n 2, 1) := by decide +kernel
theorem dX8_cakes_65 : decode cX8_cakes 65 = .ok (.ireturn, 1) := by decide +kernel
theorem dX8_cakes_66 : decode cX8_cakes 66 = .ok (.iconst 2, 1) := by decide +kernel
theorem dX8_cakes_67 : decode cX8_cakes 67 = .ok (.iload_n 2, 1) := by decide +kernel
theorem dX8_cakes_68 : decode cX8_cakes 68 = .ok (.imul, 1) := by decide +kernel
theorem dX8_cakes_69 : decode cX8_cakes 69 = .ok (.ireturn, 1) := by decide +kernel
theorem dX8_cakes_70 : decode cX8_cakes 70 = .ok (.iload_n 2, 1) := by decide +kernel
theorem dX8_cakes_71 : decode cX8_cakes 71 = .ok (.ifCond .le 9, 3) := by decide +kernel
theorem dX8_cakes_74 : decode cX8_cakes 74 = .ok (.iload_n 2, 1) := by decide +kernel
theorem dX8_cakes_75 : decode cX8_cakes 75 = .ok (.iconst 1, 1) := by decide +kernel
theorem dX8_cakes_76 : decode cX8_cakes 76 = .ok (.isub, 1) := by decide +kernel
theorem dX8_cakes_77 : decode cX8_cakes 77 = .ok (.goto 4, 3) := by decide +kernel
theorem dX8_cakes_80 : decode cX8_cakes 80 = .ok (.iconst 0, 1) := by decide +kernel
theorem dX8_cakes_81 : decode cX8_cakes 81 = .ok (.ireturn, 1) := by decide +kernel
theorem dX8_cakes_82 : decode cX8_cakes 82 = .ok (.iload_n 2, 1) := by decide +kernel
theorem dX8_cakes_83 : decode cX8_cakes 83 = .ok (.ireturn, 1) := by decide +kernel
theorem dX8_layersOf_0 : decode cX8_layersOf 0 = .ok (.iconst 0, 1) := by decide +kernel
theorem dX8_layersOf_1 : decode cX8_layersOf 1 = .ok (.istore_n 2, 1) := by decide +kernel
theorem dX8_layersOf_2 : decode cX8_layersOf 2 = .ok (.iconst 0, 1) := by decide +kernel
theorem dX8_layersOf_3 : decode cX8_layersOf 3 = .ok (.istore_n 3, 1) := by decide +kernel
theorem dX8_layersOf_4 : decode cX8_layersOf 4 = .ok (.iload_n 3, 1) := by decide +kernel
theorem dX8_layersOf_5 : decode cX8_layersOf 5 = .ok (.bipush 8, 2) := by decide +kernel
theorem dX8_layersOf_7 : decode cX8_layersOf 7 = .ok (.if_icmp .ge 18, 3) := by decide +kernel
theorem dX8_layersOf_10 : decode cX8_layersOf 10 = .ok (.iload_n 2, 1) := by decide +kernel
theorem dX8_layersOf_11 : decode cX8_layersOf 11 = .ok (.aload_n 0, 1) := by decide +kernel
theorem dX8_layersOf_12 : decode cX8_layersOf 12 = .ok (.iload_n 1, 1) := by decide +kernel
theorem dX8_layersOf_13 : decode cX8_layersOf 13 = .ok (.iload_n 3, 1) := by decide +kernel
theorem dX8_layersOf_14 : decode cX8_layersOf 14 = .ok (.invokevirtual 78, 3) := by decide +kernel
theorem dX8_layersOf_17 : decode cX8_layersOf 17 = .ok (.iadd, 1) := by decide +kernel
theorem dX8_layersOf_18 : decode cX8_layersOf 18 = .ok (.istore_n 2, 1) := by decide +kernel
theorem dX8_layersOf_19 : decode cX8_layersOf 19 = .ok (.iinc 3 1, 3) := by decide +kernel
theorem dX8_layersOf_22 : decode cX8_layersOf 22 = .ok (.goto (-18), 3) := by decide +kernel
theorem dX8_layersOf_25 : decode cX8_layersOf 25 = .ok (.iload_n 2, 1) := by decide +kernel
theorem dX8_layersOf_26 : decode cX8_layersOf 26 = .ok (.ireturn, 1) := by decide +kernel
theorem dX8_wordsAt_0 : decode cX8_wordsAt 0 = .ok (.iconst 0, 1) := by decide +kernel
theorem dX8_wordsAt_1 : decode cX8_wordsAt 1 = .ok (.istore_n 3, 1) := by decide +kernel
theorem dX8_wordsAt_2 : decode cX8_wordsAt 2 = .ok (.iconst 0, 1) := by decide +kernel
theorem dX8_wordsAt_3 : decode cX8_wordsAt 3 = .ok (.istore 4, 2) := by decide +kernel
theorem dX8_wordsAt_5 : decode cX8_wordsAt 5 = .ok (.iload 4, 2) := by decide +kernel
theorem dX8_wordsAt_7 : decode cX8_wordsAt 7 = .ok (.aload_n 0, 1) := by decide +kernel
theorem dX8_wordsAt_8 : decode cX8_wordsAt 8 = .ok (.iload_n 1, 1) := by decide +kernel
theorem dX8_wordsAt_9 : decode cX8_wordsAt 9 = .ok (.iload_n 2, 1) := by decide +kernel
theorem dX8_wordsAt_10 : decode cX8_wordsAt 10 = .ok (.invokevirtual 78, 3) := by decide +kernel
theorem dX8_wordsAt_13 : decode cX8_wordsAt 13 = .ok (.if_icmp .ge 29, 3) := by decide +kernel
theorem dX8_wordsAt_16 : decode cX8_wordsAt 16 = .ok (.iload_n 3, 1) := by decide +kernel
theorem dX8_wordsAt_17 : decode cX8_wordsAt 17 = .ok (.iconst 1, 1) := by decide +kernel
theorem dX8_wordsAt_18 : decode cX8_wordsAt 18 = .ok (.aload_n 0, 1) := by decide +kernel
theorem dX8_wordsAt_19 : decode cX8_wordsAt 19 = .ok (.getfield 7, 3) := by decide +kernel
theorem dX8_wordsAt_22 : decode cX8_wordsAt 22 = .ok (.bipush 57, 2) := by decide +kernel
theorem dX8_wordsAt_24 : decode cX8_wordsAt 24 = .ok (.iload_n 1, 1) := by decide +kernel
theorem dX8_wordsAt_25 : decode cX8_wordsAt 25 = .ok (.iload_n 2, 1) := by decide +kernel
theorem dX8_wordsAt_26 : decode cX8_wordsAt 26 = .ok (.iload 4, 2) := by decide +kernel
theorem dX8_wordsAt_28 : decode cX8_wordsAt 28 = .ok (.invokestatic 84, 3) := by decide +kernel
theorem dX8_wordsAt_31 : decode cX8_wordsAt 31 = .ok (.iadd, 1) := by decide +kernel
theorem dX8_wordsAt_32 : decode cX8_wordsAt 32 = .ok (.iaload, 1) := by decide +kernel
theorem dX8_wordsAt_33 : decode cX8_wordsAt 33 = .ok (.ishl, 1) := by decide +kernel
theorem dX8_wordsAt_34 : decode cX8_wordsAt 34 = .ok (.ior, 1) := by decide +kernel
theorem dX8_wordsAt_35 : decode cX8_wordsAt 35 = .ok (.istore_n 3, 1) := by decide +kernel
theorem dX8_wordsAt_36 : decode cX8_wordsAt 36 = .ok (.iinc 4 1, 3) := by decide +kernel
theorem dX8_wordsAt_39 : decode cX8_wordsAt 39 = .ok (.goto (-34), 3) := by decide +kernel
theorem dX8_wordsAt_42 : decode cX8_wordsAt 42 = .ok (.iload_n 3, 1) := by decide +kernel
theorem dX8_wordsAt_43 : decode cX8_wordsAt 43 = .ok (.ireturn, 1) := by decide +kernel
theorem dX8_wordsOf_0 : decode cX8_wordsOf 0 = .ok (.iconst 0, 1) := by decide +kernel
theorem dX8_wordsOf_1 : decode cX8_wordsOf 1 = .ok (.istore_n 2, 1) := by decide +kernel
theorem dX8_wordsOf_2 : decode cX8_wordsOf 2 = .ok (.iconst 0, 1) := by decide +kernel
theorem dX8_wordsOf_3 : decode cX8_wordsOf 3 = .ok (.istore_n 3, 1) := by decide +kernel
theorem dX8_wordsOf_4 : decode cX8_wordsOf 4 = .ok (.iload_n 3, 1) := by decide +kernel
theorem dX8_wordsOf_5 : decode cX8_wordsOf 5 = .ok (.bipush 8, 2) := by decide +kernel
theorem dX8_wordsOf_7 : decode cX8_wordsOf 7 = .ok (.if_icmp .ge 18, 3) := by decide +kernel
theorem dX8_wordsOf_10 : decode cX8_wordsOf 10 = .ok (.iload_n 2, 1) := by decide +kernel
theorem dX8_wordsOf_11 : decode cX8_wordsOf 11 = .ok (.aload_n 0, 1) := by decide +kernel
theorem dX8_wordsOf_12 : decode cX8_wordsOf 12 = .ok (.iload_n 1, 1) := by decide +kernel
theorem dX8_wordsOf_13 : decode cX8_wordsOf 13 = .ok (.iload_n 3, 1) := by decide +kernel
theorem dX8_wordsOf_14 : decode cX8_wordsOf 14 = .ok (.invokevirtual 88, 3) := by decide +kernel
theorem dX8_wordsOf_17 : decode cX8_wordsOf 17 = .ok (.ior, 1) := by decide +kernel
theorem dX8_wordsOf_18 : decode cX8_wordsOf 18 = .ok (.istore_n 2, 1) := by decide +kernel
theorem dX8_wordsOf_19 : decode cX8_wordsOf 19 = .ok (.iinc 3 1, 3) := by decide +kernel
theorem dX8_wordsOf_22 : decode cX8_wordsOf 22 = .ok (.goto (-18), 3) := by decide +kernel
theorem dX8_wordsOf_25 : decode cX8_wordsOf 25 = .ok (.iload_n 2, 1) := by decide +kernel
theorem dX8_wordsOf_26 : decode cX8_wordsOf 26 = .ok (.ireturn, 1) := by decide +kernel
theorem dX8_emptyBends_0 : decode cX8_emptyBends 0 = .ok (.iconst 0, 1) := by decide +kernel
theorem dX8_emptyBends_1 : decode cX8_emptyBends 1 = .ok (.istore_n 2, 1) := by decide +kernel
theorem dX8_emptyBends_2 : decode cX8_emptyBends 2 = .ok (.iconst 0, 1) := by decide +kernel
theorem dX8_emptyBends_3 : decode cX8_emptyBends 3 = .ok (.istore_n 3, 1) := by decide +kernel
theorem dX8_emptyBends_4 : decode cX8_emptyBends 4 = .ok (.iload_n 3, 1) := by decide +kernel
theorem dX8_emptyBends_5 : decode cX8_emptyBends 5 = .ok (.bipush 8, 2) := by decide +kernel
theorem dX8_emptyBends_7 : decode cX8_emptyBends 7 = .ok (.if_icmp .ge 28, 3) := by decide +kernel
theorem dX8_emptyBends_10 : decode cX8_emptyBends 10 = .ok (.iload_n 2, 1) := by decide +kernel
theorem dX8_emptyBends_11 : decode cX8_emptyBends 11 = .ok (.aload_n 0, 1) := by decide +kernel
theorem dX8_emptyBends_12 : decode cX8_emptyBends 12 = .ok (.iload_n 1, 1) := by decide +kernel
theorem dX8_emptyBends_13 : decode cX8_emptyBends 13 = .ok (.iload_n 3, 1) := by decide +kernel
theorem dX8_emptyBends_14 : decode cX8_emptyBends 14 = .ok (.invokevirtual 78, 3) := by decide +kernel
theorem dX8_emptyBends_17 : decode cX8_emptyBends 17 = .ok (.ifCond .ne 9, 3) := by decide +kernel
theorem dX8_emptyBends_20 : decode cX8_emptyBends 20 = .ok (.iconst 1, 1) := by decide +kernel
theorem dX8_emptyBends_21 : decode cX8_emptyBends 21 = .ok (.iload_n 3, 1) := by decide +kernel
theorem dX8_emptyBends_22 : decode cX8_emptyBends 22 = .ok (.ishl, 1) := by decide +kernel
theorem dX8_emptyBends_23 : decode cX8_emptyBends 23 = .ok (.goto 4, 3) := by decide +kernel
theorem dX8_emptyBends_26 : decode cX8_emptyBends 26 = .ok (.iconst 0, 1) := by decide +kernel
theorem dX8_emptyBends_27 : decode cX8_emptyBends 27 = .ok (.ior, 1) := by decide +kernel
theorem dX8_emptyBends_28 : decode cX8_emptyBends 28 = .ok (.istore_n 2, 1) := by decide +kernel
theorem dX8_emptyBends_29 : decode cX8_emptyBends 29 = .ok (.iinc 3 1, 3) := by decide +kernel
theorem dX8_emptyBends_32 : decode cX8_emptyBends 32 = .ok (.goto (-28), 3) := by decide +kernel
theorem dX8_emptyBends_35 : decode cX8_emptyBends 35 = .ok (.iload_n 2, 1) := by decide +kernel
theorem dX8_emptyBends_36 : decode cX8_emptyBends 36 = .ok (.ireturn, 1) := by decide +kernel
theorem dX8_of_0 : decode cX8_of 0 = .ok (.aload_n 0, 1) := by decide +kernel
theorem dX8_of_1 : decode cX8_of 1 = .ok (.iload_n 1, 1) := by decide +kernel
theorem dX8_of_2 : decode cX8_of 2 = .ok (.invokevirtual 91, 3) := by decide +kernel
theorem dX8_of_5 : decode cX8_of 5 = .ok (.ifCond .eq 15, 3) := by decide +kernel
theorem dX8_of_8 : decode cX8_of 8 = .ok (.iload_n 2, 1) := by decide +kernel
theorem dX8_of_9 : decode cX8_of 9 = .ok (.i2l, 1) := by decide +kernel
theorem dX8_of_10 : decode cX8_of 10 = .ok (.lconst 0, 1) := by decide +kernel
theorem dX8_of_11 : decode cX8_of 11 = .ok (.ldc2_w 94, 3) := by decide +kernel
theorem dX8_of_14 : decode cX8_of 14 = .ok (.invokestatic 45, 3) := by decide +kernel
theorem dX8_of_17 : decode cX8_of 17 = .ok (.ifCond .ne 10, 3) := by decide +kernel
theorem dX8_of_20 : decode cX8_of 20 = .ok (.aload_n 0, 1) := by decide +kernel
theorem dX8_of_21 : decode cX8_of 21 = .ok (.ldc 44, 2) := by decide +kernel
theorem dX8_of_23 : decode cX8_of 23 = .ok (.invokevirtual 67, 3) := by decide +kernel
theorem dX8_of_26 : decode cX8_of 26 = .ok (.ireturn, 1) := by decide +kernel
theorem dX8_of_27 : decode cX8_of 27 = .ok (.iload_n 2, 1) := by decide +kernel
theorem dX8_of_28 : decode cX8_of 28 = .ok (.tableswitch 56 0 3 #[32, 38, 44, 50], 32) := by decide +kernel
theorem dX8_of_60 : decode cX8_of 60 = .ok (.aload_n 0, 1) := by decide +kernel
theorem dX8_of_61 : decode cX8_of 61 = .ok (.iload_n 1, 1) := by decide +kernel
theorem dX8_of_62 : decode cX8_of 62 = .ok (.invokevirtual 75, 3) := by decide +kernel
theorem dX8_of_65 : decode cX8_of 65 = .ok (.ireturn, 1) := by decide +kernel
theorem dX8_of_66 : decode cX8_of 66 = .ok (.aload_n 0, 1) := by decide +kernel
theorem dX8_of_67 : decode cX8_of 67 = .ok (.iload_n 1, 1) := by decide +kernel
theorem dX8_of_68 : decode cX8_of 68 = .ok (.invokevirtual 96, 3) := by decide +kernel
theorem dX8_of_71 : decode cX8_of 71 = .ok (.ireturn, 1) := by decide +kernel
theorem dX8_of_72 : decode cX8_of 72 = .ok (.aload_n 0, 1) := by decide +kernel
theorem dX8_of_73 : decode cX8_of 73 = .ok (.iload_n 1, 1) := by decide +kernel
theorem dX8_of_74 : decode cX8_of 74 = .ok (.invokevirtual 99, 3) := by decide +kernel
theorem dX8_of_77 : decode cX8_of 77 = .ok (.ireturn, 1) := by decide +kernel
theorem dX8_of_78 : decode cX8_of 78 = .ok (.aload_n 0, 1) := by decide +kernel
theorem dX8_of_79 : decode cX8_of 79 = .ok (.iload_n 1, 1) := by decide +kernel
theorem dX8_of_80 : decode cX8_of 80 = .ok (.invokevirtual 102, 3) := by decide +kernel
theorem dX8_of_83 : decode cX8_of 83 = .ok (.ireturn, 1) := by decide +kernel
theorem dX8_of_84 : decode cX8_of 84 = .ok (.aload_n 0, 1) := by decide +kernel
theorem dX8_of_85 : decode cX8_of 85 = .ok (.iload_n 1, 1) := by decide +kernel
theorem dX8_of_86 : decode cX8_of 86 = .ok (.invokevirtual 105, 3) := by decide +kernel
theorem dX8_of_89 : decode cX8_of 89 = .ok (.ireturn, 1) := by decide +kernel
theorem dX8_bend_0 : decode cX8_bend 0 = .ok (.aload_n 0, 1) := by decide +kernel
theorem dX8_bend_1 : decode cX8_bend 1 = .ok (.iload_n 1, 1) := by decide +kernel
theorem dX8_bend_2 : decode cX8_bend 2 = .ok (.invokevirtual 91, 3) := by decide +kernel
theorem dX8_bend_5 : decode cX8_bend 5 = .ok (.ifCond .eq 22, 3) := by decide +kernel
theorem dX8_bend_8 : decode cX8_bend 8 = .ok (.iload_n 2, 1) := by decide +kernel
theorem dX8_bend_9 : decode cX8_bend 9 = .ok (.invokestatic 108, 3) := by decide +kernel
theorem dX8_bend_12 : decode cX8_bend 12 = .ok (.ifCond .eq 15, 3) := by decide +kernel
theorem dX8_bend_15 : decode cX8_bend 15 = .ok (.iload_n 3, 1) := by decide +kernel
theorem dX8_bend_16 : decode cX8_bend 16 = .ok (.i2l, 1) := by decide +kernel
theorem dX8_bend_17 : decode cX8_bend 17 = .ok (.lconst 0, 1) := by decide +kernel
theorem dX8_bend_18 : decode cX8_bend 18 = .ok (.ldc2_w 111, 3) := by decide +kernel
theorem dX8_bend_21 : decode cX8_bend 21 = .ok (.invokestatic 45, 3) := by decide +kernel
theorem dX8_bend_24 : decode cX8_bend 24 = .ok (.ifCond .ne 10, 3) := by decide +kernel
theorem dX8_bend_27 : decode cX8_bend 27 = .ok (.aload_n 0, 1) := by decide +kernel
theorem dX8_bend_28 : decode cX8_bend 28 = .ok (.ldc 44, 2) := by decide +kernel
theorem dX8_bend_30 : decode cX8_bend 30 = .ok (.invokevirtual 67, 3) := by decide +kernel
theorem dX8_bend_33 : decode cX8_bend 33 = .ok (.ireturn, 1) := by decide +kernel
theorem dX8_bend_34 : decode cX8_bend 34 = .ok (.iload_n 3, 1) := by decide +kernel
theorem dX8_bend_35 : decode cX8_bend 35 = .ok (.ifCond .ne 12, 3) := by decide +kernel
theorem dX8_bend_38 : decode cX8_bend 38 = .ok (.aload_n 0, 1) := by decide +kernel
theorem dX8_bend_39 : decode cX8_bend 39 = .ok (.iload_n 1, 1) := by decide +kernel
theorem dX8_bend_40 : decode cX8_bend 40 = .ok (.iload_n 2, 1) := by decide +kernel
theorem dX8_bend_41 : decode cX8_bend 41 = .ok (.invokevirtual 78, 3) := by decide +kernel
theorem dX8_bend_44 : decode cX8_bend 44 = .ok (.goto 23, 3) := by decide +kernel
theorem dX8_bend_47 : decode cX8_bend 47 = .ok (.iload_n 3, 1) := by decide +kernel
theorem dX8_bend_48 : decode cX8_bend 48 = .ok (.iconst 1, 1) := by decide +kernel
theorem dX8_bend_49 : decode cX8_bend 49 = .ok (.if_icmp .ne 12, 3) := by decide +kernel
theorem dX8_bend_52 : decode cX8_bend 52 = .ok (.aload_n 0, 1) := by decide +kernel
theorem dX8_bend_53 : decode cX8_bend 53 = .ok (.iload_n 1, 1) := by decide +kernel
theorem dX8_bend_54 : decode cX8_bend 54 = .ok (.iload_n 2, 1) := by decide +kernel
theorem dX8_bend_55 : decode cX8_bend 55 = .ok (.invokevirtual 81, 3) := by decide +kernel
theorem dX8_bend_58 : decode cX8_bend 58 = .ok (.goto 9, 3) := by decide +kernel
theorem dX8_bend_61 : decode cX8_bend 61 = .ok (.aload_n 0, 1) := by decide +kernel
theorem dX8_bend_62 : decode cX8_bend 62 = .ok (.iload_n 1, 1) := by decide +kernel
theorem dX8_bend_63 : decode cX8_bend 63 = .ok (.iload_n 2, 1) := by decide +kernel
theorem dX8_bend_64 : decode cX8_bend 64 = .ok (.invokevirtual 88, 3) := by decide +kernel
theorem dX8_bend_67 : decode cX8_bend 67 = .ok (.ireturn, 1) := by decide +kernel
theorem dX8_layer_0 : decode cX8_layer 0 = .ok (.aload_n 0, 1) := by decide +kernel
theorem dX8_layer_1 : decode cX8_layer 1 = .ok (.iload_n 1, 1) := by decide +kernel
theorem dX8_layer_2 : decode cX8_layer 2 = .ok (.invokevirtual 91, 3) := by decide +kernel
theorem dX8_layer_5 : decode cX8_layer 5 = .ok (.ifCond .eq 21, 3) := by decide +kernel
theorem dX8_layer_8 : decode cX8_layer 8 = .ok (.iload_n 2, 1) := by decide +kernel
theorem dX8_layer_9 : decode cX8_layer 9 = .ok (.invokestatic 108, 3) := by decide +kernel
theorem dX8_layer_12 : decode cX8_layer 12 = .ok (.ifCond .eq 14, 3) := by decide +kernel
theorem dX8_layer_15 : decode cX8_layer 15 = .ok (.iload 4, 2) := by decide +kernel
theorem dX8_layer_17 : decode cX8_layer 17 = .ok (.i2l, 1) := by decide +kernel
theorem dX8_layer_18 : decode cX8_layer 18 = .ok (.lconst 0, 1) := by decide +kernel
theorem dX8_layer_19 : decode cX8_layer 19 = .ok (.lconst 1, 1) := by decide +kernel
theorem dX8_layer_20 : decode cX8_layer 20 = .ok (.invokestatic 45, 3) := by decide +kernel
theorem dX8_layer_23 : decode cX8_layer 23 = .ok (.ifCond .ne 10, 3) := by decide +kernel
theorem dX8_layer_26 : decode cX8_layer 26 = .ok (.aload_n 0, 1) := by decide +kernel
theorem dX8_layer_27 : decode cX8_layer 27 = .ok (.ldc 44, 2) := by decide +kernel
theorem dX8_layer_29 : decode cX8_layer 29 = .ok (.invokevirtual 67, 3) := by decide +kernel
theorem dX8_layer_32 : decode cX8_layer 32 = .ok (.ireturn, 1) := by decide +kernel
theorem dX8_layer_33 : decode cX8_layer 33 = .ok (.iload_n 3, 1) := by decide +kernel
theorem dX8_layer_34 : decode cX8_layer 34 = .ok (.i2l, 1) := by decide +kernel
theorem dX8_layer_35 : decode cX8_layer 35 = .ok (.lconst 0, 1) := by decide +kernel
theorem dX8_layer_36 : decode cX8_layer 36 = .ok (.aload_n 0, 1) := by decide +kernel
theorem dX8_layer_37 : decode cX8_layer 37 = .ok (.iload_n 1, 1) := by decide +kernel
theorem dX8_layer_38 : decode cX8_layer 38 = .ok (.iload_n 2, 1) := by decide +kernel
theorem dX8_layer_39 : decode cX8_layer 39 = .ok (.invokevirtual 78, 3) := by decide +kernel
theorem dX8_layer_42 : decode cX8_layer 42 = .ok (.iconst 1, 1) := by decide +kernel
theorem dX8_layer_43 : decode cX8_layer 43 = .ok (.isub, 1) := by decide +kernel
theorem dX8_layer_44 : decode cX8_layer 44 = .ok (.i2l, 1) := by decide +kernel
theorem dX8_layer_45 : decode cX8_layer 45 = .ok (.invokestatic 45, 3) := by decide +kernel
theorem dX8_layer_48 : decode cX8_layer 48 = .ok (.ifCond .ne 10, 3) := by decide +kernel
theorem dX8_layer_51 : decode cX8_layer 51 = .ok (.aload_n 0, 1) := by decide +kernel
theorem dX8_layer_52 : decode cX8_layer 52 = .ok (.ldc 113, 2) := by decide +kernel
theorem dX8_layer_54 : decode cX8_layer 54 = .ok (.invokevirtual 67, 3) := by decide +kernel
theorem dX8_layer_57 : decode cX8_layer 57 = .ok (.ireturn, 1) := by decide +kernel
theorem dX8_layer_58 : decode cX8_layer 58 = .ok (.aload_n 0, 1) := by decide +kernel
theorem dX8_layer_59 : decode cX8_layer 59 = .ok (.getfield 7, 3) := by decide +kernel
theorem dX8_layer_62 : decode cX8_layer 62 = .ok (.iload 4, 2) := by decide +kernel
theorem dX8_layer_64 : decode cX8_layer 64 = .ok (.ifCond .ne 8, 3) := by decide +kernel
theorem dX8_layer_67 : decode cX8_layer 67 = .ok (.bipush 57, 2) := by decide +kernel
theorem dX8_layer_69 : decode cX8_layer 69 = .ok (.goto 6, 3) := by decide +kernel
theorem dX8_layer_72 : decode cX8_layer 72 = .ok (.sipush 345, 3) := by decide +kernel
theorem dX8_layer_75 : decode cX8_layer 75 = .ok (.iload_n 1, 1) := by decide +kernel
theorem dX8_layer_76 : decode cX8_layer 76 = .ok (.iload_n 2, 1) := by decide +kernel
theorem dX8_layer_77 : decode cX8_layer 77 = .ok (.aload_n 0, 1) := by decide +kernel
theorem dX8_layer_78 : decode cX8_layer 78 = .ok (.iload_n 1, 1) := by decide +kernel
theorem dX8_layer_79 : decode cX8_layer 79 = .ok (.iload_n 2, 1) := by decide +kernel
theorem dX8_layer_80 : decode cX8_layer 80 = .ok (.invokevirtual 78, 3) := by decide +kernel
theorem dX8_layer_83 : decode cX8_layer 83 = .ok (.iconst 1, 1) := by decide +kernel
theorem dX8_layer_84 : decode cX8_layer 84 = .ok (.isub, 1) := by decide +kernel
theorem dX8_layer_85 : decode cX8_layer 85 = .ok (.iload_n 3, 1) := by decide +kernel
theorem dX8_layer_86 : decode cX8_layer 86 = .ok (.isub, 1) := by decide +kernel
theorem dX8_layer_87 : decode cX8_layer 87 = .ok (.invokestatic 84, 3) := by decide +kernel
theorem dX8_layer_90 : decode cX8_layer 90 = .ok (.iadd, 1) := by decide +kernel
theorem dX8_layer_91 : decode cX8_layer 91 = .ok (.iaload, 1) := by decide +kernel
theorem dX8_layer_92 : decode cX8_layer 92 = .ok (.ireturn, 1) := by decide +kernel
theorem dX8_turn_0 : decode cX8_turn 0 = .ok (.aload_n 0, 1) := by decide +kernel
theorem dX8_turn_1 : decode cX8_turn 1 = .ok (.iload_n 1, 1) := by decide +kernel
theorem dX8_turn_2 : decode cX8_turn 2 = .ok (.invokevirtual 91, 3) := by decide +kernel
theorem dX8_turn_5 : decode cX8_turn 5 = .ok (.ifCond .eq 21, 3) := by decide +kernel
theorem dX8_turn_8 : decode cX8_turn 8 = .ok (.iload_n 2, 1) := by decide +kernel
theorem dX8_turn_9 : decode cX8_turn 9 = .ok (.invokestatic 63, 3) := by decide +kernel
theorem dX8_turn_12 : decode cX8_turn 12 = .ok (.ifCond .eq 14, 3) := by decide +kernel
theorem dX8_turn_15 : decode cX8_turn 15 = .ok (.aload_n 0, 1) := by decide +kernel
theorem dX8_turn_16 : decode cX8_turn 16 = .ok (.iconst 3, 1) := by decide +kernel
theorem dX8_turn_17 : decode cX8_turn 17 = .ok (.iload_n 1, 1) := by decide +kernel
theorem dX8_turn_18 : decode cX8_turn 18 = .ok (.iadd, 1) := by decide +kernel
theorem dX8_turn_19 : decode cX8_turn 19 = .ok (.iload_n 2, 1) := by decide +kernel
theorem dX8_turn_20 : decode cX8_turn 20 = .ok (.invokevirtual 114, 3) := by decide +kernel
theorem dX8_turn_23 : decode cX8_turn 23 = .ok (.goto 9, 3) := by decide +kernel
theorem dX8_turn_26 : decode cX8_turn 26 = .ok (.aload_n 0, 1) := by decide +kernel
theorem dX8_turn_27 : decode cX8_turn 27 = .ok (.ldc 44, 2) := by decide +kernel
theorem dX8_turn_29 : decode cX8_turn 29 = .ok (.invokevirtual 67, 3) := by decide +kernel
theorem dX8_turn_32 : decode cX8_turn 32 = .ok (.ireturn, 1) := by decide +kernel
theorem dX8_isUnder_0 : decode cX8_isUnder 0 = .ok (.iload_n 1, 1) := by decide +kernel
theorem dX8_isUnder_1 : decode cX8_isUnder 1 = .ok (.ifCond .eq 20, 3) := by decide +kernel
theorem dX8_isUnder_4 : decode cX8_isUnder 4 = .ok (.iload_n 0, 1) := by decide +kernel
theorem dX8_isUnder_5 : decode cX8_isUnder 5 = .ok (.iload_n 1, 1) := by decide +kernel
theorem dX8_isUnder_6 : decode cX8_isUnder 6 = .ok (.if_icmp .eq 15, 3) := by decide +kernel
theorem dX8_isUnder_9 : decode cX8_isUnder 9 = .ok (.iload_n 0, 1) := by decide +kernel
theorem dX8_isUnder_10 : decode cX8_isUnder 10 = .ok (.iconst 3, 1) := by decide +kernel
theorem dX8_isUnder_11 : decode cX8_isUnder 11 = .ok (.if_icmp .le 14, 3) := by decide +kernel
theorem dX8_isUnder_14 : decode cX8_isUnder 14 = .ok (.iload_n 0, 1) := by decide +kernel
theorem dX8_isUnder_15 : decode cX8_isUnder 15 = .ok (.iconst 3, 1) := by decide +kernel
theorem dX8_isUnder_16 : decode cX8_isUnder 16 = .ok (.isub, 1) := by decide +kernel
theorem dX8_isUnder_17 : decode cX8_isUnder 17 = .ok (.iload_n 1, 1) := by decide +kernel
theorem dX8_isUnder_18 : decode cX8_isUnder 18 = .ok (.if_icmp .ne 7, 3) := by decide +kernel
theorem dX8_isUnder_21 : decode cX8_isUnder 21 = .ok (.iconst 1, 1) := by decide +kernel
theorem dX8_isUnder_22 : decode cX8_isUnder 22 = .ok (.goto 4, 3) := by decide +kernel
theorem dX8_isUnder_25 : decode cX8_isUnder 25 = .ok (.iconst 0, 1) := by decide +kernel
theorem dX8_isUnder_26 : decode cX8_isUnder 26 = .ok (.ireturn, 1) := by decide +kernel
theorem dX8_as_0 : decode cX8_as 0 = .ok (.aload_n 0, 1) := by decide +kernel
theorem dX8_as_1 : decode cX8_as 1 = .ok (.iload_n 1, 1) := by decide +kernel
theorem dX8_as_2 : decode cX8_as 2 = .ok (.invokevirtual 91, 3) := by decide +kernel
theorem dX8_as_5 : decode cX8_as 5 = .ok (.ifCond .eq 10, 3) := by decide +kernel
theorem dX8_as_8 : decode cX8_as 8 = .ok (.iload_n 2, 1) := by decide +kernel
theorem dX8_as_9 : decode cX8_as 9 = .ok (.invokestatic 63, 3) := by decide +kernel
theorem dX8_as_12 : decode cX8_as 12 = .ok (.ifCond .ne 10, 3) := by decide +kernel
theorem dX8_as_15 : decode cX8_as 15 = .ok (.aload_n 0, 1) := by decide +kernel
theorem dX8_as_16 : decode cX8_as 16 = .ok (.ldc 44, 2) := by decide +kernel
theorem dX8_as_18 : decode cX8_as 18 = .ok (.invokevirtual 67, 3) := by decide +kernel
theorem dX8_as_21 : decode cX8_as 21 = .ok (.ireturn, 1) := by decide +kernel
theorem dX8_as_22 : decode cX8_as 22 = .ok (.aload_n 0, 1) := by decide +kernel
theorem dX8_as_23 : decode cX8_as 23 = .ok (.iload_n 1, 1) := by decide +kernel
theorem dX8_as_24 : decode cX8_as 24 = .ok (.invokevirtual 75, 3) := by decide +kernel
theorem dX8_as_27 : decode cX8_as 27 = .ok (.iload_n 2, 1) := by decide +kernel
theorem dX8_as_28 : decode cX8_as 28 = .ok (.invokestatic 117, 3) := by decide +kernel
theorem dX8_as_31 : decode cX8_as 31 = .ok (.ifCond .eq 11, 3) := by decide +kernel
theorem dX8_as_34 : decode cX8_as 34 = .ok (.aload_n 0, 1) := by decide +kernel
theorem dX8_as_35 : decode cX8_as 35 = .ok (.iload_n 1, 1) := by decide +kernel
theorem dX8_as_36 : decode cX8_as 36 = .ok (.invokevirtual 96, 3) := by decide +kernel
theorem dX8_as_39 : decode cX8_as 39 = .ok (.goto 9, 3) := by decide +kernel
theorem dX8_as_42 : decode cX8_as 42 = .ok (.aload_n 0, 1) := by decide +kernel
theorem dX8_as_43 : decode cX8_as 43 = .ok (.ldc 121, 2) := by decide +kernel
theorem dX8_as_45 : decode cX8_as 45 = .ok (.invokevirtual 67, 3) := by decide +kernel
theorem dX8_as_48 : decode cX8_as 48 = .ok (.ireturn, 1) := by decide +kernel
theorem dX8_damp_0 : decode cX8_damp 0 = .ok (.iload_n 1, 1) := by decide +kernel
theorem dX8_damp_1 : decode cX8_damp 1 = .ok (.i2l, 1) := by decide +kernel
theorem dX8_damp_2 : decode cX8_damp 2 = .ok (.lconst 0, 1) := by decide +kernel
theorem dX8_damp_3 : decode cX8_damp 3 = .ok (.ldc2_w 57, 3) := by decide +kernel
theorem dX8_damp_6 : decode cX8_damp 6 = .ok (.invokestatic 45, 3) := by decide +kernel
theorem dX8_damp_9 : decode cX8_damp 9 = .ok (.ifCond .eq 12, 3) := by decide +kernel
theorem dX8_damp_12 : decode cX8_damp 12 = .ok (.aload_n 0, 1) := by decide +kernel
theorem dX8_damp_13 : decode cX8_damp 13 = .ok (.iconst 2, 1) := by decide +kernel
theorem dX8_damp_14 : decode cX8_damp 14 = .ok (.iload_n 1, 1) := by decide +kernel
theorem dX8_damp_15 : decode cX8_damp 15 = .ok (.invokevirtual 114, 3) := by decide +kernel
theorem dX8_damp_18 : decode cX8_damp 18 = .ok (.goto 9, 3) := by decide +kernel
theorem dX8_damp_21 : decode cX8_damp 21 = .ok (.aload_n 0, 1) := by decide +kernel
theorem dX8_damp_22 : decode cX8_damp 22 = .ok (.ldc 44, 2) := by decide +kernel
theorem dX8_damp_24 : decode cX8_damp 24 = .ok (.invokevirtual 67, 3) := by decide +kernel
theorem dX8_damp_27 : decode cX8_damp 27 = .ok (.ireturn, 1) := by decide +kernel
theorem dX8_rise_0 : decode cX8_rise 0 = .ok (.iload_n 3, 1) := by decide +kernel
theorem dX8_rise_1 : decode cX8_rise 1 = .ok (.bipush 7, 2) := by decide +kernel
theorem dX8_rise_3 : decode cX8_rise 3 = .ok (.if_icmp .ge 10, 3) := by decide +kernel
theorem dX8_rise_6 : decode cX8_rise 6 = .ok (.bipush 7, 2) := by decide +kernel
theorem dX8_rise_8 : decode cX8_rise 8 = .ok (.iload_n 3, 1) := by decide +kernel
theorem dX8_rise_9 : decode cX8_rise 9 = .ok (.isub, 1) := by decide +kernel
theorem dX8_rise_10 : decode cX8_rise 10 = .ok (.goto 4, 3) := by decide +kernel
theorem dX8_rise_13 : decode cX8_rise 13 = .ok (.iconst 0, 1) := by decide +kernel
theorem dX8_rise_14 : decode cX8_rise 14 = .ok (.istore 4, 2) := by decide +kernel
theorem dX8_rise_16 : decode cX8_rise 16 = .ok (.iload 4, 2) := by decide +kernel
theorem dX8_rise_18 : decode cX8_rise 18 = .ok (.iload_n 2, 1) := by decide +kernel
theorem dX8_rise_19 : decode cX8_rise 19 = .ok (.bipush 8, 2) := by decide +kernel
theorem dX8_rise_21 : decode cX8_rise 21 = .ok (.irem, 1) := by decide +kernel
theorem dX8_rise_22 : decode cX8_rise 22 = .ok (.if_icmp .ge 8, 3) := by decide +kernel
theorem dX8_rise_25 : decode cX8_rise 25 = .ok (.iload 4, 2) := by decide +kernel
theorem dX8_rise_27 : decode cX8_rise 27 = .ok (.goto 7, 3) := by decide +kernel
theorem dX8_rise_30 : decode cX8_rise 30 = .ok (.iload_n 2, 1) := by decide +kernel
theorem dX8_rise_31 : decode cX8_rise 31 = .ok (.bipush 8, 2) := by decide +kernel
theorem dX8_rise_33 : decode cX8_rise 33 = .ok (.irem, 1) := by decide +kernel
theorem dX8_rise_34 : decode cX8_rise 34 = .ok (.istore 5, 2) := by decide +kernel
theorem dX8_rise_36 : decode cX8_rise 36 = .ok (.iload 4, 2) := by decide +kernel
theorem dX8_rise_38 : decode cX8_rise 38 = .ok (.iconst 2, 1) := by decide +kernel
theorem dX8_rise_39 : decode cX8_rise 39 = .ok (.if_icmp .le 10, 3) := by decide +kernel
theorem dX8_rise_42 : decode cX8_rise 42 = .ok (.iload 4, 2) := by decide +kernel
theorem dX8_rise_44 : decode cX8_rise 44 = .ok (.iconst 2, 1) := by decide +kernel
theorem dX8_rise_45 : decode cX8_rise 45 = .ok (.isub, 1) := by decide +kernel
theorem dX8_rise_46 : decode cX8_rise 46 = .ok (.goto 4, 3) := by decide +kernel
theorem dX8_rise_49 : decode cX8_rise 49 = .ok (.iconst 0, 1) := by decide +kernel
theorem dX8_rise_50 : decode cX8_rise 50 = .ok (.istore 6, 2) := by decide +kernel
theorem dX8_rise_52 : decode cX8_rise 52 = .ok (.aload_n 0, 1) := by decide +kernel
theorem dX8_rise_53 : decode cX8_rise 53 = .ok (.iload_n 1, 1) := by decide +kernel
theorem dX8_rise_54 : decode cX8_rise 54 = .ok (.invokevirtual 75, 3) := by decide +kernel
theorem dX8_rise_57 : decode cX8_rise 57 = .ok (.tableswitch 76 1 5 #[35, 38, 41, 43, 57], 35) := by decide +kernel
theorem dX8_rise_92 : decode cX8_rise 92 = .ok (.iload 5, 2) := by decide +kernel
theorem dX8_rise_94 : decode cX8_rise 94 = .ok (.ireturn, 1) := by decide +kernel
theorem dX8_rise_95 : decode cX8_rise 95 = .ok (.iload 6, 2) := by decide +kernel
theorem dX8_rise_97 : decode cX8_rise 97 = .ok (.ireturn, 1) := by decide +kernel
theorem dX8_rise_98 : decode cX8_rise 98 = .ok (.iconst 0, 1) := by decide +kernel
theorem dX8_rise_99 : decode cX8_rise 99 = .ok (.ireturn, 1) := by decide +kernel
theorem dX8_rise_100 : decode cX8_rise 100 = .ok (.iload_n 2, 1) := by decide +kernel
theorem dX8_rise_101 : decode cX8_rise 101 = .ok (.bipush 15, 2) := by decide +kernel
theorem dX8_rise_103 : decode cX8_rise 103 = .ok (.if_icmp .ne 8, 3) := by decide +kernel
theorem dX8_rise_106 : decode cX8_rise 106 = .ok (.bipush 7, 2) := by decide +kernel
theorem dX8_rise_108 : decode cX8_rise 108 = .ok (.goto 5, 3) := by decide +kernel
theorem dX8_rise_111 : decode cX8_rise 111 = .ok (.iload 5, 2) := by decide +kernel
theorem dX8_rise_113 : decode cX8_rise 113 = .ok (.ireturn, 1) := by decide +kernel
theorem dX8_rise_114 : decode cX8_rise 114 = .ok (.aload_n 0, 1) := by decide +kernel
theorem dX8_rise_115 : decode cX8_rise 115 = .ok (.getfield 7, 3) := by decide +kernel
theorem dX8_rise_118 : decode cX8_rise 118 = .ok (.iconst 1, 1) := by decide +kernel
theorem dX8_rise_119 : decode cX8_rise 119 = .ok (.iaload, 1) := by decide +kernel
theorem dX8_rise_120 : decode cX8_rise 120 = .ok (.iconst 4, 1) := by decide +kernel
theorem dX8_rise_121 : decode cX8_rise 121 = .ok (.irem, 1) := by decide +kernel
theorem dX8_rise_122 : decode cX8_rise 122 = .ok (.iconst 2, 1) := by decide +kernel
theorem dX8_rise_123 : decode cX8_rise 123 = .ok (.if_icmp .ne 7, 3) := by decide +kernel
theorem dX8_rise_126 : decode cX8_rise 126 = .ok (.iconst (-1), 1) := by decide +kernel
theorem dX8_rise_127 : decode cX8_rise 127 = .ok (.goto 5, 3) := by decide +kernel
theorem dX8_rise_130 : decode cX8_rise 130 = .ok (.iload 6, 2) := by decide +kernel
theorem dX8_rise_132 : decode cX8_rise 132 = .ok (.ireturn, 1) := by decide +kernel
theorem dX8_rise_133 : decode cX8_rise 133 = .ok (.iload 4, 2) := by decide +kernel
theorem dX8_rise_135 : decode cX8_rise 135 = .ok (.ireturn, 1) := by decide +kernel
theorem dX8_rises_0 : decode cX8_rises 0 = .ok (.aload_n 0, 1) := by decide +kernel
theorem dX8_rises_1 : decode cX8_rises 1 = .ok (.iload_n 1, 1) := by decide +kernel
theorem dX8_rises_2 : decode cX8_rises 2 = .ok (.invokevirtual 91, 3) := by decide +kernel
theorem dX8_rises_5 : decode cX8_rises 5 = .ok (.ifCond .eq 17, 3) := by decide +kernel
theorem dX8_rises_8 : decode cX8_rises 8 = .ok (.iload_n 2, 1) := by decide +kernel
theorem dX8_rises_9 : decode cX8_rises 9 = .ok (.invokestatic 122, 3) := by decide +kernel
theorem dX8_rises_12 : decode cX8_rises 12 = .ok (.ifCond .eq 10, 3) := by decide +kernel
theorem dX8_rises_15 : decode cX8_rises 15 = .ok (.iload_n 3, 1) := by decide +kernel
theorem dX8_rises_16 : decode cX8_rises 16 = .ok (.invokestatic 125, 3) := by decide +kernel
theorem dX8_rises_19 : decode cX8_rises 19 = .ok (.ifCond .ne 10, 3) := by decide +kernel
theorem dX8_rises_22 : decode cX8_rises 22 = .ok (.aload_n 0, 1) := by decide +kernel
theorem dX8_rises_23 : decode cX8_rises 23 = .ok (.ldc 44, 2) := by decide +kernel
theorem dX8_rises_25 : decode cX8_rises 25 = .ok (.invokevirtual 67, 3) := by decide +kernel
theorem dX8_rises_28 : decode cX8_rises 28 = .ok (.ireturn, 1) := by decide +kernel
theorem dX8_rises_29 : decode cX8_rises 29 = .ok (.aload_n 0, 1) := by decide +kernel
theorem dX8_rises_30 : decode cX8_rises 30 = .ok (.iload_n 1, 1) := by decide +kernel
theorem dX8_rises_31 : decode cX8_rises 31 = .ok (.iload_n 2, 1) := by decide +kernel
theorem dX8_rises_32 : decode cX8_rises 32 = .ok (.iload_n 3, 1) := by decide +kernel
theorem dX8_rises_33 : decode cX8_rises 33 = .ok (.invokevirtual 128, 3) := by decide +kernel
theorem dX8_rises_36 : decode cX8_rises 36 = .ok (.istore 4, 2) := by decide +kernel
theorem dX8_rises_38 : decode cX8_rises 38 = .ok (.iload 4, 2) := by decide +kernel
theorem dX8_rises_40 : decode cX8_rises 40 = .ok (.ifCond .ge 12, 3) := by decide +kernel
theorem dX8_rises_43 : decode cX8_rises 43 = .ok (.aload_n 0, 1) := by decide +kernel
theorem dX8_rises_44 : decode cX8_rises 44 = .ok (.ldc 113, 2) := by decide +kernel
theorem dX8_rises_46 : decode cX8_rises 46 = .ok (.invokevirtual 67, 3) := by decide +kernel
theorem dX8_rises_49 : decode cX8_rises 49 = .ok (.goto 5, 3) := by decide +kernel
theorem dX8_rises_52 : decode cX8_rises 52 = .ok (.iload 4, 2) := by decide +kernel
theorem dX8_rises_54 : decode cX8_rises 54 = .ok (.ireturn, 1) := by decide +kernel
theorem dX8_lands_0 : decode cX8_lands 0 = .ok (.aload_n 0, 1) := by decide +kernel
theorem dX8_lands_1 : decode cX8_lands 1 = .ok (.iload_n 1, 1) := by decide +kernel
theorem dX8_lands_2 : decode cX8_lands 2 = .ok (.iload_n 2, 1) := by decide +kernel
theorem dX8_lands_3 : decode cX8_lands 3 = .ok (.iload_n 3, 1) := by decide +kernel
theorem dX8_lands_4 : decode cX8_lands 4 = .ok (.invokevirtual 128, 3) := by decide +kernel
theorem dX8_lands_7 : decode cX8_lands 7 = .ok (.istore 4, 2) := by decide +kernel
theorem dX8_lands_9 : decode cX8_lands 9 = .ok (.iload 4, 2) := by decide +kernel
theorem dX8_lands_11 : decode cX8_lands 11 = .ok (.ifCond .lt 19, 3) := by decide +kernel
theorem dX8_lands_14 : decode cX8_lands 14 = .ok (.aload_n 0, 1) := by decide +kernel
theorem dX8_lands_15 : decode cX8_lands 15 = .ok (.iload_n 1, 1) := by decide +kernel
theorem dX8_lands_16 : decode cX8_lands 16 = .ok (.iload 4, 2) := by decide +kernel
theorem dX8_lands_18 : decode cX8_lands 18 = .ok (.invokevirtual 131, 3) := by decide +kernel
theorem dX8_lands_21 : decode cX8_lands 21 = .ok (.ifCond .eq 9, 3) := by decide +kernel
theorem dX8_lands_24 : decode cX8_lands 24 = .ok (.iinc 4 (-1), 3) := by decide +kernel
theorem dX8_lands_27 : decode cX8_lands 27 = .ok (.goto (-18), 3) := by decide +kernel
theorem dX8_lands_30 : decode cX8_lands 30 = .ok (.iload 4, 2) := by decide +kernel
theorem dX8_lands_32 : decode cX8_lands 32 = .ok (.ireturn, 1) := by decide +kernel
theorem dX8_lies_0 : decode cX8_lies 0 = .ok (.iload_n 1, 1) := by decide +kernel
theorem dX8_lies_1 : decode cX8_lies 1 = .ok (.iload_n 2, 1) := by decide +kernel
theorem dX8_lies_2 : decode cX8_lies 2 = .ok (.aload_n 0, 1) := by decide +kernel
theorem dX8_lies_3 : decode cX8_lies 3 = .ok (.iload_n 1, 1) := by decide +kernel
theorem dX8_lies_4 : decode cX8_lies 4 = .ok (.iload_n 2, 1) := by decide +kernel
theorem dX8_lies_5 : decode cX8_lies 5 = .ok (.invokevirtual 78, 3) := by decide +kernel
theorem dX8_lies_8 : decode cX8_lies 8 = .ok (.invokestatic 84, 3) := by decide +kernel
theorem dX8_lies_11 : decode cX8_lies 11 = .ok (.istore 5, 2) := by decide +kernel
theorem dX8_lies_13 : decode cX8_lies 13 = .ok (.aload_n 0, 1) := by decide +kernel
theorem dX8_lies_14 : decode cX8_lies 14 = .ok (.getfield 7, 3) := by decide +kernel
theorem dX8_lies_17 : decode cX8_lies 17 = .ok (.bipush 57, 2) := by decide +kernel
theorem dX8_lies_19 : decode cX8_lies 19 = .ok (.iload 5, 2) := by decide +kernel
theorem dX8_lies_21 : decode cX8_lies 21 = .ok (.iadd, 1) := by decide +kernel
theorem dX8_lies_22 : decode cX8_lies 22 = .ok (.iload_n 3, 1) := by decide +kernel
theorem dX8_lies_23 : decode cX8_lies 23 = .ok (.iastore, 1) := by decide +kernel
theorem dX8_lies_24 : decode cX8_lies 24 = .ok (.aload_n 0, 1) := by decide +kernel
theorem dX8_lies_25 : decode cX8_lies 25 = .ok (.getfield 7, 3) := by decide +kernel
theorem dX8_lies_28 : decode cX8_lies 28 = .ok (.sipush 345, 3) := by decide +kernel
theorem dX8_lies_31 : decode cX8_lies 31 = .ok (.iload 5, 2) := by decide +kernel
theorem dX8_lies_33 : decode cX8_lies 33 = .ok (.iadd, 1) := by decide +kernel
theorem dX8_lies_34 : decode cX8_lies 34 = .ok (.iload 4, 2) := by decide +kernel
theorem dX8_lies_36 : decode cX8_lies 36 = .ok (.iastore, 1) := by decide +kernel
theorem dX8_lies_37 : decode cX8_lies 37 = .ok (.aload_n 0, 1) := by decide +kernel
theorem dX8_lies_38 : decode cX8_lies 38 = .ok (.getfield 7, 3) := by decide +kernel
theorem dX8_lies_41 : decode cX8_lies 41 = .ok (.bipush 9, 2) := by decide +kernel
theorem dX8_lies_43 : decode cX8_lies 43 = .ok (.iload_n 1, 1) := by decide +kernel
theorem dX8_lies_44 : decode cX8_lies 44 = .ok (.iload_n 2, 1) := by decide +kernel
theorem dX8_lies_45 : decode cX8_lies 45 = .ok (.invokestatic 59, 3) := by decide +kernel
theorem dX8_lies_48 : decode cX8_lies 48 = .ok (.iadd, 1) := by decide +kernel
theorem dX8_lies_49 : decode cX8_lies 49 = .ok (.dup2, 1) := by decide +kernel
theorem dX8_lies_50 : decode cX8_lies 50 = .ok (.iaload, 1) := by decide +kernel
theorem dX8_lies_51 : decode cX8_lies 51 = .ok (.iconst 1, 1) := by decide +kernel
theorem dX8_lies_52 : decode cX8_lies 52 = .ok (.iadd, 1) := by decide +kernel
theorem dX8_lies_53 : decode cX8_lies 53 = .ok (.iastore, 1) := by decide +kernel
theorem dX8_lies_54 : decode cX8_lies 54 = .ok (.return_, 1) := by decide +kernel
theorem dX8_says_0 : decode cX8_says 0 = .ok (.aload_n 0, 1) := by decide +kernel
theorem dX8_says_1 : decode cX8_says 1 = .ok (.iload_n 1, 1) := by decide +kernel
theorem dX8_says_2 : decode cX8_says 2 = .ok (.iload_n 2, 1) := by decide +kernel
theorem dX8_says_3 : decode cX8_says 3 = .ok (.iload_n 3, 1) := by decide +kernel
theorem dX8_says_4 : decode cX8_says 4 = .ok (.invokevirtual 134, 3) := by decide +kernel
theorem dX8_says_7 : decode cX8_says 7 = .ok (.istore 4, 2) := by decide +kernel
theorem dX8_says_9 : decode cX8_says 9 = .ok (.iload 4, 2) := by decide +kernel
theorem dX8_says_11 : decode cX8_says 11 = .ok (.ifCond .lt 12, 3) := by decide +kernel
theorem dX8_says_14 : decode cX8_says 14 = .ok (.aload_n 0, 1) := by decide +kernel
theorem dX8_says_15 : decode cX8_says 15 = .ok (.iload_n 1, 1) := by decide +kernel
theorem dX8_says_16 : decode cX8_says 16 = .ok (.iload 4, 2) := by decide +kernel
theorem dX8_says_18 : decode cX8_says 18 = .ok (.iload_n 2, 1) := by decide +kernel
theorem dX8_says_19 : decode cX8_says 19 = .ok (.iconst 0, 1) := by decide +kernel
theorem dX8_says_20 : decode cX8_says 20 = .ok (.invokevirtual 137, 3) := by decide +kernel
theorem dX8_says_23 : decode cX8_says 23 = .ok (.iload 4, 2) := by decide +kernel
theorem dX8_says_25 : decode cX8_says 25 = .ok (.ireturn, 1) := by decide +kernel
theorem dX8_say_0 : decode cX8_say 0 = .ok (.aload_n 0, 1) := by decide +kernel
theorem dX8_say_1 : decode cX8_say 1 = .ok (.iload_n 1, 1) := by decide +kernel
theorem dX8_say_2 : decode cX8_say 2 = .ok (.invokevirtual 91, 3) := by decide +kernel
theorem dX8_say_5 : decode cX8_say 5 = .ok (.ifCond .eq 27, 3) := by decide +kernel
theorem dX8_say_8 : decode cX8_say 8 = .ok (.iload_n 2, 1) := by decide +kernel
theorem dX8_say_9 : decode cX8_say 9 = .ok (.invokestatic 122, 3) := by decide +kernel
theorem dX8_say_12 : decode cX8_say 12 = .ok (.ifCond .eq 20, 3) := by decide +kernel
theorem dX8_say_15 : decode cX8_say 15 = .ok (.iload_n 3, 1) := by decide +kernel
theorem dX8_say_16 : decode cX8_say 16 = .ok (.invokestatic 125, 3) := by decide +kernel
theorem dX8_say_19 : decode cX8_say 19 = .ok (.ifCond .eq 13, 3) := by decide +kernel
theorem dX8_say_22 : decode cX8_say 22 = .ok (.aload_n 0, 1) := by decide +kernel
theorem dX8_say_23 : decode cX8_say 23 = .ok (.iload_n 1, 1) := by decide +kernel
theorem dX8_say_24 : decode cX8_say 24 = .ok (.iload_n 2, 1) := by decide +kernel
theorem dX8_say_25 : decode cX8_say 25 = .ok (.iload_n 3, 1) := by decide +kernel
theorem dX8_say_26 : decode cX8_say 26 = .ok (.invokevirtual 141, 3) := by decide +kernel
theorem dX8_say_29 : decode cX8_say 29 = .ok (.goto 9, 3) := by decide +kernel
theorem dX8_say_32 : decode cX8_say 32 = .ok (.aload_n 0, 1) := by decide +kernel
theorem dX8_say_33 : decode cX8_say 33 = .ok (.ldc 44, 2) := by decide +kernel
theorem dX8_say_35 : decode cX8_say 35 = .ok (.invokevirtual 67, 3) := by decide +kernel
theorem dX8_say_38 : decode cX8_say 38 = .ok (.ireturn, 1) := by decide +kernel
theorem dX8_cake_0 : decode cX8_cake 0 = .ok (.aload_n 0, 1) := by decide +kernel
theorem dX8_cake_1 : decode cX8_cake 1 = .ok (.iload_n 1, 1) := by decide +kernel
theorem dX8_cake_2 : decode cX8_cake 2 = .ok (.invokevirtual 91, 3) := by decide +kernel
theorem dX8_cake_5 : decode cX8_cake 5 = .ok (.ifCond .eq 23, 3) := by decide +kernel
theorem dX8_cake_8 : decode cX8_cake 8 = .ok (.iload_n 2, 1) := by decide +kernel
theorem dX8_cake_9 : decode cX8_cake 9 = .ok (.invokestatic 108, 3) := by decide +kernel
theorem dX8_cake_12 : decode cX8_cake 12 = .ok (.ifCond .eq 16, 3) := by decide +kernel
theorem dX8_cake_15 : decode cX8_cake 15 = .ok (.iload 4, 2) := by decide +kernel
theorem dX8_cake_17 : decode cX8_cake 17 = .ok (.i2l, 1) := by decide +kernel
theorem dX8_cake_18 : decode cX8_cake 18 = .ok (.lconst 0, 1) := by decide +kernel
theorem dX8_cake_19 : decode cX8_cake 19 = .ok (.ldc2_w 57, 3) := by decide +kernel
theorem dX8_cake_22 : decode cX8_cake 22 = .ok (.invokestatic 45, 3) := by decide +kernel
theorem dX8_cake_25 : decode cX8_cake 25 = .ok (.ifCond .ne 10, 3) := by decide +kernel
theorem dX8_cake_28 : decode cX8_cake 28 = .ok (.aload_n 0, 1) := by decide +kernel
theorem dX8_cake_29 : decode cX8_cake 29 = .ok (.ldc 44, 2) := by decide +kernel
theorem dX8_cake_31 : decode cX8_cake 31 = .ok (.invokevirtual 67, 3) := by decide +kernel
theorem dX8_cake_34 : decode cX8_cake 34 = .ok (.ireturn, 1) := by decide +kernel
theorem dX8_cake_35 : decode cX8_cake 35 = .ok (.aload_n 0, 1) := by decide +kernel
theorem dX8_cake_36 : decode cX8_cake 36 = .ok (.iload_n 1, 1) := by decide +kernel
theorem dX8_cake_37 : decode cX8_cake 37 = .ok (.iload_n 2, 1) := by decide +kernel
theorem dX8_cake_38 : decode cX8_cake 38 = .ok (.invokevirtual 78, 3) := by decide +kernel
theorem dX8_cake_41 : decode cX8_cake 41 = .ok (.istore 5, 2) := by decide +kernel
theorem dX8_cake_43 : decode cX8_cake 43 = .ok (.iload_n 3, 1) := by decide +kernel
theorem dX8_cake_44 : decode cX8_cake 44 = .ok (.i2l, 1) := by decide +kernel
theorem dX8_cake_45 : decode cX8_cake 45 = .ok (.lconst 0, 1) := by decide +kernel
theorem dX8_cake_46 : decode cX8_cake 46 = .ok (.iload 5, 2) := by decide +kernel
theorem dX8_cake_48 : decode cX8_cake 48 = .ok (.iconst 1, 1) := by decide +kernel
theorem dX8_cake_49 : decode cX8_cake 49 = .ok (.isub, 1) := by decide +kernel
theorem dX8_cake_50 : decode cX8_cake 50 = .ok (.i2l, 1) := by decide +kernel
theorem dX8_cake_51 : decode cX8_cake 51 = .ok (.invokestatic 45, 3) := by decide +kernel
theorem dX8_cake_54 : decode cX8_cake 54 = .ok (.ifCond .eq 27, 3) := by decide +kernel
theorem dX8_cake_57 : decode cX8_cake 57 = .ok (.aload_n 0, 1) := by decide +kernel
theorem dX8_cake_58 : decode cX8_cake 58 = .ok (.sipush 345, 3) := by decide +kernel
theorem dX8_cake_61 : decode cX8_cake 61 = .ok (.iload_n 1, 1) := by decide +kernel
theorem dX8_cake_62 : decode cX8_cake 62 = .ok (.iload_n 2, 1) := by decide +kernel
theorem dX8_cake_63 : decode cX8_cake 63 = .ok (.iload 5, 2) := by decide +kernel
theorem dX8_cake_65 : decode cX8_cake 65 = .ok (.iconst 1, 1) := by decide +kernel
theorem dX8_cake_66 : decode cX8_cake 66 = .ok (.isub, 1) := by decide +kernel
theorem dX8_cake_67 : decode cX8_cake 67 = .ok (.iload_n 3, 1) := by decide +kernel
theorem dX8_cake_68 : decode cX8_cake 68 = .ok (.isub, 1) := by decide +kernel
theorem dX8_cake_69 : decode cX8_cake 69 = .ok (.invokestatic 84, 3) := by decide +kernel
theorem dX8_cake_72 : decode cX8_cake 72 = .ok (.iadd, 1) := by decide +kernel
theorem dX8_cake_73 : decode cX8_cake 73 = .ok (.iload 4, 2) := by decide +kernel
theorem dX8_cake_75 : decode cX8_cake 75 = .ok (.invokevirtual 114, 3) := by decide +kernel
theorem dX8_cake_78 : decode cX8_cake 78 = .ok (.goto 9, 3) := by decide +kernel
theorem dX8_cake_81 : decode cX8_cake 81 = .ok (.aload_n 0, 1) := by decide +kernel
theorem dX8_cake_82 : decode cX8_cake 82 = .ok (.ldc 113, 2) := by decide +kernel
theorem dX8_cake_84 : decode cX8_cake 84 = .ok (.invokevirtual 67, 3) := by decide +kernel
theorem dX8_cake_87 : decode cX8_cake 87 = .ok (.ireturn, 1) := by decide +kernel
theorem dX8_day_0 : decode cX8_day 0 = .ok (.iconst 0, 1) := by decide +kernel
theorem dX8_day_1 : decode cX8_day 1 = .ok (.istore_n 1, 1) := by decide +kernel
theorem dX8_day_2 : decode cX8_day 2 = .ok (.iload_n 1, 1) := by decide +kernel
theorem dX8_day_3 : decode cX8_day 3 = .ok (.bipush 8, 2) := by decide +kernel
theorem dX8_day_5 : decode cX8_day 5 = .ok (.aload_n 0, 1) := by decide +kernel
theorem dX8_day_6 : decode cX8_day 6 = .ok (.getfield 7, 3) := by decide +kernel
theorem dX8_day_9 : decode cX8_day 9 = .ok (.iconst 0, 1) := by decide +kernel
theorem dX8_day_10 : decode cX8_day 10 = .ok (.iaload, 1) := by decide +kernel
theorem dX8_day_11 : decode cX8_day 11 = .ok (.imul, 1) := by decide +kernel
theorem dX8_day_12 : decode cX8_day 12 = .ok (.if_icmp .ge 86, 3) := by decide +kernel
theorem dX8_day_15 : decode cX8_day 15 = .ok (.aload_n 0, 1) := by decide +kernel
theorem dX8_day_16 : decode cX8_day 16 = .ok (.iload_n 1, 1) := by decide +kernel
theorem dX8_day_17 : decode cX8_day 17 = .ok (.bipush 8, 2) := by decide +kernel
theorem dX8_day_19 : decode cX8_day 19 = .ok (.idiv, 1) := by decide +kernel
theorem dX8_day_20 : decode cX8_day 20 = .ok (.invokevirtual 105, 3) := by decide +kernel
theorem dX8_day_23 : decode cX8_day 23 = .ok (.istore_n 2, 1) := by decide +kernel
theorem dX8_day_24 : decode cX8_day 24 = .ok (.iconst 0, 1) := by decide +kernel
theorem dX8_day_25 : decode cX8_day 25 = .ok (.istore_n 3, 1) := by decide +kernel
theorem dX8_day_26 : decode cX8_day 26 = .ok (.iload_n 3, 1) := by decide +kernel
theorem dX8_day_27 : decode cX8_day 27 = .ok (.aload_n 0, 1) := by decide +kernel
theorem dX8_day_28 : decode cX8_day 28 = .ok (.getfield 7, 3) := by decide +kernel
theorem dX8_day_31 : decode cX8_day 31 = .ok (.bipush 9, 2) := by decide +kernel
theorem dX8_day_33 : decode cX8_day 33 = .ok (.iload_n 1, 1) := by decide +kernel
theorem dX8_day_34 : decode cX8_day 34 = .ok (.iadd, 1) := by decide +kernel
theorem dX8_day_35 : decode cX8_day 35 = .ok (.iaload, 1) := by decide +kernel
theorem dX8_day_36 : decode cX8_day 36 = .ok (.if_icmp .ge 56, 3) := by decide +kernel
theorem dX8_day_39 : decode cX8_day 39 = .ok (.sipush 345, 3) := by decide +kernel
theorem dX8_day_42 : decode cX8_day 42 = .ok (.bipush 6, 2) := by decide +kernel
theorem dX8_day_44 : decode cX8_day 44 = .ok (.iload_n 1, 1) := by decide +kernel
theorem dX8_day_45 : decode cX8_day 45 = .ok (.imul, 1) := by decide +kernel
theorem dX8_day_46 : decode cX8_day 46 = .ok (.iadd, 1) := by decide +kernel
theorem dX8_day_47 : decode cX8_day 47 = .ok (.iload_n 3, 1) := by decide +kernel
theorem dX8_day_48 : decode cX8_day 48 = .ok (.iadd, 1) := by decide +kernel
theorem dX8_day_49 : decode cX8_day 49 = .ok (.istore 4, 2) := by decide +kernel
theorem dX8_day_51 : decode cX8_day 51 = .ok (.aload_n 0, 1) := by decide +kernel
theorem dX8_day_52 : decode cX8_day 52 = .ok (.getfield 7, 3) := by decide +kernel
theorem dX8_day_55 : decode cX8_day 55 = .ok (.iload 4, 2) := by decide +kernel
theorem dX8_day_57 : decode cX8_day 57 = .ok (.aload_n 0, 1) := by decide +kernel
theorem dX8_day_58 : decode cX8_day 58 = .ok (.getfield 7, 3) := by decide +kernel
theorem dX8_day_61 : decode cX8_day 61 = .ok (.iload 4, 2) := by decide +kernel
theorem dX8_day_63 : decode cX8_day 63 = .ok (.iaload, 1) := by decide +kernel
theorem dX8_day_64 : decode cX8_day 64 = .ok (.iload_n 2, 1) := by decide +kernel
theorem dX8_day_65 : decode cX8_day 65 = .ok (.iadd, 1) := by decide +kernel
theorem dX8_day_66 : decode cX8_day 66 = .ok (.bipush 9, 2) := by decide +kernel
theorem dX8_day_68 : decode cX8_day 68 = .ok (.if_icmp .le 8, 3) := by decide +kernel
theorem dX8_day_71 : decode cX8_day 71 = .ok (.bipush 9, 2) := by decide +kernel
theorem dX8_day_73 : decode cX8_day 73 = .ok (.goto 12, 3) := by decide +kernel
theorem dX8_day_76 : decode cX8_day 76 = .ok (.aload_n 0, 1) := by decide +kernel
theorem dX8_day_77 : decode cX8_day 77 = .ok (.getfield 7, 3) := by decide +kernel
theorem dX8_day_80 : decode cX8_day 80 = .ok (.iload 4, 2) := by decide +kernel
theorem dX8_day_82 : decode cX8_day 82 = .ok (.iaload, 1) := by decide +kernel
theorem dX8_day_83 : decode cX8_day 83 = .ok (.iload_n 2, 1) := by decide +kernel
theorem dX8_day_84 : decode cX8_day 84 = .ok (.iadd, 1) := by decide +kernel
theorem dX8_day_85 : decode cX8_day 85 = .ok (.iastore, 1) := by decide +kernel
theorem dX8_day_86 : decode cX8_day 86 = .ok (.iinc 3 1, 3) := by decide +kernel
theorem dX8_day_89 : decode cX8_day 89 = .ok (.goto (-63), 3) := by decide +kernel
theorem dX8_day_92 : decode cX8_day 92 = .ok (.iinc 1 1, 3) := by decide +kernel
theorem dX8_day_95 : decode cX8_day 95 = .ok (.goto (-93), 3) := by decide +kernel
theorem dX8_day_98 : decode cX8_day 98 = .ok (.aload_n 0, 1) := by decide +kernel
theorem dX8_day_99 : decode cX8_day 99 = .ok (.getfield 7, 3) := by decide +kernel
theorem dX8_day_102 : decode cX8_day 102 = .ok (.iconst 1, 1) := by decide +kernel
theorem dX8_day_103 : decode cX8_day 103 = .ok (.dup2, 1) := by decide +kernel
theorem dX8_day_104 : decode cX8_day 104 = .ok (.iaload, 1) := by decide +kernel
theorem dX8_day_105 : decode cX8_day 105 = .ok (.iconst 1, 1) := by decide +kernel
theorem dX8_day_106 : decode cX8_day 106 = .ok (.iadd, 1) := by decide +kernel
theorem dX8_day_107 : decode cX8_day 107 = .ok (.iastore, 1) := by decide +kernel
theorem dX8_day_108 : decode cX8_day 108 = .ok (.return_, 1) := by decide +kernel
theorem dX8_goesOn_0 : decode cX8_goesOn 0 = .ok (.iconst 0, 1) := by decide +kernel
theorem dX8_goesOn_1 : decode cX8_goesOn 1 = .ok (.istore_n 2, 1) := by decide +kernel
theorem dX8_goesOn_2 : decode cX8_goesOn 2 = .ok (.iload_n 2, 1) := by decide +kernel
theorem dX8_goesOn_3 : decode cX8_goesOn 3 = .ok (.iload_n 1, 1) := by decide +kernel
theorem dX8_goesOn_4 : decode cX8_goesOn 4 = .ok (.if_icmp .ge 13, 3) := by decide +kernel
theorem dX8_goesOn_7 : decode cX8_goesOn 7 = .ok (.aload_n 0, 1) := by decide +kernel
theorem dX8_goesOn_8 : decode cX8_goesOn 8 = .ok (.invokevirtual 144, 3) := by decide +kernel
theorem dX8_goesOn_11 : decode cX8_goesOn 11 = .ok (.iinc 2 1, 3) := by decide +kernel
theorem dX8_goesOn_14 : decode cX8_goesOn 14 = .ok (.goto (-12), 3) := by decide +kernel
theorem dX8_goesOn_17 : decode cX8_goesOn 17 = .ok (.return_, 1) := by decide +kernel
theorem dX8_withCake_0 : decode cX8_withCake 0 = .ok (.iconst 0, 1) := by decide +kernel
theorem dX8_withCake_1 : decode cX8_withCake 1 = .ok (.istore_n 2, 1) := by decide +kernel
theorem dX8_withCake_2 : decode cX8_withCake 2 = .ok (.iconst 0, 1) := by decide +kernel
theorem dX8_withCake_3 : decode cX8_withCake 3 = .ok (.istore_n 3, 1) := by decide +kernel
theorem dX8_withCake_4 : decode cX8_withCake 4 = .ok (.iload_n 3, 1) := by decide +kernel
theorem dX8_withCake_5 : decode cX8_withCake 5 = .ok (.bipush 8, 2) := by decide +kernel
theorem dX8_withCake_7 : decode cX8_withCake 7 = .ok (.aload_n 0, 1) := by decide +kernel
theorem dX8_withCake_8 : decode cX8_withCake 8 = .ok (.getfield 7, 3) := by decide +kernel
theorem dX8_withCake_11 : decode cX8_withCake 11 = .ok (.iconst 0, 1) := by decide +kernel
theorem dX8_withCake_12 : decode cX8_withCake 12 = .ok (.iaload, 1) := by decide +kernel
theorem dX8_withCake_13 : decode cX8_withCake 13 = .ok (.imul, 1) := by decide +kernel
theorem dX8_withCake_14 : decode cX8_withCake 14 = .ok (.if_icmp .ge 60, 3) := by decide +kernel
theorem dX8_withCake_17 : decode cX8_withCake 17 = .ok (.iconst 0, 1) := by decide +kernel
theorem dX8_withCake_18 : decode cX8_withCake 18 = .ok (.istore 4, 2) := by decide +kernel
theorem dX8_withCake_20 : decode cX8_withCake 20 = .ok (.iload 4, 2) := by decide +kernel
theorem dX8_withCake_22 : decode cX8_withCake 22 = .ok (.aload_n 0, 1) := by decide +kernel
theorem dX8_withCake_23 : decode cX8_withCake 23 = .ok (.getfield 7, 3) := by decide +kernel
theorem dX8_withCake_26 : decode cX8_withCake 26 = .ok (.bipush 9, 2) := by decide +kernel
theorem dX8_withCake_28 : decode cX8_withCake 28 = .ok (.iload_n 3, 1) := by decide +kernel
theorem dX8_withCake_29 : decode cX8_withCake 29 = .ok (.iadd, 1) := by decide +kernel
theorem dX8_withCake_30 : decode cX8_withCake 30 = .ok (.iaload, 1) := by decide +kernel
theorem dX8_withCake_31 : decode cX8_withCake 31 = .ok (.if_icmp .ge 37, 3) := by decide +kernel
theorem dX8_withCake_34 : decode cX8_withCake 34 = .ok (.iload_n 2, 1) := by decide +kernel
theorem dX8_withCake_35 : decode cX8_withCake 35 = .ok (.aload_n 0, 1) := by decide +kernel
theorem dX8_withCake_36 : decode cX8_withCake 36 = .ok (.getfield 7, 3) := by decide +kernel
theorem dX8_withCake_39 : decode cX8_withCake 39 = .ok (.sipush 345, 3) := by decide +kernel
theorem dX8_withCake_42 : decode cX8_withCake 42 = .ok (.bipush 6, 2) := by decide +kernel
theorem dX8_withCake_44 : decode cX8_withCake 44 = .ok (.iload_n 3, 1) := by decide +kernel
theorem dX8_withCake_45 : decode cX8_withCake 45 = .ok (.imul, 1) := by decide +kernel
theorem dX8_withCake_46 : decode cX8_withCake 46 = .ok (.iadd, 1) := by decide +kernel
theorem dX8_withCake_47 : decode cX8_withCake 47 = .ok (.iload 4, 2) := by decide +kernel
theorem dX8_withCake_49 : decode cX8_withCake 49 = .ok (.iadd, 1) := by decide +kernel
theorem dX8_withCake_50 : decode cX8_withCake 50 = .ok (.iaload, 1) := by decide +kernel
theorem dX8_withCake_51 : decode cX8_withCake 51 = .ok (.iload_n 1, 1) := by decide +kernel
theorem dX8_withCake_52 : decode cX8_withCake 52 = .ok (.if_icmp .ne 7, 3) := by decide +kernel
theorem dX8_withCake_55 : decode cX8_withCake 55 = .ok (.iconst 1, 1) := by decide +kernel
theorem dX8_withCake_56 : decode cX8_withCake 56 = .ok (.goto 4, 3) := by decide +kernel
theorem dX8_withCake_59 : decode cX8_withCake 59 = .ok (.iconst 0, 1) := by decide +kernel
theorem dX8_withCake_60 : decode cX8_withCake 60 = .ok (.iadd, 1) := by decide +kernel
theorem dX8_withCake_61 : decode cX8_withCake 61 = .ok (.istore_n 2, 1) := by decide +kernel
theorem dX8_withCake_62 : decode cX8_withCake 62 = .ok (.iinc 4 1, 3) := by decide +kernel
theorem dX8_withCake_65 : decode cX8_withCake 65 = .ok (.goto (-45), 3) := by decide +kernel
theorem dX8_withCake_68 : decode cX8_withCake 68 = .ok (.iinc 3 1, 3) := by decide +kernel
theorem dX8_withCake_71 : decode cX8_withCake 71 = .ok (.goto (-67), 3) := by decide +kernel
theorem dX8_withCake_74 : decode cX8_withCake 74 = .ok (.iload_n 2, 1) := by decide +kernel
theorem dX8_withCake_75 : decode cX8_withCake 75 = .ok (.ireturn, 1) := by decide +kernel
theorem dX8_days_0 : decode cX8_days 0 = .ok (.iload_n 1, 1) := by decide +kernel
theorem dX8_days_1 : decode cX8_days 1 = .ok (.i2l, 1) := by decide +kernel
theorem dX8_days_2 : decode cX8_days 2 = .ok (.lconst 1, 1) := by decide +kernel
theorem dX8_days_3 : decode cX8_days 3 = .ok (.ldc2_w 147, 3) := by decide +kernel
theorem dX8_days_6 : decode cX8_days 6 = .ok (.invokestatic 45, 3) := by decide +kernel
theorem dX8_days_9 : decode cX8_days 9 = .ok (.ifCond .ne 10, 3) := by decide +kernel
theorem dX8_days_12 : decode cX8_days 12 = .ok (.aload_n 0, 1) := by decide +kernel
theorem dX8_days_13 : decode cX8_days 13 = .ok (.ldc 44, 2) := by decide +kernel
theorem dX8_days_15 : decode cX8_days 15 = .ok (.invokevirtual 67, 3) := by decide +kernel
theorem dX8_days_18 : decode cX8_days 18 = .ok (.ireturn, 1) := by decide +kernel
theorem dX8_days_19 : decode cX8_days 19 = .ok (.aload_n 0, 1) := by decide +kernel
theorem dX8_days_20 : decode cX8_days 20 = .ok (.getfield 7, 3) := by decide +kernel
theorem dX8_days_23 : decode cX8_days 23 = .ok (.iconst 1, 1) := by decide +kernel
theorem dX8_days_24 : decode cX8_days 24 = .ok (.iaload, 1) := by decide +kernel
theorem dX8_days_25 : decode cX8_days 25 = .ok (.iload_n 1, 1) := by decide +kernel
theorem dX8_days_26 : decode cX8_days 26 = .ok (.iadd, 1) := by decide +kernel
theorem dX8_days_27 : decode cX8_days 27 = .ok (.sipush 9999, 3) := by decide +kernel
theorem dX8_days_30 : decode cX8_days 30 = .ok (.if_icmp .le 10, 3) := by decide +kernel
theorem dX8_days_33 : decode cX8_days 33 = .ok (.aload_n 0, 1) := by decide +kernel
theorem dX8_days_34 : decode cX8_days 34 = .ok (.ldc 149, 2) := by decide +kernel
theorem dX8_days_36 : decode cX8_days 36 = .ok (.invokevirtual 67, 3) := by decide +kernel
theorem dX8_days_39 : decode cX8_days 39 = .ok (.ireturn, 1) := by decide +kernel
theorem dX8_days_40 : decode cX8_days 40 = .ok (.aload_n 0, 1) := by decide +kernel
theorem dX8_days_41 : decode cX8_days 41 = .ok (.iload_n 1, 1) := by decide +kernel
theorem dX8_days_42 : decode cX8_days 42 = .ok (.invokevirtual 150, 3) := by decide +kernel
theorem dX8_days_45 : decode cX8_days 45 = .ok (.aload_n 0, 1) := by decide +kernel
theorem dX8_days_46 : decode cX8_days 46 = .ok (.bipush 9, 2) := by decide +kernel
theorem dX8_days_48 : decode cX8_days 48 = .ok (.invokevirtual 154, 3) := by decide +kernel
theorem dX8_days_51 : decode cX8_days 51 = .ok (.ireturn, 1) := by decide +kernel
theorem dX8_layersAll_0 : decode cX8_layersAll 0 = .ok (.iconst 0, 1) := by decide +kernel
theorem dX8_layersAll_1 : decode cX8_layersAll 1 = .ok (.istore_n 1, 1) := by decide +kernel
theorem dX8_layersAll_2 : decode cX8_layersAll 2 = .ok (.iconst 0, 1) := by decide +kernel
theorem dX8_layersAll_3 : decode cX8_layersAll 3 = .ok (.istore_n 2, 1) := by decide +kernel
theorem dX8_layersAll_4 : decode cX8_layersAll 4 = .ok (.iload_n 2, 1) := by decide +kernel
theorem dX8_layersAll_5 : decode cX8_layersAll 5 = .ok (.aload_n 0, 1) := by decide +kernel
theorem dX8_layersAll_6 : decode cX8_layersAll 6 = .ok (.getfield 7, 3) := by decide +kernel
theorem dX8_layersAll_9 : decode cX8_layersAll 9 = .ok (.iconst 0, 1) := by decide +kernel
theorem dX8_layersAll_10 : decode cX8_layersAll 10 = .ok (.iaload, 1) := by decide +kernel
theorem dX8_layersAll_11 : decode cX8_layersAll 11 = .ok (.if_icmp .ge 17, 3) := by decide +kernel
theorem dX8_layersAll_14 : decode cX8_layersAll 14 = .ok (.iload_n 1, 1) := by decide +kernel
theorem dX8_layersAll_15 : decode cX8_layersAll 15 = .ok (.aload_n 0, 1) := by decide +kernel
theorem dX8_layersAll_16 : decode cX8_layersAll 16 = .ok (.iload_n 2, 1) := by decide +kernel
theorem dX8_layersAll_17 : decode cX8_layersAll 17 = .ok (.invokevirtual 96, 3) := by decide +kernel
theorem dX8_layersAll_20 : decode cX8_layersAll 20 = .ok (.iadd, 1) := by decide +kernel
theorem dX8_layersAll_21 : decode cX8_layersAll 21 = .ok (.istore_n 1, 1) := by decide +kernel
theorem dX8_layersAll_22 : decode cX8_layersAll 22 = .ok (.iinc 2 1, 3) := by decide +kernel
theorem dX8_layersAll_25 : decode cX8_layersAll 25 = .ok (.goto (-21), 3) := by decide +kernel
theorem dX8_layersAll_28 : decode cX8_layersAll 28 = .ok (.iload_n 1, 1) := by decide +kernel
theorem dX8_layersAll_29 : decode cX8_layersAll 29 = .ok (.ireturn, 1) := by decide +kernel
theorem dX8_wordsAll_0 : decode cX8_wordsAll 0 = .ok (.iconst 0, 1) := by decide +kernel
theorem dX8_wordsAll_1 : decode cX8_wordsAll 1 = .ok (.istore_n 1, 1) := by decide +kernel
theorem dX8_wordsAll_2 : decode cX8_wordsAll 2 = .ok (.iconst 0, 1) := by decide +kernel
theorem dX8_wordsAll_3 : decode cX8_wordsAll 3 = .ok (.istore_n 2, 1) := by decide +kernel
theorem dX8_wordsAll_4 : decode cX8_wordsAll 4 = .ok (.iload_n 2, 1) := by decide +kernel
theorem dX8_wordsAll_5 : decode cX8_wordsAll 5 = .ok (.aload_n 0, 1) := by decide +kernel
theorem dX8_wordsAll_6 : decode cX8_wordsAll 6 = .ok (.getfield 7, 3) := by decide +kernel
theorem dX8_wordsAll_9 : decode cX8_wordsAll 9 = .ok (.iconst 0, 1) := by decide +kernel
theorem dX8_wordsAll_10 : decode cX8_wordsAll 10 = .ok (.iaload, 1) := by decide +kernel
theorem dX8_wordsAll_11 : decode cX8_wordsAll 11 = .ok (.if_icmp .ge 17, 3) := by decide +kernel
theorem dX8_wordsAll_14 : decode cX8_wordsAll 14 = .ok (.iload_n 1, 1) := by decide +kernel
theorem dX8_wordsAll_15 : decode cX8_wordsAll 15 = .ok (.aload_n 0, 1) := by decide +kernel
theorem dX8_wordsAll_16 : decode cX8_wordsAll 16 = .ok (.iload_n 2, 1) := by decide +kernel
theorem dX8_wordsAll_17 : decode cX8_wordsAll 17 = .ok (.invokevirtual 99, 3) := by decide +kernel
theorem dX8_wordsAll_20 : decode cX8_wordsAll 20 = .ok (.ior, 1) := by decide +kernel
theorem dX8_wordsAll_21 : decode cX8_wordsAll 21 = .ok (.istore_n 1, 1) := by decide +kernel
theorem dX8_wordsAll_22 : decode cX8_wordsAll 22 = .ok (.iinc 2 1, 3) := by decide +kernel
theorem dX8_wordsAll_25 : decode cX8_wordsAll 25 = .ok (.goto (-21), 3) := by decide +kernel
theorem dX8_wordsAll_28 : decode cX8_wordsAll 28 = .ok (.iload_n 1, 1) := by decide +kernel
theorem dX8_wordsAll_29 : decode cX8_wordsAll 29 = .ok (.ireturn, 1) := by decide +kernel
theorem dX8_cakeAll_0 : decode cX8_cakeAll 0 = .ok (.iconst 0, 1) := by decide +kernel
theorem dX8_cakeAll_1 : decode cX8_cakeAll 1 = .ok (.istore_n 1, 1) := by decide +kernel
theorem dX8_cakeAll_2 : decode cX8_cakeAll 2 = .ok (.iconst 1, 1) := by decide +kernel
theorem dX8_cakeAll_3 : decode cX8_cakeAll 3 = .ok (.istore_n 2, 1) := by decide +kernel
theorem dX8_cakeAll_4 : decode cX8_cakeAll 4 = .ok (.iload_n 2, 1) := by decide +kernel
theorem dX8_cakeAll_5 : decode cX8_cakeAll 5 = .ok (.bipush 9, 2) := by decide +kernel
theorem dX8_cakeAll_7 : decode cX8_cakeAll 7 = .ok (.if_icmp .gt 19, 3) := by decide +kernel
theorem dX8_cakeAll_10 : decode cX8_cakeAll 10 = .ok (.iload_n 1, 1) := by decide +kernel
theorem dX8_cakeAll_11 : decode cX8_cakeAll 11 = .ok (.iload_n 2, 1) := by decide +kernel
theorem dX8_cakeAll_12 : decode cX8_cakeAll 12 = .ok (.aload_n 0, 1) := by decide +kernel
theorem dX8_cakeAll_13 : decode cX8_cakeAll 13 = .ok (.iload_n 2, 1) := by decide +kernel
theorem dX8_cakeAll_14 : decode cX8_cakeAll 14 = .ok (.invokevirtual 154, 3) := by decide +kernel
theorem dX8_cakeAll_17 : decode cX8_cakeAll 17 = .ok (.imul, 1) := by decide +kernel
theorem dX8_cakeAll_18 : decode cX8_cakeAll 18 = .ok (.iadd, 1) := by decide +kernel
theorem dX8_cakeAll_19 : decode cX8_cakeAll 19 = .ok (.istore_n 1, 1) := by decide +kernel
theorem dX8_cakeAll_20 : decode cX8_cakeAll 20 = .ok (.iinc 2 1, 3) := by decide +kernel
theorem dX8_cakeAll_23 : decode cX8_cakeAll 23 = .ok (.goto (-19), 3) := by decide +kernel
theorem dX8_cakeAll_26 : decode cX8_cakeAll 26 = .ok (.iload_n 1, 1) := by decide +kernel
theorem dX8_cakeAll_27 : decode cX8_cakeAll 27 = .ok (.ireturn, 1) := by decide +kernel
theorem dX8_now_0 : decode cX8_now 0 = .ok (.iload_n 1, 1) := by decide +kernel
theorem dX8_now_1 : decode cX8_now 1 = .ok (.tableswitch 64 0 4 #[35, 42, 49, 54, 59], 35) := by decide +kernel
theorem dX8_now_36 : decode cX8_now 36 = .ok (.aload_n 0, 1) := by decide +kernel
theorem dX8_now_37 : decode cX8_now 37 = .ok (.getfield 7, 3) := by decide +kernel
theorem dX8_now_40 : decode cX8_now 40 = .ok (.iconst 1, 1) := by decide +kernel
theorem dX8_now_41 : decode cX8_now 41 = .ok (.iaload, 1) := by decide +kernel
theorem dX8_now_42 : decode cX8_now 42 = .ok (.ireturn, 1) := by decide +kernel
theorem dX8_now_43 : decode cX8_now 43 = .ok (.aload_n 0, 1) := by decide +kernel
theorem dX8_now_44 : decode cX8_now 44 = .ok (.getfield 7, 3) := by decide +kernel
theorem dX8_now_47 : decode cX8_now 47 = .ok (.iconst 2, 1) := by decide +kernel
theorem dX8_now_48 : decode cX8_now 48 = .ok (.iaload, 1) := by decide +kernel
theorem dX8_now_49 : decode cX8_now 49 = .ok (.ireturn, 1) := by decide +kernel
theorem dX8_now_50 : decode cX8_now 50 = .ok (.aload_n 0, 1) := by decide +kernel
theorem dX8_now_51 : decode cX8_now 51 = .ok (.invokevirtual 157, 3) := by decide +kernel
theorem dX8_now_54 : decode cX8_now 54 = .ok (.ireturn, 1) := by decide +kernel
theorem dX8_now_55 : decode cX8_now 55 = .ok (.aload_n 0, 1) := by decide +kernel
theorem dX8_now_56 : decode cX8_now 56 = .ok (.invokevirtual 161, 3) := by decide +kernel
theorem dX8_now_59 : decode cX8_now 59 = .ok (.ireturn, 1) := by decide +kernel
theorem dX8_now_60 : decode cX8_now 60 = .ok (.aload_n 0, 1) := by decide +kernel
theorem dX8_now_61 : decode cX8_now 61 = .ok (.invokevirtual 164, 3) := by decide +kernel
theorem dX8_now_64 : decode cX8_now 64 = .ok (.ireturn, 1) := by decide +kernel
theorem dX8_now_65 : decode cX8_now 65 = .ok (.aload_n 0, 1) := by decide +kernel
theorem dX8_now_66 : decode cX8_now 66 = .ok (.ldc 44, 2) := by decide +kernel
theorem dX8_now_68 : decode cX8_now 68 = .ok (.invokevirtual 67, 3) := by decide +kernel
theorem dX8_now_71 : decode cX8_now 71 = .ok (.ireturn, 1) := by decide +kernel
theorem dX8_loose_0 : decode cX8_loose 0 = .ok (.iconst 0, 1) := by decide +kernel
theorem dX8_loose_1 : decode cX8_loose 1 = .ok (.istore 4, 2) := by decide +kernel
theorem dX8_loose_3 : decode cX8_loose 3 = .ok (.iload 4, 2) := by decide +kernel
theorem dX8_loose_5 : decode cX8_loose 5 = .ok (.aload_n 0, 1) := by decide +kernel
theorem dX8_loose_6 : decode cX8_loose 6 = .ok (.iload_n 1, 1) := by decide +kernel
theorem dX8_loose_7 : decode cX8_loose 7 = .ok (.iload_n 2, 1) := by decide +kernel
theorem dX8_loose_8 : decode cX8_loose 8 = .ok (.invokevirtual 78, 3) := by decide +kernel
theorem dX8_loose_11 : decode cX8_loose 11 = .ok (.if_icmp .ge 38, 3) := by decide +kernel
theorem dX8_loose_14 : decode cX8_loose 14 = .ok (.aload_n 0, 1) := by decide +kernel
theorem dX8_loose_15 : decode cX8_loose 15 = .ok (.getfield 7, 3) := by decide +kernel
theorem dX8_loose_18 : decode cX8_loose 18 = .ok (.sipush 345, 3) := by decide +kernel
theorem dX8_loose_21 : decode cX8_loose 21 = .ok (.iload_n 1, 1) := by decide +kernel
theorem dX8_loose_22 : decode cX8_loose 22 = .ok (.iload_n 2, 1) := by decide +kernel
theorem dX8_loose_23 : decode cX8_loose 23 = .ok (.aload_n 0, 1) := by decide +kernel
theorem dX8_loose_24 : decode cX8_loose 24 = .ok (.iload_n 1, 1) := by decide +kernel
theorem dX8_loose_25 : decode cX8_loose 25 = .ok (.iload_n 2, 1) := by decide +kernel
theorem dX8_loose_26 : decode cX8_loose 26 = .ok (.invokevirtual 78, 3) := by decide +kernel
theorem dX8_loose_29 : decode cX8_loose 29 = .ok (.iconst 1, 1) := by decide +kernel
theorem dX8_loose_30 : decode cX8_loose 30 = .ok (.isub, 1) := by decide +kernel
theorem dX8_loose_31 : decode cX8_loose 31 = .ok (.iload 4, 2) := by decide +kernel
theorem dX8_loose_33 : decode cX8_loose 33 = .ok (.isub, 1) := by decide +kernel
theorem dX8_loose_34 : decode cX8_loose 34 = .ok (.invokestatic 84, 3) := by decide +kernel
theorem dX8_loose_37 : decode cX8_loose 37 = .ok (.iadd, 1) := by decide +kernel
theorem dX8_loose_38 : decode cX8_loose 38 = .ok (.iaload, 1) := by decide +kernel
theorem dX8_loose_39 : decode cX8_loose 39 = .ok (.iload_n 3, 1) := by decide +kernel
theorem dX8_loose_40 : decode cX8_loose 40 = .ok (.if_icmp .ge 9, 3) := by decide +kernel
theorem dX8_loose_43 : decode cX8_loose 43 = .ok (.iinc 4 1, 3) := by decide +kernel
theorem dX8_loose_46 : decode cX8_loose 46 = .ok (.goto (-43), 3) := by decide +kernel
theorem dX8_loose_49 : decode cX8_loose 49 = .ok (.iload 4, 2) := by decide +kernel
theorem dX8_loose_51 : decode cX8_loose 51 = .ok (.ireturn, 1) := by decide +kernel
theorem dX8_brings_0 : decode cX8_brings 0 = .ok (.aload_n 0, 1) := by decide +kernel
theorem dX8_brings_1 : decode cX8_brings 1 = .ok (.iconst 0, 1) := by decide +kernel
theorem dX8_brings_2 : decode cX8_brings 2 = .ok (.putfield 167, 3) := by decide +kernel
theorem dX8_brings_5 : decode cX8_brings 5 = .ok (.iconst 0, 1) := by decide +kernel
theorem dX8_brings_6 : decode cX8_brings 6 = .ok (.istore 4, 2) := by decide +kernel
theorem dX8_brings_8 : decode cX8_brings 8 = .ok (.iload 4, 2) := by decide +kernel
theorem dX8_brings_10 : decode cX8_brings 10 = .ok (.iload_n 2, 1) := by decide +kernel
theorem dX8_brings_11 : decode cX8_brings 11 = .ok (.if_icmp .gt 80, 3) := by decide +kernel
theorem dX8_brings_14 : decode cX8_brings 14 = .ok (.aload_n 0, 1) := by decide +kernel
theorem dX8_brings_15 : decode cX8_brings 15 = .ok (.iload_n 1, 1) := by decide +kernel
theorem dX8_brings_16 : decode cX8_brings 16 = .ok (.iload 4, 2) := by decide +kernel
theorem dX8_brings_18 : decode cX8_brings 18 = .ok (.iload_n 3, 1) := by decide +kernel
theorem dX8_brings_19 : decode cX8_brings 19 = .ok (.invokevirtual 171, 3) := by decide +kernel
theorem dX8_brings_22 : decode cX8_brings 22 = .ok (.istore 5, 2) := by decide +kernel
theorem dX8_brings_24 : decode cX8_brings 24 = .ok (.iconst 0, 1) := by decide +kernel
theorem dX8_brings_25 : decode cX8_brings 25 = .ok (.istore 6, 2) := by decide +kernel
theorem dX8_brings_27 : decode cX8_brings 27 = .ok (.iload 6, 2) := by decide +kernel
theorem dX8_brings_29 : decode cX8_brings 29 = .ok (.iload 5, 2) := by decide +kernel
theorem dX8_brings_31 : decode cX8_brings 31 = .ok (.if_icmp .ge 54, 3) := by decide +kernel
theorem dX8_brings_34 : decode cX8_brings 34 = .ok (.aload_n 0, 1) := by decide +kernel
theorem dX8_brings_35 : decode cX8_brings 35 = .ok (.getfield 25, 3) := by decide +kernel
theorem dX8_brings_38 : decode cX8_brings 38 = .ok (.aload_n 0, 1) := by decide +kernel
theorem dX8_brings_39 : decode cX8_brings 39 = .ok (.getfield 167, 3) := by decide +kernel
theorem dX8_brings_42 : decode cX8_brings 42 = .ok (.aload_n 0, 1) := by decide +kernel
theorem dX8_brings_43 : decode cX8_brings 43 = .ok (.getfield 7, 3) := by decide +kernel
theorem dX8_brings_46 : decode cX8_brings 46 = .ok (.bipush 57, 2) := by decide +kernel
theorem dX8_brings_48 : decode cX8_brings 48 = .ok (.iload_n 1, 1) := by decide +kernel
theorem dX8_brings_49 : decode cX8_brings 49 = .ok (.iload 4, 2) := by decide +kernel
theorem dX8_brings_51 : decode cX8_brings 51 = .ok (.aload_n 0, 1) := by decide +kernel
theorem dX8_brings_52 : decode cX8_brings 52 = .ok (.iload_n 1, 1) := by decide +kernel
theorem dX8_brings_53 : decode cX8_brings 53 = .ok (.iload 4, 2) := by decide +kernel
theorem dX8_brings_55 : decode cX8_brings 55 = .ok (.invokevirtual 78, 3) := by decide +kernel
theorem dX8_brings_58 : decode cX8_brings 58 = .ok (.iconst 1, 1) := by decide +kernel
theorem dX8_brings_59 : decode cX8_brings 59 = .ok (.isub, 1) := by decide +kernel
theorem dX8_brings_60 : decode cX8_brings 60 = .ok (.iload 6, 2) := by decide +kernel
theorem dX8_brings_62 : decode cX8_brings 62 = .ok (.isub, 1) := by decide +kernel
theorem dX8_brings_63 : decode cX8_brings 63 = .ok (.invokestatic 84, 3) := by decide +kernel
theorem dX8_brings_66 : decode cX8_brings 66 = .ok (.iadd, 1) := by decide +kernel
theorem dX8_brings_67 : decode cX8_brings 67 = .ok (.iaload, 1) := by decide +kernel
theorem dX8_brings_68 : decode cX8_brings 68 = .ok (.iastore, 1) := by decide +kernel
theorem dX8_brings_69 : decode cX8_brings 69 = .ok (.aload_n 0, 1) := by decide +kernel
theorem dX8_brings_70 : decode cX8_brings 70 = .ok (.dup, 1) := by decide +kernel
theorem dX8_brings_71 : decode cX8_brings 71 = .ok (.getfield 167, 3) := by decide +kernel
theorem dX8_brings_74 : decode cX8_brings 74 = .ok (.iconst 1, 1) := by decide +kernel
theorem dX8_brings_75 : decode cX8_brings 75 = .ok (.iadd, 1) := by decide +kernel
theorem dX8_brings_76 : decode cX8_brings 76 = .ok (.putfield 167, 3) := by decide +kernel
theorem dX8_brings_79 : decode cX8_brings 79 = .ok (.iinc 6 1, 3) := by decide +kernel
theorem dX8_brings_82 : decode cX8_brings 82 = .ok (.goto (-55), 3) := by decide +kernel
theorem dX8_brings_85 : decode cX8_brings 85 = .ok (.iinc 4 1, 3) := by decide +kernel
theorem dX8_brings_88 : decode cX8_brings 88 = .ok (.goto (-80), 3) := by decide +kernel
theorem dX8_brings_91 : decode cX8_brings 91 = .ok (.return_, 1) := by decide +kernel
theorem dX8_broughtBy_0 : decode cX8_broughtBy 0 = .ok (.aload_n 0, 1) := by decide +kernel
theorem dX8_broughtBy_1 : decode cX8_broughtBy 1 = .ok (.iload_n 1, 1) := by decide +kernel
theorem dX8_broughtBy_2 : decode cX8_broughtBy 2 = .ok (.iload_n 2, 1) := by decide +kernel
theorem dX8_broughtBy_3 : decode cX8_broughtBy 3 = .ok (.iload_n 3, 1) := by decide +kernel
theorem dX8_broughtBy_4 : decode cX8_broughtBy 4 = .ok (.invokevirtual 174, 3) := by decide +kernel
theorem dX8_broughtBy_7 : decode cX8_broughtBy 7 = .ok (.iconst 0, 1) := by decide +kernel
theorem dX8_broughtBy_8 : decode cX8_broughtBy 8 = .ok (.istore 4, 2) := by decide +kernel
theorem dX8_broughtBy_10 : decode cX8_broughtBy 10 = .ok (.iconst 0, 1) := by decide +kernel
theorem dX8_broughtBy_11 : decode cX8_broughtBy 11 = .ok (.istore 5, 2) := by decide +kernel
theorem dX8_broughtBy_13 : decode cX8_broughtBy 13 = .ok (.iload 5, 2) := by decide +kernel
theorem dX8_broughtBy_15 : decode cX8_broughtBy 15 = .ok (.aload_n 0, 1) := by decide +kernel
theorem dX8_broughtBy_16 : decode cX8_broughtBy 16 = .ok (.getfield 167, 3) := by decide +kernel
theorem dX8_broughtBy_19 : decode cX8_broughtBy 19 = .ok (.if_icmp .ge 23, 3) := by decide +kernel
theorem dX8_broughtBy_22 : decode cX8_broughtBy 22 = .ok (.iload 4, 2) := by decide +kernel
theorem dX8_broughtBy_24 : decode cX8_broughtBy 24 = .ok (.iconst 1, 1) := by decide +kernel
theorem dX8_broughtBy_25 : decode cX8_broughtBy 25 = .ok (.aload_n 0, 1) := by decide +kernel
theorem dX8_broughtBy_26 : decode cX8_broughtBy 26 = .ok (.getfield 25, 3) := by decide +kernel
theorem dX8_broughtBy_29 : decode cX8_broughtBy 29 = .ok (.iload 5, 2) := by decide +kernel
theorem dX8_broughtBy_31 : decode cX8_broughtBy 31 = .ok (.iaload, 1) := by decide +kernel
theorem dX8_broughtBy_32 : decode cX8_broughtBy 32 = .ok (.ishl, 1) := by decide +kernel
theorem dX8_broughtBy_33 : decode cX8_broughtBy 33 = .ok (.ior, 1) := by decide +kernel
theorem dX8_broughtBy_34 : decode cX8_broughtBy 34 = .ok (.istore 4, 2) := by decide +kernel
theorem dX8_broughtBy_36 : decode cX8_broughtBy 36 = .ok (.iinc 5 1, 3) := by decide +kernel
theorem dX8_broughtBy_39 : decode cX8_broughtBy 39 = .ok (.goto (-26), 3) := by decide +kernel
theorem dX8_broughtBy_42 : decode cX8_broughtBy 42 = .ok (.iload 4, 2) := by decide +kernel
theorem dX8_broughtBy_44 : decode cX8_broughtBy 44 = .ok (.ireturn, 1) := by decide +kernel
theorem dX8_isBrush_0 : decode cX8_isBrush 0 = .ok (.aload_n 0, 1) := by decide +kernel
theorem dX8_isBrush_1 : decode cX8_isBrush 1 = .ok (.iload_n 1, 1) := by decide +kernel
theorem dX8_isBrush_2 : decode cX8_isBrush 2 = .ok (.invokevirtual 91, 3) := by decide +kernel
theorem dX8_isBrush_5 : decode cX8_isBrush 5 = .ok (.ifCond .eq 21, 3) := by decide +kernel
theorem dX8_isBrush_8 : decode cX8_isBrush 8 = .ok (.iload_n 2, 1) := by decide +kernel
theorem dX8_isBrush_9 : decode cX8_isBrush 9 = .ok (.invokestatic 108, 3) := by decide +kernel
theorem dX8_isBrush_12 : decode cX8_isBrush 12 = .ok (.ifCond .eq 14, 3) := by decide +kernel
theorem dX8_isBrush_15 : decode cX8_isBrush 15 = .ok (.iload_n 3, 1) := by decide +kernel
theorem dX8_isBrush_16 : decode cX8_isBrush 16 = .ok (.invokestatic 178, 3) := by decide +kernel
theorem dX8_isBrush_19 : decode cX8_isBrush 19 = .ok (.ifCond .eq 7, 3) := by decide +kernel
theorem dX8_isBrush_22 : decode cX8_isBrush 22 = .ok (.iconst 1, 1) := by decide +kernel
theorem dX8_isBrush_23 : decode cX8_isBrush 23 = .ok (.goto 4, 3) := by decide +kernel
theorem dX8_isBrush_26 : decode cX8_isBrush 26 = .ok (.iconst 0, 1) := by decide +kernel
theorem dX8_isBrush_27 : decode cX8_isBrush 27 = .ok (.ireturn, 1) := by decide +kernel
theorem dX8_sweep_0 : decode cX8_sweep 0 = .ok (.aload_n 0, 1) := by decide +kernel
theorem dX8_sweep_1 : decode cX8_sweep 1 = .ok (.iload_n 1, 1) := by decide +kernel
theorem dX8_sweep_2 : decode cX8_sweep 2 = .ok (.iload_n 2, 1) := by decide +kernel
theorem dX8_sweep_3 : decode cX8_sweep 3 = .ok (.iload_n 3, 1) := by decide +kernel
theorem dX8_sweep_4 : decode cX8_sweep 4 = .ok (.invokevirtual 181, 3) := by decide +kernel
theorem dX8_sweep_7 : decode cX8_sweep 7 = .ok (.ifCond .ne 10, 3) := by decide +kernel
theorem dX8_sweep_10 : decode cX8_sweep 10 = .ok (.aload_n 0, 1) := by decide +kernel
theorem dX8_sweep_11 : decode cX8_sweep 11 = .ok (.ldc 44, 2) := by decide +kernel
theorem dX8_sweep_13 : decode cX8_sweep 13 = .ok (.invokevirtual 67, 3) := by decide +kernel
theorem dX8_sweep_16 : decode cX8_sweep 16 = .ok (.ireturn, 1) := by decide +kernel
theorem dX8_sweep_17 : decode cX8_sweep 17 = .ok (.iconst 0, 1) := by decide +kernel
theorem dX8_sweep_18 : decode cX8_sweep 18 = .ok (.istore 4, 2) := by decide +kernel
theorem dX8_sweep_20 : decode cX8_sweep 20 = .ok (.iconst 0, 1) := by decide +kernel
theorem dX8_sweep_21 : decode cX8_sweep 21 = .ok (.istore 5, 2) := by decide +kernel
theorem dX8_sweep_23 : decode cX8_sweep 23 = .ok (.iload 5, 2) := by decide +kernel
theorem dX8_sweep_25 : decode cX8_sweep 25 = .ok (.iload_n 2, 1) := by decide +kernel
theorem dX8_sweep_26 : decode cX8_sweep 26 = .ok (.if_icmp .gt 45, 3) := by decide +kernel
theorem dX8_sweep_29 : decode cX8_sweep 29 = .ok (.aload_n 0, 1) := by decide +kernel
theorem dX8_sweep_30 : decode cX8_sweep 30 = .ok (.iload_n 1, 1) := by decide +kernel
theorem dX8_sweep_31 : decode cX8_sweep 31 = .ok (.iload 5, 2) := by decide +kernel
theorem dX8_sweep_33 : decode cX8_sweep 33 = .ok (.iload_n 3, 1) := by decide +kernel
theorem dX8_sweep_34 : decode cX8_sweep 34 = .ok (.invokevirtual 171, 3) := by decide +kernel
theorem dX8_sweep_37 : decode cX8_sweep 37 = .ok (.istore 6, 2) := by decide +kernel
theorem dX8_sweep_39 : decode cX8_sweep 39 = .ok (.aload_n 0, 1) := by decide +kernel
theorem dX8_sweep_40 : decode cX8_sweep 40 = .ok (.getfield 7, 3) := by decide +kernel
theorem dX8_sweep_43 : decode cX8_sweep 43 = .ok (.bipush 9, 2) := by decide +kernel
theorem dX8_sweep_45 : decode cX8_sweep 45 = .ok (.iload_n 1, 1) := by decide +kernel
theorem dX8_sweep_46 : decode cX8_sweep 46 = .ok (.iload 5, 2) := by decide +kernel
theorem dX8_sweep_48 : decode cX8_sweep 48 = .ok (.invokestatic 59, 3) := by decide +kernel
theorem dX8_sweep_51 : decode cX8_sweep 51 = .ok (.iadd, 1) := by decide +kernel
theorem dX8_sweep_52 : decode cX8_sweep 52 = .ok (.dup2, 1) := by decide +kernel
theorem dX8_sweep_53 : decode cX8_sweep 53 = .ok (.iaload, 1) := by decide +kernel
theorem dX8_sweep_54 : decode cX8_sweep 54 = .ok (.iload 6, 2) := by decide +kernel
theorem dX8_sweep_56 : decode cX8_sweep 56 = .ok (.isub, 1) := by decide +kernel
theorem dX8_sweep_57 : decode cX8_sweep 57 = .ok (.iastore, 1) := by decide +kernel
theorem dX8_sweep_58 : decode cX8_sweep 58 = .ok (.iload 4, 2) := by decide +kernel
theorem dX8_sweep_60 : decode cX8_sweep 60 = .ok (.iload 6, 2) := by decide +kernel
theorem dX8_sweep_62 : decode cX8_sweep 62 = .ok (.iadd, 1) := by decide +kernel
theorem dX8_sweep_63 : decode cX8_sweep 63 = .ok (.istore 4, 2) := by decide +kernel
theorem dX8_sweep_65 : decode cX8_sweep 65 = .ok (.iinc 5 1, 3) := by decide +kernel
theorem dX8_sweep_68 : decode cX8_sweep 68 = .ok (.goto (-45), 3) := by decide +kernel
theorem dX8_sweep_71 : decode cX8_sweep 71 = .ok (.iload 4, 2) := by decide +kernel
theorem dX8_sweep_73 : decode cX8_sweep 73 = .ok (.ireturn, 1) := by decide +kernel
theorem dX8_brought_0 : decode cX8_brought 0 = .ok (.aload_n 0, 1) := by decide +kernel
theorem dX8_brought_1 : decode cX8_brought 1 = .ok (.iload_n 1, 1) := by decide +kernel
theorem dX8_brought_2 : decode cX8_brought 2 = .ok (.iload_n 2, 1) := by decide +kernel
theorem dX8_brought_3 : decode cX8_brought 3 = .ok (.iload_n 3, 1) := by decide +kernel
theorem dX8_brought_4 : decode cX8_brought 4 = .ok (.invokevirtual 181, 3) := by decide +kernel
theorem dX8_brought_7 : decode cX8_brought 7 = .ok (.ifCond .eq 13, 3) := by decide +kernel
theorem dX8_brought_10 : decode cX8_brought 10 = .ok (.aload_n 0, 1) := by decide +kernel
theorem dX8_brought_11 : decode cX8_brought 11 = .ok (.iload_n 1, 1) := by decide +kernel
theorem dX8_brought_12 : decode cX8_brought 12 = .ok (.iload_n 2, 1) := by decide +kernel
theorem dX8_brought_13 : decode cX8_brought 13 = .ok (.iload_n 3, 1) := by decide +kernel
theorem dX8_brought_14 : decode cX8_brought 14 = .ok (.invokevirtual 185, 3) := by decide +kernel
theorem dX8_brought_17 : decode cX8_brought 17 = .ok (.goto 9, 3) := by decide +kernel
theorem dX8_brought_20 : decode cX8_brought 20 = .ok (.aload_n 0, 1) := by decide +kernel
theorem dX8_brought_21 : decode cX8_brought 21 = .ok (.ldc 44, 2) := by decide +kernel
theorem dX8_brought_23 : decode cX8_brought 23 = .ok (.invokevirtual 67, 3) := by decide +kernel
theorem dX8_brought_26 : decode cX8_brought 26 = .ok (.ireturn, 1) := by decide +kernel
theorem dX8_order_0 : decode cX8_order 0 = .ok (.aload_n 0, 1) := by decide +kernel
theorem dX8_order_1 : decode cX8_order 1 = .ok (.iload_n 1, 1) := by decide +kernel
theorem dX8_order_2 : decode cX8_order 2 = .ok (.iload_n 2, 1) := by decide +kernel
theorem dX8_order_3 : decode cX8_order 3 = .ok (.iload_n 3, 1) := by decide +kernel
theorem dX8_order_4 : decode cX8_order 4 = .ok (.invokevirtual 181, 3) := by decide +kernel
theorem dX8_order_7 : decode cX8_order 7 = .ok (.ifCond .eq 8, 3) := by decide +kernel
theorem dX8_order_10 : decode cX8_order 10 = .ok (.iload 4, 2) := by decide +kernel
theorem dX8_order_12 : decode cX8_order 12 = .ok (.ifCond .ge 10, 3) := by decide +kernel
theorem dX8_order_15 : decode cX8_order 15 = .ok (.aload_n 0, 1) := by decide +kernel
theorem dX8_order_16 : decode cX8_order 16 = .ok (.ldc 44, 2) := by decide +kernel
theorem dX8_order_18 : decode cX8_order 18 = .ok (.invokevirtual 67, 3) := by decide +kernel
theorem dX8_order_21 : decode cX8_order 21 = .ok (.ireturn, 1) := by decide +kernel
theorem dX8_order_22 : decode cX8_order 22 = .ok (.aload_n 0, 1) := by decide +kernel
theorem dX8_order_23 : decode cX8_order 23 = .ok (.iload_n 1, 1) := by decide +kernel
theorem dX8_order_24 : decode cX8_order 24 = .ok (.iload_n 2, 1) := by decide +kernel
theorem dX8_order_25 : decode cX8_order 25 = .ok (.iload_n 3, 1) := by decide +kernel
theorem dX8_order_26 : decode cX8_order 26 = .ok (.invokevirtual 174, 3) := by decide +kernel
theorem dX8_order_29 : decode cX8_order 29 = .ok (.iload 4, 2) := by decide +kernel
theorem dX8_order_31 : decode cX8_order 31 = .ok (.aload_n 0, 1) := by decide +kernel
theorem dX8_order_32 : decode cX8_order 32 = .ok (.getfield 167, 3) := by decide +kernel
theorem dX8_order_35 : decode cX8_order 35 = .ok (.if_icmp .ge 13, 3) := by decide +kernel
theorem dX8_order_38 : decode cX8_order 38 = .ok (.aload_n 0, 1) := by decide +kernel
theorem dX8_order_39 : decode cX8_order 39 = .ok (.getfield 25, 3) := by decide +kernel
theorem dX8_order_42 : decode cX8_order 42 = .ok (.iload 4, 2) := by decide +kernel
theorem dX8_order_44 : decode cX8_order 44 = .ok (.iaload, 1) := by decide +kernel
theorem dX8_order_45 : decode cX8_order 45 = .ok (.goto 9, 3) := by decide +kernel
theorem dX8_order_48 : decode cX8_order 48 = .ok (.aload_n 0, 1) := by decide +kernel
theorem dX8_order_49 : decode cX8_order 49 = .ok (.ldc 113, 2) := by decide +kernel
theorem dX8_order_51 : decode cX8_order 51 = .ok (.invokevirtual 67, 3) := by decide +kernel
theorem dX8_order_54 : decode cX8_order 54 = .ok (.ireturn, 1) := by decide +kernel
theorem dX8_on_0 : decode cX8_on 0 = .ok (.aload_n 0, 1) := by decide +kernel
theorem dX8_on_1 : decode cX8_on 1 = .ok (.iload_n 1, 1) := by decide +kernel
theorem dX8_on_2 : decode cX8_on 2 = .ok (.iload_n 2, 1) := by decide +kernel
theorem dX8_on_3 : decode cX8_on 3 = .ok (.iload_n 3, 1) := by decide +kernel
theorem dX8_on_4 : decode cX8_on 4 = .ok (.invokevirtual 181, 3) := by decide +kernel
theorem dX8_on_7 : decode cX8_on 7 = .ok (.ifCond .eq 16, 3) := by decide +kernel
theorem dX8_on_10 : decode cX8_on 10 = .ok (.iload 4, 2) := by decide +kernel
theorem dX8_on_12 : decode cX8_on 12 = .ok (.i2l, 1) := by decide +kernel
theorem dX8_on_13 : decode cX8_on 13 = .ok (.lconst 0, 1) := by decide +kernel
theorem dX8_on_14 : decode cX8_on 14 = .ok (.ldc2_w 147, 3) := by decide +kernel
theorem dX8_on_17 : decode cX8_on 17 = .ok (.invokestatic 45, 3) := by decide +kernel
theorem dX8_on_20 : decode cX8_on 20 = .ok (.ifCond .ne 10, 3) := by decide +kernel
theorem dX8_on_23 : decode cX8_on 23 = .ok (.aload_n 0, 1) := by decide +kernel
theorem dX8_on_24 : decode cX8_on 24 = .ok (.ldc 44, 2) := by decide +kernel
theorem dX8_on_26 : decode cX8_on 26 = .ok (.invokevirtual 67, 3) := by decide +kernel
theorem dX8_on_29 : decode cX8_on 29 = .ok (.ireturn, 1) := by decide +kernel
theorem dX8_on_30 : decode cX8_on 30 = .ok (.aload_n 0, 1) := by decide +kernel
theorem dX8_on_31 : decode cX8_on 31 = .ok (.invokevirtual 188, 3) := by decide +kernel
theorem dX8_on_34 : decode cX8_on 34 = .ok (.aload_n 0, 1) := by decide +kernel
theorem dX8_on_35 : decode cX8_on 35 = .ok (.iload 4, 2) := by decide +kernel
theorem dX8_on_37 : decode cX8_on 37 = .ok (.invokevirtual 150, 3) := by decide +kernel
theorem dX8_on_40 : decode cX8_on 40 = .ok (.aload_n 0, 1) := by decide +kernel
theorem dX8_on_41 : decode cX8_on 41 = .ok (.iload_n 1, 1) := by decide +kernel
theorem dX8_on_42 : decode cX8_on 42 = .ok (.iload_n 2, 1) := by decide +kernel
theorem dX8_on_43 : decode cX8_on 43 = .ok (.iload_n 3, 1) := by decide +kernel
theorem dX8_on_44 : decode cX8_on 44 = .ok (.invokevirtual 174, 3) := by decide +kernel
theorem dX8_on_47 : decode cX8_on 47 = .ok (.aload_n 0, 1) := by decide +kernel
theorem dX8_on_48 : decode cX8_on 48 = .ok (.aload_n 0, 1) := by decide +kernel
theorem dX8_on_49 : decode cX8_on 49 = .ok (.getfield 167, 3) := by decide +kernel
theorem dX8_on_52 : decode cX8_on 52 = .ok (.invokevirtual 191, 3) := by decide +kernel
theorem dX8_on_55 : decode cX8_on 55 = .ok (.ireturn, 1) := by decide +kernel
theorem dX8_reach_0 : decode cX8_reach 0 = .ok (.aload_n 0, 1) := by decide +kernel
theorem dX8_reach_1 : decode cX8_reach 1 = .ok (.iload_n 1, 1) := by decide +kernel
theorem dX8_reach_2 : decode cX8_reach 2 = .ok (.invokevirtual 91, 3) := by decide +kernel
theorem dX8_reach_5 : decode cX8_reach 5 = .ok (.ifCond .eq 17, 3) := by decide +kernel
theorem dX8_reach_8 : decode cX8_reach 8 = .ok (.iload_n 2, 1) := by decide +kernel
theorem dX8_reach_9 : decode cX8_reach 9 = .ok (.invokestatic 194, 3) := by decide +kernel
theorem dX8_reach_12 : decode cX8_reach 12 = .ok (.ifCond .eq 10, 3) := by decide +kernel
theorem dX8_reach_15 : decode cX8_reach 15 = .ok (.iload_n 3, 1) := by decide +kernel
theorem dX8_reach_16 : decode cX8_reach 16 = .ok (.invokestatic 178, 3) := by decide +kernel
theorem dX8_reach_19 : decode cX8_reach 19 = .ok (.ifCond .ne 10, 3) := by decide +kernel
theorem dX8_reach_22 : decode cX8_reach 22 = .ok (.aload_n 0, 1) := by decide +kernel
theorem dX8_reach_23 : decode cX8_reach 23 = .ok (.ldc 44, 2) := by decide +kernel
theorem dX8_reach_25 : decode cX8_reach 25 = .ok (.invokevirtual 67, 3) := by decide +kernel
theorem dX8_reach_28 : decode cX8_reach 28 = .ok (.ireturn, 1) := by decide +kernel
theorem dX8_reach_29 : decode cX8_reach 29 = .ok (.iconst 0, 1) := by decide +kernel
theorem dX8_reach_30 : decode cX8_reach 30 = .ok (.istore 4, 2) := by decide +kernel
theorem dX8_reach_32 : decode cX8_reach 32 = .ok (.iload 4, 2) := by decide +kernel
theorem dX8_reach_34 : decode cX8_reach 34 = .ok (.bipush 8, 2) := by decide +kernel
theorem dX8_reach_36 : decode cX8_reach 36 = .ok (.if_icmp .ge 27, 3) := by decide +kernel
theorem dX8_reach_39 : decode cX8_reach 39 = .ok (.iload_n 2, 1) := by decide +kernel
theorem dX8_reach_40 : decode cX8_reach 40 = .ok (.aload_n 0, 1) := by decide +kernel
theorem dX8_reach_41 : decode cX8_reach 41 = .ok (.iload_n 1, 1) := by decide +kernel
theorem dX8_reach_42 : decode cX8_reach 42 = .ok (.iload 4, 2) := by decide +kernel
theorem dX8_reach_44 : decode cX8_reach 44 = .ok (.iload_n 3, 1) := by decide +kernel
theorem dX8_reach_45 : decode cX8_reach 45 = .ok (.invokevirtual 185, 3) := by decide +kernel
theorem dX8_reach_48 : decode cX8_reach 48 = .ok (.iconst (-1), 1) := by decide +kernel
theorem dX8_reach_49 : decode cX8_reach 49 = .ok (.ixor, 1) := by decide +kernel
theorem dX8_reach_50 : decode cX8_reach 50 = .ok (.iand, 1) := by decide +kernel
theorem dX8_reach_51 : decode cX8_reach 51 = .ok (.ifCond .ne 6, 3) := by decide +kernel
theorem dX8_reach_54 : decode cX8_reach 54 = .ok (.iload 4, 2) := by decide +kernel
theorem dX8_reach_56 : decode cX8_reach 56 = .ok (.ireturn, 1) := by decide +kernel
theorem dX8_reach_57 : decode cX8_reach 57 = .ok (.iinc 4 1, 3) := by decide +kernel
theorem dX8_reach_60 : decode cX8_reach 60 = .ok (.goto (-28), 3) := by decide +kernel
theorem dX8_reach_63 : decode cX8_reach 63 = .ok (.aload_n 0, 1) := by decide +kernel
theorem dX8_reach_64 : decode cX8_reach 64 = .ok (.ldc 113, 2) := by decide +kernel
theorem dX8_reach_66 : decode cX8_reach 66 = .ok (.invokevirtual 67, 3) := by decide +kernel
theorem dX8_reach_69 : decode cX8_reach 69 = .ok (.ireturn, 1) := by decide +kernel
theorem dX8_strength_0 : decode cX8_strength 0 = .ok (.aload_n 0, 1) := by decide +kernel
theorem dX8_strength_1 : decode cX8_strength 1 = .ok (.iload_n 1, 1) := by decide +kernel
theorem dX8_strength_2 : decode cX8_strength 2 = .ok (.invokevirtual 91, 3) := by decide +kernel
theorem dX8_strength_5 : decode cX8_strength 5 = .ok (.ifCond .eq 17, 3) := by decide +kernel
theorem dX8_strength_8 : decode cX8_strength 8 = .ok (.iload_n 2, 1) := by decide +kernel
theorem dX8_strength_9 : decode cX8_strength 9 = .ok (.invokestatic 108, 3) := by decide +kernel
theorem dX8_strength_12 : decode cX8_strength 12 = .ok (.ifCond .eq 10, 3) := by decide +kernel
theorem dX8_strength_15 : decode cX8_strength 15 = .ok (.iload_n 3, 1) := by decide +kernel
theorem dX8_strength_16 : decode cX8_strength 16 = .ok (.invokestatic 194, 3) := by decide +kernel
theorem dX8_strength_19 : decode cX8_strength 19 = .ok (.ifCond .ne 10, 3) := by decide +kernel
theorem dX8_strength_22 : decode cX8_strength 22 = .ok (.aload_n 0, 1) := by decide +kernel
theorem dX8_strength_23 : decode cX8_strength 23 = .ok (.ldc 44, 2) := by decide +kernel
theorem dX8_strength_25 : decode cX8_strength 25 = .ok (.invokevirtual 67, 3) := by decide +kernel
theorem dX8_strength_28 : decode cX8_strength 28 = .ok (.ireturn, 1) := by decide +kernel
theorem dX8_strength_29 : decode cX8_strength 29 = .ok (.iconst 1, 1) := by decide +kernel
theorem dX8_strength_30 : decode cX8_strength 30 = .ok (.istore 4, 2) := by decide +kernel
theorem dX8_strength_32 : decode cX8_strength 32 = .ok (.iload 4, 2) := by decide +kernel
theorem dX8_strength_34 : decode cX8_strength 34 = .ok (.bipush 9, 2) := by decide +kernel
theorem dX8_strength_36 : decode cX8_strength 36 = .ok (.if_icmp .gt 27, 3) := by decide +kernel
theorem dX8_strength_39 : decode cX8_strength 39 = .ok (.iload_n 3, 1) := by decide +kernel
theorem dX8_strength_40 : decode cX8_strength 40 = .ok (.aload_n 0, 1) := by decide +kernel
theorem dX8_strength_41 : decode cX8_strength 41 = .ok (.iload_n 1, 1) := by decide +kernel
theorem dX8_strength_42 : decode cX8_strength 42 = .ok (.iload_n 2, 1) := by decide +kernel
theorem dX8_strength_43 : decode cX8_strength 43 = .ok (.iload 4, 2) := by decide +kernel
theorem dX8_strength_45 : decode cX8_strength 45 = .ok (.invokevirtual 185, 3) := by decide +kernel
theorem dX8_strength_48 : decode cX8_strength 48 = .ok (.iconst (-1), 1) := by decide +kernel
theorem dX8_strength_49 : decode cX8_strength 49 = .ok (.ixor, 1) := by decide +kernel
theorem dX8_strength_50 : decode cX8_strength 50 = .ok (.iand, 1) := by decide +kernel
theorem dX8_strength_51 : decode cX8_strength 51 = .ok (.ifCond .ne 6, 3) := by decide +kernel
theorem dX8_strength_54 : decode cX8_strength 54 = .ok (.iload 4, 2) := by decide +kernel
theorem dX8_strength_56 : decode cX8_strength 56 = .ok (.ireturn, 1) := by decide +kernel
theorem dX8_strength_57 : decode cX8_strength 57 = .ok (.iinc 4 1, 3) := by decide +kernel
theorem dX8_strength_60 : decode cX8_strength 60 = .ok (.goto (-28), 3) := by decide +kernel
theorem dX8_strength_63 : decode cX8_strength 63 = .ok (.aload_n 0, 1) := by decide +kernel
theorem dX8_strength_64 : decode cX8_strength 64 = .ok (.ldc 113, 2) := by decide +kernel
theorem dX8_strength_66 : decode cX8_strength 66 = .ok (.invokevirtual 67, 3) := by decide +kernel
theorem dX8_strength_69 : decode cX8_strength 69 = .ok (.ireturn, 1) := by decide +kernel
theorem dX8_secret_0 : decode cX8_secret 0 = .ok (.aload_n 0, 1) := by decide +kernel
theorem dX8_secret_1 : decode cX8_secret 1 = .ok (.iload_n 1, 1) := by decide +kernel
theorem dX8_secret_2 : decode cX8_secret 2 = .ok (.invokevirtual 91, 3) := by decide +kernel
theorem dX8_secret_5 : decode cX8_secret 5 = .ok (.ifCond .eq 17, 3) := by decide +kernel
theorem dX8_secret_8 : decode cX8_secret 8 = .ok (.iload_n 2, 1) := by decide +kernel
theorem dX8_secret_9 : decode cX8_secret 9 = .ok (.invokestatic 194, 3) := by decide +kernel
theorem dX8_secret_12 : decode cX8_secret 12 = .ok (.ifCond .eq 10, 3) := by decide +kernel
theorem dX8_secret_15 : decode cX8_secret 15 = .ok (.iload_n 3, 1) := by decide +kernel
theorem dX8_secret_16 : decode cX8_secret 16 = .ok (.invokestatic 194, 3) := by decide +kernel
theorem dX8_secret_19 : decode cX8_secret 19 = .ok (.ifCond .ne 10, 3) := by decide +kernel
theorem dX8_secret_22 : decode cX8_secret 22 = .ok (.aload_n 0, 1) := by decide +kernel
theorem dX8_secret_23 : decode cX8_secret 23 = .ok (.ldc 44, 2) := by decide +kernel
theorem dX8_secret_25 : decode cX8_secret 25 = .ok (.invokevirtual 67, 3) := by decide +kernel
theorem dX8_secret_28 : decode cX8_secret 28 = .ok (.ireturn, 1) := by decide +kernel
theorem dX8_secret_29 : decode cX8_secret 29 = .ok (.iconst 0, 1) := by decide +kernel
theorem dX8_secret_30 : decode cX8_secret 30 = .ok (.istore 4, 2) := by decide +kernel
theorem dX8_secret_32 : decode cX8_secret 32 = .ok (.iload 4, 2) := by decide +kernel
theorem dX8_secret_34 : decode cX8_secret 34 = .ok (.bipush 80, 2) := by decide +kernel
theorem dX8_secret_36 : decode cX8_secret 36 = .ok (.if_icmp .ge 65, 3) := by decide +kernel
theorem dX8_secret_39 : decode cX8_secret 39 = .ok (.iload 4, 2) := by decide +kernel
theorem dX8_secret_41 : decode cX8_secret 41 = .ok (.bipush 10, 2) := by decide +kernel
theorem dX8_secret_43 : decode cX8_secret 43 = .ok (.irem, 1) := by decide +kernel
theorem dX8_secret_44 : decode cX8_secret 44 = .ok (.ifCond .ne 7, 3) := by decide +kernel
theorem dX8_secret_47 : decode cX8_secret 47 = .ok (.iconst 0, 1) := by decide +kernel
theorem dX8_secret_48 : decode cX8_secret 48 = .ok (.goto 18, 3) := by decide +kernel
theorem dX8_secret_51 : decode cX8_secret 51 = .ok (.aload_n 0, 1) := by decide +kernel
theorem dX8_secret_52 : decode cX8_secret 52 = .ok (.iload_n 1, 1) := by decide +kernel
theorem dX8_secret_53 : decode cX8_secret 53 = .ok (.iload 4, 2) := by decide +kernel
theorem dX8_secret_55 : decode cX8_secret 55 = .ok (.bipush 10, 2) := by decide +kernel
theorem dX8_secret_57 : decode cX8_secret 57 = .ok (.idiv, 1) := by decide +kernel
theorem dX8_secret_58 : decode cX8_secret 58 = .ok (.iload 4, 2) := by decide +kernel
theorem dX8_secret_60 : decode cX8_secret 60 = .ok (.bipush 10, 2) := by decide +kernel
theorem dX8_secret_62 : decode cX8_secret 62 = .ok (.irem, 1) := by decide +kernel
theorem dX8_secret_63 : decode cX8_secret 63 = .ok (.invokevirtual 185, 3) := by decide +kernel
theorem dX8_secret_66 : decode cX8_secret 66 = .ok (.istore 5, 2) := by decide +kernel
theorem dX8_secret_68 : decode cX8_secret 68 = .ok (.iload 4, 2) := by decide +kernel
theorem dX8_secret_70 : decode cX8_secret 70 = .ok (.bipush 10, 2) := by decide +kernel
theorem dX8_secret_72 : decode cX8_secret 72 = .ok (.irem, 1) := by decide +kernel
theorem dX8_secret_73 : decode cX8_secret 73 = .ok (.ifCond .le 22, 3) := by decide +kernel
theorem dX8_secret_76 : decode cX8_secret 76 = .ok (.iload_n 2, 1) := by decide +kernel
theorem dX8_secret_77 : decode cX8_secret 77 = .ok (.iload 5, 2) := by decide +kernel
theorem dX8_secret_79 : decode cX8_secret 79 = .ok (.iconst (-1), 1) := by decide +kernel
theorem dX8_secret_80 : decode cX8_secret 80 = .ok (.ixor, 1) := by decide +kernel
theorem dX8_secret_81 : decode cX8_secret 81 = .ok (.iand, 1) := by decide +kernel
theorem dX8_secret_82 : decode cX8_secret 82 = .ok (.ifCond .ne 13, 3) := by decide +kernel
theorem dX8_secret_85 : decode cX8_secret 85 = .ok (.iload_n 3, 1) := by decide +kernel
theorem dX8_secret_86 : decode cX8_secret 86 = .ok (.iload 5, 2) := by decide +kernel
theorem dX8_secret_88 : decode cX8_secret 88 = .ok (.iand, 1) := by decide +kernel
theorem dX8_secret_89 : decode cX8_secret 89 = .ok (.ifCond .ne 6, 3) := by decide +kernel
theorem dX8_secret_92 : decode cX8_secret 92 = .ok (.iload 4, 2) := by decide +kernel
theorem dX8_secret_94 : decode cX8_secret 94 = .ok (.ireturn, 1) := by decide +kernel
theorem dX8_secret_95 : decode cX8_secret 95 = .ok (.iinc 4 1, 3) := by decide +kernel
theorem dX8_secret_98 : decode cX8_secret 98 = .ok (.goto (-66), 3) := by decide +kernel
theorem dX8_secret_101 : decode cX8_secret 101 = .ok (.aload_n 0, 1) := by decide +kernel
theorem dX8_secret_102 : decode cX8_secret 102 = .ok (.ldc 113, 2) := by decide +kernel
theorem dX8_secret_104 : decode cX8_secret 104 = .ok (.invokevirtual 67, 3) := by decide +kernel
theorem dX8_secret_107 : decode cX8_secret 107 = .ok (.ireturn, 1) := by decide +kernel
theorem dX8_ones_0 : decode cX8_ones 0 = .ok (.iconst 0, 1) := by decide +kernel
theorem dX8_ones_1 : decode cX8_ones 1 = .ok (.istore_n 1, 1) := by decide +kernel
theorem dX8_ones_2 : decode cX8_ones 2 = .ok (.iload_n 0, 1) := by decide +kernel
theorem dX8_ones_3 : decode cX8_ones 3 = .ok (.istore_n 2, 1) := by decide +kernel
theorem dX8_ones_4 : decode cX8_ones 4 = .ok (.iload_n 2, 1) := by decide +kernel
theorem dX8_ones_5 : decode cX8_ones 5 = .ok (.ifCond .eq 15, 3) := by decide +kernel
theorem dX8_ones_8 : decode cX8_ones 8 = .ok (.iinc 1 1, 3) := by decide +kernel
theorem dX8_ones_11 : decode cX8_ones 11 = .ok (.iload_n 2, 1) := by decide +kernel
theorem dX8_ones_12 : decode cX8_ones 12 = .ok (.iload_n 2, 1) := by decide +kernel
theorem dX8_ones_13 : decode cX8_ones 13 = .ok (.iconst 1, 1) := by decide +kernel
theorem dX8_ones_14 : decode cX8_ones 14 = .ok (.isub, 1) := by decide +kernel
theorem dX8_ones_15 : decode cX8_ones 15 = .ok (.iand, 1) := by decide +kernel
theorem dX8_ones_16 : decode cX8_ones 16 = .ok (.istore_n 2, 1) := by decide +kernel
theorem dX8_ones_17 : decode cX8_ones 17 = .ok (.goto (-13), 3) := by decide +kernel
theorem dX8_ones_20 : decode cX8_ones 20 = .ok (.iload_n 1, 1) := by decide +kernel
theorem dX8_ones_21 : decode cX8_ones 21 = .ok (.ireturn, 1) := by decide +kernel
theorem dX8_fewest_0 : decode cX8_fewest 0 = .ok (.iload_n 1, 1) := by decide +kernel
theorem dX8_fewest_1 : decode cX8_fewest 1 = .ok (.invokestatic 194, 3) := by decide +kernel
theorem dX8_fewest_4 : decode cX8_fewest 4 = .ok (.ifCond .eq 10, 3) := by decide +kernel
theorem dX8_fewest_7 : decode cX8_fewest 7 = .ok (.iload_n 2, 1) := by decide +kernel
theorem dX8_fewest_8 : decode cX8_fewest 8 = .ok (.invokestatic 178, 3) := by decide +kernel
theorem dX8_fewest_11 : decode cX8_fewest 11 = .ok (.ifCond .ne 10, 3) := by decide +kernel
theorem dX8_fewest_14 : decode cX8_fewest 14 = .ok (.aload_n 0, 1) := by decide +kernel
theorem dX8_fewest_15 : decode cX8_fewest 15 = .ok (.ldc 44, 2) := by decide +kernel
theorem dX8_fewest_17 : decode cX8_fewest 17 = .ok (.invokevirtual 67, 3) := by decide +kernel
theorem dX8_fewest_20 : decode cX8_fewest 20 = .ok (.ireturn, 1) := by decide +kernel
theorem dX8_fewest_21 : decode cX8_fewest 21 = .ok (.iconst (-1), 1) := by decide +kernel
theorem dX8_fewest_22 : decode cX8_fewest 22 = .ok (.istore_n 3, 1) := by decide +kernel
theorem dX8_fewest_23 : decode cX8_fewest 23 = .ok (.iconst 0, 1) := by decide +kernel
theorem dX8_fewest_24 : decode cX8_fewest 24 = .ok (.istore 4, 2) := by decide +kernel
theorem dX8_fewest_26 : decode cX8_fewest 26 = .ok (.iload 4, 2) := by decide +kernel
theorem dX8_fewest_28 : decode cX8_fewest 28 = .ok (.iconst 1, 1) := by decide +kernel
theorem dX8_fewest_29 : decode cX8_fewest 29 = .ok (.aload_n 0, 1) := by decide +kernel
theorem dX8_fewest_30 : decode cX8_fewest 30 = .ok (.getfield 7, 3) := by decide +kernel
theorem dX8_fewest_33 : decode cX8_fewest 33 = .ok (.iconst 0, 1) := by decide +kernel
theorem dX8_fewest_34 : decode cX8_fewest 34 = .ok (.iaload, 1) := by decide +kernel
theorem dX8_fewest_35 : decode cX8_fewest 35 = .ok (.ishl, 1) := by decide +kernel
theorem dX8_fewest_36 : decode cX8_fewest 36 = .ok (.if_icmp .ge 92, 3) := by decide +kernel
theorem dX8_fewest_39 : decode cX8_fewest 39 = .ok (.iload_n 1, 1) := by decide +kernel
theorem dX8_fewest_40 : decode cX8_fewest 40 = .ok (.istore 5, 2) := by decide +kernel
theorem dX8_fewest_42 : decode cX8_fewest 42 = .ok (.iconst 0, 1) := by decide +kernel
theorem dX8_fewest_43 : decode cX8_fewest 43 = .ok (.istore 6, 2) := by decide +kernel
theorem dX8_fewest_45 : decode cX8_fewest 45 = .ok (.iload 6, 2) := by decide +kernel
theorem dX8_fewest_47 : decode cX8_fewest 47 = .ok (.aload_n 0, 1) := by decide +kernel
theorem dX8_fewest_48 : decode cX8_fewest 48 = .ok (.getfield 7, 3) := by decide +kernel
theorem dX8_fewest_51 : decode cX8_fewest 51 = .ok (.iconst 0, 1) := by decide +kernel
theorem dX8_fewest_52 : decode cX8_fewest 52 = .ok (.iaload, 1) := by decide +kernel
theorem dX8_fewest_53 : decode cX8_fewest 53 = .ok (.if_icmp .ge 41, 3) := by decide +kernel
theorem dX8_fewest_56 : decode cX8_fewest 56 = .ok (.iload 5, 2) := by decide +kernel
theorem dX8_fewest_58 : decode cX8_fewest 58 = .ok (.iload 4, 2) := by decide +kernel
theorem dX8_fewest_60 : decode cX8_fewest 60 = .ok (.iload 6, 2) := by decide +kernel
theorem dX8_fewest_62 : decode cX8_fewest 62 = .ok (.ishr, 1) := by decide +kernel
theorem dX8_fewest_63 : decode cX8_fewest 63 = .ok (.iconst 1, 1) := by decide +kernel
theorem dX8_fewest_64 : decode cX8_fewest 64 = .ok (.iand, 1) := by decide +kernel
theorem dX8_fewest_65 : decode cX8_fewest 65 = .ok (.iconst 1, 1) := by decide +kernel
theorem dX8_fewest_66 : decode cX8_fewest 66 = .ok (.if_icmp .ne 17, 3) := by decide +kernel
theorem dX8_fewest_69 : decode cX8_fewest 69 = .ok (.aload_n 0, 1) := by decide +kernel
theorem dX8_fewest_70 : decode cX8_fewest 70 = .ok (.iload 6, 2) := by decide +kernel
theorem dX8_fewest_72 : decode cX8_fewest 72 = .ok (.bipush 7, 2) := by decide +kernel
theorem dX8_fewest_74 : decode cX8_fewest 74 = .ok (.iload_n 2, 1) := by decide +kernel
theorem dX8_fewest_75 : decode cX8_fewest 75 = .ok (.invokevirtual 185, 3) := by decide +kernel
theorem dX8_fewest_78 : decode cX8_fewest 78 = .ok (.iconst (-1), 1) := by decide +kernel
theorem dX8_fewest_79 : decode cX8_fewest 79 = .ok (.ixor, 1) := by decide +kernel
theorem dX8_fewest_80 : decode cX8_fewest 80 = .ok (.goto 5, 3) := by decide +kernel
theorem dX8_fewest_83 : decode cX8_fewest 83 = .ok (.ldc 197, 2) := by decide +kernel
theorem dX8_fewest_85 : decode cX8_fewest 85 = .ok (.iand, 1) := by decide +kernel
theorem dX8_fewest_86 : decode cX8_fewest 86 = .ok (.istore 5, 2) := by decide +kernel
theorem dX8_fewest_88 : decode cX8_fewest 88 = .ok (.iinc 6 1, 3) := by decide +kernel
theorem dX8_fewest_91 : decode cX8_fewest 91 = .ok (.goto (-46), 3) := by decide +kernel
theorem dX8_fewest_94 : decode cX8_fewest 94 = .ok (.iload 5, 2) := by decide +kernel
theorem dX8_fewest_96 : decode cX8_fewest 96 = .ok (.ifCond .ne 24, 3) := by decide +kernel
theorem dX8_fewest_99 : decode cX8_fewest 99 = .ok (.iload_n 3, 1) := by decide +kernel
theorem dX8_fewest_100 : decode cX8_fewest 100 = .ok (.ifCond .lt 15, 3) := by decide +kernel
theorem dX8_fewest_103 : decode cX8_fewest 103 = .ok (.iload 4, 2) := by decide +kernel
theorem dX8_fewest_105 : decode cX8_fewest 105 = .ok (.invokestatic 198, 3) := by decide +kernel
theorem dX8_fewest_108 : decode cX8_fewest 108 = .ok (.iload_n 3, 1) := by decide +kernel
theorem dX8_fewest_109 : decode cX8_fewest 109 = .ok (.invokestatic 198, 3) := by decide +kernel
theorem dX8_fewest_112 : decode cX8_fewest 112 = .ok (.if_icmp .ge 8, 3) := by decide +kernel
theorem dX8_fewest_115 : decode cX8_fewest 115 = .ok (.iload 4, 2) := by decide +kernel
theorem dX8_fewest_117 : decode cX8_fewest 117 = .ok (.goto 4, 3) := by decide +kernel
theorem dX8_fewest_120 : decode cX8_fewest 120 = .ok (.iload_n 3, 1) := by decide +kernel
theorem dX8_fewest_121 : decode cX8_fewest 121 = .ok (.istore_n 3, 1) := by decide +kernel
theorem dX8_fewest_122 : decode cX8_fewest 122 = .ok (.iinc 4 1, 3) := by decide +kernel
theorem dX8_fewest_125 : decode cX8_fewest 125 = .ok (.goto (-99), 3) := by decide +kernel
theorem dX8_fewest_128 : decode cX8_fewest 128 = .ok (.iload_n 3, 1) := by decide +kernel
theorem dX8_fewest_129 : decode cX8_fewest 129 = .ok (.ifCond .ge 12, 3) := by decide +kernel
theorem dX8_fewest_132 : decode cX8_fewest 132 = .ok (.aload_n 0, 1) := by decide +kernel
theorem dX8_fewest_133 : decode cX8_fewest 133 = .ok (.ldc 113, 2) := by decide +kernel
theorem dX8_fewest_135 : decode cX8_fewest 135 = .ok (.invokevirtual 67, 3) := by decide +kernel
theorem dX8_fewest_138 : decode cX8_fewest 138 = .ok (.goto 4, 3) := by decide +kernel
theorem dX8_fewest_141 : decode cX8_fewest 141 = .ok (.iload_n 3, 1) := by decide +kernel
theorem dX8_fewest_142 : decode cX8_fewest 142 = .ok (.ireturn, 1) := by decide +kernel
theorem dX8_where_0 : decode cX8_where 0 = .ok (.iload_n 1, 1) := by decide +kernel
theorem dX8_where_1 : decode cX8_where 1 = .ok (.invokestatic 122, 3) := by decide +kernel
theorem dX8_where_4 : decode cX8_where 4 = .ok (.ifCond .ne 10, 3) := by decide +kernel
theorem dX8_where_7 : decode cX8_where 7 = .ok (.aload_n 0, 1) := by decide +kernel
theorem dX8_where_8 : decode cX8_where 8 = .ok (.ldc 44, 2) := by decide +kernel
theorem dX8_where_10 : decode cX8_where 10 = .ok (.invokevirtual 67, 3) := by decide +kernel
theorem dX8_where_13 : decode cX8_where 13 = .ok (.ireturn, 1) := by decide +kernel
theorem dX8_where_14 : decode cX8_where 14 = .ok (.iconst 0, 1) := by decide +kernel
theorem dX8_where_15 : decode cX8_where 15 = .ok (.istore_n 2, 1) := by decide +kernel
theorem dX8_where_16 : decode cX8_where 16 = .ok (.iconst 0, 1) := by decide +kernel
theorem dX8_where_17 : decode cX8_where 17 = .ok (.istore_n 3, 1) := by decide +kernel
theorem dX8_where_18 : decode cX8_where 18 = .ok (.iload_n 3, 1) := by decide +kernel
theorem dX8_where_19 : decode cX8_where 19 = .ok (.aload_n 0, 1) := by decide +kernel
theorem dX8_where_20 : decode cX8_where 20 = .ok (.getfield 7, 3) := by decide +kernel
theorem dX8_where_23 : decode cX8_where 23 = .ok (.iconst 0, 1) := by decide +kernel
theorem dX8_where_24 : decode cX8_where 24 = .ok (.iaload, 1) := by decide +kernel
theorem dX8_where_25 : decode cX8_where 25 = .ok (.if_icmp .ge 23, 3) := by decide +kernel
end
section
theorem dX8_where_28 : decode cX8_where 28 = .ok (.iload_n 2, 1) := by decide +kernel
theorem dX8_where_29 : decode cX8_where 29 = .ok (.aload_n 0, 1) := by decide +kernel
theorem dX8_where_30 : decode cX8_where 30 = .ok (.iload_n 3, 1) := by decide +kernel
theorem dX8_where_31 : decode cX8_where 31 = .ok (.invokevirtual 99, 3) := by decide +kernel
theorem dX8_where_34 : decode cX8_where 34 = .ok (.iload_n 1, 1) := by decide +kernel
theorem dX8_where_35 : decode cX8_where 35 = .ok (.ishr, 1) := by decide +kernel
theorem dX8_where_36 : decode cX8_where 36 = .ok (.iconst 1, 1) := by decide +kernel
theorem dX8_where_37 : decode cX8_where 37 = .ok (.iand, 1) := by decide +kernel
theorem dX8_where_38 : decode cX8_where 38 = .ok (.iload_n 3, 1) := by decide +kernel
theorem dX8_where_39 : decode cX8_where 39 = .ok (.ishl, 1) := by decide +kernel
theorem dX8_where_40 : decode cX8_where 40 = .ok (.ior, 1) := by decide +kernel
theorem dX8_where_41 : decode cX8_where 41 = .ok (.istore_n 2, 1) := by decide +kernel
theorem dX8_where_42 : decode cX8_where 42 = .ok (.iinc 3 1, 3) := by decide +kernel
theorem dX8_where_45 : decode cX8_where 45 = .ok (.goto (-27), 3) := by decide +kernel
theorem dX8_where_48 : decode cX8_where 48 = .ok (.iload_n 2, 1) := by decide +kernel
theorem dX8_where_49 : decode cX8_where 49 = .ok (.ireturn, 1) := by decide +kernel
theorem dX8_lost_0 : decode cX8_lost 0 = .ok (.aload_n 0, 1) := by decide +kernel
theorem dX8_lost_1 : decode cX8_lost 1 = .ok (.iload_n 1, 1) := by decide +kernel
theorem dX8_lost_2 : decode cX8_lost 2 = .ok (.invokevirtual 91, 3) := by decide +kernel
theorem dX8_lost_5 : decode cX8_lost 5 = .ok (.ifCond .eq 17, 3) := by decide +kernel
theorem dX8_lost_8 : decode cX8_lost 8 = .ok (.iload_n 2, 1) := by decide +kernel
theorem dX8_lost_9 : decode cX8_lost 9 = .ok (.invokestatic 122, 3) := by decide +kernel
theorem dX8_lost_12 : decode cX8_lost 12 = .ok (.ifCond .eq 10, 3) := by decide +kernel
theorem dX8_lost_15 : decode cX8_lost 15 = .ok (.iload_n 3, 1) := by decide +kernel
theorem dX8_lost_16 : decode cX8_lost 16 = .ok (.invokestatic 178, 3) := by decide +kernel
theorem dX8_lost_19 : decode cX8_lost 19 = .ok (.ifCond .ne 10, 3) := by decide +kernel
theorem dX8_lost_22 : decode cX8_lost 22 = .ok (.aload_n 0, 1) := by decide +kernel
theorem dX8_lost_23 : decode cX8_lost 23 = .ok (.ldc 44, 2) := by decide +kernel
theorem dX8_lost_25 : decode cX8_lost 25 = .ok (.invokevirtual 67, 3) := by decide +kernel
theorem dX8_lost_28 : decode cX8_lost 28 = .ok (.ireturn, 1) := by decide +kernel
theorem dX8_lost_29 : decode cX8_lost 29 = .ok (.aload_n 0, 1) := by decide +kernel
theorem dX8_lost_30 : decode cX8_lost 30 = .ok (.invokevirtual 188, 3) := by decide +kernel
theorem dX8_lost_33 : decode cX8_lost 33 = .ok (.iconst 0, 1) := by decide +kernel
theorem dX8_lost_34 : decode cX8_lost 34 = .ok (.istore 4, 2) := by decide +kernel
theorem dX8_lost_36 : decode cX8_lost 36 = .ok (.iload 4, 2) := by decide +kernel
theorem dX8_lost_38 : decode cX8_lost 38 = .ok (.bipush 60, 2) := by decide +kernel
theorem dX8_lost_40 : decode cX8_lost 40 = .ok (.if_icmp .gt 29, 3) := by decide +kernel
theorem dX8_lost_43 : decode cX8_lost 43 = .ok (.aload_n 0, 1) := by decide +kernel
theorem dX8_lost_44 : decode cX8_lost 44 = .ok (.iload_n 1, 1) := by decide +kernel
theorem dX8_lost_45 : decode cX8_lost 45 = .ok (.bipush 7, 2) := by decide +kernel
theorem dX8_lost_47 : decode cX8_lost 47 = .ok (.iload_n 3, 1) := by decide +kernel
theorem dX8_lost_48 : decode cX8_lost 48 = .ok (.invokevirtual 185, 3) := by decide +kernel
theorem dX8_lost_51 : decode cX8_lost 51 = .ok (.iload_n 2, 1) := by decide +kernel
theorem dX8_lost_52 : decode cX8_lost 52 = .ok (.ishr, 1) := by decide +kernel
theorem dX8_lost_53 : decode cX8_lost 53 = .ok (.iconst 1, 1) := by decide +kernel
theorem dX8_lost_54 : decode cX8_lost 54 = .ok (.iand, 1) := by decide +kernel
theorem dX8_lost_55 : decode cX8_lost 55 = .ok (.iconst 1, 1) := by decide +kernel
theorem dX8_lost_56 : decode cX8_lost 56 = .ok (.if_icmp .ne 13, 3) := by decide +kernel
theorem dX8_lost_59 : decode cX8_lost 59 = .ok (.aload_n 0, 1) := by decide +kernel
theorem dX8_lost_60 : decode cX8_lost 60 = .ok (.invokevirtual 144, 3) := by decide +kernel
theorem dX8_lost_63 : decode cX8_lost 63 = .ok (.iinc 4 1, 3) := by decide +kernel
theorem dX8_lost_66 : decode cX8_lost 66 = .ok (.goto (-30), 3) := by decide +kernel
theorem dX8_lost_69 : decode cX8_lost 69 = .ok (.aload_n 0, 1) := by decide +kernel
theorem dX8_lost_70 : decode cX8_lost 70 = .ok (.iload 4, 2) := by decide +kernel
theorem dX8_lost_72 : decode cX8_lost 72 = .ok (.invokevirtual 191, 3) := by decide +kernel
theorem dX8_lost_75 : decode cX8_lost 75 = .ok (.istore 5, 2) := by decide +kernel
theorem dX8_lost_77 : decode cX8_lost 77 = .ok (.iload 5, 2) := by decide +kernel
theorem dX8_lost_79 : decode cX8_lost 79 = .ok (.bipush 60, 2) := by decide +kernel
theorem dX8_lost_81 : decode cX8_lost 81 = .ok (.if_icmp .le 12, 3) := by decide +kernel
theorem dX8_lost_84 : decode cX8_lost 84 = .ok (.aload_n 0, 1) := by decide +kernel
theorem dX8_lost_85 : decode cX8_lost 85 = .ok (.ldc 113, 2) := by decide +kernel
theorem dX8_lost_87 : decode cX8_lost 87 = .ok (.invokevirtual 67, 3) := by decide +kernel
theorem dX8_lost_90 : decode cX8_lost 90 = .ok (.goto 5, 3) := by decide +kernel
theorem dX8_lost_93 : decode cX8_lost 93 = .ok (.iload 5, 2) := by decide +kernel
theorem dX8_lost_95 : decode cX8_lost 95 = .ok (.ireturn, 1) := by decide +kernel
theorem dX8_covers_0 : decode cX8_covers 0 = .ok (.aload_n 0, 1) := by decide +kernel
theorem dX8_covers_1 : decode cX8_covers 1 = .ok (.iload_n 1, 1) := by decide +kernel
theorem dX8_covers_2 : decode cX8_covers 2 = .ok (.invokevirtual 91, 3) := by decide +kernel
theorem dX8_covers_5 : decode cX8_covers 5 = .ok (.ifCond .eq 17, 3) := by decide +kernel
theorem dX8_covers_8 : decode cX8_covers 8 = .ok (.iload_n 2, 1) := by decide +kernel
theorem dX8_covers_9 : decode cX8_covers 9 = .ok (.invokestatic 122, 3) := by decide +kernel
theorem dX8_covers_12 : decode cX8_covers 12 = .ok (.ifCond .eq 10, 3) := by decide +kernel
theorem dX8_covers_15 : decode cX8_covers 15 = .ok (.iload_n 3, 1) := by decide +kernel
theorem dX8_covers_16 : decode cX8_covers 16 = .ok (.invokestatic 122, 3) := by decide +kernel
theorem dX8_covers_19 : decode cX8_covers 19 = .ok (.ifCond .ne 10, 3) := by decide +kernel
theorem dX8_covers_22 : decode cX8_covers 22 = .ok (.aload_n 0, 1) := by decide +kernel
theorem dX8_covers_23 : decode cX8_covers 23 = .ok (.ldc 44, 2) := by decide +kernel
theorem dX8_covers_25 : decode cX8_covers 25 = .ok (.invokevirtual 67, 3) := by decide +kernel
theorem dX8_covers_28 : decode cX8_covers 28 = .ok (.ireturn, 1) := by decide +kernel
theorem dX8_covers_29 : decode cX8_covers 29 = .ok (.iconst 0, 1) := by decide +kernel
theorem dX8_covers_30 : decode cX8_covers 30 = .ok (.istore 4, 2) := by decide +kernel
theorem dX8_covers_32 : decode cX8_covers 32 = .ok (.iload 4, 2) := by decide +kernel
theorem dX8_covers_34 : decode cX8_covers 34 = .ok (.bipush 8, 2) := by decide +kernel
theorem dX8_covers_36 : decode cX8_covers 36 = .ok (.if_icmp .ge 23, 3) := by decide +kernel
theorem dX8_covers_39 : decode cX8_covers 39 = .ok (.aload_n 0, 1) := by decide +kernel
theorem dX8_covers_40 : decode cX8_covers 40 = .ok (.iload_n 1, 1) := by decide +kernel
theorem dX8_covers_41 : decode cX8_covers 41 = .ok (.iload 4, 2) := by decide +kernel
theorem dX8_covers_43 : decode cX8_covers 43 = .ok (.invokevirtual 88, 3) := by decide +kernel
theorem dX8_covers_46 : decode cX8_covers 46 = .ok (.iload_n 3, 1) := by decide +kernel
theorem dX8_covers_47 : decode cX8_covers 47 = .ok (.ishr, 1) := by decide +kernel
theorem dX8_covers_48 : decode cX8_covers 48 = .ok (.iconst 1, 1) := by decide +kernel
theorem dX8_covers_49 : decode cX8_covers 49 = .ok (.iand, 1) := by decide +kernel
theorem dX8_covers_50 : decode cX8_covers 50 = .ok (.ifCond .ne 9, 3) := by decide +kernel
theorem dX8_covers_53 : decode cX8_covers 53 = .ok (.iinc 4 1, 3) := by decide +kernel
theorem dX8_covers_56 : decode cX8_covers 56 = .ok (.goto (-24), 3) := by decide +kernel
theorem dX8_covers_59 : decode cX8_covers 59 = .ok (.iconst 0, 1) := by decide +kernel
theorem dX8_covers_60 : decode cX8_covers 60 = .ok (.istore 5, 2) := by decide +kernel
theorem dX8_covers_62 : decode cX8_covers 62 = .ok (.iload 5, 2) := by decide +kernel
theorem dX8_covers_64 : decode cX8_covers 64 = .ok (.bipush 10, 2) := by decide +kernel
theorem dX8_covers_66 : decode cX8_covers 66 = .ok (.if_icmp .ge 32, 3) := by decide +kernel
theorem dX8_covers_69 : decode cX8_covers 69 = .ok (.iload 4, 2) := by decide +kernel
theorem dX8_covers_71 : decode cX8_covers 71 = .ok (.bipush 8, 2) := by decide +kernel
theorem dX8_covers_73 : decode cX8_covers 73 = .ok (.if_icmp .ge 25, 3) := by decide +kernel
theorem dX8_covers_76 : decode cX8_covers 76 = .ok (.aload_n 0, 1) := by decide +kernel
theorem dX8_covers_77 : decode cX8_covers 77 = .ok (.iload_n 1, 1) := by decide +kernel
theorem dX8_covers_78 : decode cX8_covers 78 = .ok (.iload_n 2, 1) := by decide +kernel
theorem dX8_covers_79 : decode cX8_covers 79 = .ok (.iload 5, 2) := by decide +kernel
theorem dX8_covers_81 : decode cX8_covers 81 = .ok (.invokevirtual 134, 3) := by decide +kernel
theorem dX8_covers_84 : decode cX8_covers 84 = .ok (.iload 4, 2) := by decide +kernel
theorem dX8_covers_86 : decode cX8_covers 86 = .ok (.if_icmp .ne 6, 3) := by decide +kernel
theorem dX8_covers_89 : decode cX8_covers 89 = .ok (.iload 5, 2) := by decide +kernel
theorem dX8_covers_91 : decode cX8_covers 91 = .ok (.ireturn, 1) := by decide +kernel
theorem dX8_covers_92 : decode cX8_covers 92 = .ok (.iinc 5 1, 3) := by decide +kernel
theorem dX8_covers_95 : decode cX8_covers 95 = .ok (.goto (-33), 3) := by decide +kernel
theorem dX8_covers_98 : decode cX8_covers 98 = .ok (.aload_n 0, 1) := by decide +kernel
theorem dX8_covers_99 : decode cX8_covers 99 = .ok (.ldc 113, 2) := by decide +kernel
theorem dX8_covers_101 : decode cX8_covers 101 = .ok (.invokevirtual 67, 3) := by decide +kernel
theorem dX8_covers_104 : decode cX8_covers 104 = .ok (.ireturn, 1) := by decide +kernel
theorem dX8_saysAll_0 : decode cX8_saysAll 0 = .ok (.iconst 0, 1) := by decide +kernel
theorem dX8_saysAll_1 : decode cX8_saysAll 1 = .ok (.istore 4, 2) := by decide +kernel
theorem dX8_saysAll_3 : decode cX8_saysAll 3 = .ok (.iconst 0, 1) := by decide +kernel
theorem dX8_saysAll_4 : decode cX8_saysAll 4 = .ok (.istore 5, 2) := by decide +kernel
theorem dX8_saysAll_6 : decode cX8_saysAll 6 = .ok (.iload 5, 2) := by decide +kernel
theorem dX8_saysAll_8 : decode cX8_saysAll 8 = .ok (.bipush 16, 2) := by decide +kernel
theorem dX8_saysAll_10 : decode cX8_saysAll 10 = .ok (.if_icmp .ge 36, 3) := by decide +kernel
theorem dX8_saysAll_13 : decode cX8_saysAll 13 = .ok (.iload 4, 2) := by decide +kernel
theorem dX8_saysAll_15 : decode cX8_saysAll 15 = .ok (.iload_n 2, 1) := by decide +kernel
theorem dX8_saysAll_16 : decode cX8_saysAll 16 = .ok (.iload 5, 2) := by decide +kernel
theorem dX8_saysAll_18 : decode cX8_saysAll 18 = .ok (.ishr, 1) := by decide +kernel
theorem dX8_saysAll_19 : decode cX8_saysAll 19 = .ok (.iconst 1, 1) := by decide +kernel
theorem dX8_saysAll_20 : decode cX8_saysAll 20 = .ok (.iand, 1) := by decide +kernel
theorem dX8_saysAll_21 : decode cX8_saysAll 21 = .ok (.iconst 1, 1) := by decide +kernel
theorem dX8_saysAll_22 : decode cX8_saysAll 22 = .ok (.if_icmp .ne 14, 3) := by decide +kernel
theorem dX8_saysAll_25 : decode cX8_saysAll 25 = .ok (.aload_n 0, 1) := by decide +kernel
theorem dX8_saysAll_26 : decode cX8_saysAll 26 = .ok (.iload_n 1, 1) := by decide +kernel
theorem dX8_saysAll_27 : decode cX8_saysAll 27 = .ok (.iload 5, 2) := by decide +kernel
theorem dX8_saysAll_29 : decode cX8_saysAll 29 = .ok (.iload_n 3, 1) := by decide +kernel
theorem dX8_saysAll_30 : decode cX8_saysAll 30 = .ok (.invokevirtual 141, 3) := by decide +kernel
theorem dX8_saysAll_33 : decode cX8_saysAll 33 = .ok (.goto 4, 3) := by decide +kernel
theorem dX8_saysAll_36 : decode cX8_saysAll 36 = .ok (.iconst 0, 1) := by decide +kernel
theorem dX8_saysAll_37 : decode cX8_saysAll 37 = .ok (.iadd, 1) := by decide +kernel
theorem dX8_saysAll_38 : decode cX8_saysAll 38 = .ok (.istore 4, 2) := by decide +kernel
theorem dX8_saysAll_40 : decode cX8_saysAll 40 = .ok (.iinc 5 1, 3) := by decide +kernel
theorem dX8_saysAll_43 : decode cX8_saysAll 43 = .ok (.goto (-37), 3) := by decide +kernel
theorem dX8_saysAll_46 : decode cX8_saysAll 46 = .ok (.iload 4, 2) := by decide +kernel
theorem dX8_saysAll_48 : decode cX8_saysAll 48 = .ok (.ireturn, 1) := by decide +kernel
theorem dX8_kind_0 : decode cX8_kind 0 = .ok (.aload_n 0, 1) := by decide +kernel
theorem dX8_kind_1 : decode cX8_kind 1 = .ok (.iload_n 1, 1) := by decide +kernel
theorem dX8_kind_2 : decode cX8_kind 2 = .ok (.invokevirtual 91, 3) := by decide +kernel
theorem dX8_kind_5 : decode cX8_kind 5 = .ok (.ifCond .eq 17, 3) := by decide +kernel
theorem dX8_kind_8 : decode cX8_kind 8 = .ok (.iload_n 2, 1) := by decide +kernel
theorem dX8_kind_9 : decode cX8_kind 9 = .ok (.invokestatic 194, 3) := by decide +kernel
theorem dX8_kind_12 : decode cX8_kind 12 = .ok (.ifCond .eq 10, 3) := by decide +kernel
theorem dX8_kind_15 : decode cX8_kind 15 = .ok (.iload_n 3, 1) := by decide +kernel
theorem dX8_kind_16 : decode cX8_kind 16 = .ok (.invokestatic 125, 3) := by decide +kernel
theorem dX8_kind_19 : decode cX8_kind 19 = .ok (.ifCond .ne 10, 3) := by decide +kernel
theorem dX8_kind_22 : decode cX8_kind 22 = .ok (.aload_n 0, 1) := by decide +kernel
theorem dX8_kind_23 : decode cX8_kind 23 = .ok (.ldc 44, 2) := by decide +kernel
theorem dX8_kind_25 : decode cX8_kind 25 = .ok (.invokevirtual 67, 3) := by decide +kernel
theorem dX8_kind_28 : decode cX8_kind 28 = .ok (.ireturn, 1) := by decide +kernel
theorem dX8_kind_29 : decode cX8_kind 29 = .ok (.iconst 0, 1) := by decide +kernel
theorem dX8_kind_30 : decode cX8_kind 30 = .ok (.istore 4, 2) := by decide +kernel
theorem dX8_kind_32 : decode cX8_kind 32 = .ok (.iconst (-1), 1) := by decide +kernel
theorem dX8_kind_33 : decode cX8_kind 33 = .ok (.istore 5, 2) := by decide +kernel
theorem dX8_kind_35 : decode cX8_kind 35 = .ok (.iconst 0, 1) := by decide +kernel
theorem dX8_kind_36 : decode cX8_kind 36 = .ok (.istore 6, 2) := by decide +kernel
theorem dX8_kind_38 : decode cX8_kind 38 = .ok (.iload 6, 2) := by decide +kernel
theorem dX8_kind_40 : decode cX8_kind 40 = .ok (.iconst 5, 1) := by decide +kernel
theorem dX8_kind_41 : decode cX8_kind 41 = .ok (.if_icmp .gt 75, 3) := by decide +kernel
theorem dX8_kind_44 : decode cX8_kind 44 = .ok (.aload_n 0, 1) := by decide +kernel
theorem dX8_kind_45 : decode cX8_kind 45 = .ok (.invokevirtual 188, 3) := by decide +kernel
theorem dX8_kind_48 : decode cX8_kind 48 = .ok (.aload_n 0, 1) := by decide +kernel
theorem dX8_kind_49 : decode cX8_kind 49 = .ok (.getfield 7, 3) := by decide +kernel
theorem dX8_kind_52 : decode cX8_kind 52 = .ok (.iconst 3, 1) := by decide +kernel
theorem dX8_kind_53 : decode cX8_kind 53 = .ok (.iload_n 1, 1) := by decide +kernel
theorem dX8_kind_54 : decode cX8_kind 54 = .ok (.iadd, 1) := by decide +kernel
theorem dX8_kind_55 : decode cX8_kind 55 = .ok (.iload 6, 2) := by decide +kernel
theorem dX8_kind_57 : decode cX8_kind 57 = .ok (.iastore, 1) := by decide +kernel
theorem dX8_kind_58 : decode cX8_kind 58 = .ok (.aload_n 0, 1) := by decide +kernel
theorem dX8_kind_59 : decode cX8_kind 59 = .ok (.iload_n 1, 1) := by decide +kernel
theorem dX8_kind_60 : decode cX8_kind 60 = .ok (.iload_n 2, 1) := by decide +kernel
theorem dX8_kind_61 : decode cX8_kind 61 = .ok (.iload_n 3, 1) := by decide +kernel
theorem dX8_kind_62 : decode cX8_kind 62 = .ok (.invokevirtual 201, 3) := by decide +kernel
theorem dX8_kind_65 : decode cX8_kind 65 = .ok (.istore 7, 2) := by decide +kernel
theorem dX8_kind_67 : decode cX8_kind 67 = .ok (.aload_n 0, 1) := by decide +kernel
theorem dX8_kind_68 : decode cX8_kind 68 = .ok (.aload_n 0, 1) := by decide +kernel
theorem dX8_kind_69 : decode cX8_kind 69 = .ok (.iload_n 1, 1) := by decide +kernel
theorem dX8_kind_70 : decode cX8_kind 70 = .ok (.invokevirtual 96, 3) := by decide +kernel
theorem dX8_kind_73 : decode cX8_kind 73 = .ok (.invokevirtual 191, 3) := by decide +kernel
theorem dX8_kind_76 : decode cX8_kind 76 = .ok (.istore 8, 2) := by decide +kernel
theorem dX8_kind_78 : decode cX8_kind 78 = .ok (.iload 8, 2) := by decide +kernel
theorem dX8_kind_80 : decode cX8_kind 80 = .ok (.iload 5, 2) := by decide +kernel
theorem dX8_kind_82 : decode cX8_kind 82 = .ok (.if_icmp .le 8, 3) := by decide +kernel
theorem dX8_kind_85 : decode cX8_kind 85 = .ok (.iload 6, 2) := by decide +kernel
theorem dX8_kind_87 : decode cX8_kind 87 = .ok (.goto 5, 3) := by decide +kernel
theorem dX8_kind_90 : decode cX8_kind 90 = .ok (.iload 4, 2) := by decide +kernel
theorem dX8_kind_92 : decode cX8_kind 92 = .ok (.istore 4, 2) := by decide +kernel
theorem dX8_kind_94 : decode cX8_kind 94 = .ok (.iload 8, 2) := by decide +kernel
theorem dX8_kind_96 : decode cX8_kind 96 = .ok (.iload 5, 2) := by decide +kernel
theorem dX8_kind_98 : decode cX8_kind 98 = .ok (.if_icmp .le 8, 3) := by decide +kernel
theorem dX8_kind_101 : decode cX8_kind 101 = .ok (.iload 8, 2) := by decide +kernel
theorem dX8_kind_103 : decode cX8_kind 103 = .ok (.goto 5, 3) := by decide +kernel
theorem dX8_kind_106 : decode cX8_kind 106 = .ok (.iload 5, 2) := by decide +kernel
theorem dX8_kind_108 : decode cX8_kind 108 = .ok (.istore 5, 2) := by decide +kernel
theorem dX8_kind_110 : decode cX8_kind 110 = .ok (.iinc 6 1, 3) := by decide +kernel
theorem dX8_kind_113 : decode cX8_kind 113 = .ok (.goto (-75), 3) := by decide +kernel
theorem dX8_kind_116 : decode cX8_kind 116 = .ok (.iload 4, 2) := by decide +kernel
theorem dX8_kind_118 : decode cX8_kind 118 = .ok (.ireturn, 1) := by decide +kernel
theorem dX8_best_0 : decode cX8_best 0 = .ok (.iload_n 1, 1) := by decide +kernel
theorem dX8_best_1 : decode cX8_best 1 = .ok (.invokestatic 194, 3) := by decide +kernel
theorem dX8_best_4 : decode cX8_best 4 = .ok (.ifCond .eq 10, 3) := by decide +kernel
theorem dX8_best_7 : decode cX8_best 7 = .ok (.iload_n 2, 1) := by decide +kernel
theorem dX8_best_8 : decode cX8_best 8 = .ok (.invokestatic 125, 3) := by decide +kernel
theorem dX8_best_11 : decode cX8_best 11 = .ok (.ifCond .ne 10, 3) := by decide +kernel
theorem dX8_best_14 : decode cX8_best 14 = .ok (.aload_n 0, 1) := by decide +kernel
theorem dX8_best_15 : decode cX8_best 15 = .ok (.ldc 44, 2) := by decide +kernel
theorem dX8_best_17 : decode cX8_best 17 = .ok (.invokevirtual 67, 3) := by decide +kernel
theorem dX8_best_20 : decode cX8_best 20 = .ok (.ireturn, 1) := by decide +kernel
theorem dX8_best_21 : decode cX8_best 21 = .ok (.iconst (-1), 1) := by decide +kernel
theorem dX8_best_22 : decode cX8_best 22 = .ok (.istore_n 3, 1) := by decide +kernel
theorem dX8_best_23 : decode cX8_best 23 = .ok (.iconst 0, 1) := by decide +kernel
theorem dX8_best_24 : decode cX8_best 24 = .ok (.istore 4, 2) := by decide +kernel
theorem dX8_best_26 : decode cX8_best 26 = .ok (.iconst 0, 1) := by decide +kernel
theorem dX8_best_27 : decode cX8_best 27 = .ok (.istore 5, 2) := by decide +kernel
theorem dX8_best_29 : decode cX8_best 29 = .ok (.iload 5, 2) := by decide +kernel
theorem dX8_best_31 : decode cX8_best 31 = .ok (.aload_n 0, 1) := by decide +kernel
theorem dX8_best_32 : decode cX8_best 32 = .ok (.getfield 7, 3) := by decide +kernel
theorem dX8_best_35 : decode cX8_best 35 = .ok (.iconst 0, 1) := by decide +kernel
theorem dX8_best_36 : decode cX8_best 36 = .ok (.iaload, 1) := by decide +kernel
theorem dX8_best_37 : decode cX8_best 37 = .ok (.if_icmp .ge 60, 3) := by decide +kernel
theorem dX8_best_40 : decode cX8_best 40 = .ok (.aload_n 0, 1) := by decide +kernel
theorem dX8_best_41 : decode cX8_best 41 = .ok (.invokevirtual 188, 3) := by decide +kernel
theorem dX8_best_44 : decode cX8_best 44 = .ok (.aload_n 0, 1) := by decide +kernel
theorem dX8_best_45 : decode cX8_best 45 = .ok (.aload_n 0, 1) := by decide +kernel
theorem dX8_best_46 : decode cX8_best 46 = .ok (.iload 5, 2) := by decide +kernel
theorem dX8_best_48 : decode cX8_best 48 = .ok (.iload_n 1, 1) := by decide +kernel
theorem dX8_best_49 : decode cX8_best 49 = .ok (.iload_n 2, 1) := by decide +kernel
theorem dX8_best_50 : decode cX8_best 50 = .ok (.invokevirtual 201, 3) := by decide +kernel
theorem dX8_best_53 : decode cX8_best 53 = .ok (.invokevirtual 191, 3) := by decide +kernel
theorem dX8_best_56 : decode cX8_best 56 = .ok (.istore 6, 2) := by decide +kernel
theorem dX8_best_58 : decode cX8_best 58 = .ok (.iload_n 3, 1) := by decide +kernel
theorem dX8_best_59 : decode cX8_best 59 = .ok (.ifCond .lt 10, 3) := by decide +kernel
theorem dX8_best_62 : decode cX8_best 62 = .ok (.iload 6, 2) := by decide +kernel
theorem dX8_best_64 : decode cX8_best 64 = .ok (.iload 4, 2) := by decide +kernel
theorem dX8_best_66 : decode cX8_best 66 = .ok (.if_icmp .le 8, 3) := by decide +kernel
theorem dX8_best_69 : decode cX8_best 69 = .ok (.iload 5, 2) := by decide +kernel
theorem dX8_best_71 : decode cX8_best 71 = .ok (.goto 4, 3) := by decide +kernel
theorem dX8_best_74 : decode cX8_best 74 = .ok (.iload_n 3, 1) := by decide +kernel
theorem dX8_best_75 : decode cX8_best 75 = .ok (.istore_n 3, 1) := by decide +kernel
theorem dX8_best_76 : decode cX8_best 76 = .ok (.iload_n 3, 1) := by decide +kernel
theorem dX8_best_77 : decode cX8_best 77 = .ok (.iload 5, 2) := by decide +kernel
theorem dX8_best_79 : decode cX8_best 79 = .ok (.if_icmp .ne 8, 3) := by decide +kernel
theorem dX8_best_82 : decode cX8_best 82 = .ok (.iload 6, 2) := by decide +kernel
theorem dX8_best_84 : decode cX8_best 84 = .ok (.goto 5, 3) := by decide +kernel
theorem dX8_best_87 : decode cX8_best 87 = .ok (.iload 4, 2) := by decide +kernel
theorem dX8_best_89 : decode cX8_best 89 = .ok (.istore 4, 2) := by decide +kernel
theorem dX8_best_91 : decode cX8_best 91 = .ok (.iinc 5 1, 3) := by decide +kernel
theorem dX8_best_94 : decode cX8_best 94 = .ok (.goto (-65), 3) := by decide +kernel
theorem dX8_best_97 : decode cX8_best 97 = .ok (.iload_n 3, 1) := by decide +kernel
theorem dX8_best_98 : decode cX8_best 98 = .ok (.ifCond .ge 12, 3) := by decide +kernel
theorem dX8_best_101 : decode cX8_best 101 = .ok (.aload_n 0, 1) := by decide +kernel
theorem dX8_best_102 : decode cX8_best 102 = .ok (.ldc 113, 2) := by decide +kernel
theorem dX8_best_104 : decode cX8_best 104 = .ok (.invokevirtual 67, 3) := by decide +kernel
theorem dX8_best_107 : decode cX8_best 107 = .ok (.goto 4, 3) := by decide +kernel
theorem dX8_best_110 : decode cX8_best 110 = .ok (.iload_n 3, 1) := by decide +kernel
theorem dX8_best_111 : decode cX8_best 111 = .ok (.ireturn, 1) := by decide +kernel
theorem dX8_richest_0 : decode cX8_richest 0 = .ok (.aload_n 0, 1) := by decide +kernel
theorem dX8_richest_1 : decode cX8_richest 1 = .ok (.iload_n 1, 1) := by decide +kernel
theorem dX8_richest_2 : decode cX8_richest 2 = .ok (.invokevirtual 91, 3) := by decide +kernel
theorem dX8_richest_5 : decode cX8_richest 5 = .ok (.ifCond .ne 10, 3) := by decide +kernel
theorem dX8_richest_8 : decode cX8_richest 8 = .ok (.aload_n 0, 1) := by decide +kernel
theorem dX8_richest_9 : decode cX8_richest 9 = .ok (.ldc 44, 2) := by decide +kernel
theorem dX8_richest_11 : decode cX8_richest 11 = .ok (.invokevirtual 67, 3) := by decide +kernel
theorem dX8_richest_14 : decode cX8_richest 14 = .ok (.ireturn, 1) := by decide +kernel
theorem dX8_richest_15 : decode cX8_richest 15 = .ok (.iconst (-1), 1) := by decide +kernel
theorem dX8_richest_16 : decode cX8_richest 16 = .ok (.istore_n 2, 1) := by decide +kernel
theorem dX8_richest_17 : decode cX8_richest 17 = .ok (.iconst 0, 1) := by decide +kernel
theorem dX8_richest_18 : decode cX8_richest 18 = .ok (.istore_n 3, 1) := by decide +kernel
theorem dX8_richest_19 : decode cX8_richest 19 = .ok (.iconst 0, 1) := by decide +kernel
theorem dX8_richest_20 : decode cX8_richest 20 = .ok (.istore 4, 2) := by decide +kernel
theorem dX8_richest_22 : decode cX8_richest 22 = .ok (.iload 4, 2) := by decide +kernel
theorem dX8_richest_24 : decode cX8_richest 24 = .ok (.bipush 8, 2) := by decide +kernel
theorem dX8_richest_26 : decode cX8_richest 26 = .ok (.if_icmp .ge 47, 3) := by decide +kernel
theorem dX8_richest_29 : decode cX8_richest 29 = .ok (.aload_n 0, 1) := by decide +kernel
theorem dX8_richest_30 : decode cX8_richest 30 = .ok (.iload_n 1, 1) := by decide +kernel
theorem dX8_richest_31 : decode cX8_richest 31 = .ok (.iload 4, 2) := by decide +kernel
theorem dX8_richest_33 : decode cX8_richest 33 = .ok (.invokevirtual 88, 3) := by decide +kernel
theorem dX8_richest_36 : decode cX8_richest 36 = .ok (.invokestatic 198, 3) := by decide +kernel
theorem dX8_richest_39 : decode cX8_richest 39 = .ok (.istore 5, 2) := by decide +kernel
theorem dX8_richest_41 : decode cX8_richest 41 = .ok (.iload 5, 2) := by decide +kernel
theorem dX8_richest_43 : decode cX8_richest 43 = .ok (.iload_n 3, 1) := by decide +kernel
theorem dX8_richest_44 : decode cX8_richest 44 = .ok (.if_icmp .le 8, 3) := by decide +kernel
theorem dX8_richest_47 : decode cX8_richest 47 = .ok (.iload 4, 2) := by decide +kernel
theorem dX8_richest_49 : decode cX8_richest 49 = .ok (.goto 4, 3) := by decide +kernel
theorem dX8_richest_52 : decode cX8_richest 52 = .ok (.iload_n 2, 1) := by decide +kernel
theorem dX8_richest_53 : decode cX8_richest 53 = .ok (.istore_n 2, 1) := by decide +kernel
theorem dX8_richest_54 : decode cX8_richest 54 = .ok (.iload 5, 2) := by decide +kernel
theorem dX8_richest_56 : decode cX8_richest 56 = .ok (.iload_n 3, 1) := by decide +kernel
theorem dX8_richest_57 : decode cX8_richest 57 = .ok (.if_icmp .le 8, 3) := by decide +kernel
theorem dX8_richest_60 : decode cX8_richest 60 = .ok (.iload 5, 2) := by decide +kernel
theorem dX8_richest_62 : decode cX8_richest 62 = .ok (.goto 4, 3) := by decide +kernel
theorem dX8_richest_65 : decode cX8_richest 65 = .ok (.iload_n 3, 1) := by decide +kernel
theorem dX8_richest_66 : decode cX8_richest 66 = .ok (.istore_n 3, 1) := by decide +kernel
theorem dX8_richest_67 : decode cX8_richest 67 = .ok (.iinc 4 1, 3) := by decide +kernel
theorem dX8_richest_70 : decode cX8_richest 70 = .ok (.goto (-48), 3) := by decide +kernel
theorem dX8_richest_73 : decode cX8_richest 73 = .ok (.iload_n 2, 1) := by decide +kernel
theorem dX8_richest_74 : decode cX8_richest 74 = .ok (.ifCond .ge 12, 3) := by decide +kernel
theorem dX8_richest_77 : decode cX8_richest 77 = .ok (.aload_n 0, 1) := by decide +kernel
theorem dX8_richest_78 : decode cX8_richest 78 = .ok (.ldc 113, 2) := by decide +kernel
theorem dX8_richest_80 : decode cX8_richest 80 = .ok (.invokevirtual 67, 3) := by decide +kernel
theorem dX8_richest_83 : decode cX8_richest 83 = .ok (.goto 4, 3) := by decide +kernel
theorem dX8_richest_86 : decode cX8_richest 86 = .ok (.iload_n 2, 1) := by decide +kernel
theorem dX8_richest_87 : decode cX8_richest 87 = .ok (.ireturn, 1) := by decide +kernel
theorem dX8_feed_0 : decode cX8_feed 0 = .ok (.iload_n 2, 1) := by decide +kernel
theorem dX8_feed_1 : decode cX8_feed 1 = .ok (.i2l, 1) := by decide +kernel
theorem dX8_feed_2 : decode cX8_feed 2 = .ok (.lconst 1, 1) := by decide +kernel
theorem dX8_feed_3 : decode cX8_feed 3 = .ok (.ldc2_w 94, 3) := by decide +kernel
theorem dX8_feed_6 : decode cX8_feed 6 = .ok (.invokestatic 45, 3) := by decide +kernel
theorem dX8_feed_9 : decode cX8_feed 9 = .ok (.ifCond .ne 10, 3) := by decide +kernel
theorem dX8_feed_12 : decode cX8_feed 12 = .ok (.aload_n 0, 1) := by decide +kernel
theorem dX8_feed_13 : decode cX8_feed 13 = .ok (.ldc 44, 2) := by decide +kernel
theorem dX8_feed_15 : decode cX8_feed 15 = .ok (.invokevirtual 67, 3) := by decide +kernel
theorem dX8_feed_18 : decode cX8_feed 18 = .ok (.ireturn, 1) := by decide +kernel
theorem dX8_feed_19 : decode cX8_feed 19 = .ok (.aload_n 0, 1) := by decide +kernel
theorem dX8_feed_20 : decode cX8_feed 20 = .ok (.getfield 204, 3) := by decide +kernel
theorem dX8_feed_23 : decode cX8_feed 23 = .ok (.iload_n 2, 1) := by decide +kernel
theorem dX8_feed_24 : decode cX8_feed 24 = .ok (.iadd, 1) := by decide +kernel
theorem dX8_feed_25 : decode cX8_feed 25 = .ok (.bipush 120, 2) := by decide +kernel
theorem dX8_feed_27 : decode cX8_feed 27 = .ok (.if_icmp .le 10, 3) := by decide +kernel
theorem dX8_feed_30 : decode cX8_feed 30 = .ok (.aload_n 0, 1) := by decide +kernel
theorem dX8_feed_31 : decode cX8_feed 31 = .ok (.ldc 71, 2) := by decide +kernel
theorem dX8_feed_33 : decode cX8_feed 33 = .ok (.invokevirtual 67, 3) := by decide +kernel
theorem dX8_feed_36 : decode cX8_feed 36 = .ok (.ireturn, 1) := by decide +kernel
theorem dX8_feed_37 : decode cX8_feed 37 = .ok (.iload_n 2, 1) := by decide +kernel
theorem dX8_feed_38 : decode cX8_feed 38 = .ok (.iconst 1, 1) := by decide +kernel
theorem dX8_feed_39 : decode cX8_feed 39 = .ok (.isub, 1) := by decide +kernel
theorem dX8_feed_40 : decode cX8_feed 40 = .ok (.istore_n 3, 1) := by decide +kernel
theorem dX8_feed_41 : decode cX8_feed 41 = .ok (.iload_n 3, 1) := by decide +kernel
theorem dX8_feed_42 : decode cX8_feed 42 = .ok (.ifCond .lt 38, 3) := by decide +kernel
theorem dX8_feed_45 : decode cX8_feed 45 = .ok (.aload_n 0, 1) := by decide +kernel
theorem dX8_feed_46 : decode cX8_feed 46 = .ok (.getfield 28, 3) := by decide +kernel
theorem dX8_feed_49 : decode cX8_feed 49 = .ok (.aload_n 0, 1) := by decide +kernel
theorem dX8_feed_50 : decode cX8_feed 50 = .ok (.getfield 204, 3) := by decide +kernel
theorem dX8_feed_53 : decode cX8_feed 53 = .ok (.iload_n 1, 1) := by decide +kernel
theorem dX8_feed_54 : decode cX8_feed 54 = .ok (.bipush 8, 2) := by decide +kernel
theorem dX8_feed_56 : decode cX8_feed 56 = .ok (.iload_n 3, 1) := by decide +kernel
theorem dX8_feed_57 : decode cX8_feed 57 = .ok (.imul, 1) := by decide +kernel
theorem dX8_feed_58 : decode cX8_feed 58 = .ok (.ishr, 1) := by decide +kernel
theorem dX8_feed_59 : decode cX8_feed 59 = .ok (.sipush 255, 3) := by decide +kernel
theorem dX8_feed_62 : decode cX8_feed 62 = .ok (.iand, 1) := by decide +kernel
theorem dX8_feed_63 : decode cX8_feed 63 = .ok (.iastore, 1) := by decide +kernel
theorem dX8_feed_64 : decode cX8_feed 64 = .ok (.aload_n 0, 1) := by decide +kernel
theorem dX8_feed_65 : decode cX8_feed 65 = .ok (.dup, 1) := by decide +kernel
theorem dX8_feed_66 : decode cX8_feed 66 = .ok (.getfield 204, 3) := by decide +kernel
theorem dX8_feed_69 : decode cX8_feed 69 = .ok (.iconst 1, 1) := by decide +kernel
theorem dX8_feed_70 : decode cX8_feed 70 = .ok (.iadd, 1) := by decide +kernel
theorem dX8_feed_71 : decode cX8_feed 71 = .ok (.putfield 204, 3) := by decide +kernel
theorem dX8_feed_74 : decode cX8_feed 74 = .ok (.iinc 3 (-1), 3) := by decide +kernel
theorem dX8_feed_77 : decode cX8_feed 77 = .ok (.goto (-36), 3) := by decide +kernel
theorem dX8_feed_80 : decode cX8_feed 80 = .ok (.aload_n 0, 1) := by decide +kernel
theorem dX8_feed_81 : decode cX8_feed 81 = .ok (.getfield 204, 3) := by decide +kernel
theorem dX8_feed_84 : decode cX8_feed 84 = .ok (.ireturn, 1) := by decide +kernel
theorem dX8_wipe_0 : decode cX8_wipe 0 = .ok (.aload_n 0, 1) := by decide +kernel
theorem dX8_wipe_1 : decode cX8_wipe 1 = .ok (.getfield 204, 3) := by decide +kernel
theorem dX8_wipe_4 : decode cX8_wipe 4 = .ok (.istore_n 1, 1) := by decide +kernel
theorem dX8_wipe_5 : decode cX8_wipe 5 = .ok (.aload_n 0, 1) := by decide +kernel
theorem dX8_wipe_6 : decode cX8_wipe 6 = .ok (.iconst 0, 1) := by decide +kernel
theorem dX8_wipe_7 : decode cX8_wipe 7 = .ok (.putfield 204, 3) := by decide +kernel
theorem dX8_wipe_10 : decode cX8_wipe 10 = .ok (.iload_n 1, 1) := by decide +kernel
theorem dX8_wipe_11 : decode cX8_wipe 11 = .ok (.ireturn, 1) := by decide +kernel
theorem dX8_byteAt_0 : decode cX8_byteAt 0 = .ok (.iload_n 1, 1) := by decide +kernel
theorem dX8_byteAt_1 : decode cX8_byteAt 1 = .ok (.aload_n 0, 1) := by decide +kernel
theorem dX8_byteAt_2 : decode cX8_byteAt 2 = .ok (.getfield 204, 3) := by decide +kernel
theorem dX8_byteAt_5 : decode cX8_byteAt 5 = .ok (.if_icmp .ge 12, 3) := by decide +kernel
theorem dX8_byteAt_8 : decode cX8_byteAt 8 = .ok (.aload_n 0, 1) := by decide +kernel
theorem dX8_byteAt_9 : decode cX8_byteAt 9 = .ok (.getfield 28, 3) := by decide +kernel
theorem dX8_byteAt_12 : decode cX8_byteAt 12 = .ok (.iload_n 1, 1) := by decide +kernel
theorem dX8_byteAt_13 : decode cX8_byteAt 13 = .ok (.iaload, 1) := by decide +kernel
theorem dX8_byteAt_14 : decode cX8_byteAt 14 = .ok (.goto 4, 3) := by decide +kernel
theorem dX8_byteAt_17 : decode cX8_byteAt 17 = .ok (.iconst (-1), 1) := by decide +kernel
theorem dX8_byteAt_18 : decode cX8_byteAt 18 = .ok (.ireturn, 1) := by decide +kernel
theorem dX8_isLetter_0 : decode cX8_isLetter 0 = .ok (.iload_n 0, 1) := by decide +kernel
theorem dX8_isLetter_1 : decode cX8_isLetter 1 = .ok (.i2l, 1) := by decide +kernel
theorem dX8_isLetter_2 : decode cX8_isLetter 2 = .ok (.ldc2_w 207, 3) := by decide +kernel
theorem dX8_isLetter_5 : decode cX8_isLetter 5 = .ok (.ldc2_w 209, 3) := by decide +kernel
theorem dX8_isLetter_8 : decode cX8_isLetter 8 = .ok (.invokestatic 45, 3) := by decide +kernel
theorem dX8_isLetter_11 : decode cX8_isLetter 11 = .ok (.ireturn, 1) := by decide +kernel
theorem dX8_isDigit_0 : decode cX8_isDigit 0 = .ok (.iload_n 0, 1) := by decide +kernel
theorem dX8_isDigit_1 : decode cX8_isDigit 1 = .ok (.i2l, 1) := by decide +kernel
theorem dX8_isDigit_2 : decode cX8_isDigit 2 = .ok (.ldc2_w 211, 3) := by decide +kernel
theorem dX8_isDigit_5 : decode cX8_isDigit 5 = .ok (.ldc2_w 213, 3) := by decide +kernel
theorem dX8_isDigit_8 : decode cX8_isDigit 8 = .ok (.invokestatic 45, 3) := by decide +kernel
theorem dX8_isDigit_11 : decode cX8_isDigit 11 = .ok (.ireturn, 1) := by decide +kernel
theorem dX8_token_0 : decode cX8_token 0 = .ok (.aload_n 0, 1) := by decide +kernel
theorem dX8_token_1 : decode cX8_token 1 = .ok (.aload_n 0, 1) := by decide +kernel
theorem dX8_token_2 : decode cX8_token 2 = .ok (.getfield 215, 3) := by decide +kernel
theorem dX8_token_5 : decode cX8_token 5 = .ok (.putfield 218, 3) := by decide +kernel
theorem dX8_token_8 : decode cX8_token 8 = .ok (.aload_n 0, 1) := by decide +kernel
theorem dX8_token_9 : decode cX8_token 9 = .ok (.aload_n 0, 1) := by decide +kernel
theorem dX8_token_10 : decode cX8_token 10 = .ok (.getfield 218, 3) := by decide +kernel
theorem dX8_token_13 : decode cX8_token 13 = .ok (.invokevirtual 221, 3) := by decide +kernel
theorem dX8_token_16 : decode cX8_token 16 = .ok (.bipush 32, 2) := by decide +kernel
theorem dX8_token_18 : decode cX8_token 18 = .ok (.if_icmp .ne 16, 3) := by decide +kernel
theorem dX8_token_21 : decode cX8_token 21 = .ok (.aload_n 0, 1) := by decide +kernel
theorem dX8_token_22 : decode cX8_token 22 = .ok (.dup, 1) := by decide +kernel
theorem dX8_token_23 : decode cX8_token 23 = .ok (.getfield 218, 3) := by decide +kernel
theorem dX8_token_26 : decode cX8_token 26 = .ok (.iconst 1, 1) := by decide +kernel
theorem dX8_token_27 : decode cX8_token 27 = .ok (.iadd, 1) := by decide +kernel
theorem dX8_token_28 : decode cX8_token 28 = .ok (.putfield 218, 3) := by decide +kernel
theorem dX8_token_31 : decode cX8_token 31 = .ok (.goto (-23), 3) := by decide +kernel
theorem dX8_token_34 : decode cX8_token 34 = .ok (.aload_n 0, 1) := by decide +kernel
theorem dX8_token_35 : decode cX8_token 35 = .ok (.aload_n 0, 1) := by decide +kernel
theorem dX8_token_36 : decode cX8_token 36 = .ok (.getfield 218, 3) := by decide +kernel
theorem dX8_token_39 : decode cX8_token 39 = .ok (.invokevirtual 221, 3) := by decide +kernel
theorem dX8_token_42 : decode cX8_token 42 = .ok (.invokestatic 224, 3) := by decide +kernel
theorem dX8_token_45 : decode cX8_token 45 = .ok (.istore_n 1, 1) := by decide +kernel
theorem dX8_token_46 : decode cX8_token 46 = .ok (.aload_n 0, 1) := by decide +kernel
theorem dX8_token_47 : decode cX8_token 47 = .ok (.aload_n 0, 1) := by decide +kernel
theorem dX8_token_48 : decode cX8_token 48 = .ok (.getfield 218, 3) := by decide +kernel
theorem dX8_token_51 : decode cX8_token 51 = .ok (.invokevirtual 221, 3) := by decide +kernel
theorem dX8_token_54 : decode cX8_token 54 = .ok (.invokestatic 227, 3) := by decide +kernel
theorem dX8_token_57 : decode cX8_token 57 = .ok (.istore_n 2, 1) := by decide +kernel
theorem dX8_token_58 : decode cX8_token 58 = .ok (.aload_n 0, 1) := by decide +kernel
theorem dX8_token_59 : decode cX8_token 59 = .ok (.aload_n 0, 1) := by decide +kernel
theorem dX8_token_60 : decode cX8_token 60 = .ok (.getfield 218, 3) := by decide +kernel
theorem dX8_token_63 : decode cX8_token 63 = .ok (.aload_n 0, 1) := by decide +kernel
theorem dX8_token_64 : decode cX8_token 64 = .ok (.getfield 204, 3) := by decide +kernel
theorem dX8_token_67 : decode cX8_token 67 = .ok (.if_icmp .ge 12, 3) := by decide +kernel
theorem dX8_token_70 : decode cX8_token 70 = .ok (.aload_n 0, 1) := by decide +kernel
theorem dX8_token_71 : decode cX8_token 71 = .ok (.getfield 218, 3) := by decide +kernel
theorem dX8_token_74 : decode cX8_token 74 = .ok (.iconst 1, 1) := by decide +kernel
theorem dX8_token_75 : decode cX8_token 75 = .ok (.iadd, 1) := by decide +kernel
theorem dX8_token_76 : decode cX8_token 76 = .ok (.goto 7, 3) := by decide +kernel
theorem dX8_token_79 : decode cX8_token 79 = .ok (.aload_n 0, 1) := by decide +kernel
theorem dX8_token_80 : decode cX8_token 80 = .ok (.getfield 218, 3) := by decide +kernel
theorem dX8_token_83 : decode cX8_token 83 = .ok (.putfield 215, 3) := by decide +kernel
theorem dX8_token_86 : decode cX8_token 86 = .ok (.iload_n 1, 1) := by decide +kernel
theorem dX8_token_87 : decode cX8_token 87 = .ok (.ifCond .eq 17, 3) := by decide +kernel
theorem dX8_token_90 : decode cX8_token 90 = .ok (.aload_n 0, 1) := by decide +kernel
theorem dX8_token_91 : decode cX8_token 91 = .ok (.aload_n 0, 1) := by decide +kernel
theorem dX8_token_92 : decode cX8_token 92 = .ok (.getfield 215, 3) := by decide +kernel
theorem dX8_token_95 : decode cX8_token 95 = .ok (.invokevirtual 221, 3) := by decide +kernel
theorem dX8_token_98 : decode cX8_token 98 = .ok (.invokestatic 224, 3) := by decide +kernel
theorem dX8_token_101 : decode cX8_token 101 = .ok (.ifCond .ne 21, 3) := by decide +kernel
theorem dX8_token_104 : decode cX8_token 104 = .ok (.iload_n 2, 1) := by decide +kernel
theorem dX8_token_105 : decode cX8_token 105 = .ok (.ifCond .eq 30, 3) := by decide +kernel
theorem dX8_token_108 : decode cX8_token 108 = .ok (.aload_n 0, 1) := by decide +kernel
theorem dX8_token_109 : decode cX8_token 109 = .ok (.aload_n 0, 1) := by decide +kernel
theorem dX8_token_110 : decode cX8_token 110 = .ok (.getfield 215, 3) := by decide +kernel
theorem dX8_token_113 : decode cX8_token 113 = .ok (.invokevirtual 221, 3) := by decide +kernel
theorem dX8_token_116 : decode cX8_token 116 = .ok (.invokestatic 227, 3) := by decide +kernel
theorem dX8_token_119 : decode cX8_token 119 = .ok (.ifCond .eq 16, 3) := by decide +kernel
theorem dX8_token_122 : decode cX8_token 122 = .ok (.aload_n 0, 1) := by decide +kernel
theorem dX8_token_123 : decode cX8_token 123 = .ok (.dup, 1) := by decide +kernel
theorem dX8_token_124 : decode cX8_token 124 = .ok (.getfield 215, 3) := by decide +kernel
theorem dX8_token_127 : decode cX8_token 127 = .ok (.iconst 1, 1) := by decide +kernel
theorem dX8_token_128 : decode cX8_token 128 = .ok (.iadd, 1) := by decide +kernel
theorem dX8_token_129 : decode cX8_token 129 = .ok (.putfield 215, 3) := by decide +kernel
theorem dX8_token_132 : decode cX8_token 132 = .ok (.goto (-46), 3) := by decide +kernel
theorem dX8_token_135 : decode cX8_token 135 = .ok (.return_, 1) := by decide +kernel
theorem dX8_must_0 : decode cX8_must 0 = .ok (.aload_n 0, 1) := by decide +kernel
theorem dX8_must_1 : decode cX8_must 1 = .ok (.aload_n 0, 1) := by decide +kernel
theorem dX8_must_2 : decode cX8_must 2 = .ok (.getfield 230, 3) := by decide +kernel
theorem dX8_must_5 : decode cX8_must 5 = .ok (.ifCond .ne 7, 3) := by decide +kernel
theorem dX8_must_8 : decode cX8_must 8 = .ok (.iload_n 1, 1) := by decide +kernel
theorem dX8_must_9 : decode cX8_must 9 = .ok (.ifCond .ne 7, 3) := by decide +kernel
theorem dX8_must_12 : decode cX8_must 12 = .ok (.iconst 1, 1) := by decide +kernel
theorem dX8_must_13 : decode cX8_must 13 = .ok (.goto 4, 3) := by decide +kernel
theorem dX8_must_16 : decode cX8_must 16 = .ok (.iconst 0, 1) := by decide +kernel
theorem dX8_must_17 : decode cX8_must 17 = .ok (.putfield 230, 3) := by decide +kernel
theorem dX8_must_20 : decode cX8_must 20 = .ok (.aload_n 0, 1) := by decide +kernel
theorem dX8_must_21 : decode cX8_must 21 = .ok (.getfield 230, 3) := by decide +kernel
theorem dX8_must_24 : decode cX8_must 24 = .ok (.ifCond .ne 7, 3) := by decide +kernel
theorem dX8_must_27 : decode cX8_must 27 = .ok (.aload_n 0, 1) := by decide +kernel
theorem dX8_must_28 : decode cX8_must 28 = .ok (.invokevirtual 234, 3) := by decide +kernel
theorem dX8_must_31 : decode cX8_must 31 = .ok (.return_, 1) := by decide +kernel
theorem dX8_word_0 : decode cX8_word 0 = .ok (.lconst 0, 1) := by decide +kernel
theorem dX8_word_1 : decode cX8_word 1 = .ok (.lstore_n 1, 1) := by decide +kernel
theorem dX8_word_2 : decode cX8_word 2 = .ok (.aload_n 0, 1) := by decide +kernel
theorem dX8_word_3 : decode cX8_word 3 = .ok (.getfield 218, 3) := by decide +kernel
theorem dX8_word_6 : decode cX8_word 6 = .ok (.istore_n 3, 1) := by decide +kernel
theorem dX8_word_7 : decode cX8_word 7 = .ok (.iload_n 3, 1) := by decide +kernel
theorem dX8_word_8 : decode cX8_word 8 = .ok (.aload_n 0, 1) := by decide +kernel
theorem dX8_word_9 : decode cX8_word 9 = .ok (.getfield 215, 3) := by decide +kernel
theorem dX8_word_12 : decode cX8_word 12 = .ok (.if_icmp .ge 38, 3) := by decide +kernel
theorem dX8_word_15 : decode cX8_word 15 = .ok (.lload_n 1, 1) := by decide +kernel
theorem dX8_word_16 : decode cX8_word 16 = .ok (.ldc2_w 237, 3) := by decide +kernel
theorem dX8_word_19 : decode cX8_word 19 = .ok (.lcmp, 1) := by decide +kernel
theorem dX8_word_20 : decode cX8_word 20 = .ok (.ifCond .le 7, 3) := by decide +kernel
theorem dX8_word_23 : decode cX8_word 23 = .ok (.lload_n 1, 1) := by decide +kernel
theorem dX8_word_24 : decode cX8_word 24 = .ok (.goto 19, 3) := by decide +kernel
theorem dX8_word_27 : decode cX8_word 27 = .ok (.ldc2_w 239, 3) := by decide +kernel
theorem dX8_word_30 : decode cX8_word 30 = .ok (.lload_n 1, 1) := by decide +kernel
theorem dX8_word_31 : decode cX8_word 31 = .ok (.lmul, 1) := by decide +kernel
theorem dX8_word_32 : decode cX8_word 32 = .ok (.aload_n 0, 1) := by decide +kernel
theorem dX8_word_33 : decode cX8_word 33 = .ok (.getfield 28, 3) := by decide +kernel
theorem dX8_word_36 : decode cX8_word 36 = .ok (.iload_n 3, 1) := by decide +kernel
theorem dX8_word_37 : decode cX8_word 37 = .ok (.iaload, 1) := by decide +kernel
theorem dX8_word_38 : decode cX8_word 38 = .ok (.bipush 96, 2) := by decide +kernel
theorem dX8_word_40 : decode cX8_word 40 = .ok (.isub, 1) := by decide +kernel
theorem dX8_word_41 : decode cX8_word 41 = .ok (.i2l, 1) := by decide +kernel
theorem dX8_word_42 : decode cX8_word 42 = .ok (.ladd, 1) := by decide +kernel
theorem dX8_word_43 : decode cX8_word 43 = .ok (.lstore_n 1, 1) := by decide +kernel
theorem dX8_word_44 : decode cX8_word 44 = .ok (.iinc 3 1, 3) := by decide +kernel
theorem dX8_word_47 : decode cX8_word 47 = .ok (.goto (-40), 3) := by decide +kernel
theorem dX8_word_50 : decode cX8_word 50 = .ok (.aload_n 0, 1) := by decide +kernel
theorem dX8_word_51 : decode cX8_word 51 = .ok (.getfield 230, 3) := by decide +kernel
theorem dX8_word_54 : decode cX8_word 54 = .ok (.ifCond .ne 17, 3) := by decide +kernel
theorem dX8_word_57 : decode cX8_word 57 = .ok (.aload_n 0, 1) := by decide +kernel
theorem dX8_word_58 : decode cX8_word 58 = .ok (.aload_n 0, 1) := by decide +kernel
theorem dX8_word_59 : decode cX8_word 59 = .ok (.getfield 218, 3) := by decide +kernel
theorem dX8_word_62 : decode cX8_word 62 = .ok (.invokevirtual 221, 3) := by decide +kernel
theorem dX8_word_65 : decode cX8_word 65 = .ok (.invokestatic 224, 3) := by decide +kernel
theorem dX8_word_68 : decode cX8_word 68 = .ok (.ifCond .ne 7, 3) := by decide +kernel
theorem dX8_word_71 : decode cX8_word 71 = .ok (.lconst 0, 1) := by decide +kernel
theorem dX8_word_72 : decode cX8_word 72 = .ok (.goto 4, 3) := by decide +kernel
theorem dX8_word_75 : decode cX8_word 75 = .ok (.lload_n 1, 1) := by decide +kernel
theorem dX8_word_76 : decode cX8_word 76 = .ok (.lreturn, 1) := by decide +kernel
theorem dX8_number_0 : decode cX8_number 0 = .ok (.aload_n 0, 1) := by decide +kernel
theorem dX8_number_1 : decode cX8_number 1 = .ok (.getfield 230, 3) := by decide +kernel
theorem dX8_number_4 : decode cX8_number 4 = .ok (.ifCond .eq 4, 3) := by decide +kernel
theorem dX8_number_7 : decode cX8_number 7 = .ok (.return_, 1) := by decide +kernel
theorem dX8_number_8 : decode cX8_number 8 = .ok (.aload_n 0, 1) := by decide +kernel
theorem dX8_number_9 : decode cX8_number 9 = .ok (.aload_n 0, 1) := by decide +kernel
theorem dX8_number_10 : decode cX8_number 10 = .ok (.getfield 218, 3) := by decide +kernel
theorem dX8_number_13 : decode cX8_number 13 = .ok (.invokevirtual 221, 3) := by decide +kernel
theorem dX8_number_16 : decode cX8_number 16 = .ok (.invokestatic 227, 3) := by decide +kernel
theorem dX8_number_19 : decode cX8_number 19 = .ok (.istore_n 3, 1) := by decide +kernel
theorem dX8_number_20 : decode cX8_number 20 = .ok (.iconst 0, 1) := by decide +kernel
theorem dX8_number_21 : decode cX8_number 21 = .ok (.istore 4, 2) := by decide +kernel
theorem dX8_number_23 : decode cX8_number 23 = .ok (.aload_n 0, 1) := by decide +kernel
theorem dX8_number_24 : decode cX8_number 24 = .ok (.getfield 218, 3) := by decide +kernel
theorem dX8_number_27 : decode cX8_number 27 = .ok (.istore 5, 2) := by decide +kernel
theorem dX8_number_29 : decode cX8_number 29 = .ok (.iload 5, 2) := by decide +kernel
theorem dX8_number_31 : decode cX8_number 31 = .ok (.aload_n 0, 1) := by decide +kernel
theorem dX8_number_32 : decode cX8_number 32 = .ok (.getfield 215, 3) := by decide +kernel
theorem dX8_number_35 : decode cX8_number 35 = .ok (.if_icmp .ge 44, 3) := by decide +kernel
theorem dX8_number_38 : decode cX8_number 38 = .ok (.iload_n 3, 1) := by decide +kernel
theorem dX8_number_39 : decode cX8_number 39 = .ok (.ifCond .eq 40, 3) := by decide +kernel
theorem dX8_number_42 : decode cX8_number 42 = .ok (.iload 4, 2) := by decide +kernel
theorem dX8_number_44 : decode cX8_number 44 = .ok (.sipush 999, 3) := by decide +kernel
theorem dX8_number_47 : decode cX8_number 47 = .ok (.if_icmp .le 8, 3) := by decide +kernel
theorem dX8_number_50 : decode cX8_number 50 = .ok (.iload 4, 2) := by decide +kernel
theorem dX8_number_52 : decode cX8_number 52 = .ok (.goto 19, 3) := by decide +kernel
theorem dX8_number_55 : decode cX8_number 55 = .ok (.bipush 10, 2) := by decide +kernel
theorem dX8_number_57 : decode cX8_number 57 = .ok (.iload 4, 2) := by decide +kernel
theorem dX8_number_59 : decode cX8_number 59 = .ok (.imul, 1) := by decide +kernel
theorem dX8_number_60 : decode cX8_number 60 = .ok (.aload_n 0, 1) := by decide +kernel
theorem dX8_number_61 : decode cX8_number 61 = .ok (.getfield 28, 3) := by decide +kernel
theorem dX8_number_64 : decode cX8_number 64 = .ok (.iload 5, 2) := by decide +kernel
theorem dX8_number_66 : decode cX8_number 66 = .ok (.iaload, 1) := by decide +kernel
theorem dX8_number_67 : decode cX8_number 67 = .ok (.iadd, 1) := by decide +kernel
theorem dX8_number_68 : decode cX8_number 68 = .ok (.bipush 48, 2) := by decide +kernel
theorem dX8_number_70 : decode cX8_number 70 = .ok (.isub, 1) := by decide +kernel
theorem dX8_number_71 : decode cX8_number 71 = .ok (.istore 4, 2) := by decide +kernel
theorem dX8_number_73 : decode cX8_number 73 = .ok (.iinc 5 1, 3) := by decide +kernel
theorem dX8_number_76 : decode cX8_number 76 = .ok (.goto (-47), 3) := by decide +kernel
theorem dX8_number_79 : decode cX8_number 79 = .ok (.aload_n 0, 1) := by decide +kernel
theorem dX8_number_80 : decode cX8_number 80 = .ok (.iload 4, 2) := by decide +kernel
theorem dX8_number_82 : decode cX8_number 82 = .ok (.putfield 241, 3) := by decide +kernel
theorem dX8_number_85 : decode cX8_number 85 = .ok (.aload_n 0, 1) := by decide +kernel
theorem dX8_number_86 : decode cX8_number 86 = .ok (.iload_n 3, 1) := by decide +kernel
theorem dX8_number_87 : decode cX8_number 87 = .ok (.ifCond .eq 20, 3) := by decide +kernel
theorem dX8_number_90 : decode cX8_number 90 = .ok (.iload 4, 2) := by decide +kernel
theorem dX8_number_92 : decode cX8_number 92 = .ok (.i2l, 1) := by decide +kernel
theorem dX8_number_93 : decode cX8_number 93 = .ok (.iload_n 1, 1) := by decide +kernel
theorem dX8_number_94 : decode cX8_number 94 = .ok (.i2l, 1) := by decide +kernel
theorem dX8_number_95 : decode cX8_number 95 = .ok (.iload_n 2, 1) := by decide +kernel
theorem dX8_number_96 : decode cX8_number 96 = .ok (.i2l, 1) := by decide +kernel
theorem dX8_number_97 : decode cX8_number 97 = .ok (.invokestatic 45, 3) := by decide +kernel
theorem dX8_number_100 : decode cX8_number 100 = .ok (.ifCond .eq 7, 3) := by decide +kernel
theorem dX8_number_103 : decode cX8_number 103 = .ok (.iconst 1, 1) := by decide +kernel
theorem dX8_number_104 : decode cX8_number 104 = .ok (.goto 4, 3) := by decide +kernel
theorem dX8_number_107 : decode cX8_number 107 = .ok (.iconst 0, 1) := by decide +kernel
theorem dX8_number_108 : decode cX8_number 108 = .ok (.invokevirtual 244, 3) := by decide +kernel
theorem dX8_number_111 : decode cX8_number 111 = .ok (.return_, 1) := by decide +kernel
theorem dX8_kindHere_0 : decode cX8_kindHere 0 = .ok (.aload_n 0, 1) := by decide +kernel
theorem dX8_kindHere_1 : decode cX8_kindHere 1 = .ok (.invokevirtual 248, 3) := by decide +kernel
theorem dX8_kindHere_4 : decode cX8_kindHere 4 = .ok (.lstore_n 1, 1) := by decide +kernel
theorem dX8_kindHere_5 : decode cX8_kindHere 5 = .ok (.lload_n 1, 1) := by decide +kernel
theorem dX8_kindHere_6 : decode cX8_kindHere 6 = .ok (.ldc2_w 252, 3) := by decide +kernel
theorem dX8_kindHere_9 : decode cX8_kindHere 9 = .ok (.lcmp, 1) := by decide +kernel
theorem dX8_kindHere_10 : decode cX8_kindHere 10 = .ok (.ifCond .ne 7, 3) := by decide +kernel
theorem dX8_kindHere_13 : decode cX8_kindHere 13 = .ok (.iconst 0, 1) := by decide +kernel
theorem dX8_kindHere_14 : decode cX8_kindHere 14 = .ok (.goto 64, 3) := by decide +kernel
theorem dX8_kindHere_17 : decode cX8_kindHere 17 = .ok (.lload_n 1, 1) := by decide +kernel
theorem dX8_kindHere_18 : decode cX8_kindHere 18 = .ok (.ldc2_w 254, 3) := by decide +kernel
theorem dX8_kindHere_21 : decode cX8_kindHere 21 = .ok (.lcmp, 1) := by decide +kernel
theorem dX8_kindHere_22 : decode cX8_kindHere 22 = .ok (.ifCond .ne 7, 3) := by decide +kernel
theorem dX8_kindHere_25 : decode cX8_kindHere 25 = .ok (.iconst 1, 1) := by decide +kernel
theorem dX8_kindHere_26 : decode cX8_kindHere 26 = .ok (.goto 52, 3) := by decide +kernel
theorem dX8_kindHere_29 : decode cX8_kindHere 29 = .ok (.lload_n 1, 1) := by decide +kernel
theorem dX8_kindHere_30 : decode cX8_kindHere 30 = .ok (.ldc2_w 256, 3) := by decide +kernel
theorem dX8_kindHere_33 : decode cX8_kindHere 33 = .ok (.lcmp, 1) := by decide +kernel
theorem dX8_kindHere_34 : decode cX8_kindHere 34 = .ok (.ifCond .ne 7, 3) := by decide +kernel
theorem dX8_kindHere_37 : decode cX8_kindHere 37 = .ok (.iconst 2, 1) := by decide +kernel
theorem dX8_kindHere_38 : decode cX8_kindHere 38 = .ok (.goto 40, 3) := by decide +kernel
theorem dX8_kindHere_41 : decode cX8_kindHere 41 = .ok (.lload_n 1, 1) := by decide +kernel
theorem dX8_kindHere_42 : decode cX8_kindHere 42 = .ok (.ldc2_w 258, 3) := by decide +kernel
theorem dX8_kindHere_45 : decode cX8_kindHere 45 = .ok (.lcmp, 1) := by decide +kernel
theorem dX8_kindHere_46 : decode cX8_kindHere 46 = .ok (.ifCond .ne 7, 3) := by decide +kernel
theorem dX8_kindHere_49 : decode cX8_kindHere 49 = .ok (.iconst 3, 1) := by decide +kernel
theorem dX8_kindHere_50 : decode cX8_kindHere 50 = .ok (.goto 28, 3) := by decide +kernel
theorem dX8_kindHere_53 : decode cX8_kindHere 53 = .ok (.lload_n 1, 1) := by decide +kernel
theorem dX8_kindHere_54 : decode cX8_kindHere 54 = .ok (.ldc2_w 260, 3) := by decide +kernel
theorem dX8_kindHere_57 : decode cX8_kindHere 57 = .ok (.lcmp, 1) := by decide +kernel
theorem dX8_kindHere_58 : decode cX8_kindHere 58 = .ok (.ifCond .ne 7, 3) := by decide +kernel
theorem dX8_kindHere_61 : decode cX8_kindHere 61 = .ok (.iconst 4, 1) := by decide +kernel
theorem dX8_kindHere_62 : decode cX8_kindHere 62 = .ok (.goto 16, 3) := by decide +kernel
theorem dX8_kindHere_65 : decode cX8_kindHere 65 = .ok (.lload_n 1, 1) := by decide +kernel
theorem dX8_kindHere_66 : decode cX8_kindHere 66 = .ok (.ldc2_w 262, 3) := by decide +kernel
theorem dX8_kindHere_69 : decode cX8_kindHere 69 = .ok (.lcmp, 1) := by decide +kernel
theorem dX8_kindHere_70 : decode cX8_kindHere 70 = .ok (.ifCond .ne 7, 3) := by decide +kernel
theorem dX8_kindHere_73 : decode cX8_kindHere 73 = .ok (.iconst 5, 1) := by decide +kernel
theorem dX8_kindHere_74 : decode cX8_kindHere 74 = .ok (.goto 4, 3) := by decide +kernel
theorem dX8_kindHere_77 : decode cX8_kindHere 77 = .ok (.iconst (-1), 1) := by decide +kernel
theorem dX8_kindHere_78 : decode cX8_kindHere 78 = .ok (.ireturn, 1) := by decide +kernel
theorem dX8_flueItem_0 : decode cX8_flueItem 0 = .ok (.aload_n 0, 1) := by decide +kernel
theorem dX8_flueItem_1 : decode cX8_flueItem 1 = .ok (.aload_n 0, 1) := by decide +kernel
theorem dX8_flueItem_2 : decode cX8_flueItem 2 = .ok (.getfield 7, 3) := by decide +kernel
theorem dX8_flueItem_5 : decode cX8_flueItem 5 = .ok (.iconst 0, 1) := by decide +kernel
theorem dX8_flueItem_6 : decode cX8_flueItem 6 = .ok (.iaload, 1) := by decide +kernel
theorem dX8_flueItem_7 : decode cX8_flueItem 7 = .ok (.bipush 6, 2) := by decide +kernel
theorem dX8_flueItem_9 : decode cX8_flueItem 9 = .ok (.if_icmp .ge 7, 3) := by decide +kernel
theorem dX8_flueItem_12 : decode cX8_flueItem 12 = .ok (.iconst 1, 1) := by decide +kernel
theorem dX8_flueItem_13 : decode cX8_flueItem 13 = .ok (.goto 4, 3) := by decide +kernel
theorem dX8_flueItem_16 : decode cX8_flueItem 16 = .ok (.iconst 0, 1) := by decide +kernel
theorem dX8_flueItem_17 : decode cX8_flueItem 17 = .ok (.invokevirtual 244, 3) := by decide +kernel
theorem dX8_flueItem_20 : decode cX8_flueItem 20 = .ok (.aload_n 0, 1) := by decide +kernel
theorem dX8_flueItem_21 : decode cX8_flueItem 21 = .ok (.getfield 230, 3) := by decide +kernel
theorem dX8_flueItem_24 : decode cX8_flueItem 24 = .ok (.ifCond .ne 9, 3) := by decide +kernel
theorem dX8_flueItem_27 : decode cX8_flueItem 27 = .ok (.aload_n 0, 1) := by decide +kernel
theorem dX8_flueItem_28 : decode cX8_flueItem 28 = .ok (.iload_n 1, 1) := by decide +kernel
theorem dX8_flueItem_29 : decode cX8_flueItem 29 = .ok (.invokevirtual 72, 3) := by decide +kernel
theorem dX8_flueItem_32 : decode cX8_flueItem 32 = .ok (.istore_n 2, 1) := by decide +kernel
theorem dX8_flueItem_33 : decode cX8_flueItem 33 = .ok (.return_, 1) := by decide +kernel
theorem dX8_perhaps_0 : decode cX8_perhaps 0 = .ok (.aload_n 0, 1) := by decide +kernel
theorem dX8_perhaps_1 : decode cX8_perhaps 1 = .ok (.invokevirtual 248, 3) := by decide +kernel
theorem dX8_perhaps_4 : decode cX8_perhaps 4 = .ok (.lload_n 1, 1) := by decide +kernel
theorem dX8_perhaps_5 : decode cX8_perhaps 5 = .ok (.lcmp, 1) := by decide +kernel
theorem dX8_perhaps_6 : decode cX8_perhaps 6 = .ok (.ifCond .eq 5, 3) := by decide +kernel
theorem dX8_perhaps_9 : decode cX8_perhaps 9 = .ok (.iload_n 3, 1) := by decide +kernel
theorem dX8_perhaps_10 : decode cX8_perhaps 10 = .ok (.ireturn, 1) := by decide +kernel
theorem dX8_perhaps_11 : decode cX8_perhaps 11 = .ok (.aload_n 0, 1) := by decide +kernel
theorem dX8_perhaps_12 : decode cX8_perhaps 12 = .ok (.iconst 1, 1) := by decide +kernel
theorem dX8_perhaps_13 : decode cX8_perhaps 13 = .ok (.invokevirtual 244, 3) := by decide +kernel
theorem dX8_perhaps_16 : decode cX8_perhaps 16 = .ok (.aload_n 0, 1) := by decide +kernel
theorem dX8_perhaps_17 : decode cX8_perhaps 17 = .ok (.iconst 0, 1) := by decide +kernel
theorem dX8_perhaps_18 : decode cX8_perhaps 18 = .ok (.bipush 9, 2) := by decide +kernel
theorem dX8_perhaps_20 : decode cX8_perhaps 20 = .ok (.invokevirtual 264, 3) := by decide +kernel
theorem dX8_perhaps_23 : decode cX8_perhaps 23 = .ok (.aload_n 0, 1) := by decide +kernel
theorem dX8_perhaps_24 : decode cX8_perhaps 24 = .ok (.getfield 241, 3) := by decide +kernel
theorem dX8_perhaps_27 : decode cX8_perhaps 27 = .ok (.ireturn, 1) := by decide +kernel
theorem dX8_sayItem_0 : decode cX8_sayItem 0 = .ok (.aload_n 0, 1) := by decide +kernel
theorem dX8_sayItem_1 : decode cX8_sayItem 1 = .ok (.iconst 1, 1) := by decide +kernel
theorem dX8_sayItem_2 : decode cX8_sayItem 2 = .ok (.invokevirtual 244, 3) := by decide +kernel
theorem dX8_sayItem_5 : decode cX8_sayItem 5 = .ok (.aload_n 0, 1) := by decide +kernel
theorem dX8_sayItem_6 : decode cX8_sayItem 6 = .ok (.iconst 0, 1) := by decide +kernel
theorem dX8_sayItem_7 : decode cX8_sayItem 7 = .ok (.aload_n 0, 1) := by decide +kernel
theorem dX8_sayItem_8 : decode cX8_sayItem 8 = .ok (.getfield 7, 3) := by decide +kernel
theorem dX8_sayItem_11 : decode cX8_sayItem 11 = .ok (.iconst 0, 1) := by decide +kernel
theorem dX8_sayItem_12 : decode cX8_sayItem 12 = .ok (.iaload, 1) := by decide +kernel
theorem dX8_sayItem_13 : decode cX8_sayItem 13 = .ok (.iconst 1, 1) := by decide +kernel
theorem dX8_sayItem_14 : decode cX8_sayItem 14 = .ok (.isub, 1) := by decide +kernel
theorem dX8_sayItem_15 : decode cX8_sayItem 15 = .ok (.invokevirtual 264, 3) := by decide +kernel
theorem dX8_sayItem_18 : decode cX8_sayItem 18 = .ok (.aload_n 0, 1) := by decide +kernel
theorem dX8_sayItem_19 : decode cX8_sayItem 19 = .ok (.getfield 241, 3) := by decide +kernel
theorem dX8_sayItem_22 : decode cX8_sayItem 22 = .ok (.istore_n 1, 1) := by decide +kernel
theorem dX8_sayItem_23 : decode cX8_sayItem 23 = .ok (.aload_n 0, 1) := by decide +kernel
theorem dX8_sayItem_24 : decode cX8_sayItem 24 = .ok (.iconst 0, 1) := by decide +kernel
theorem dX8_sayItem_25 : decode cX8_sayItem 25 = .ok (.bipush 15, 2) := by decide +kernel
theorem dX8_sayItem_27 : decode cX8_sayItem 27 = .ok (.invokevirtual 264, 3) := by decide +kernel
theorem dX8_sayItem_30 : decode cX8_sayItem 30 = .ok (.aload_n 0, 1) := by decide +kernel
theorem dX8_sayItem_31 : decode cX8_sayItem 31 = .ok (.getfield 241, 3) := by decide +kernel
theorem dX8_sayItem_34 : decode cX8_sayItem 34 = .ok (.istore_n 2, 1) := by decide +kernel
theorem dX8_sayItem_35 : decode cX8_sayItem 35 = .ok (.aload_n 0, 1) := by decide +kernel
theorem dX8_sayItem_36 : decode cX8_sayItem 36 = .ok (.ldc2_w 268, 3) := by decide +kernel
theorem dX8_sayItem_39 : decode cX8_sayItem 39 = .ok (.iconst 5, 1) := by decide +kernel
theorem dX8_sayItem_40 : decode cX8_sayItem 40 = .ok (.invokevirtual 270, 3) := by decide +kernel
theorem dX8_sayItem_43 : decode cX8_sayItem 43 = .ok (.istore_n 3, 1) := by decide +kernel
theorem dX8_sayItem_44 : decode cX8_sayItem 44 = .ok (.aload_n 0, 1) := by decide +kernel
theorem dX8_sayItem_45 : decode cX8_sayItem 45 = .ok (.getfield 230, 3) := by decide +kernel
theorem dX8_sayItem_48 : decode cX8_sayItem 48 = .ok (.ifCond .ne 12, 3) := by decide +kernel
theorem dX8_sayItem_51 : decode cX8_sayItem 51 = .ok (.aload_n 0, 1) := by decide +kernel
theorem dX8_sayItem_52 : decode cX8_sayItem 52 = .ok (.iload_n 1, 1) := by decide +kernel
theorem dX8_sayItem_53 : decode cX8_sayItem 53 = .ok (.iload_n 2, 1) := by decide +kernel
theorem dX8_sayItem_54 : decode cX8_sayItem 54 = .ok (.iload_n 3, 1) := by decide +kernel
theorem dX8_sayItem_55 : decode cX8_sayItem 55 = .ok (.invokevirtual 141, 3) := by decide +kernel
theorem dX8_sayItem_58 : decode cX8_sayItem 58 = .ok (.istore 4, 2) := by decide +kernel
theorem dX8_sayItem_60 : decode cX8_sayItem 60 = .ok (.return_, 1) := by decide +kernel
theorem dX8_layerItem_0 : decode cX8_layerItem 0 = .ok (.aload_n 0, 1) := by decide +kernel
theorem dX8_layerItem_1 : decode cX8_layerItem 1 = .ok (.iconst 1, 1) := by decide +kernel
theorem dX8_layerItem_2 : decode cX8_layerItem 2 = .ok (.invokevirtual 244, 3) := by decide +kernel
theorem dX8_layerItem_5 : decode cX8_layerItem 5 = .ok (.aload_n 0, 1) := by decide +kernel
theorem dX8_layerItem_6 : decode cX8_layerItem 6 = .ok (.iconst 0, 1) := by decide +kernel
theorem dX8_layerItem_7 : decode cX8_layerItem 7 = .ok (.aload_n 0, 1) := by decide +kernel
theorem dX8_layerItem_8 : decode cX8_layerItem 8 = .ok (.getfield 7, 3) := by decide +kernel
theorem dX8_layerItem_11 : decode cX8_layerItem 11 = .ok (.iconst 0, 1) := by decide +kernel
theorem dX8_layerItem_12 : decode cX8_layerItem 12 = .ok (.iaload, 1) := by decide +kernel
theorem dX8_layerItem_13 : decode cX8_layerItem 13 = .ok (.iconst 1, 1) := by decide +kernel
theorem dX8_layerItem_14 : decode cX8_layerItem 14 = .ok (.isub, 1) := by decide +kernel
theorem dX8_layerItem_15 : decode cX8_layerItem 15 = .ok (.invokevirtual 264, 3) := by decide +kernel
theorem dX8_layerItem_18 : decode cX8_layerItem 18 = .ok (.aload_n 0, 1) := by decide +kernel
theorem dX8_layerItem_19 : decode cX8_layerItem 19 = .ok (.getfield 241, 3) := by decide +kernel
theorem dX8_layerItem_22 : decode cX8_layerItem 22 = .ok (.istore_n 1, 1) := by decide +kernel
theorem dX8_layerItem_23 : decode cX8_layerItem 23 = .ok (.aload_n 0, 1) := by decide +kernel
theorem dX8_layerItem_24 : decode cX8_layerItem 24 = .ok (.iconst 0, 1) := by decide +kernel
theorem dX8_layerItem_25 : decode cX8_layerItem 25 = .ok (.bipush 7, 2) := by decide +kernel
theorem dX8_layerItem_27 : decode cX8_layerItem 27 = .ok (.invokevirtual 264, 3) := by decide +kernel
theorem dX8_layerItem_30 : decode cX8_layerItem 30 = .ok (.aload_n 0, 1) := by decide +kernel
theorem dX8_layerItem_31 : decode cX8_layerItem 31 = .ok (.getfield 241, 3) := by decide +kernel
theorem dX8_layerItem_34 : decode cX8_layerItem 34 = .ok (.istore_n 2, 1) := by decide +kernel
theorem dX8_layerItem_35 : decode cX8_layerItem 35 = .ok (.aload_n 0, 1) := by decide +kernel
theorem dX8_layerItem_36 : decode cX8_layerItem 36 = .ok (.iconst 0, 1) := by decide +kernel
theorem dX8_layerItem_37 : decode cX8_layerItem 37 = .ok (.bipush 15, 2) := by decide +kernel
theorem dX8_layerItem_39 : decode cX8_layerItem 39 = .ok (.invokevirtual 264, 3) := by decide +kernel
theorem dX8_layerItem_42 : decode cX8_layerItem 42 = .ok (.aload_n 0, 1) := by decide +kernel
theorem dX8_layerItem_43 : decode cX8_layerItem 43 = .ok (.getfield 241, 3) := by decide +kernel
theorem dX8_layerItem_46 : decode cX8_layerItem 46 = .ok (.istore_n 3, 1) := by decide +kernel
theorem dX8_layerItem_47 : decode cX8_layerItem 47 = .ok (.aload_n 0, 1) := by decide +kernel
theorem dX8_layerItem_48 : decode cX8_layerItem 48 = .ok (.ldc2_w 274, 3) := by decide +kernel
theorem dX8_layerItem_51 : decode cX8_layerItem 51 = .ok (.iconst 0, 1) := by decide +kernel
theorem dX8_layerItem_52 : decode cX8_layerItem 52 = .ok (.invokevirtual 270, 3) := by decide +kernel
theorem dX8_layerItem_55 : decode cX8_layerItem 55 = .ok (.istore 4, 2) := by decide +kernel
theorem dX8_layerItem_57 : decode cX8_layerItem 57 = .ok (.aload_n 0, 1) := by decide +kernel
theorem dX8_layerItem_58 : decode cX8_layerItem 58 = .ok (.getfield 230, 3) := by decide +kernel
theorem dX8_layerItem_61 : decode cX8_layerItem 61 = .ok (.ifCond .ne 21, 3) := by decide +kernel
theorem dX8_layerItem_64 : decode cX8_layerItem 64 = .ok (.aload_n 0, 1) := by decide +kernel
theorem dX8_layerItem_65 : decode cX8_layerItem 65 = .ok (.iload_n 1, 1) := by decide +kernel
theorem dX8_layerItem_66 : decode cX8_layerItem 66 = .ok (.iload_n 2, 1) := by decide +kernel
theorem dX8_layerItem_67 : decode cX8_layerItem 67 = .ok (.invokevirtual 131, 3) := by decide +kernel
theorem dX8_layerItem_70 : decode cX8_layerItem 70 = .ok (.ifCond .ne 12, 3) := by decide +kernel
theorem dX8_layerItem_73 : decode cX8_layerItem 73 = .ok (.aload_n 0, 1) := by decide +kernel
theorem dX8_layerItem_74 : decode cX8_layerItem 74 = .ok (.iload_n 1, 1) := by decide +kernel
theorem dX8_layerItem_75 : decode cX8_layerItem 75 = .ok (.iload_n 2, 1) := by decide +kernel
theorem dX8_layerItem_76 : decode cX8_layerItem 76 = .ok (.iload_n 3, 1) := by decide +kernel
theorem dX8_layerItem_77 : decode cX8_layerItem 77 = .ok (.iload 4, 2) := by decide +kernel
theorem dX8_layerItem_79 : decode cX8_layerItem 79 = .ok (.invokevirtual 137, 3) := by decide +kernel
theorem dX8_layerItem_82 : decode cX8_layerItem 82 = .ok (.return_, 1) := by decide +kernel
theorem dX8_item_0 : decode cX8_item 0 = .ok (.aload_n 0, 1) := by decide +kernel
theorem dX8_item_1 : decode cX8_item 1 = .ok (.invokevirtual 276, 3) := by decide +kernel
theorem dX8_item_4 : decode cX8_item 4 = .ok (.istore_n 1, 1) := by decide +kernel
theorem dX8_item_5 : decode cX8_item 5 = .ok (.aload_n 0, 1) := by decide +kernel
theorem dX8_item_6 : decode cX8_item 6 = .ok (.invokevirtual 248, 3) := by decide +kernel
theorem dX8_item_9 : decode cX8_item 9 = .ok (.lstore_n 2, 1) := by decide +kernel
theorem dX8_item_10 : decode cX8_item 10 = .ok (.iload_n 1, 1) := by decide +kernel
theorem dX8_item_11 : decode cX8_item 11 = .ok (.ifCond .lt 11, 3) := by decide +kernel
theorem dX8_item_14 : decode cX8_item 14 = .ok (.aload_n 0, 1) := by decide +kernel
theorem dX8_item_15 : decode cX8_item 15 = .ok (.iload_n 1, 1) := by decide +kernel
theorem dX8_item_16 : decode cX8_item 16 = .ok (.invokevirtual 279, 3) := by decide +kernel
theorem dX8_item_19 : decode cX8_item 19 = .ok (.goto 83, 3) := by decide +kernel
theorem dX8_item_22 : decode cX8_item 22 = .ok (.lload_n 2, 1) := by decide +kernel
theorem dX8_item_23 : decode cX8_item 23 = .ok (.ldc2_w 282, 3) := by decide +kernel
theorem dX8_item_26 : decode cX8_item 26 = .ok (.lcmp, 1) := by decide +kernel
theorem dX8_item_27 : decode cX8_item 27 = .ok (.ifCond .ne 10, 3) := by decide +kernel
theorem dX8_item_30 : decode cX8_item 30 = .ok (.aload_n 0, 1) := by decide +kernel
theorem dX8_item_31 : decode cX8_item 31 = .ok (.invokevirtual 284, 3) := by decide +kernel
theorem dX8_item_34 : decode cX8_item 34 = .ok (.goto 68, 3) := by decide +kernel
theorem dX8_item_37 : decode cX8_item 37 = .ok (.lload_n 2, 1) := by decide +kernel
theorem dX8_item_38 : decode cX8_item 38 = .ok (.ldc2_w 287, 3) := by decide +kernel
theorem dX8_item_41 : decode cX8_item 41 = .ok (.lcmp, 1) := by decide +kernel
theorem dX8_item_42 : decode cX8_item 42 = .ok (.ifCond .ne 10, 3) := by decide +kernel
theorem dX8_item_45 : decode cX8_item 45 = .ok (.aload_n 0, 1) := by decide +kernel
theorem dX8_item_46 : decode cX8_item 46 = .ok (.invokevirtual 289, 3) := by decide +kernel
theorem dX8_item_49 : decode cX8_item 49 = .ok (.goto 53, 3) := by decide +kernel
theorem dX8_item_52 : decode cX8_item 52 = .ok (.aload_n 0, 1) := by decide +kernel
theorem dX8_item_53 : decode cX8_item 53 = .ok (.lload_n 2, 1) := by decide +kernel
theorem dX8_item_54 : decode cX8_item 54 = .ok (.ldc2_w 292, 3) := by decide +kernel
theorem dX8_item_57 : decode cX8_item 57 = .ok (.lcmp, 1) := by decide +kernel
theorem dX8_item_58 : decode cX8_item 58 = .ok (.ifCond .ne 7, 3) := by decide +kernel
theorem dX8_item_61 : decode cX8_item 61 = .ok (.iconst 1, 1) := by decide +kernel
theorem dX8_item_62 : decode cX8_item 62 = .ok (.goto 4, 3) := by decide +kernel
theorem dX8_item_65 : decode cX8_item 65 = .ok (.iconst 0, 1) := by decide +kernel
theorem dX8_item_66 : decode cX8_item 66 = .ok (.invokevirtual 244, 3) := by decide +kernel
theorem dX8_item_69 : decode cX8_item 69 = .ok (.aload_n 0, 1) := by decide +kernel
theorem dX8_item_70 : decode cX8_item 70 = .ok (.iconst 0, 1) := by decide +kernel
theorem dX8_item_71 : decode cX8_item 71 = .ok (.bipush 9, 2) := by decide +kernel
theorem dX8_item_73 : decode cX8_item 73 = .ok (.invokevirtual 264, 3) := by decide +kernel
theorem dX8_item_76 : decode cX8_item 76 = .ok (.aload_n 0, 1) := by decide +kernel
theorem dX8_item_77 : decode cX8_item 77 = .ok (.getfield 7, 3) := by decide +kernel
theorem dX8_item_80 : decode cX8_item 80 = .ok (.iconst 2, 1) := by decide +kernel
theorem dX8_item_81 : decode cX8_item 81 = .ok (.aload_n 0, 1) := by decide +kernel
theorem dX8_item_82 : decode cX8_item 82 = .ok (.getfield 230, 3) := by decide +kernel
theorem dX8_item_85 : decode cX8_item 85 = .ok (.ifCond .eq 12, 3) := by decide +kernel
theorem dX8_item_88 : decode cX8_item 88 = .ok (.aload_n 0, 1) := by decide +kernel
theorem dX8_item_89 : decode cX8_item 89 = .ok (.getfield 7, 3) := by decide +kernel
theorem dX8_item_92 : decode cX8_item 92 = .ok (.iconst 2, 1) := by decide +kernel
theorem dX8_item_93 : decode cX8_item 93 = .ok (.iaload, 1) := by decide +kernel
theorem dX8_item_94 : decode cX8_item 94 = .ok (.goto 7, 3) := by decide +kernel
theorem dX8_item_97 : decode cX8_item 97 = .ok (.aload_n 0, 1) := by decide +kernel
theorem dX8_item_98 : decode cX8_item 98 = .ok (.getfield 241, 3) := by decide +kernel
theorem dX8_item_101 : decode cX8_item 101 = .ok (.iastore, 1) := by decide +kernel
theorem dX8_item_102 : decode cX8_item 102 = .ok (.return_, 1) := by decide +kernel
theorem dX8_house_0 : decode cX8_house 0 = .ok (.aload_n 0, 1) := by decide +kernel
theorem dX8_house_1 : decode cX8_house 1 = .ok (.invokevirtual 294, 3) := by decide +kernel
theorem dX8_house_4 : decode cX8_house 4 = .ok (.aload_n 0, 1) := by decide +kernel
theorem dX8_house_5 : decode cX8_house 5 = .ok (.iconst 0, 1) := by decide +kernel
theorem dX8_house_6 : decode cX8_house 6 = .ok (.putfield 230, 3) := by decide +kernel
theorem dX8_house_9 : decode cX8_house 9 = .ok (.aload_n 0, 1) := by decide +kernel
theorem dX8_house_10 : decode cX8_house 10 = .ok (.iconst 0, 1) := by decide +kernel
theorem dX8_house_11 : decode cX8_house 11 = .ok (.putfield 215, 3) := by decide +kernel
theorem dX8_house_14 : decode cX8_house 14 = .ok (.aload_n 0, 1) := by decide +kernel
theorem dX8_house_15 : decode cX8_house 15 = .ok (.invokevirtual 234, 3) := by decide +kernel
theorem dX8_house_18 : decode cX8_house 18 = .ok (.iconst 1, 1) := by decide +kernel
theorem dX8_house_19 : decode cX8_house 19 = .ok (.istore_n 1, 1) := by decide +kernel
theorem dX8_house_20 : decode cX8_house 20 = .ok (.aload_n 0, 1) := by decide +kernel
theorem dX8_house_21 : decode cX8_house 21 = .ok (.invokevirtual 297, 3) := by decide +kernel
theorem dX8_house_24 : decode cX8_house 24 = .ok (.aload_n 0, 1) := by decide +kernel
theorem dX8_house_25 : decode cX8_house 25 = .ok (.getfield 230, 3) := by decide +kernel
theorem dX8_house_28 : decode cX8_house 28 = .ok (.ifCond .ne 31, 3) := by decide +kernel
theorem dX8_house_31 : decode cX8_house 31 = .ok (.aload_n 0, 1) := by decide +kernel
theorem dX8_house_32 : decode cX8_house 32 = .ok (.aload_n 0, 1) := by decide +kernel
theorem dX8_house_33 : decode cX8_house 33 = .ok (.getfield 218, 3) := by decide +kernel
theorem dX8_house_36 : decode cX8_house 36 = .ok (.invokevirtual 221, 3) := by decide +kernel
theorem dX8_house_39 : decode cX8_house 39 = .ok (.bipush 59, 2) := by decide +kernel
theorem dX8_house_41 : decode cX8_house 41 = .ok (.if_icmp .ne 18, 3) := by decide +kernel
theorem dX8_house_44 : decode cX8_house 44 = .ok (.aload_n 0, 1) := by decide +kernel
theorem dX8_house_45 : decode cX8_house 45 = .ok (.iconst 1, 1) := by decide +kernel
theorem dX8_house_46 : decode cX8_house 46 = .ok (.invokevirtual 244, 3) := by decide +kernel
theorem dX8_house_49 : decode cX8_house 49 = .ok (.aload_n 0, 1) := by decide +kernel
theorem dX8_house_50 : decode cX8_house 50 = .ok (.invokevirtual 297, 3) := by decide +kernel
theorem dX8_house_53 : decode cX8_house 53 = .ok (.iinc 1 1, 3) := by decide +kernel
theorem dX8_house_56 : decode cX8_house 56 = .ok (.goto (-32), 3) := by decide +kernel
theorem dX8_house_59 : decode cX8_house 59 = .ok (.aload_n 0, 1) := by decide +kernel
theorem dX8_house_60 : decode cX8_house 60 = .ok (.aload_n 0, 1) := by decide +kernel
theorem dX8_house_61 : decode cX8_house 61 = .ok (.getfield 230, 3) := by decide +kernel
theorem dX8_house_64 : decode cX8_house 64 = .ok (.ifCond .ne 14, 3) := by decide +kernel
theorem dX8_house_67 : decode cX8_house 67 = .ok (.aload_n 0, 1) := by decide +kernel
theorem dX8_house_68 : decode cX8_house 68 = .ok (.getfield 218, 3) := by decide +kernel
theorem dX8_house_71 : decode cX8_house 71 = .ok (.aload_n 0, 1) := by decide +kernel
theorem dX8_house_72 : decode cX8_house 72 = .ok (.getfield 204, 3) := by decide +kernel
theorem dX8_house_75 : decode cX8_house 75 = .ok (.if_icmp .ge 7, 3) := by decide +kernel
theorem dX8_house_78 : decode cX8_house 78 = .ok (.iconst 1, 1) := by decide +kernel
theorem dX8_house_79 : decode cX8_house 79 = .ok (.goto 4, 3) := by decide +kernel
theorem dX8_house_82 : decode cX8_house 82 = .ok (.iconst 0, 1) := by decide +kernel
theorem dX8_house_83 : decode cX8_house 83 = .ok (.putfield 230, 3) := by decide +kernel
theorem dX8_house_86 : decode cX8_house 86 = .ok (.aload_n 0, 1) := by decide +kernel
theorem dX8_house_87 : decode cX8_house 87 = .ok (.getfield 230, 3) := by decide +kernel
theorem dX8_house_90 : decode cX8_house 90 = .ok (.ifCond .eq 7, 3) := by decide +kernel
theorem dX8_house_93 : decode cX8_house 93 = .ok (.aload_n 0, 1) := by decide +kernel
theorem dX8_house_94 : decode cX8_house 94 = .ok (.invokevirtual 300, 3) := by decide +kernel
theorem dX8_house_97 : decode cX8_house 97 = .ok (.aload_n 0, 1) := by decide +kernel
theorem dX8_house_98 : decode cX8_house 98 = .ok (.iconst 0, 1) := by decide +kernel
theorem dX8_house_99 : decode cX8_house 99 = .ok (.putfield 204, 3) := by decide +kernel
theorem dX8_house_102 : decode cX8_house 102 = .ok (.aload_n 0, 1) := by decide +kernel
theorem dX8_house_103 : decode cX8_house 103 = .ok (.getfield 230, 3) := by decide +kernel
theorem dX8_house_106 : decode cX8_house 106 = .ok (.ifCond .eq 12, 3) := by decide +kernel
theorem dX8_house_109 : decode cX8_house 109 = .ok (.iconst (-1), 1) := by decide +kernel
theorem dX8_house_110 : decode cX8_house 110 = .ok (.aload_n 0, 1) := by decide +kernel
theorem dX8_house_111 : decode cX8_house 111 = .ok (.getfield 218, 3) := by decide +kernel
theorem dX8_house_114 : decode cX8_house 114 = .ok (.isub, 1) := by decide +kernel
theorem dX8_house_115 : decode cX8_house 115 = .ok (.goto 4, 3) := by decide +kernel
theorem dX8_house_118 : decode cX8_house 118 = .ok (.iload_n 1, 1) := by decide +kernel
theorem dX8_house_119 : decode cX8_house 119 = .ok (.ireturn, 1) := by decide +kernel
theorem dX8_isOne_0 : decode cX8_isOne 0 = .ok (.iload_n 0, 1) := by decide +kernel
theorem dX8_isOne_1 : decode cX8_isOne 1 = .ok (.i2l, 1) := by decide +kernel
theorem dX8_isOne_2 : decode cX8_isOne 2 = .ok (.lconst 0, 1) := by decide +kernel
theorem dX8_isOne_3 : decode cX8_isOne 3 = .ok (.ldc2_w 303, 3) := by decide +kernel
theorem dX8_isOne_6 : decode cX8_isOne 6 = .ok (.invokestatic 45, 3) := by decide +kernel
theorem dX8_isOne_9 : decode cX8_isOne 9 = .ok (.ireturn, 1) := by decide +kernel
theorem dX8_sheet_0 : decode cX8_sheet 0 = .ok (.iload_n 1, 1) := by decide +kernel
theorem dX8_sheet_1 : decode cX8_sheet 1 = .ok (.invokestatic 305, 3) := by decide +kernel
theorem dX8_sheet_4 : decode cX8_sheet 4 = .ok (.ifCond .eq 25, 3) := by decide +kernel
theorem dX8_sheet_7 : decode cX8_sheet 7 = .ok (.iload_n 2, 1) := by decide +kernel
theorem dX8_sheet_8 : decode cX8_sheet 8 = .ok (.ifCond .eq 28, 3) := by decide +kernel
theorem dX8_sheet_11 : decode cX8_sheet 11 = .ok (.iload_n 2, 1) := by decide +kernel
theorem dX8_sheet_12 : decode cX8_sheet 12 = .ok (.bipush 8, 2) := by decide +kernel
theorem dX8_sheet_14 : decode cX8_sheet 14 = .ok (.if_icmp .eq 22, 3) := by decide +kernel
theorem dX8_sheet_17 : decode cX8_sheet 17 = .ok (.iload_n 2, 1) := by decide +kernel
theorem dX8_sheet_18 : decode cX8_sheet 18 = .ok (.bipush 16, 2) := by decide +kernel
theorem dX8_sheet_20 : decode cX8_sheet 20 = .ok (.if_icmp .eq 16, 3) := by decide +kernel
theorem dX8_sheet_23 : decode cX8_sheet 23 = .ok (.iload_n 2, 1) := by decide +kernel
theorem dX8_sheet_24 : decode cX8_sheet 24 = .ok (.bipush 64, 2) := by decide +kernel
theorem dX8_sheet_26 : decode cX8_sheet 26 = .ok (.if_icmp .eq 10, 3) := by decide +kernel
theorem dX8_sheet_29 : decode cX8_sheet 29 = .ok (.aload_n 0, 1) := by decide +kernel
theorem dX8_sheet_30 : decode cX8_sheet 30 = .ok (.ldc 44, 2) := by decide +kernel
theorem dX8_sheet_32 : decode cX8_sheet 32 = .ok (.invokevirtual 67, 3) := by decide +kernel
theorem dX8_sheet_35 : decode cX8_sheet 35 = .ok (.ireturn, 1) := by decide +kernel
theorem dX8_sheet_36 : decode cX8_sheet 36 = .ok (.iload_n 3, 1) := by decide +kernel
theorem dX8_sheet_37 : decode cX8_sheet 37 = .ok (.ifCond .ge 11, 3) := by decide +kernel
theorem dX8_sheet_40 : decode cX8_sheet 40 = .ok (.aload_n 0, 1) := by decide +kernel
theorem dX8_sheet_41 : decode cX8_sheet 41 = .ok (.ldc_w 308, 3) := by decide +kernel
theorem dX8_sheet_44 : decode cX8_sheet 44 = .ok (.invokevirtual 67, 3) := by decide +kernel
theorem dX8_sheet_47 : decode cX8_sheet 47 = .ok (.ireturn, 1) := by decide +kernel
theorem dX8_sheet_48 : decode cX8_sheet 48 = .ok (.iload_n 3, 1) := by decide +kernel
theorem dX8_sheet_49 : decode cX8_sheet 49 = .ok (.bipush 40, 2) := by decide +kernel
theorem dX8_sheet_51 : decode cX8_sheet 51 = .ok (.if_icmp .le 10, 3) := by decide +kernel
theorem dX8_sheet_54 : decode cX8_sheet 54 = .ok (.aload_n 0, 1) := by decide +kernel
theorem dX8_sheet_55 : decode cX8_sheet 55 = .ok (.ldc 44, 2) := by decide +kernel
theorem dX8_sheet_57 : decode cX8_sheet 57 = .ok (.invokevirtual 67, 3) := by decide +kernel
theorem dX8_sheet_60 : decode cX8_sheet 60 = .ok (.ireturn, 1) := by decide +kernel
theorem dX8_sheet_61 : decode cX8_sheet 61 = .ok (.aload_n 0, 1) := by decide +kernel
theorem dX8_sheet_62 : decode cX8_sheet 62 = .ok (.getfield 31, 3) := by decide +kernel
theorem dX8_sheet_65 : decode cX8_sheet 65 = .ok (.iload_n 1, 1) := by decide +kernel
theorem dX8_sheet_66 : decode cX8_sheet 66 = .ok (.iload_n 2, 1) := by decide +kernel
theorem dX8_sheet_67 : decode cX8_sheet 67 = .ok (.iastore, 1) := by decide +kernel
theorem dX8_sheet_68 : decode cX8_sheet 68 = .ok (.aload_n 0, 1) := by decide +kernel
theorem dX8_sheet_69 : decode cX8_sheet 69 = .ok (.getfield 34, 3) := by decide +kernel
theorem dX8_sheet_72 : decode cX8_sheet 72 = .ok (.iload_n 1, 1) := by decide +kernel
theorem dX8_sheet_73 : decode cX8_sheet 73 = .ok (.iload_n 2, 1) := by decide +kernel
theorem dX8_sheet_74 : decode cX8_sheet 74 = .ok (.ifCond .ne 7, 3) := by decide +kernel
theorem dX8_sheet_77 : decode cX8_sheet 77 = .ok (.iconst 0, 1) := by decide +kernel
theorem dX8_sheet_78 : decode cX8_sheet 78 = .ok (.goto 4, 3) := by decide +kernel
theorem dX8_sheet_81 : decode cX8_sheet 81 = .ok (.iload_n 3, 1) := by decide +kernel
theorem dX8_sheet_82 : decode cX8_sheet 82 = .ok (.iastore, 1) := by decide +kernel
theorem dX8_sheet_83 : decode cX8_sheet 83 = .ok (.iconst 0, 1) := by decide +kernel
theorem dX8_sheet_84 : decode cX8_sheet 84 = .ok (.istore 4, 2) := by decide +kernel
theorem dX8_sheet_86 : decode cX8_sheet 86 = .ok (.iload 4, 2) := by decide +kernel
theorem dX8_sheet_88 : decode cX8_sheet 88 = .ok (.bipush 40, 2) := by decide +kernel
theorem dX8_sheet_90 : decode cX8_sheet 90 = .ok (.if_icmp .ge 22, 3) := by decide +kernel
theorem dX8_sheet_93 : decode cX8_sheet 93 = .ok (.aload_n 0, 1) := by decide +kernel
theorem dX8_sheet_94 : decode cX8_sheet 94 = .ok (.getfield 37, 3) := by decide +kernel
theorem dX8_sheet_97 : decode cX8_sheet 97 = .ok (.bipush 40, 2) := by decide +kernel
theorem dX8_sheet_99 : decode cX8_sheet 99 = .ok (.iload_n 1, 1) := by decide +kernel
theorem dX8_sheet_100 : decode cX8_sheet 100 = .ok (.imul, 1) := by decide +kernel
theorem dX8_sheet_101 : decode cX8_sheet 101 = .ok (.iload 4, 2) := by decide +kernel
theorem dX8_sheet_103 : decode cX8_sheet 103 = .ok (.iadd, 1) := by decide +kernel
theorem dX8_sheet_104 : decode cX8_sheet 104 = .ok (.lconst 0, 1) := by decide +kernel
theorem dX8_sheet_105 : decode cX8_sheet 105 = .ok (.lastore, 1) := by decide +kernel
theorem dX8_sheet_106 : decode cX8_sheet 106 = .ok (.iinc 4 1, 3) := by decide +kernel
theorem dX8_sheet_109 : decode cX8_sheet 109 = .ok (.goto (-23), 3) := by decide +kernel
theorem dX8_sheet_112 : decode cX8_sheet 112 = .ok (.aload_n 0, 1) := by decide +kernel
theorem dX8_sheet_113 : decode cX8_sheet 113 = .ok (.getfield 34, 3) := by decide +kernel
theorem dX8_sheet_116 : decode cX8_sheet 116 = .ok (.iload_n 1, 1) := by decide +kernel
theorem dX8_sheet_117 : decode cX8_sheet 117 = .ok (.iaload, 1) := by decide +kernel
theorem dX8_sheet_118 : decode cX8_sheet 118 = .ok (.ireturn, 1) := by decide +kernel
theorem dX8_narrowed_0 : decode cX8_narrowed 0 = .ok (.iload_n 0, 1) := by decide +kernel
theorem dX8_narrowed_1 : decode cX8_narrowed 1 = .ok (.bipush 8, 2) := by decide +kernel
theorem dX8_narrowed_3 : decode cX8_narrowed 3 = .ok (.if_icmp .ne 10, 3) := by decide +kernel
theorem dX8_narrowed_6 : decode cX8_narrowed 6 = .ok (.lload_n 1, 1) := by decide +kernel
theorem dX8_narrowed_7 : decode cX8_narrowed 7 = .ok (.l2i, 1) := by decide +kernel
theorem dX8_narrowed_8 : decode cX8_narrowed 8 = .ok (.i2b, 1) := by decide +kernel
theorem dX8_narrowed_9 : decode cX8_narrowed 9 = .ok (.i2l, 1) := by decide +kernel
theorem dX8_narrowed_10 : decode cX8_narrowed 10 = .ok (.goto 17, 3) := by decide +kernel
theorem dX8_narrowed_13 : decode cX8_narrowed 13 = .ok (.iload_n 0, 1) := by decide +kernel
theorem dX8_narrowed_14 : decode cX8_narrowed 14 = .ok (.bipush 16, 2) := by decide +kernel
theorem dX8_narrowed_16 : decode cX8_narrowed 16 = .ok (.if_icmp .ne 10, 3) := by decide +kernel
theorem dX8_narrowed_19 : decode cX8_narrowed 19 = .ok (.lload_n 1, 1) := by decide +kernel
theorem dX8_narrowed_20 : decode cX8_narrowed 20 = .ok (.l2i, 1) := by decide +kernel
theorem dX8_narrowed_21 : decode cX8_narrowed 21 = .ok (.i2s, 1) := by decide +kernel
theorem dX8_narrowed_22 : decode cX8_narrowed 22 = .ok (.i2l, 1) := by decide +kernel
theorem dX8_narrowed_23 : decode cX8_narrowed 23 = .ok (.goto 4, 3) := by decide +kernel
theorem dX8_narrowed_26 : decode cX8_narrowed 26 = .ok (.lload_n 1, 1) := by decide +kernel
theorem dX8_narrowed_27 : decode cX8_narrowed 27 = .ok (.lreturn, 1) := by decide +kernel
theorem dX8_wrongSheet_0 : decode cX8_wrongSheet 0 = .ok (.iload_n 1, 1) := by decide +kernel
theorem dX8_wrongSheet_1 : decode cX8_wrongSheet 1 = .ok (.invokestatic 305, 3) := by decide +kernel
theorem dX8_wrongSheet_4 : decode cX8_wrongSheet 4 = .ok (.ifCond .ne 8, 3) := by decide +kernel
theorem dX8_wrongSheet_7 : decode cX8_wrongSheet 7 = .ok (.ldc 44, 2) := by decide +kernel
theorem dX8_wrongSheet_9 : decode cX8_wrongSheet 9 = .ok (.goto 19, 3) := by decide +kernel
theorem dX8_wrongSheet_12 : decode cX8_wrongSheet 12 = .ok (.aload_n 0, 1) := by decide +kernel
theorem dX8_wrongSheet_13 : decode cX8_wrongSheet 13 = .ok (.getfield 31, 3) := by decide +kernel
theorem dX8_wrongSheet_16 : decode cX8_wrongSheet 16 = .ok (.iload_n 1, 1) := by decide +kernel
theorem dX8_wrongSheet_17 : decode cX8_wrongSheet 17 = .ok (.iaload, 1) := by decide +kernel
theorem dX8_wrongSheet_18 : decode cX8_wrongSheet 18 = .ok (.ifCond .ne 9, 3) := by decide +kernel
theorem dX8_wrongSheet_21 : decode cX8_wrongSheet 21 = .ok (.ldc_w 309, 3) := by decide +kernel
theorem dX8_wrongSheet_24 : decode cX8_wrongSheet 24 = .ok (.goto 4, 3) := by decide +kernel
theorem dX8_wrongSheet_27 : decode cX8_wrongSheet 27 = .ok (.iconst 0, 1) := by decide +kernel
theorem dX8_wrongSheet_28 : decode cX8_wrongSheet 28 = .ok (.ireturn, 1) := by decide +kernel
theorem dX8_write_0 : decode cX8_write 0 = .ok (.aload_n 0, 1) := by decide +kernel
theorem dX8_write_1 : decode cX8_write 1 = .ok (.iload_n 1, 1) := by decide +kernel
theorem dX8_write_2 : decode cX8_write 2 = .ok (.invokevirtual 310, 3) := by decide +kernel
theorem dX8_write_5 : decode cX8_write 5 = .ok (.istore 5, 2) := by decide +kernel
theorem dX8_write_7 : decode cX8_write 7 = .ok (.iload 5, 2) := by decide +kernel
theorem dX8_write_9 : decode cX8_write 9 = .ok (.ifCond .eq 11, 3) := by decide +kernel
theorem dX8_write_12 : decode cX8_write 12 = .ok (.aload_n 0, 1) := by decide +kernel
theorem dX8_write_13 : decode cX8_write 13 = .ok (.iload 5, 2) := by decide +kernel
theorem dX8_write_15 : decode cX8_write 15 = .ok (.invokevirtual 67, 3) := by decide +kernel
theorem dX8_write_18 : decode cX8_write 18 = .ok (.i2l, 1) := by decide +kernel
theorem dX8_write_19 : decode cX8_write 19 = .ok (.lreturn, 1) := by decide +kernel
theorem dX8_write_20 : decode cX8_write 20 = .ok (.iload_n 2, 1) := by decide +kernel
theorem dX8_write_21 : decode cX8_write 21 = .ok (.i2l, 1) := by decide +kernel
theorem dX8_write_22 : decode cX8_write 22 = .ok (.lconst 0, 1) := by decide +kernel
theorem dX8_write_23 : decode cX8_write 23 = .ok (.aload_n 0, 1) := by decide +kernel
theorem dX8_write_24 : decode cX8_write 24 = .ok (.getfield 34, 3) := by decide +kernel
theorem dX8_write_27 : decode cX8_write 27 = .ok (.iload_n 1, 1) := by decide +kernel
theorem dX8_write_28 : decode cX8_write 28 = .ok (.iaload, 1) := by decide +kernel
theorem dX8_write_29 : decode cX8_write 29 = .ok (.iconst 1, 1) := by decide +kernel
theorem dX8_write_30 : decode cX8_write 30 = .ok (.isub, 1) := by decide +kernel
theorem dX8_write_31 : decode cX8_write 31 = .ok (.i2l, 1) := by decide +kernel
theorem dX8_write_32 : decode cX8_write 32 = .ok (.invokestatic 45, 3) := by decide +kernel
theorem dX8_write_35 : decode cX8_write 35 = .ok (.ifCond .ne 11, 3) := by decide +kernel
theorem dX8_write_38 : decode cX8_write 38 = .ok (.aload_n 0, 1) := by decide +kernel
theorem dX8_write_39 : decode cX8_write 39 = .ok (.ldc 44, 2) := by decide +kernel
theorem dX8_write_41 : decode cX8_write 41 = .ok (.invokevirtual 67, 3) := by decide +kernel
theorem dX8_write_44 : decode cX8_write 44 = .ok (.i2l, 1) := by decide +kernel
theorem dX8_write_45 : decode cX8_write 45 = .ok (.lreturn, 1) := by decide +kernel
theorem dX8_write_46 : decode cX8_write 46 = .ok (.aload_n 0, 1) := by decide +kernel
theorem dX8_write_47 : decode cX8_write 47 = .ok (.getfield 37, 3) := by decide +kernel
theorem dX8_write_50 : decode cX8_write 50 = .ok (.bipush 40, 2) := by decide +kernel
theorem dX8_write_52 : decode cX8_write 52 = .ok (.iload_n 1, 1) := by decide +kernel
theorem dX8_write_53 : decode cX8_write 53 = .ok (.imul, 1) := by decide +kernel
theorem dX8_write_54 : decode cX8_write 54 = .ok (.iload_n 2, 1) := by decide +kernel
theorem dX8_write_55 : decode cX8_write 55 = .ok (.iadd, 1) := by decide +kernel
theorem dX8_write_56 : decode cX8_write 56 = .ok (.laload, 1) := by decide +kernel
theorem dX8_write_57 : decode cX8_write 57 = .ok (.lstore 6, 2) := by decide +kernel
theorem dX8_write_59 : decode cX8_write 59 = .ok (.aload_n 0, 1) := by decide +kernel
theorem dX8_write_60 : decode cX8_write 60 = .ok (.getfield 37, 3) := by decide +kernel
theorem dX8_write_63 : decode cX8_write 63 = .ok (.bipush 40, 2) := by decide +kernel
theorem dX8_write_65 : decode cX8_write 65 = .ok (.iload_n 1, 1) := by decide +kernel
theorem dX8_write_66 : decode cX8_write 66 = .ok (.imul, 1) := by decide +kernel
theorem dX8_write_67 : decode cX8_write 67 = .ok (.iload_n 2, 1) := by decide +kernel
theorem dX8_write_68 : decode cX8_write 68 = .ok (.iadd, 1) := by decide +kernel
theorem dX8_write_69 : decode cX8_write 69 = .ok (.aload_n 0, 1) := by decide +kernel
theorem dX8_write_70 : decode cX8_write 70 = .ok (.getfield 31, 3) := by decide +kernel
theorem dX8_write_73 : decode cX8_write 73 = .ok (.iload_n 1, 1) := by decide +kernel
theorem dX8_write_74 : decode cX8_write 74 = .ok (.iaload, 1) := by decide +kernel
theorem dX8_write_75 : decode cX8_write 75 = .ok (.lload_n 3, 1) := by decide +kernel
theorem dX8_write_76 : decode cX8_write 76 = .ok (.invokestatic 313, 3) := by decide +kernel
theorem dX8_write_79 : decode cX8_write 79 = .ok (.lastore, 1) := by decide +kernel
theorem dX8_write_80 : decode cX8_write 80 = .ok (.lload 6, 2) := by decide +kernel
theorem dX8_write_82 : decode cX8_write 82 = .ok (.lreturn, 1) := by decide +kernel
theorem dX8_copy_0 : decode cX8_copy 0 = .ok (.iload_n 1, 1) := by decide +kernel
theorem dX8_copy_1 : decode cX8_copy 1 = .ok (.invokestatic 305, 3) := by decide +kernel
theorem dX8_copy_4 : decode cX8_copy 4 = .ok (.ifCond .eq 10, 3) := by decide +kernel
theorem dX8_copy_7 : decode cX8_copy 7 = .ok (.iload_n 3, 1) := by decide +kernel
theorem dX8_copy_8 : decode cX8_copy 8 = .ok (.invokestatic 305, 3) := by decide +kernel
theorem dX8_copy_11 : decode cX8_copy 11 = .ok (.ifCond .ne 10, 3) := by decide +kernel
theorem dX8_copy_14 : decode cX8_copy 14 = .ok (.aload_n 0, 1) := by decide +kernel
theorem dX8_copy_15 : decode cX8_copy 15 = .ok (.ldc 44, 2) := by decide +kernel
theorem dX8_copy_17 : decode cX8_copy 17 = .ok (.invokevirtual 67, 3) := by decide +kernel
theorem dX8_copy_20 : decode cX8_copy 20 = .ok (.ireturn, 1) := by decide +kernel
theorem dX8_copy_21 : decode cX8_copy 21 = .ok (.aload_n 0, 1) := by decide +kernel
theorem dX8_copy_22 : decode cX8_copy 22 = .ok (.getfield 31, 3) := by decide +kernel
theorem dX8_copy_25 : decode cX8_copy 25 = .ok (.iload_n 1, 1) := by decide +kernel
theorem dX8_copy_26 : decode cX8_copy 26 = .ok (.iaload, 1) := by decide +kernel
theorem dX8_copy_27 : decode cX8_copy 27 = .ok (.ifCond .eq 12, 3) := by decide +kernel
theorem dX8_copy_30 : decode cX8_copy 30 = .ok (.aload_n 0, 1) := by decide +kernel
theorem dX8_copy_31 : decode cX8_copy 31 = .ok (.getfield 31, 3) := by decide +kernel
theorem dX8_copy_34 : decode cX8_copy 34 = .ok (.iload_n 3, 1) := by decide +kernel
theorem dX8_copy_35 : decode cX8_copy 35 = .ok (.iaload, 1) := by decide +kernel
theorem dX8_copy_36 : decode cX8_copy 36 = .ok (.ifCond .ne 11, 3) := by decide +kernel
theorem dX8_copy_39 : decode cX8_copy 39 = .ok (.aload_n 0, 1) := by decide +kernel
theorem dX8_copy_40 : decode cX8_copy 40 = .ok (.ldc_w 309, 3) := by decide +kernel
theorem dX8_copy_43 : decode cX8_copy 43 = .ok (.invokevirtual 67, 3) := by decide +kernel
theorem dX8_copy_46 : decode cX8_copy 46 = .ok (.ireturn, 1) := by decide +kernel
theorem dX8_copy_47 : decode cX8_copy 47 = .ok (.aload_n 0, 1) := by decide +kernel
theorem dX8_copy_48 : decode cX8_copy 48 = .ok (.getfield 31, 3) := by decide +kernel
theorem dX8_copy_51 : decode cX8_copy 51 = .ok (.iload_n 1, 1) := by decide +kernel
theorem dX8_copy_52 : decode cX8_copy 52 = .ok (.iaload, 1) := by decide +kernel
theorem dX8_copy_53 : decode cX8_copy 53 = .ok (.aload_n 0, 1) := by decide +kernel
theorem dX8_copy_54 : decode cX8_copy 54 = .ok (.getfield 31, 3) := by decide +kernel
theorem dX8_copy_57 : decode cX8_copy 57 = .ok (.iload_n 3, 1) := by decide +kernel
theorem dX8_copy_58 : decode cX8_copy 58 = .ok (.iaload, 1) := by decide +kernel
theorem dX8_copy_59 : decode cX8_copy 59 = .ok (.if_icmp .eq 10, 3) := by decide +kernel
theorem dX8_copy_62 : decode cX8_copy 62 = .ok (.aload_n 0, 1) := by decide +kernel
theorem dX8_copy_63 : decode cX8_copy 63 = .ok (.ldc 121, 2) := by decide +kernel
theorem dX8_copy_65 : decode cX8_copy 65 = .ok (.invokevirtual 67, 3) := by decide +kernel
theorem dX8_copy_68 : decode cX8_copy 68 = .ok (.ireturn, 1) := by decide +kernel
theorem dX8_copy_69 : decode cX8_copy 69 = .ok (.iload_n 2, 1) := by decide +kernel
theorem dX8_copy_70 : decode cX8_copy 70 = .ok (.ifCond .lt 40, 3) := by decide +kernel
theorem dX8_copy_73 : decode cX8_copy 73 = .ok (.iload 4, 2) := by decide +kernel
theorem dX8_copy_75 : decode cX8_copy 75 = .ok (.ifCond .lt 35, 3) := by decide +kernel
theorem dX8_copy_78 : decode cX8_copy 78 = .ok (.iload 5, 2) := by decide +kernel
theorem dX8_copy_80 : decode cX8_copy 80 = .ok (.ifCond .lt 30, 3) := by decide +kernel
theorem dX8_copy_83 : decode cX8_copy 83 = .ok (.iload 5, 2) := by decide +kernel
theorem dX8_copy_85 : decode cX8_copy 85 = .ok (.aload_n 0, 1) := by decide +kernel
theorem dX8_copy_86 : decode cX8_copy 86 = .ok (.getfield 34, 3) := by decide +kernel
theorem dX8_copy_89 : decode cX8_copy 89 = .ok (.iload_n 1, 1) := by decide +kernel
theorem dX8_copy_90 : decode cX8_copy 90 = .ok (.iaload, 1) := by decide +kernel
theorem dX8_copy_91 : decode cX8_copy 91 = .ok (.iload_n 2, 1) := by decide +kernel
theorem dX8_copy_92 : decode cX8_copy 92 = .ok (.isub, 1) := by decide +kernel
theorem dX8_copy_93 : decode cX8_copy 93 = .ok (.if_icmp .gt 17, 3) := by decide +kernel
theorem dX8_copy_96 : decode cX8_copy 96 = .ok (.iload 5, 2) := by decide +kernel
theorem dX8_copy_98 : decode cX8_copy 98 = .ok (.aload_n 0, 1) := by decide +kernel
theorem dX8_copy_99 : decode cX8_copy 99 = .ok (.getfield 34, 3) := by decide +kernel
theorem dX8_copy_102 : decode cX8_copy 102 = .ok (.iload_n 3, 1) := by decide +kernel
theorem dX8_copy_103 : decode cX8_copy 103 = .ok (.iaload, 1) := by decide +kernel
theorem dX8_copy_104 : decode cX8_copy 104 = .ok (.iload 4, 2) := by decide +kernel
theorem dX8_copy_106 : decode cX8_copy 106 = .ok (.isub, 1) := by decide +kernel
theorem dX8_copy_107 : decode cX8_copy 107 = .ok (.if_icmp .le 10, 3) := by decide +kernel
theorem dX8_copy_110 : decode cX8_copy 110 = .ok (.aload_n 0, 1) := by decide +kernel
theorem dX8_copy_111 : decode cX8_copy 111 = .ok (.ldc 44, 2) := by decide +kernel
theorem dX8_copy_113 : decode cX8_copy 113 = .ok (.invokevirtual 67, 3) := by decide +kernel
theorem dX8_copy_116 : decode cX8_copy 116 = .ok (.ireturn, 1) := by decide +kernel
theorem dX8_copy_117 : decode cX8_copy 117 = .ok (.iconst 0, 1) := by decide +kernel
theorem dX8_copy_118 : decode cX8_copy 118 = .ok (.istore 6, 2) := by decide +kernel
theorem dX8_copy_120 : decode cX8_copy 120 = .ok (.iload 6, 2) := by decide +kernel
theorem dX8_copy_122 : decode cX8_copy 122 = .ok (.iload 5, 2) := by decide +kernel
theorem dX8_copy_124 : decode cX8_copy 124 = .ok (.if_icmp .ge 30, 3) := by decide +kernel
theorem dX8_copy_127 : decode cX8_copy 127 = .ok (.aload_n 0, 1) := by decide +kernel
theorem dX8_copy_128 : decode cX8_copy 128 = .ok (.getfield 41, 3) := by decide +kernel
theorem dX8_copy_131 : decode cX8_copy 131 = .ok (.iload 6, 2) := by decide +kernel
theorem dX8_copy_133 : decode cX8_copy 133 = .ok (.aload_n 0, 1) := by decide +kernel
theorem dX8_copy_134 : decode cX8_copy 134 = .ok (.getfield 37, 3) := by decide +kernel
theorem dX8_copy_137 : decode cX8_copy 137 = .ok (.bipush 40, 2) := by decide +kernel
theorem dX8_copy_139 : decode cX8_copy 139 = .ok (.iload_n 1, 1) := by decide +kernel
theorem dX8_copy_140 : decode cX8_copy 140 = .ok (.imul, 1) := by decide +kernel
theorem dX8_copy_141 : decode cX8_copy 141 = .ok (.iload_n 2, 1) := by decide +kernel
theorem dX8_copy_142 : decode cX8_copy 142 = .ok (.iadd, 1) := by decide +kernel
theorem dX8_copy_143 : decode cX8_copy 143 = .ok (.iload 6, 2) := by decide +kernel
theorem dX8_copy_145 : decode cX8_copy 145 = .ok (.iadd, 1) := by decide +kernel
theorem dX8_copy_146 : decode cX8_copy 146 = .ok (.laload, 1) := by decide +kernel
theorem dX8_copy_147 : decode cX8_copy 147 = .ok (.lastore, 1) := by decide +kernel
theorem dX8_copy_148 : decode cX8_copy 148 = .ok (.iinc 6 1, 3) := by decide +kernel
theorem dX8_copy_151 : decode cX8_copy 151 = .ok (.goto (-31), 3) := by decide +kernel
theorem dX8_copy_154 : decode cX8_copy 154 = .ok (.iconst 0, 1) := by decide +kernel
theorem dX8_copy_155 : decode cX8_copy 155 = .ok (.istore 6, 2) := by decide +kernel
theorem dX8_copy_157 : decode cX8_copy 157 = .ok (.iload 6, 2) := by decide +kernel
theorem dX8_copy_159 : decode cX8_copy 159 = .ok (.iload 5, 2) := by decide +kernel
theorem dX8_copy_161 : decode cX8_copy 161 = .ok (.if_icmp .ge 31, 3) := by decide +kernel
theorem dX8_copy_164 : decode cX8_copy 164 = .ok (.aload_n 0, 1) := by decide +kernel
theorem dX8_copy_165 : decode cX8_copy 165 = .ok (.getfield 37, 3) := by decide +kernel
theorem dX8_copy_168 : decode cX8_copy 168 = .ok (.bipush 40, 2) := by decide +kernel
theorem dX8_copy_170 : decode cX8_copy 170 = .ok (.iload_n 3, 1) := by decide +kernel
theorem dX8_copy_171 : decode cX8_copy 171 = .ok (.imul, 1) := by decide +kernel
theorem dX8_copy_172 : decode cX8_copy 172 = .ok (.iload 4, 2) := by decide +kernel
theorem dX8_copy_174 : decode cX8_copy 174 = .ok (.iadd, 1) := by decide +kernel
theorem dX8_copy_175 : decode cX8_copy 175 = .ok (.iload 6, 2) := by decide +kernel
theorem dX8_copy_177 : decode cX8_copy 177 = .ok (.iadd, 1) := by decide +kernel
theorem dX8_copy_178 : decode cX8_copy 178 = .ok (.aload_n 0, 1) := by decide +kernel
theorem dX8_copy_179 : decode cX8_copy 179 = .ok (.getfield 41, 3) := by decide +kernel
theorem dX8_copy_182 : decode cX8_copy 182 = .ok (.iload 6, 2) := by decide +kernel
theorem dX8_copy_184 : decode cX8_copy 184 = .ok (.laload, 1) := by decide +kernel
theorem dX8_copy_185 : decode cX8_copy 185 = .ok (.lastore, 1) := by decide +kernel
theorem dX8_copy_186 : decode cX8_copy 186 = .ok (.iinc 6 1, 3) := by decide +kernel
theorem dX8_copy_189 : decode cX8_copy 189 = .ok (.goto (-32), 3) := by decide +kernel
theorem dX8_copy_192 : decode cX8_copy 192 = .ok (.iload 5, 2) := by decide +kernel
theorem dX8_copy_194 : decode cX8_copy 194 = .ok (.ireturn, 1) := by decide +kernel
theorem dX8_wrongFlue_0 : decode cX8_wrongFlue 0 = .ok (.aload_n 0, 1) := by decide +kernel
theorem dX8_wrongFlue_1 : decode cX8_wrongFlue 1 = .ok (.iload_n 1, 1) := by decide +kernel
theorem dX8_wrongFlue_2 : decode cX8_wrongFlue 2 = .ok (.invokevirtual 310, 3) := by decide +kernel
theorem dX8_wrongFlue_5 : decode cX8_wrongFlue 5 = .ok (.istore_n 3, 1) := by decide +kernel
theorem dX8_wrongFlue_6 : decode cX8_wrongFlue 6 = .ok (.iload_n 3, 1) := by decide +kernel
theorem dX8_wrongFlue_7 : decode cX8_wrongFlue 7 = .ok (.ifCond .eq 7, 3) := by decide +kernel
theorem dX8_wrongFlue_10 : decode cX8_wrongFlue 10 = .ok (.iload_n 3, 1) := by decide +kernel
theorem dX8_wrongFlue_11 : decode cX8_wrongFlue 11 = .ok (.goto 17, 3) := by decide +kernel
theorem dX8_wrongFlue_14 : decode cX8_wrongFlue 14 = .ok (.aload_n 0, 1) := by decide +kernel
theorem dX8_wrongFlue_15 : decode cX8_wrongFlue 15 = .ok (.iload_n 2, 1) := by decide +kernel
theorem dX8_wrongFlue_16 : decode cX8_wrongFlue 16 = .ok (.invokevirtual 91, 3) := by decide +kernel
theorem dX8_wrongFlue_19 : decode cX8_wrongFlue 19 = .ok (.ifCond .eq 7, 3) := by decide +kernel
theorem dX8_wrongFlue_22 : decode cX8_wrongFlue 22 = .ok (.iconst 0, 1) := by decide +kernel
theorem dX8_wrongFlue_23 : decode cX8_wrongFlue 23 = .ok (.goto 5, 3) := by decide +kernel
theorem dX8_wrongFlue_26 : decode cX8_wrongFlue 26 = .ok (.ldc 44, 2) := by decide +kernel
theorem dX8_wrongFlue_28 : decode cX8_wrongFlue 28 = .ok (.ireturn, 1) := by decide +kernel
theorem dX8_lays_0 : decode cX8_lays 0 = .ok (.aload_n 0, 1) := by decide +kernel
theorem dX8_lays_1 : decode cX8_lays 1 = .ok (.iload_n 1, 1) := by decide +kernel
theorem dX8_lays_2 : decode cX8_lays 2 = .ok (.iload_n 2, 1) := by decide +kernel
theorem dX8_lays_3 : decode cX8_lays 3 = .ok (.invokevirtual 317, 3) := by decide +kernel
theorem dX8_lays_6 : decode cX8_lays 6 = .ok (.istore_n 3, 1) := by decide +kernel
theorem dX8_lays_7 : decode cX8_lays 7 = .ok (.iload_n 3, 1) := by decide +kernel
theorem dX8_lays_8 : decode cX8_lays 8 = .ok (.ifCond .eq 9, 3) := by decide +kernel
theorem dX8_lays_11 : decode cX8_lays 11 = .ok (.aload_n 0, 1) := by decide +kernel
theorem dX8_lays_12 : decode cX8_lays 12 = .ok (.iload_n 3, 1) := by decide +kernel
theorem dX8_lays_13 : decode cX8_lays 13 = .ok (.invokevirtual 67, 3) := by decide +kernel
theorem dX8_lays_16 : decode cX8_lays 16 = .ok (.ireturn, 1) := by decide +kernel
theorem dX8_lays_17 : decode cX8_lays 17 = .ok (.iconst 0, 1) := by decide +kernel
theorem dX8_lays_18 : decode cX8_lays 18 = .ok (.istore 4, 2) := by decide +kernel
theorem dX8_lays_20 : decode cX8_lays 20 = .ok (.iconst 0, 1) := by decide +kernel
theorem dX8_lays_21 : decode cX8_lays 21 = .ok (.istore 5, 2) := by decide +kernel
theorem dX8_lays_23 : decode cX8_lays 23 = .ok (.iload 5, 2) := by decide +kernel
theorem dX8_lays_25 : decode cX8_lays 25 = .ok (.aload_n 0, 1) := by decide +kernel
theorem dX8_lays_26 : decode cX8_lays 26 = .ok (.getfield 34, 3) := by decide +kernel
theorem dX8_lays_29 : decode cX8_lays 29 = .ok (.iload_n 1, 1) := by decide +kernel
theorem dX8_lays_30 : decode cX8_lays 30 = .ok (.iaload, 1) := by decide +kernel
theorem dX8_lays_31 : decode cX8_lays 31 = .ok (.if_icmp .ge 67, 3) := by decide +kernel
theorem dX8_lays_34 : decode cX8_lays 34 = .ok (.aload_n 0, 1) := by decide +kernel
theorem dX8_lays_35 : decode cX8_lays 35 = .ok (.getfield 37, 3) := by decide +kernel
theorem dX8_lays_38 : decode cX8_lays 38 = .ok (.bipush 40, 2) := by decide +kernel
theorem dX8_lays_40 : decode cX8_lays 40 = .ok (.iload_n 1, 1) := by decide +kernel
theorem dX8_lays_41 : decode cX8_lays 41 = .ok (.imul, 1) := by decide +kernel
theorem dX8_lays_42 : decode cX8_lays 42 = .ok (.iload 5, 2) := by decide +kernel
theorem dX8_lays_44 : decode cX8_lays 44 = .ok (.iadd, 1) := by decide +kernel
theorem dX8_lays_45 : decode cX8_lays 45 = .ok (.laload, 1) := by decide +kernel
theorem dX8_lays_46 : decode cX8_lays 46 = .ok (.lconst 0, 1) := by decide +kernel
theorem dX8_lays_47 : decode cX8_lays 47 = .ok (.ldc2_w 53, 3) := by decide +kernel
theorem dX8_lays_50 : decode cX8_lays 50 = .ok (.invokestatic 45, 3) := by decide +kernel
theorem dX8_lays_53 : decode cX8_lays 53 = .ok (.istore 6, 2) := by decide +kernel
theorem dX8_lays_55 : decode cX8_lays 55 = .ok (.iload 4, 2) := by decide +kernel
theorem dX8_lays_57 : decode cX8_lays 57 = .ok (.iload 6, 2) := by decide +kernel
theorem dX8_lays_59 : decode cX8_lays 59 = .ok (.ifCond .eq 29, 3) := by decide +kernel
theorem dX8_lays_62 : decode cX8_lays 62 = .ok (.aload_n 0, 1) := by decide +kernel
theorem dX8_lays_63 : decode cX8_lays 63 = .ok (.iload_n 2, 1) := by decide +kernel
theorem dX8_lays_64 : decode cX8_lays 64 = .ok (.aload_n 0, 1) := by decide +kernel
theorem dX8_lays_65 : decode cX8_lays 65 = .ok (.getfield 37, 3) := by decide +kernel
theorem dX8_lays_68 : decode cX8_lays 68 = .ok (.bipush 40, 2) := by decide +kernel
theorem dX8_lays_70 : decode cX8_lays 70 = .ok (.iload_n 1, 1) := by decide +kernel
theorem dX8_lays_71 : decode cX8_lays 71 = .ok (.imul, 1) := by decide +kernel
theorem dX8_lays_72 : decode cX8_lays 72 = .ok (.iload 5, 2) := by decide +kernel
theorem dX8_lays_74 : decode cX8_lays 74 = .ok (.iadd, 1) := by decide +kernel
theorem dX8_lays_75 : decode cX8_lays 75 = .ok (.laload, 1) := by decide +kernel
theorem dX8_lays_76 : decode cX8_lays 76 = .ok (.l2i, 1) := by decide +kernel
theorem dX8_lays_77 : decode cX8_lays 77 = .ok (.iconst 5, 1) := by decide +kernel
theorem dX8_lays_78 : decode cX8_lays 78 = .ok (.invokevirtual 141, 3) := by decide +kernel
theorem dX8_lays_81 : decode cX8_lays 81 = .ok (.ifCond .lt 7, 3) := by decide +kernel
theorem dX8_lays_84 : decode cX8_lays 84 = .ok (.iconst 1, 1) := by decide +kernel
theorem dX8_lays_85 : decode cX8_lays 85 = .ok (.goto 4, 3) := by decide +kernel
theorem dX8_lays_88 : decode cX8_lays 88 = .ok (.iconst 0, 1) := by decide +kernel
theorem dX8_lays_89 : decode cX8_lays 89 = .ok (.iadd, 1) := by decide +kernel
theorem dX8_lays_90 : decode cX8_lays 90 = .ok (.istore 4, 2) := by decide +kernel
theorem dX8_lays_92 : decode cX8_lays 92 = .ok (.iinc 5 1, 3) := by decide +kernel
theorem dX8_lays_95 : decode cX8_lays 95 = .ok (.goto (-72), 3) := by decide +kernel
theorem dX8_lays_98 : decode cX8_lays 98 = .ok (.iload 4, 2) := by decide +kernel
theorem dX8_lays_100 : decode cX8_lays 100 = .ok (.ireturn, 1) := by decide +kernel
theorem dX8_book_0 : decode cX8_book 0 = .ok (.aload_n 0, 1) := by decide +kernel
theorem dX8_book_1 : decode cX8_book 1 = .ok (.iload_n 1, 1) := by decide +kernel
theorem dX8_book_2 : decode cX8_book 2 = .ok (.iload_n 2, 1) := by decide +kernel
theorem dX8_book_3 : decode cX8_book 3 = .ok (.invokevirtual 317, 3) := by decide +kernel
theorem dX8_book_6 : decode cX8_book 6 = .ok (.istore_n 3, 1) := by decide +kernel
theorem dX8_book_7 : decode cX8_book 7 = .ok (.iload_n 3, 1) := by decide +kernel
theorem dX8_book_8 : decode cX8_book 8 = .ok (.ifCond .eq 9, 3) := by decide +kernel
theorem dX8_book_11 : decode cX8_book 11 = .ok (.aload_n 0, 1) := by decide +kernel
theorem dX8_book_12 : decode cX8_book 12 = .ok (.iload_n 3, 1) := by decide +kernel
theorem dX8_book_13 : decode cX8_book 13 = .ok (.invokevirtual 67, 3) := by decide +kernel
theorem dX8_book_16 : decode cX8_book 16 = .ok (.ireturn, 1) := by decide +kernel
theorem dX8_book_17 : decode cX8_book 17 = .ok (.aload_n 0, 1) := by decide +kernel
theorem dX8_book_18 : decode cX8_book 18 = .ok (.iload_n 2, 1) := by decide +kernel
theorem dX8_book_19 : decode cX8_book 19 = .ok (.bipush 7, 2) := by decide +kernel
theorem dX8_book_21 : decode cX8_book 21 = .ok (.bipush 9, 2) := by decide +kernel
theorem dX8_book_23 : decode cX8_book 23 = .ok (.invokevirtual 174, 3) := by decide +kernel
theorem dX8_book_26 : decode cX8_book 26 = .ok (.iconst 0, 1) := by decide +kernel
theorem dX8_book_27 : decode cX8_book 27 = .ok (.istore 4, 2) := by decide +kernel
theorem dX8_book_29 : decode cX8_book 29 = .ok (.iload 4, 2) := by decide +kernel
theorem dX8_book_31 : decode cX8_book 31 = .ok (.aload_n 0, 1) := by decide +kernel
theorem dX8_book_32 : decode cX8_book 32 = .ok (.getfield 34, 3) := by decide +kernel
theorem dX8_book_35 : decode cX8_book 35 = .ok (.iload_n 1, 1) := by decide +kernel
theorem dX8_book_36 : decode cX8_book 36 = .ok (.iaload, 1) := by decide +kernel
theorem dX8_book_37 : decode cX8_book 37 = .ok (.if_icmp .ge 44, 3) := by decide +kernel
theorem dX8_book_40 : decode cX8_book 40 = .ok (.aload_n 0, 1) := by decide +kernel
theorem dX8_book_41 : decode cX8_book 41 = .ok (.getfield 37, 3) := by decide +kernel
theorem dX8_book_44 : decode cX8_book 44 = .ok (.bipush 40, 2) := by decide +kernel
theorem dX8_book_46 : decode cX8_book 46 = .ok (.iload_n 1, 1) := by decide +kernel
theorem dX8_book_47 : decode cX8_book 47 = .ok (.imul, 1) := by decide +kernel
theorem dX8_book_48 : decode cX8_book 48 = .ok (.iload 4, 2) := by decide +kernel
theorem dX8_book_50 : decode cX8_book 50 = .ok (.iadd, 1) := by decide +kernel
theorem dX8_book_51 : decode cX8_book 51 = .ok (.iload 4, 2) := by decide +kernel
theorem dX8_book_53 : decode cX8_book 53 = .ok (.aload_n 0, 1) := by decide +kernel
theorem dX8_book_54 : decode cX8_book 54 = .ok (.getfield 167, 3) := by decide +kernel
theorem dX8_book_57 : decode cX8_book 57 = .ok (.if_icmp .ge 14, 3) := by decide +kernel
theorem dX8_book_60 : decode cX8_book 60 = .ok (.aload_n 0, 1) := by decide +kernel
theorem dX8_book_61 : decode cX8_book 61 = .ok (.getfield 25, 3) := by decide +kernel
theorem dX8_book_64 : decode cX8_book 64 = .ok (.iload 4, 2) := by decide +kernel
theorem dX8_book_66 : decode cX8_book 66 = .ok (.iaload, 1) := by decide +kernel
theorem dX8_book_67 : decode cX8_book 67 = .ok (.i2l, 1) := by decide +kernel
theorem dX8_book_68 : decode cX8_book 68 = .ok (.goto 6, 3) := by decide +kernel
theorem dX8_book_71 : decode cX8_book 71 = .ok (.ldc2_w 320, 3) := by decide +kernel
theorem dX8_book_74 : decode cX8_book 74 = .ok (.lastore, 1) := by decide +kernel
theorem dX8_book_75 : decode cX8_book 75 = .ok (.iinc 4 1, 3) := by decide +kernel
theorem dX8_book_78 : decode cX8_book 78 = .ok (.goto (-49), 3) := by decide +kernel
theorem dX8_book_81 : decode cX8_book 81 = .ok (.aload_n 0, 1) := by decide +kernel
theorem dX8_book_82 : decode cX8_book 82 = .ok (.getfield 167, 3) := by decide +kernel
theorem dX8_book_85 : decode cX8_book 85 = .ok (.ireturn, 1) := by decide +kernel
theorem dX8_isBook_0 : decode cX8_isBook 0 = .ok (.aload_n 0, 1) := by decide +kernel
theorem dX8_isBook_1 : decode cX8_isBook 1 = .ok (.getfield 167, 3) := by decide +kernel
theorem dX8_isBook_4 : decode cX8_isBook 4 = .ok (.aload_n 0, 1) := by decide +kernel
theorem dX8_isBook_5 : decode cX8_isBook 5 = .ok (.getfield 34, 3) := by decide +kernel
theorem dX8_isBook_8 : decode cX8_isBook 8 = .ok (.iload_n 1, 1) := by decide +kernel
theorem dX8_isBook_9 : decode cX8_isBook 9 = .ok (.iaload, 1) := by decide +kernel
theorem dX8_isBook_10 : decode cX8_isBook 10 = .ok (.if_icmp .ne 7, 3) := by decide +kernel
theorem dX8_isBook_13 : decode cX8_isBook 13 = .ok (.iconst 1, 1) := by decide +kernel
theorem dX8_isBook_14 : decode cX8_isBook 14 = .ok (.goto 4, 3) := by decide +kernel
theorem dX8_isBook_17 : decode cX8_isBook 17 = .ok (.iconst 0, 1) := by decide +kernel
theorem dX8_isBook_18 : decode cX8_isBook 18 = .ok (.istore_n 2, 1) := by decide +kernel
theorem dX8_isBook_19 : decode cX8_isBook 19 = .ok (.iconst 0, 1) := by decide +kernel
theorem dX8_isBook_20 : decode cX8_isBook 20 = .ok (.istore_n 3, 1) := by decide +kernel
theorem dX8_isBook_21 : decode cX8_isBook 21 = .ok (.iload_n 3, 1) := by decide +kernel
theorem dX8_isBook_22 : decode cX8_isBook 22 = .ok (.aload_n 0, 1) := by decide +kernel
theorem dX8_isBook_23 : decode cX8_isBook 23 = .ok (.getfield 167, 3) := by decide +kernel
theorem dX8_isBook_26 : decode cX8_isBook 26 = .ok (.if_icmp .ge 41, 3) := by decide +kernel
theorem dX8_isBook_29 : decode cX8_isBook 29 = .ok (.iload_n 2, 1) := by decide +kernel
theorem dX8_isBook_30 : decode cX8_isBook 30 = .ok (.ifCond .eq 37, 3) := by decide +kernel
theorem dX8_isBook_33 : decode cX8_isBook 33 = .ok (.aload_n 0, 1) := by decide +kernel
theorem dX8_isBook_34 : decode cX8_isBook 34 = .ok (.getfield 37, 3) := by decide +kernel
theorem dX8_isBook_37 : decode cX8_isBook 37 = .ok (.bipush 40, 2) := by decide +kernel
theorem dX8_isBook_39 : decode cX8_isBook 39 = .ok (.iload_n 1, 1) := by decide +kernel
theorem dX8_isBook_40 : decode cX8_isBook 40 = .ok (.imul, 1) := by decide +kernel
theorem dX8_isBook_41 : decode cX8_isBook 41 = .ok (.iload_n 3, 1) := by decide +kernel
theorem dX8_isBook_42 : decode cX8_isBook 42 = .ok (.iadd, 1) := by decide +kernel
theorem dX8_isBook_43 : decode cX8_isBook 43 = .ok (.laload, 1) := by decide +kernel
theorem dX8_isBook_44 : decode cX8_isBook 44 = .ok (.aload_n 0, 1) := by decide +kernel
theorem dX8_isBook_45 : decode cX8_isBook 45 = .ok (.getfield 25, 3) := by decide +kernel
theorem dX8_isBook_48 : decode cX8_isBook 48 = .ok (.iload_n 3, 1) := by decide +kernel
theorem dX8_isBook_49 : decode cX8_isBook 49 = .ok (.iaload, 1) := by decide +kernel
theorem dX8_isBook_50 : decode cX8_isBook 50 = .ok (.i2l, 1) := by decide +kernel
theorem dX8_isBook_51 : decode cX8_isBook 51 = .ok (.lcmp, 1) := by decide +kernel
theorem dX8_isBook_52 : decode cX8_isBook 52 = .ok (.ifCond .ne 7, 3) := by decide +kernel
theorem dX8_isBook_55 : decode cX8_isBook 55 = .ok (.iconst 1, 1) := by decide +kernel
theorem dX8_isBook_56 : decode cX8_isBook 56 = .ok (.goto 4, 3) := by decide +kernel
theorem dX8_isBook_59 : decode cX8_isBook 59 = .ok (.iconst 0, 1) := by decide +kernel
theorem dX8_isBook_60 : decode cX8_isBook 60 = .ok (.istore_n 2, 1) := by decide +kernel
theorem dX8_isBook_61 : decode cX8_isBook 61 = .ok (.iinc 3 1, 3) := by decide +kernel
theorem dX8_isBook_64 : decode cX8_isBook 64 = .ok (.goto (-43), 3) := by decide +kernel
theorem dX8_isBook_67 : decode cX8_isBook 67 = .ok (.iload_n 2, 1) := by decide +kernel
theorem dX8_isBook_68 : decode cX8_isBook 68 = .ok (.ireturn, 1) := by decide +kernel
theorem dX8_read_0 : decode cX8_read 0 = .ok (.aload_n 0, 1) := by decide +kernel
theorem dX8_read_1 : decode cX8_read 1 = .ok (.iload_n 1, 1) := by decide +kernel
theorem dX8_read_2 : decode cX8_read 2 = .ok (.iload_n 2, 1) := by decide +kernel
theorem dX8_read_3 : decode cX8_read 3 = .ok (.invokevirtual 317, 3) := by decide +kernel
theorem dX8_read_6 : decode cX8_read 6 = .ok (.istore_n 3, 1) := by decide +kernel
theorem dX8_read_7 : decode cX8_read 7 = .ok (.iload_n 3, 1) := by decide +kernel
theorem dX8_read_8 : decode cX8_read 8 = .ok (.ifCond .eq 9, 3) := by decide +kernel
theorem dX8_read_11 : decode cX8_read 11 = .ok (.aload_n 0, 1) := by decide +kernel
theorem dX8_read_12 : decode cX8_read 12 = .ok (.iload_n 3, 1) := by decide +kernel
theorem dX8_read_13 : decode cX8_read 13 = .ok (.invokevirtual 67, 3) := by decide +kernel
theorem dX8_read_16 : decode cX8_read 16 = .ok (.ireturn, 1) := by decide +kernel
theorem dX8_read_17 : decode cX8_read 17 = .ok (.iconst 0, 1) := by decide +kernel
theorem dX8_read_18 : decode cX8_read 18 = .ok (.istore 4, 2) := by decide +kernel
theorem dX8_read_20 : decode cX8_read 20 = .ok (.iconst 0, 1) := by decide +kernel
theorem dX8_read_21 : decode cX8_read 21 = .ok (.istore 5, 2) := by decide +kernel
theorem dX8_read_23 : decode cX8_read 23 = .ok (.iload 5, 2) := by decide +kernel
theorem dX8_read_25 : decode cX8_read 25 = .ok (.bipush 72, 2) := by decide +kernel
theorem dX8_read_27 : decode cX8_read 27 = .ok (.if_icmp .ge 44, 3) := by decide +kernel
theorem dX8_read_30 : decode cX8_read 30 = .ok (.aload_n 0, 1) := by decide +kernel
theorem dX8_read_31 : decode cX8_read 31 = .ok (.iload_n 2, 1) := by decide +kernel
theorem dX8_read_32 : decode cX8_read 32 = .ok (.iload 5, 2) := by decide +kernel
theorem dX8_read_34 : decode cX8_read 34 = .ok (.bipush 9, 2) := by decide +kernel
theorem dX8_read_36 : decode cX8_read 36 = .ok (.idiv, 1) := by decide +kernel
theorem dX8_read_37 : decode cX8_read 37 = .ok (.iconst 1, 1) := by decide +kernel
theorem dX8_read_38 : decode cX8_read 38 = .ok (.iload 5, 2) := by decide +kernel
theorem dX8_read_40 : decode cX8_read 40 = .ok (.bipush 9, 2) := by decide +kernel
theorem dX8_read_42 : decode cX8_read 42 = .ok (.irem, 1) := by decide +kernel
theorem dX8_read_43 : decode cX8_read 43 = .ok (.iadd, 1) := by decide +kernel
theorem dX8_read_44 : decode cX8_read 44 = .ok (.invokevirtual 174, 3) := by decide +kernel
theorem dX8_read_47 : decode cX8_read 47 = .ok (.iload 4, 2) := by decide +kernel
theorem dX8_read_49 : decode cX8_read 49 = .ok (.aload_n 0, 1) := by decide +kernel
theorem dX8_read_50 : decode cX8_read 50 = .ok (.iload_n 1, 1) := by decide +kernel
theorem dX8_read_51 : decode cX8_read 51 = .ok (.invokevirtual 322, 3) := by decide +kernel
theorem dX8_read_54 : decode cX8_read 54 = .ok (.ifCond .eq 7, 3) := by decide +kernel
theorem dX8_read_57 : decode cX8_read 57 = .ok (.iconst 1, 1) := by decide +kernel
theorem dX8_read_58 : decode cX8_read 58 = .ok (.goto 4, 3) := by decide +kernel
theorem dX8_read_61 : decode cX8_read 61 = .ok (.iconst 0, 1) := by decide +kernel
theorem dX8_read_62 : decode cX8_read 62 = .ok (.iadd, 1) := by decide +kernel
theorem dX8_read_63 : decode cX8_read 63 = .ok (.istore 4, 2) := by decide +kernel
theorem dX8_read_65 : decode cX8_read 65 = .ok (.iinc 5 1, 3) := by decide +kernel
theorem dX8_read_68 : decode cX8_read 68 = .ok (.goto (-45), 3) := by decide +kernel
theorem dX8_read_71 : decode cX8_read 71 = .ok (.iload 4, 2) := by decide +kernel
theorem dX8_read_73 : decode cX8_read 73 = .ok (.ireturn, 1) := by decide +kernel
theorem dX8_image_0 : decode cX8_image 0 = .ok (.iconst 0, 1) := by decide +kernel
theorem dX8_image_1 : decode cX8_image 1 = .ok (.istore_n 1, 1) := by decide +kernel
theorem dX8_image_2 : decode cX8_image 2 = .ok (.iload_n 1, 1) := by decide +kernel
theorem dX8_image_3 : decode cX8_image 3 = .ok (.sipush 633, 3) := by decide +kernel
theorem dX8_image_6 : decode cX8_image 6 = .ok (.if_icmp .ge 21, 3) := by decide +kernel
theorem dX8_image_9 : decode cX8_image 9 = .ok (.aload_n 0, 1) := by decide +kernel
theorem dX8_image_10 : decode cX8_image 10 = .ok (.getfield 13, 3) := by decide +kernel
theorem dX8_image_13 : decode cX8_image 13 = .ok (.iload_n 1, 1) := by decide +kernel
theorem dX8_image_14 : decode cX8_image 14 = .ok (.aload_n 0, 1) := by decide +kernel
theorem dX8_image_15 : decode cX8_image 15 = .ok (.getfield 7, 3) := by decide +kernel
theorem dX8_image_18 : decode cX8_image 18 = .ok (.iload_n 1, 1) := by decide +kernel
theorem dX8_image_19 : decode cX8_image 19 = .ok (.iaload, 1) := by decide +kernel
theorem dX8_image_20 : decode cX8_image 20 = .ok (.iastore, 1) := by decide +kernel
theorem dX8_image_21 : decode cX8_image 21 = .ok (.iinc 1 1, 3) := by decide +kernel
theorem dX8_image_24 : decode cX8_image 24 = .ok (.goto (-22), 3) := by decide +kernel
theorem dX8_image_27 : decode cX8_image 27 = .ok (.aload_n 0, 1) := by decide +kernel
theorem dX8_image_28 : decode cX8_image 28 = .ok (.iconst 1, 1) := by decide +kernel
theorem dX8_image_29 : decode cX8_image 29 = .ok (.putfield 325, 3) := by decide +kernel
theorem dX8_image_32 : decode cX8_image 32 = .ok (.iconst 1, 1) := by decide +kernel
theorem dX8_image_33 : decode cX8_image 33 = .ok (.ireturn, 1) := by decide +kernel
theorem dX8_undo_0 : decode cX8_undo 0 = .ok (.aload_n 0, 1) := by decide +kernel
theorem dX8_undo_1 : decode cX8_undo 1 = .ok (.getfield 325, 3) := by decide +kernel
theorem dX8_undo_4 : decode cX8_undo 4 = .ok (.ifCond .ne 10, 3) := by decide +kernel
theorem dX8_undo_7 : decode cX8_undo 7 = .ok (.aload_n 0, 1) := by decide +kernel
theorem dX8_undo_8 : decode cX8_undo 8 = .ok (.ldc 113, 2) := by decide +kernel
theorem dX8_undo_10 : decode cX8_undo 10 = .ok (.invokevirtual 67, 3) := by decide +kernel
theorem dX8_undo_13 : decode cX8_undo 13 = .ok (.ireturn, 1) := by decide +kernel
theorem dX8_undo_14 : decode cX8_undo 14 = .ok (.iconst 0, 1) := by decide +kernel
theorem dX8_undo_15 : decode cX8_undo 15 = .ok (.istore_n 1, 1) := by decide +kernel
theorem dX8_undo_16 : decode cX8_undo 16 = .ok (.iload_n 1, 1) := by decide +kernel
theorem dX8_undo_17 : decode cX8_undo 17 = .ok (.sipush 633, 3) := by decide +kernel
theorem dX8_undo_20 : decode cX8_undo 20 = .ok (.if_icmp .ge 21, 3) := by decide +kernel
theorem dX8_undo_23 : decode cX8_undo 23 = .ok (.aload_n 0, 1) := by decide +kernel
theorem dX8_undo_24 : decode cX8_undo 24 = .ok (.getfield 7, 3) := by decide +kernel
theorem dX8_undo_27 : decode cX8_undo 27 = .ok (.iload_n 1, 1) := by decide +kernel
theorem dX8_undo_28 : decode cX8_undo 28 = .ok (.aload_n 0, 1) := by decide +kernel
theorem dX8_undo_29 : decode cX8_undo 29 = .ok (.getfield 13, 3) := by decide +kernel
theorem dX8_undo_32 : decode cX8_undo 32 = .ok (.iload_n 1, 1) := by decide +kernel
theorem dX8_undo_33 : decode cX8_undo 33 = .ok (.iaload, 1) := by decide +kernel
theorem dX8_undo_34 : decode cX8_undo 34 = .ok (.iastore, 1) := by decide +kernel
theorem dX8_undo_35 : decode cX8_undo 35 = .ok (.iinc 1 1, 3) := by decide +kernel
theorem dX8_undo_38 : decode cX8_undo 38 = .ok (.goto (-22), 3) := by decide +kernel
theorem dX8_undo_41 : decode cX8_undo 41 = .ok (.aload_n 0, 1) := by decide +kernel
theorem dX8_undo_42 : decode cX8_undo 42 = .ok (.getfield 7, 3) := by decide +kernel
theorem dX8_undo_45 : decode cX8_undo 45 = .ok (.iconst 0, 1) := by decide +kernel
theorem dX8_undo_46 : decode cX8_undo 46 = .ok (.iaload, 1) := by decide +kernel
theorem dX8_undo_47 : decode cX8_undo 47 = .ok (.ireturn, 1) := by decide +kernel
theorem dX8_tear_0 : decode cX8_tear 0 = .ok (.aload_n 0, 1) := by decide +kernel
theorem dX8_tear_1 : decode cX8_tear 1 = .ok (.getfield 325, 3) := by decide +kernel
theorem dX8_tear_4 : decode cX8_tear 4 = .ok (.ifCond .eq 7, 3) := by decide +kernel
theorem dX8_tear_7 : decode cX8_tear 7 = .ok (.iconst 1, 1) := by decide +kernel
theorem dX8_tear_8 : decode cX8_tear 8 = .ok (.goto 4, 3) := by decide +kernel
theorem dX8_tear_11 : decode cX8_tear 11 = .ok (.iconst 0, 1) := by decide +kernel
theorem dX8_tear_12 : decode cX8_tear 12 = .ok (.istore_n 1, 1) := by decide +kernel
theorem dX8_tear_13 : decode cX8_tear 13 = .ok (.aload_n 0, 1) := by decide +kernel
theorem dX8_tear_14 : decode cX8_tear 14 = .ok (.iconst 0, 1) := by decide +kernel
theorem dX8_tear_15 : decode cX8_tear 15 = .ok (.putfield 325, 3) := by decide +kernel
theorem dX8_tear_18 : decode cX8_tear 18 = .ok (.iload_n 1, 1) := by decide +kernel
theorem dX8_tear_19 : decode cX8_tear 19 = .ok (.ireturn, 1) := by decide +kernel
theorem dX8_fullOnes_0 : decode cX8_fullOnes 0 = .ok (.iconst 0, 1) := by decide +kernel
theorem dX8_fullOnes_1 : decode cX8_fullOnes 1 = .ok (.istore_n 1, 1) := by decide +kernel
theorem dX8_fullOnes_2 : decode cX8_fullOnes 2 = .ok (.iconst 0, 1) := by decide +kernel
theorem dX8_fullOnes_3 : decode cX8_fullOnes 3 = .ok (.istore_n 2, 1) := by decide +kernel
theorem dX8_fullOnes_4 : decode cX8_fullOnes 4 = .ok (.iload_n 2, 1) := by decide +kernel
theorem dX8_fullOnes_5 : decode cX8_fullOnes 5 = .ok (.bipush 8, 2) := by decide +kernel
theorem dX8_fullOnes_7 : decode cX8_fullOnes 7 = .ok (.aload_n 0, 1) := by decide +kernel
theorem dX8_fullOnes_8 : decode cX8_fullOnes 8 = .ok (.getfield 7, 3) := by decide +kernel
theorem dX8_fullOnes_11 : decode cX8_fullOnes 11 = .ok (.iconst 0, 1) := by decide +kernel
theorem dX8_fullOnes_12 : decode cX8_fullOnes 12 = .ok (.iaload, 1) := by decide +kernel
theorem dX8_fullOnes_13 : decode cX8_fullOnes 13 = .ok (.imul, 1) := by decide +kernel
theorem dX8_fullOnes_14 : decode cX8_fullOnes 14 = .ok (.if_icmp .ge 32, 3) := by decide +kernel
theorem dX8_fullOnes_17 : decode cX8_fullOnes 17 = .ok (.iload_n 1, 1) := by decide +kernel
theorem dX8_fullOnes_18 : decode cX8_fullOnes 18 = .ok (.aload_n 0, 1) := by decide +kernel
theorem dX8_fullOnes_19 : decode cX8_fullOnes 19 = .ok (.iload_n 2, 1) := by decide +kernel
theorem dX8_fullOnes_20 : decode cX8_fullOnes 20 = .ok (.bipush 8, 2) := by decide +kernel
theorem dX8_fullOnes_22 : decode cX8_fullOnes 22 = .ok (.idiv, 1) := by decide +kernel
theorem dX8_fullOnes_23 : decode cX8_fullOnes 23 = .ok (.iload_n 2, 1) := by decide +kernel
theorem dX8_fullOnes_24 : decode cX8_fullOnes 24 = .ok (.bipush 8, 2) := by decide +kernel
theorem dX8_fullOnes_26 : decode cX8_fullOnes 26 = .ok (.irem, 1) := by decide +kernel
theorem dX8_fullOnes_27 : decode cX8_fullOnes 27 = .ok (.invokevirtual 131, 3) := by decide +kernel
theorem dX8_fullOnes_30 : decode cX8_fullOnes 30 = .ok (.ifCond .eq 7, 3) := by decide +kernel
theorem dX8_fullOnes_33 : decode cX8_fullOnes 33 = .ok (.iconst 1, 1) := by decide +kernel
theorem dX8_fullOnes_34 : decode cX8_fullOnes 34 = .ok (.goto 4, 3) := by decide +kernel
theorem dX8_fullOnes_37 : decode cX8_fullOnes 37 = .ok (.iconst 0, 1) := by decide +kernel
theorem dX8_fullOnes_38 : decode cX8_fullOnes 38 = .ok (.iadd, 1) := by decide +kernel
theorem dX8_fullOnes_39 : decode cX8_fullOnes 39 = .ok (.istore_n 1, 1) := by decide +kernel
theorem dX8_fullOnes_40 : decode cX8_fullOnes 40 = .ok (.iinc 2 1, 3) := by decide +kernel
theorem dX8_fullOnes_43 : decode cX8_fullOnes 43 = .ok (.goto (-39), 3) := by decide +kernel
theorem dX8_fullOnes_46 : decode cX8_fullOnes 46 = .ok (.iload_n 1, 1) := by decide +kernel
theorem dX8_fullOnes_47 : decode cX8_fullOnes 47 = .ok (.ireturn, 1) := by decide +kernel
theorem dX8_count_0 : decode cX8_count 0 = .ok (.iload_n 1, 1) := by decide +kernel
theorem dX8_count_1 : decode cX8_count 1 = .ok (.tableswitch 54 0 3 #[31, 38, 43, 49], 31) := by decide +kernel
theorem dX8_count_32 : decode cX8_count 32 = .ok (.aload_n 0, 1) := by decide +kernel
theorem dX8_count_33 : decode cX8_count 33 = .ok (.getfield 7, 3) := by decide +kernel
theorem dX8_count_36 : decode cX8_count 36 = .ok (.iconst 0, 1) := by decide +kernel
theorem dX8_count_37 : decode cX8_count 37 = .ok (.iaload, 1) := by decide +kernel
theorem dX8_count_38 : decode cX8_count 38 = .ok (.ireturn, 1) := by decide +kernel
theorem dX8_count_39 : decode cX8_count 39 = .ok (.aload_n 0, 1) := by decide +kernel
theorem dX8_count_40 : decode cX8_count 40 = .ok (.getfield 204, 3) := by decide +kernel
theorem dX8_count_43 : decode cX8_count 43 = .ok (.ireturn, 1) := by decide +kernel
theorem dX8_count_44 : decode cX8_count 44 = .ok (.aload_n 0, 1) := by decide +kernel
theorem dX8_count_45 : decode cX8_count 45 = .ok (.iconst 0, 1) := by decide +kernel
theorem dX8_count_46 : decode cX8_count 46 = .ok (.invokevirtual 154, 3) := by decide +kernel
theorem dX8_count_49 : decode cX8_count 49 = .ok (.ireturn, 1) := by decide +kernel
theorem dX8_count_50 : decode cX8_count 50 = .ok (.aload_n 0, 1) := by decide +kernel
theorem dX8_count_51 : decode cX8_count 51 = .ok (.invokevirtual 328, 3) := by decide +kernel
theorem dX8_count_54 : decode cX8_count 54 = .ok (.ireturn, 1) := by decide +kernel
theorem dX8_count_55 : decode cX8_count 55 = .ok (.aload_n 0, 1) := by decide +kernel
theorem dX8_count_56 : decode cX8_count 56 = .ok (.ldc 44, 2) := by decide +kernel
theorem dX8_count_58 : decode cX8_count 58 = .ok (.invokevirtual 67, 3) := by decide +kernel
theorem dX8_count_61 : decode cX8_count 61 = .ok (.ireturn, 1) := by decide +kernel
theorem dX8_status_0 : decode cX8_status 0 = .ok (.iload_n 1, 1) := by decide +kernel
theorem dX8_status_1 : decode cX8_status 1 = .ok (.i2l, 1) := by decide +kernel
theorem dX8_status_2 : decode cX8_status 2 = .ok (.ldc2_w 320, 3) := by decide +kernel
theorem dX8_status_5 : decode cX8_status 5 = .ok (.ldc2_w 331, 3) := by decide +kernel
theorem dX8_status_8 : decode cX8_status 8 = .ok (.invokestatic 45, 3) := by decide +kernel
theorem dX8_status_11 : decode cX8_status 11 = .ok (.ifCond .ne 10, 3) := by decide +kernel
theorem dX8_status_14 : decode cX8_status 14 = .ok (.aload_n 0, 1) := by decide +kernel
theorem dX8_status_15 : decode cX8_status 15 = .ok (.ldc 44, 2) := by decide +kernel
theorem dX8_status_17 : decode cX8_status 17 = .ok (.invokevirtual 67, 3) := by decide +kernel
theorem dX8_status_20 : decode cX8_status 20 = .ok (.ireturn, 1) := by decide +kernel
theorem dX8_status_21 : decode cX8_status 21 = .ok (.iconst 0, 1) := by decide +kernel
theorem dX8_status_22 : decode cX8_status 22 = .ok (.istore_n 2, 1) := by decide +kernel
theorem dX8_status_23 : decode cX8_status 23 = .ok (.iconst 0, 1) := by decide +kernel
theorem dX8_status_24 : decode cX8_status 24 = .ok (.istore_n 3, 1) := by decide +kernel
theorem dX8_status_25 : decode cX8_status 25 = .ok (.iload_n 3, 1) := by decide +kernel
theorem dX8_status_26 : decode cX8_status 26 = .ok (.bipush 7, 2) := by decide +kernel
theorem dX8_status_28 : decode cX8_status 28 = .ok (.if_icmp .ge 31, 3) := by decide +kernel
theorem dX8_status_31 : decode cX8_status 31 = .ok (.iload_n 2, 1) := by decide +kernel
theorem dX8_status_32 : decode cX8_status 32 = .ok (.iload_n 1, 1) := by decide +kernel
theorem dX8_status_33 : decode cX8_status 33 = .ok (.ifCond .lt 8, 3) := by decide +kernel
theorem dX8_status_36 : decode cX8_status 36 = .ok (.iload_n 3, 1) := by decide +kernel
theorem dX8_status_37 : decode cX8_status 37 = .ok (.iload_n 1, 1) := by decide +kernel
theorem dX8_status_38 : decode cX8_status 38 = .ok (.if_icmp .ne 12, 3) := by decide +kernel
theorem dX8_status_41 : decode cX8_status 41 = .ok (.aload_n 0, 1) := by decide +kernel
theorem dX8_status_42 : decode cX8_status 42 = .ok (.getfield 22, 3) := by decide +kernel
theorem dX8_status_45 : decode cX8_status 45 = .ok (.iload_n 3, 1) := by decide +kernel
theorem dX8_status_46 : decode cX8_status 46 = .ok (.iaload, 1) := by decide +kernel
theorem dX8_status_47 : decode cX8_status 47 = .ok (.goto 4, 3) := by decide +kernel
theorem dX8_status_50 : decode cX8_status 50 = .ok (.iconst 0, 1) := by decide +kernel
theorem dX8_status_51 : decode cX8_status 51 = .ok (.iadd, 1) := by decide +kernel
theorem dX8_status_52 : decode cX8_status 52 = .ok (.istore_n 2, 1) := by decide +kernel
theorem dX8_status_53 : decode cX8_status 53 = .ok (.iinc 3 1, 3) := by decide +kernel
theorem dX8_status_56 : decode cX8_status 56 = .ok (.goto (-31), 3) := by decide +kernel
theorem dX8_status_59 : decode cX8_status 59 = .ok (.iload_n 2, 1) := by decide +kernel
theorem dX8_status_60 : decode cX8_status 60 = .ok (.ireturn, 1) := by decide +kernel
end
section
theorem dL_law_0 : decode cL_law 0 = .ok (.new 7, 3) := by decide +kernel
theorem dL_law_3 : decode cL_law 3 = .ok (.dup, 1) := by decide +kernel
theorem dL_law_4 : decode cL_law 4 = .ok (.invokespecial 9, 3) := by decide +kernel
theorem dL_law_7 : decode cL_law 7 = .ok (.astore_n 1, 1) := by decide +kernel
theorem dL_law_8 : decode cL_law 8 = .ok (.new 10, 3) := by decide +kernel
theorem dL_law_11 : decode cL_law 11 = .ok (.dup, 1) := by decide +kernel
theorem dL_law_12 : decode cL_law 12 = .ok (.invokespecial 12, 3) := by decide +kernel
theorem dL_law_15 : decode cL_law 15 = .ok (.astore_n 2, 1) := by decide +kernel
theorem dL_law_16 : decode cL_law 16 = .ok (.iconst 0, 1) := by decide +kernel
theorem dL_law_17 : decode cL_law 17 = .ok (.istore_n 3, 1) := by decide +kernel
theorem dL_law_18 : decode cL_law 18 = .ok (.iload_n 3, 1) := by decide +kernel
theorem dL_law_19 : decode cL_law 19 = .ok (.aload_n 0, 1) := by decide +kernel
theorem dL_law_20 : decode cL_law 20 = .ok (.arraylength, 1) := by decide +kernel
theorem dL_law_21 : decode cL_law 21 = .ok (.bipush 6, 2) := by decide +kernel
theorem dL_law_23 : decode cL_law 23 = .ok (.isub, 1) := by decide +kernel
theorem dL_law_24 : decode cL_law 24 = .ok (.if_icmp .gt 1601, 3) := by decide +kernel
theorem dL_law_27 : decode cL_law 27 = .ok (.aload_n 0, 1) := by decide +kernel
theorem dL_law_28 : decode cL_law 28 = .ok (.iload_n 3, 1) := by decide +kernel
theorem dL_law_29 : decode cL_law 29 = .ok (.iaload, 1) := by decide +kernel
theorem dL_law_30 : decode cL_law 30 = .ok (.bipush 63, 2) := by decide +kernel
theorem dL_law_32 : decode cL_law 32 = .ok (.iand, 1) := by decide +kernel
theorem dL_law_33 : decode cL_law 33 = .ok (.tableswitch 1586 0 39 #[175, 198, 231, 274, 327, 360, 393, 416, 459, 502, 555, 578, 601, 644, 687, 740, 793, 836, 879, 922, 955, 978, 1021, 1064, 1107, 1140, 1163, 1196, 1209, 1222, 1265, 1339, 1402, 1435, 1468, 1501, 1514, 1527, 1540, 1563], 175) := by decide +kernel
theorem dL_law_208 : decode cL_law 208 = .ok (.aload_n 1, 1) := by decide +kernel
theorem dL_law_209 : decode cL_law 209 = .ok (.aload_n 0, 1) := by decide +kernel
theorem dL_law_210 : decode cL_law 210 = .ok (.iload_n 3, 1) := by decide +kernel
theorem dL_law_211 : decode cL_law 211 = .ok (.iconst 1, 1) := by decide +kernel
theorem dL_law_212 : decode cL_law 212 = .ok (.iadd, 1) := by decide +kernel
theorem dL_law_213 : decode cL_law 213 = .ok (.iaload, 1) := by decide +kernel
theorem dL_law_214 : decode cL_law 214 = .ok (.invokevirtual 13, 3) := by decide +kernel
theorem dL_law_217 : decode cL_law 217 = .ok (.aload_n 2, 1) := by decide +kernel
theorem dL_law_218 : decode cL_law 218 = .ok (.aload_n 0, 1) := by decide +kernel
theorem dL_law_219 : decode cL_law 219 = .ok (.iload_n 3, 1) := by decide +kernel
theorem dL_law_220 : decode cL_law 220 = .ok (.iconst 1, 1) := by decide +kernel
theorem dL_law_221 : decode cL_law 221 = .ok (.iadd, 1) := by decide +kernel
theorem dL_law_222 : decode cL_law 222 = .ok (.iaload, 1) := by decide +kernel
theorem dL_law_223 : decode cL_law 223 = .ok (.invokevirtual 17, 3) := by decide +kernel
theorem dL_law_226 : decode cL_law 226 = .ok (.if_icmp .eq 1393, 3) := by decide +kernel
theorem dL_law_229 : decode cL_law 229 = .ok (.iconst 0, 1) := by decide +kernel
theorem dL_law_230 : decode cL_law 230 = .ok (.ireturn, 1) := by decide +kernel
theorem dL_law_231 : decode cL_law 231 = .ok (.aload_n 1, 1) := by decide +kernel
theorem dL_law_232 : decode cL_law 232 = .ok (.aload_n 0, 1) := by decide +kernel
theorem dL_law_233 : decode cL_law 233 = .ok (.iload_n 3, 1) := by decide +kernel
theorem dL_law_234 : decode cL_law 234 = .ok (.iconst 1, 1) := by decide +kernel
theorem dL_law_235 : decode cL_law 235 = .ok (.iadd, 1) := by decide +kernel
theorem dL_law_236 : decode cL_law 236 = .ok (.iaload, 1) := by decide +kernel
theorem dL_law_237 : decode cL_law 237 = .ok (.aload_n 0, 1) := by decide +kernel
theorem dL_law_238 : decode cL_law 238 = .ok (.iload_n 3, 1) := by decide +kernel
theorem dL_law_239 : decode cL_law 239 = .ok (.iconst 2, 1) := by decide +kernel
theorem dL_law_240 : decode cL_law 240 = .ok (.iadd, 1) := by decide +kernel
theorem dL_law_241 : decode cL_law 241 = .ok (.iaload, 1) := by decide +kernel
theorem dL_law_242 : decode cL_law 242 = .ok (.invokevirtual 18, 3) := by decide +kernel
theorem dL_law_245 : decode cL_law 245 = .ok (.aload_n 2, 1) := by decide +kernel
theorem dL_law_246 : decode cL_law 246 = .ok (.aload_n 0, 1) := by decide +kernel
theorem dL_law_247 : decode cL_law 247 = .ok (.iload_n 3, 1) := by decide +kernel
theorem dL_law_248 : decode cL_law 248 = .ok (.iconst 1, 1) := by decide +kernel
theorem dL_law_249 : decode cL_law 249 = .ok (.iadd, 1) := by decide +kernel
theorem dL_law_250 : decode cL_law 250 = .ok (.iaload, 1) := by decide +kernel
theorem dL_law_251 : decode cL_law 251 = .ok (.aload_n 0, 1) := by decide +kernel
theorem dL_law_252 : decode cL_law 252 = .ok (.iload_n 3, 1) := by decide +kernel
theorem dL_law_253 : decode cL_law 253 = .ok (.iconst 2, 1) := by decide +kernel
theorem dL_law_254 : decode cL_law 254 = .ok (.iadd, 1) := by decide +kernel
theorem dL_law_255 : decode cL_law 255 = .ok (.iaload, 1) := by decide +kernel
theorem dL_law_256 : decode cL_law 256 = .ok (.invokevirtual 22, 3) := by decide +kernel
theorem dL_law_259 : decode cL_law 259 = .ok (.if_icmp .eq 1360, 3) := by decide +kernel
theorem dL_law_262 : decode cL_law 262 = .ok (.iconst 0, 1) := by decide +kernel
theorem dL_law_263 : decode cL_law 263 = .ok (.ireturn, 1) := by decide +kernel
theorem dL_law_264 : decode cL_law 264 = .ok (.aload_n 1, 1) := by decide +kernel
theorem dL_law_265 : decode cL_law 265 = .ok (.aload_n 0, 1) := by decide +kernel
theorem dL_law_266 : decode cL_law 266 = .ok (.iload_n 3, 1) := by decide +kernel
theorem dL_law_267 : decode cL_law 267 = .ok (.iconst 1, 1) := by decide +kernel
theorem dL_law_268 : decode cL_law 268 = .ok (.iadd, 1) := by decide +kernel
theorem dL_law_269 : decode cL_law 269 = .ok (.iaload, 1) := by decide +kernel
theorem dL_law_270 : decode cL_law 270 = .ok (.aload_n 0, 1) := by decide +kernel
theorem dL_law_271 : decode cL_law 271 = .ok (.iload_n 3, 1) := by decide +kernel
theorem dL_law_272 : decode cL_law 272 = .ok (.iconst 2, 1) := by decide +kernel
theorem dL_law_273 : decode cL_law 273 = .ok (.iadd, 1) := by decide +kernel
theorem dL_law_274 : decode cL_law 274 = .ok (.iaload, 1) := by decide +kernel
theorem dL_law_275 : decode cL_law 275 = .ok (.aload_n 0, 1) := by decide +kernel
theorem dL_law_276 : decode cL_law 276 = .ok (.iload_n 3, 1) := by decide +kernel
theorem dL_law_277 : decode cL_law 277 = .ok (.iconst 3, 1) := by decide +kernel
theorem dL_law_278 : decode cL_law 278 = .ok (.iadd, 1) := by decide +kernel
theorem dL_law_279 : decode cL_law 279 = .ok (.iaload, 1) := by decide +kernel
theorem dL_law_280 : decode cL_law 280 = .ok (.invokevirtual 23, 3) := by decide +kernel
theorem dL_law_283 : decode cL_law 283 = .ok (.aload_n 2, 1) := by decide +kernel
theorem dL_law_284 : decode cL_law 284 = .ok (.aload_n 0, 1) := by decide +kernel
theorem dL_law_285 : decode cL_law 285 = .ok (.iload_n 3, 1) := by decide +kernel
theorem dL_law_286 : decode cL_law 286 = .ok (.iconst 1, 1) := by decide +kernel
theorem dL_law_287 : decode cL_law 287 = .ok (.iadd, 1) := by decide +kernel
theorem dL_law_288 : decode cL_law 288 = .ok (.iaload, 1) := by decide +kernel
theorem dL_law_289 : decode cL_law 289 = .ok (.aload_n 0, 1) := by decide +kernel
theorem dL_law_290 : decode cL_law 290 = .ok (.iload_n 3, 1) := by decide +kernel
theorem dL_law_291 : decode cL_law 291 = .ok (.iconst 2, 1) := by decide +kernel
theorem dL_law_292 : decode cL_law 292 = .ok (.iadd, 1) := by decide +kernel
theorem dL_law_293 : decode cL_law 293 = .ok (.iaload, 1) := by decide +kernel
theorem dL_law_294 : decode cL_law 294 = .ok (.aload_n 0, 1) := by decide +kernel
theorem dL_law_295 : decode cL_law 295 = .ok (.iload_n 3, 1) := by decide +kernel
theorem dL_law_296 : decode cL_law 296 = .ok (.iconst 3, 1) := by decide +kernel
theorem dL_law_297 : decode cL_law 297 = .ok (.iadd, 1) := by decide +kernel
theorem dL_law_298 : decode cL_law 298 = .ok (.iaload, 1) := by decide +kernel
theorem dL_law_299 : decode cL_law 299 = .ok (.invokevirtual 27, 3) := by decide +kernel
theorem dL_law_302 : decode cL_law 302 = .ok (.if_icmp .eq 1317, 3) := by decide +kernel
theorem dL_law_305 : decode cL_law 305 = .ok (.iconst 0, 1) := by decide +kernel
theorem dL_law_306 : decode cL_law 306 = .ok (.ireturn, 1) := by decide +kernel
theorem dL_law_307 : decode cL_law 307 = .ok (.aload_n 1, 1) := by decide +kernel
theorem dL_law_308 : decode cL_law 308 = .ok (.aload_n 0, 1) := by decide +kernel
theorem dL_law_309 : decode cL_law 309 = .ok (.iload_n 3, 1) := by decide +kernel
theorem dL_law_310 : decode cL_law 310 = .ok (.iconst 1, 1) := by decide +kernel
theorem dL_law_311 : decode cL_law 311 = .ok (.iadd, 1) := by decide +kernel
theorem dL_law_312 : decode cL_law 312 = .ok (.iaload, 1) := by decide +kernel
theorem dL_law_313 : decode cL_law 313 = .ok (.aload_n 0, 1) := by decide +kernel
theorem dL_law_314 : decode cL_law 314 = .ok (.iload_n 3, 1) := by decide +kernel
theorem dL_law_315 : decode cL_law 315 = .ok (.iconst 2, 1) := by decide +kernel
theorem dL_law_316 : decode cL_law 316 = .ok (.iadd, 1) := by decide +kernel
theorem dL_law_317 : decode cL_law 317 = .ok (.iaload, 1) := by decide +kernel
theorem dL_law_318 : decode cL_law 318 = .ok (.aload_n 0, 1) := by decide +kernel
theorem dL_law_319 : decode cL_law 319 = .ok (.iload_n 3, 1) := by decide +kernel
theorem dL_law_320 : decode cL_law 320 = .ok (.iconst 3, 1) := by decide +kernel
theorem dL_law_321 : decode cL_law 321 = .ok (.iadd, 1) := by decide +kernel
theorem dL_law_322 : decode cL_law 322 = .ok (.iaload, 1) := by decide +kernel
theorem dL_law_323 : decode cL_law 323 = .ok (.aload_n 0, 1) := by decide +kernel
theorem dL_law_324 : decode cL_law 324 = .ok (.iload_n 3, 1) := by decide +kernel
theorem dL_law_325 : decode cL_law 325 = .ok (.iconst 4, 1) := by decide +kernel
theorem dL_law_326 : decode cL_law 326 = .ok (.iadd, 1) := by decide +kernel
theorem dL_law_327 : decode cL_law 327 = .ok (.iaload, 1) := by decide +kernel
theorem dL_law_328 : decode cL_law 328 = .ok (.invokevirtual 28, 3) := by decide +kernel
theorem dL_law_331 : decode cL_law 331 = .ok (.aload_n 2, 1) := by decide +kernel
theorem dL_law_332 : decode cL_law 332 = .ok (.aload_n 0, 1) := by decide +kernel
theorem dL_law_333 : decode cL_law 333 = .ok (.iload_n 3, 1) := by decide +kernel
theorem dL_law_334 : decode cL_law 334 = .ok (.iconst 1, 1) := by decide +kernel
theorem dL_law_335 : decode cL_law 335 = .ok (.iadd, 1) := by decide +kernel
theorem dL_law_336 : decode cL_law 336 = .ok (.iaload, 1) := by decide +kernel
theorem dL_law_337 : decode cL_law 337 = .ok (.aload_n 0, 1) := by decide +kernel
theorem dL_law_338 : decode cL_law 338 = .ok (.iload_n 3, 1) := by decide +kernel
theorem dL_law_339 : decode cL_law 339 = .ok (.iconst 2, 1) := by decide +kernel
theorem dL_law_340 : decode cL_law 340 = .ok (.iadd, 1) := by decide +kernel
theorem dL_law_341 : decode cL_law 341 = .ok (.iaload, 1) := by decide +kernel
theorem dL_law_342 : decode cL_law 342 = .ok (.aload_n 0, 1) := by decide +kernel
theorem dL_law_343 : decode cL_law 343 = .ok (.iload_n 3, 1) := by decide +kernel
theorem dL_law_344 : decode cL_law 344 = .ok (.iconst 3, 1) := by decide +kernel
theorem dL_law_345 : decode cL_law 345 = .ok (.iadd, 1) := by decide +kernel
theorem dL_law_346 : decode cL_law 346 = .ok (.iaload, 1) := by decide +kernel
theorem dL_law_347 : decode cL_law 347 = .ok (.aload_n 0, 1) := by decide +kernel
theorem dL_law_348 : decode cL_law 348 = .ok (.iload_n 3, 1) := by decide +kernel
theorem dL_law_349 : decode cL_law 349 = .ok (.iconst 4, 1) := by decide +kernel
theorem dL_law_350 : decode cL_law 350 = .ok (.iadd, 1) := by decide +kernel
theorem dL_law_351 : decode cL_law 351 = .ok (.iaload, 1) := by decide +kernel
theorem dL_law_352 : decode cL_law 352 = .ok (.invokevirtual 32, 3) := by decide +kernel
theorem dL_law_355 : decode cL_law 355 = .ok (.if_icmp .eq 1264, 3) := by decide +kernel
theorem dL_law_358 : decode cL_law 358 = .ok (.iconst 0, 1) := by decide +kernel
theorem dL_law_359 : decode cL_law 359 = .ok (.ireturn, 1) := by decide +kernel
theorem dL_law_360 : decode cL_law 360 = .ok (.aload_n 1, 1) := by decide +kernel
theorem dL_law_361 : decode cL_law 361 = .ok (.aload_n 0, 1) := by decide +kernel
theorem dL_law_362 : decode cL_law 362 = .ok (.iload_n 3, 1) := by decide +kernel
theorem dL_law_363 : decode cL_law 363 = .ok (.iconst 1, 1) := by decide +kernel
theorem dL_law_364 : decode cL_law 364 = .ok (.iadd, 1) := by decide +kernel
theorem dL_law_365 : decode cL_law 365 = .ok (.iaload, 1) := by decide +kernel
theorem dL_law_366 : decode cL_law 366 = .ok (.aload_n 0, 1) := by decide +kernel
theorem dL_law_367 : decode cL_law 367 = .ok (.iload_n 3, 1) := by decide +kernel
theorem dL_law_368 : decode cL_law 368 = .ok (.iconst 2, 1) := by decide +kernel
theorem dL_law_369 : decode cL_law 369 = .ok (.iadd, 1) := by decide +kernel
theorem dL_law_370 : decode cL_law 370 = .ok (.iaload, 1) := by decide +kernel
theorem dL_law_371 : decode cL_law 371 = .ok (.invokevirtual 33, 3) := by decide +kernel
theorem dL_law_374 : decode cL_law 374 = .ok (.aload_n 2, 1) := by decide +kernel
theorem dL_law_375 : decode cL_law 375 = .ok (.aload_n 0, 1) := by decide +kernel
theorem dL_law_376 : decode cL_law 376 = .ok (.iload_n 3, 1) := by decide +kernel
theorem dL_law_377 : decode cL_law 377 = .ok (.iconst 1, 1) := by decide +kernel
theorem dL_law_378 : decode cL_law 378 = .ok (.iadd, 1) := by decide +kernel
theorem dL_law_379 : decode cL_law 379 = .ok (.iaload, 1) := by decide +kernel
theorem dL_law_380 : decode cL_law 380 = .ok (.aload_n 0, 1) := by decide +kernel
theorem dL_law_381 : decode cL_law 381 = .ok (.iload_n 3, 1) := by decide +kernel
theorem dL_law_382 : decode cL_law 382 = .ok (.iconst 2, 1) := by decide +kernel
theorem dL_law_383 : decode cL_law 383 = .ok (.iadd, 1) := by decide +kernel
theorem dL_law_384 : decode cL_law 384 = .ok (.iaload, 1) := by decide +kernel
theorem dL_law_385 : decode cL_law 385 = .ok (.invokevirtual 36, 3) := by decide +kernel
theorem dL_law_388 : decode cL_law 388 = .ok (.if_icmp .eq 1231, 3) := by decide +kernel
theorem dL_law_391 : decode cL_law 391 = .ok (.iconst 0, 1) := by decide +kernel
theorem dL_law_392 : decode cL_law 392 = .ok (.ireturn, 1) := by decide +kernel
theorem dL_law_393 : decode cL_law 393 = .ok (.aload_n 1, 1) := by decide +kernel
theorem dL_law_394 : decode cL_law 394 = .ok (.aload_n 0, 1) := by decide +kernel
theorem dL_law_395 : decode cL_law 395 = .ok (.iload_n 3, 1) := by decide +kernel
theorem dL_law_396 : decode cL_law 396 = .ok (.iconst 1, 1) := by decide +kernel
theorem dL_law_397 : decode cL_law 397 = .ok (.iadd, 1) := by decide +kernel
theorem dL_law_398 : decode cL_law 398 = .ok (.iaload, 1) := by decide +kernel
theorem dL_law_399 : decode cL_law 399 = .ok (.aload_n 0, 1) := by decide +kernel
theorem dL_law_400 : decode cL_law 400 = .ok (.iload_n 3, 1) := by decide +kernel
theorem dL_law_401 : decode cL_law 401 = .ok (.iconst 2, 1) := by decide +kernel
theorem dL_law_402 : decode cL_law 402 = .ok (.iadd, 1) := by decide +kernel
theorem dL_law_403 : decode cL_law 403 = .ok (.iaload, 1) := by decide +kernel
theorem dL_law_404 : decode cL_law 404 = .ok (.invokevirtual 37, 3) := by decide +kernel
theorem dL_law_407 : decode cL_law 407 = .ok (.aload_n 2, 1) := by decide +kernel
theorem dL_law_408 : decode cL_law 408 = .ok (.aload_n 0, 1) := by decide +kernel
theorem dL_law_409 : decode cL_law 409 = .ok (.iload_n 3, 1) := by decide +kernel
theorem dL_law_410 : decode cL_law 410 = .ok (.iconst 1, 1) := by decide +kernel
theorem dL_law_411 : decode cL_law 411 = .ok (.iadd, 1) := by decide +kernel
theorem dL_law_412 : decode cL_law 412 = .ok (.iaload, 1) := by decide +kernel
theorem dL_law_413 : decode cL_law 413 = .ok (.aload_n 0, 1) := by decide +kernel
theorem dL_law_414 : decode cL_law 414 = .ok (.iload_n 3, 1) := by decide +kernel
theorem dL_law_415 : decode cL_law 415 = .ok (.iconst 2, 1) := by decide +kernel
theorem dL_law_416 : decode cL_law 416 = .ok (.iadd, 1) := by decide +kernel
theorem dL_law_417 : decode cL_law 417 = .ok (.iaload, 1) := by decide +kernel
theorem dL_law_418 : decode cL_law 418 = .ok (.invokevirtual 40, 3) := by decide +kernel
theorem dL_law_421 : decode cL_law 421 = .ok (.if_icmp .eq 1198, 3) := by decide +kernel
theorem dL_law_424 : decode cL_law 424 = .ok (.iconst 0, 1) := by decide +kernel
theorem dL_law_425 : decode cL_law 425 = .ok (.ireturn, 1) := by decide +kernel
theorem dL_law_426 : decode cL_law 426 = .ok (.aload_n 1, 1) := by decide +kernel
theorem dL_law_427 : decode cL_law 427 = .ok (.aload_n 0, 1) := by decide +kernel
theorem dL_law_428 : decode cL_law 428 = .ok (.iload_n 3, 1) := by decide +kernel
theorem dL_law_429 : decode cL_law 429 = .ok (.iconst 1, 1) := by decide +kernel
theorem dL_law_430 : decode cL_law 430 = .ok (.iadd, 1) := by decide +kernel
theorem dL_law_431 : decode cL_law 431 = .ok (.iaload, 1) := by decide +kernel
theorem dL_law_432 : decode cL_law 432 = .ok (.invokevirtual 41, 3) := by decide +kernel
theorem dL_law_435 : decode cL_law 435 = .ok (.aload_n 2, 1) := by decide +kernel
theorem dL_law_436 : decode cL_law 436 = .ok (.aload_n 0, 1) := by decide +kernel
theorem dL_law_437 : decode cL_law 437 = .ok (.iload_n 3, 1) := by decide +kernel
theorem dL_law_438 : decode cL_law 438 = .ok (.iconst 1, 1) := by decide +kernel
theorem dL_law_439 : decode cL_law 439 = .ok (.iadd, 1) := by decide +kernel
theorem dL_law_440 : decode cL_law 440 = .ok (.iaload, 1) := by decide +kernel
theorem dL_law_441 : decode cL_law 441 = .ok (.invokevirtual 44, 3) := by decide +kernel
theorem dL_law_444 : decode cL_law 444 = .ok (.if_icmp .eq 1175, 3) := by decide +kernel
theorem dL_law_447 : decode cL_law 447 = .ok (.iconst 0, 1) := by decide +kernel
theorem dL_law_448 : decode cL_law 448 = .ok (.ireturn, 1) := by decide +kernel
theorem dL_law_449 : decode cL_law 449 = .ok (.aload_n 1, 1) := by decide +kernel
theorem dL_law_450 : decode cL_law 450 = .ok (.aload_n 0, 1) := by decide +kernel
theorem dL_law_451 : decode cL_law 451 = .ok (.iload_n 3, 1) := by decide +kernel
theorem dL_law_452 : decode cL_law 452 = .ok (.iconst 1, 1) := by decide +kernel
theorem dL_law_453 : decode cL_law 453 = .ok (.iadd, 1) := by decide +kernel
theorem dL_law_454 : decode cL_law 454 = .ok (.iaload, 1) := by decide +kernel
theorem dL_law_455 : decode cL_law 455 = .ok (.aload_n 0, 1) := by decide +kernel
theorem dL_law_456 : decode cL_law 456 = .ok (.iload_n 3, 1) := by decide +kernel
theorem dL_law_457 : decode cL_law 457 = .ok (.iconst 2, 1) := by decide +kernel
theorem dL_law_458 : decode cL_law 458 = .ok (.iadd, 1) := by decide +kernel
theorem dL_law_459 : decode cL_law 459 = .ok (.iaload, 1) := by decide +kernel
theorem dL_law_460 : decode cL_law 460 = .ok (.aload_n 0, 1) := by decide +kernel
theorem dL_law_461 : decode cL_law 461 = .ok (.iload_n 3, 1) := by decide +kernel
theorem dL_law_462 : decode cL_law 462 = .ok (.iconst 3, 1) := by decide +kernel
theorem dL_law_463 : decode cL_law 463 = .ok (.iadd, 1) := by decide +kernel
theorem dL_law_464 : decode cL_law 464 = .ok (.iaload, 1) := by decide +kernel
theorem dL_law_465 : decode cL_law 465 = .ok (.invokevirtual 45, 3) := by decide +kernel
theorem dL_law_468 : decode cL_law 468 = .ok (.aload_n 2, 1) := by decide +kernel
theorem dL_law_469 : decode cL_law 469 = .ok (.aload_n 0, 1) := by decide +kernel
theorem dL_law_470 : decode cL_law 470 = .ok (.iload_n 3, 1) := by decide +kernel
theorem dL_law_471 : decode cL_law 471 = .ok (.iconst 1, 1) := by decide +kernel
theorem dL_law_472 : decode cL_law 472 = .ok (.iadd, 1) := by decide +kernel
theorem dL_law_473 : decode cL_law 473 = .ok (.iaload, 1) := by decide +kernel
theorem dL_law_474 : decode cL_law 474 = .ok (.aload_n 0, 1) := by decide +kernel
theorem dL_law_475 : decode cL_law 475 = .ok (.iload_n 3, 1) := by decide +kernel
theorem dL_law_476 : decode cL_law 476 = .ok (.iconst 2, 1) := by decide +kernel
theorem dL_law_477 : decode cL_law 477 = .ok (.iadd, 1) := by decide +kernel
theorem dL_law_478 : decode cL_law 478 = .ok (.iaload, 1) := by decide +kernel
theorem dL_law_479 : decode cL_law 479 = .ok (.aload_n 0, 1) := by decide +kernel
theorem dL_law_480 : decode cL_law 480 = .ok (.iload_n 3, 1) := by decide +kernel
theorem dL_law_481 : decode cL_law 481 = .ok (.iconst 3, 1) := by decide +kernel
theorem dL_law_482 : decode cL_law 482 = .ok (.iadd, 1) := by decide +kernel
theorem dL_law_483 : decode cL_law 483 = .ok (.iaload, 1) := by decide +kernel
theorem dL_law_484 : decode cL_law 484 = .ok (.invokevirtual 48, 3) := by decide +kernel
theorem dL_law_487 : decode cL_law 487 = .ok (.if_icmp .eq 1132, 3) := by decide +kernel
theorem dL_law_490 : decode cL_law 490 = .ok (.iconst 0, 1) := by decide +kernel
theorem dL_law_491 : decode cL_law 491 = .ok (.ireturn, 1) := by decide +kernel
theorem dL_law_492 : decode cL_law 492 = .ok (.aload_n 1, 1) := by decide +kernel
theorem dL_law_493 : decode cL_law 493 = .ok (.aload_n 0, 1) := by decide +kernel
theorem dL_law_494 : decode cL_law 494 = .ok (.iload_n 3, 1) := by decide +kernel
theorem dL_law_495 : decode cL_law 495 = .ok (.iconst 1, 1) := by decide +kernel
theorem dL_law_496 : decode cL_law 496 = .ok (.iadd, 1) := by decide +kernel
theorem dL_law_497 : decode cL_law 497 = .ok (.iaload, 1) := by decide +kernel
theorem dL_law_498 : decode cL_law 498 = .ok (.aload_n 0, 1) := by decide +kernel
theorem dL_law_499 : decode cL_law 499 = .ok (.iload_n 3, 1) := by decide +kernel
theorem dL_law_500 : decode cL_law 500 = .ok (.iconst 2, 1) := by decide +kernel
theorem dL_law_501 : decode cL_law 501 = .ok (.iadd, 1) := by decide +kernel
theorem dL_law_502 : decode cL_law 502 = .ok (.iaload, 1) := by decide +kernel
theorem dL_law_503 : decode cL_law 503 = .ok (.aload_n 0, 1) := by decide +kernel
theorem dL_law_504 : decode cL_law 504 = .ok (.iload_n 3, 1) := by decide +kernel
theorem dL_law_505 : decode cL_law 505 = .ok (.iconst 3, 1) := by decide +kernel
theorem dL_law_506 : decode cL_law 506 = .ok (.iadd, 1) := by decide +kernel
theorem dL_law_507 : decode cL_law 507 = .ok (.iaload, 1) := by decide +kernel
theorem dL_law_508 : decode cL_law 508 = .ok (.invokevirtual 49, 3) := by decide +kernel
theorem dL_law_511 : decode cL_law 511 = .ok (.aload_n 2, 1) := by decide +kernel
theorem dL_law_512 : decode cL_law 512 = .ok (.aload_n 0, 1) := by decide +kernel
theorem dL_law_513 : decode cL_law 513 = .ok (.iload_n 3, 1) := by decide +kernel
theorem dL_law_514 : decode cL_law 514 = .ok (.iconst 1, 1) := by decide +kernel
theorem dL_law_515 : decode cL_law 515 = .ok (.iadd, 1) := by decide +kernel
theorem dL_law_516 : decode cL_law 516 = .ok (.iaload, 1) := by decide +kernel
theorem dL_law_517 : decode cL_law 517 = .ok (.aload_n 0, 1) := by decide +kernel
theorem dL_law_518 : decode cL_law 518 = .ok (.iload_n 3, 1) := by decide +kernel
theorem dL_law_519 : decode cL_law 519 = .ok (.iconst 2, 1) := by decide +kernel
theorem dL_law_520 : decode cL_law 520 = .ok (.iadd, 1) := by decide +kernel
theorem dL_law_521 : decode cL_law 521 = .ok (.iaload, 1) := by decide +kernel
theorem dL_law_522 : decode cL_law 522 = .ok (.aload_n 0, 1) := by decide +kernel
theorem dL_law_523 : decode cL_law 523 = .ok (.iload_n 3, 1) := by decide +kernel
theorem dL_law_524 : decode cL_law 524 = .ok (.iconst 3, 1) := by decide +kernel
theorem dL_law_525 : decode cL_law 525 = .ok (.iadd, 1) := by decide +kernel
theorem dL_law_526 : decode cL_law 526 = .ok (.iaload, 1) := by decide +kernel
theorem dL_law_527 : decode cL_law 527 = .ok (.invokevirtual 52, 3) := by decide +kernel
theorem dL_law_530 : decode cL_law 530 = .ok (.if_icmp .eq 1089, 3) := by decide +kernel
theorem dL_law_533 : decode cL_law 533 = .ok (.iconst 0, 1) := by decide +kernel
theorem dL_law_534 : decode cL_law 534 = .ok (.ireturn, 1) := by decide +kernel
theorem dL_law_535 : decode cL_law 535 = .ok (.aload_n 1, 1) := by decide +kernel
theorem dL_law_536 : decode cL_law 536 = .ok (.aload_n 0, 1) := by decide +kernel
theorem dL_law_537 : decode cL_law 537 = .ok (.iload_n 3, 1) := by decide +kernel
theorem dL_law_538 : decode cL_law 538 = .ok (.iconst 1, 1) := by decide +kernel
theorem dL_law_539 : decode cL_law 539 = .ok (.iadd, 1) := by decide +kernel
theorem dL_law_540 : decode cL_law 540 = .ok (.iaload, 1) := by decide +kernel
theorem dL_law_541 : decode cL_law 541 = .ok (.aload_n 0, 1) := by decide +kernel
theorem dL_law_542 : decode cL_law 542 = .ok (.iload_n 3, 1) := by decide +kernel
theorem dL_law_543 : decode cL_law 543 = .ok (.iconst 2, 1) := by decide +kernel
theorem dL_law_544 : decode cL_law 544 = .ok (.iadd, 1) := by decide +kernel
theorem dL_law_545 : decode cL_law 545 = .ok (.iaload, 1) := by decide +kernel
theorem dL_law_546 : decode cL_law 546 = .ok (.aload_n 0, 1) := by decide +kernel
theorem dL_law_547 : decode cL_law 547 = .ok (.iload_n 3, 1) := by decide +kernel
theorem dL_law_548 : decode cL_law 548 = .ok (.iconst 3, 1) := by decide +kernel
theorem dL_law_549 : decode cL_law 549 = .ok (.iadd, 1) := by decide +kernel
theorem dL_law_550 : decode cL_law 550 = .ok (.iaload, 1) := by decide +kernel
theorem dL_law_551 : decode cL_law 551 = .ok (.aload_n 0, 1) := by decide +kernel
theorem dL_law_552 : decode cL_law 552 = .ok (.iload_n 3, 1) := by decide +kernel
theorem dL_law_553 : decode cL_law 553 = .ok (.iconst 4, 1) := by decide +kernel
theorem dL_law_554 : decode cL_law 554 = .ok (.iadd, 1) := by decide +kernel
theorem dL_law_555 : decode cL_law 555 = .ok (.iaload, 1) := by decide +kernel
theorem dL_law_556 : decode cL_law 556 = .ok (.invokevirtual 53, 3) := by decide +kernel
theorem dL_law_559 : decode cL_law 559 = .ok (.aload_n 2, 1) := by decide +kernel
theorem dL_law_560 : decode cL_law 560 = .ok (.aload_n 0, 1) := by decide +kernel
theorem dL_law_561 : decode cL_law 561 = .ok (.iload_n 3, 1) := by decide +kernel
theorem dL_law_562 : decode cL_law 562 = .ok (.iconst 1, 1) := by decide +kernel
theorem dL_law_563 : decode cL_law 563 = .ok (.iadd, 1) := by decide +kernel
theorem dL_law_564 : decode cL_law 564 = .ok (.iaload, 1) := by decide +kernel
theorem dL_law_565 : decode cL_law 565 = .ok (.aload_n 0, 1) := by decide +kernel
theorem dL_law_566 : decode cL_law 566 = .ok (.iload_n 3, 1) := by decide +kernel
theorem dL_law_567 : decode cL_law 567 = .ok (.iconst 2, 1) := by decide +kernel
theorem dL_law_568 : decode cL_law 568 = .ok (.iadd, 1) := by decide +kernel
theorem dL_law_569 : decode cL_law 569 = .ok (.iaload, 1) := by decide +kernel
theorem dL_law_570 : decode cL_law 570 = .ok (.aload_n 0, 1) := by decide +kernel
theorem dL_law_571 : decode cL_law 571 = .ok (.iload_n 3, 1) := by decide +kernel
theorem dL_law_572 : decode cL_law 572 = .ok (.iconst 3, 1) := by decide +kernel
theorem dL_law_573 : decode cL_law 573 = .ok (.iadd, 1) := by decide +kernel
theorem dL_law_574 : decode cL_law 574 = .ok (.iaload, 1) := by decide +kernel
theorem dL_law_575 : decode cL_law 575 = .ok (.aload_n 0, 1) := by decide +kernel
theorem dL_law_576 : decode cL_law 576 = .ok (.iload_n 3, 1) := by decide +kernel
theorem dL_law_577 : decode cL_law 577 = .ok (.iconst 4, 1) := by decide +kernel
theorem dL_law_578 : decode cL_law 578 = .ok (.iadd, 1) := by decide +kernel
theorem dL_law_579 : decode cL_law 579 = .ok (.iaload, 1) := by decide +kernel
theorem dL_law_580 : decode cL_law 580 = .ok (.invokevirtual 56, 3) := by decide +kernel
theorem dL_law_583 : decode cL_law 583 = .ok (.if_icmp .eq 1036, 3) := by decide +kernel
theorem dL_law_586 : decode cL_law 586 = .ok (.iconst 0, 1) := by decide +kernel
theorem dL_law_587 : decode cL_law 587 = .ok (.ireturn, 1) := by decide +kernel
theorem dL_law_588 : decode cL_law 588 = .ok (.aload_n 1, 1) := by decide +kernel
theorem dL_law_589 : decode cL_law 589 = .ok (.aload_n 0, 1) := by decide +kernel
theorem dL_law_590 : decode cL_law 590 = .ok (.iload_n 3, 1) := by decide +kernel
theorem dL_law_591 : decode cL_law 591 = .ok (.iconst 1, 1) := by decide +kernel
theorem dL_law_592 : decode cL_law 592 = .ok (.iadd, 1) := by decide +kernel
theorem dL_law_593 : decode cL_law 593 = .ok (.iaload, 1) := by decide +kernel
theorem dL_law_594 : decode cL_law 594 = .ok (.invokevirtual 57, 3) := by decide +kernel
theorem dL_law_597 : decode cL_law 597 = .ok (.aload_n 2, 1) := by decide +kernel
theorem dL_law_598 : decode cL_law 598 = .ok (.aload_n 0, 1) := by decide +kernel
theorem dL_law_599 : decode cL_law 599 = .ok (.iload_n 3, 1) := by decide +kernel
theorem dL_law_600 : decode cL_law 600 = .ok (.iconst 1, 1) := by decide +kernel
theorem dL_law_601 : decode cL_law 601 = .ok (.iadd, 1) := by decide +kernel
theorem dL_law_602 : decode cL_law 602 = .ok (.iaload, 1) := by decide +kernel
theorem dL_law_603 : decode cL_law 603 = .ok (.invokevirtual 60, 3) := by decide +kernel
theorem dL_law_606 : decode cL_law 606 = .ok (.if_icmp .eq 1013, 3) := by decide +kernel
theorem dL_law_609 : decode cL_law 609 = .ok (.iconst 0, 1) := by decide +kernel
theorem dL_law_610 : decode cL_law 610 = .ok (.ireturn, 1) := by decide +kernel
theorem dL_law_611 : decode cL_law 611 = .ok (.aload_n 1, 1) := by decide +kernel
theorem dL_law_612 : decode cL_law 612 = .ok (.aload_n 0, 1) := by decide +kernel
theorem dL_law_613 : decode cL_law 613 = .ok (.iload_n 3, 1) := by decide +kernel
theorem dL_law_614 : decode cL_law 614 = .ok (.iconst 1, 1) := by decide +kernel
theorem dL_law_615 : decode cL_law 615 = .ok (.iadd, 1) := by decide +kernel
theorem dL_law_616 : decode cL_law 616 = .ok (.iaload, 1) := by decide +kernel
theorem dL_law_617 : decode cL_law 617 = .ok (.invokevirtual 61, 3) := by decide +kernel
theorem dL_law_620 : decode cL_law 620 = .ok (.aload_n 2, 1) := by decide +kernel
theorem dL_law_621 : decode cL_law 621 = .ok (.aload_n 0, 1) := by decide +kernel
theorem dL_law_622 : decode cL_law 622 = .ok (.iload_n 3, 1) := by decide +kernel
theorem dL_law_623 : decode cL_law 623 = .ok (.iconst 1, 1) := by decide +kernel
theorem dL_law_624 : decode cL_law 624 = .ok (.iadd, 1) := by decide +kernel
theorem dL_law_625 : decode cL_law 625 = .ok (.iaload, 1) := by decide +kernel
theorem dL_law_626 : decode cL_law 626 = .ok (.invokevirtual 64, 3) := by decide +kernel
theorem dL_law_629 : decode cL_law 629 = .ok (.if_icmp .eq 990, 3) := by decide +kernel
theorem dL_law_632 : decode cL_law 632 = .ok (.iconst 0, 1) := by decide +kernel
theorem dL_law_633 : decode cL_law 633 = .ok (.ireturn, 1) := by decide +kernel
theorem dL_law_634 : decode cL_law 634 = .ok (.aload_n 1, 1) := by decide +kernel
theorem dL_law_635 : decode cL_law 635 = .ok (.aload_n 0, 1) := by decide +kernel
theorem dL_law_636 : decode cL_law 636 = .ok (.iload_n 3, 1) := by decide +kernel
theorem dL_law_637 : decode cL_law 637 = .ok (.iconst 1, 1) := by decide +kernel
theorem dL_law_638 : decode cL_law 638 = .ok (.iadd, 1) := by decide +kernel
theorem dL_law_639 : decode cL_law 639 = .ok (.iaload, 1) := by decide +kernel
theorem dL_law_640 : decode cL_law 640 = .ok (.aload_n 0, 1) := by decide +kernel
theorem dL_law_641 : decode cL_law 641 = .ok (.iload_n 3, 1) := by decide +kernel
theorem dL_law_642 : decode cL_law 642 = .ok (.iconst 2, 1) := by decide +kernel
theorem dL_law_643 : decode cL_law 643 = .ok (.iadd, 1) := by decide +kernel
theorem dL_law_644 : decode cL_law 644 = .ok (.iaload, 1) := by decide +kernel
theorem dL_law_645 : decode cL_law 645 = .ok (.aload_n 0, 1) := by decide +kernel
theorem dL_law_646 : decode cL_law 646 = .ok (.iload_n 3, 1) := by decide +kernel
theorem dL_law_647 : decode cL_law 647 = .ok (.iconst 3, 1) := by decide +kernel
theorem dL_law_648 : decode cL_law 648 = .ok (.iadd, 1) := by decide +kernel
theorem dL_law_649 : decode cL_law 649 = .ok (.iaload, 1) := by decide +kernel
theorem dL_law_650 : decode cL_law 650 = .ok (.invokevirtual 65, 3) := by decide +kernel
theorem dL_law_653 : decode cL_law 653 = .ok (.aload_n 2, 1) := by decide +kernel
theorem dL_law_654 : decode cL_law 654 = .ok (.aload_n 0, 1) := by decide +kernel
theorem dL_law_655 : decode cL_law 655 = .ok (.iload_n 3, 1) := by decide +kernel
theorem dL_law_656 : decode cL_law 656 = .ok (.iconst 1, 1) := by decide +kernel
theorem dL_law_657 : decode cL_law 657 = .ok (.iadd, 1) := by decide +kernel
theorem dL_law_658 : decode cL_law 658 = .ok (.iaload, 1) := by decide +kernel
theorem dL_law_659 : decode cL_law 659 = .ok (.aload_n 0, 1) := by decide +kernel
theorem dL_law_660 : decode cL_law 660 = .ok (.iload_n 3, 1) := by decide +kernel
theorem dL_law_661 : decode cL_law 661 = .ok (.iconst 2, 1) := by decide +kernel
theorem dL_law_662 : decode cL_law 662 = .ok (.iadd, 1) := by decide +kernel
theorem dL_law_663 : decode cL_law 663 = .ok (.iaload, 1) := by decide +kernel
theorem dL_law_664 : decode cL_law 664 = .ok (.aload_n 0, 1) := by decide +kernel
theorem dL_law_665 : decode cL_law 665 = .ok (.iload_n 3, 1) := by decide +kernel
theorem dL_law_666 : decode cL_law 666 = .ok (.iconst 3, 1) := by decide +kernel
theorem dL_law_667 : decode cL_law 667 = .ok (.iadd, 1) := by decide +kernel
theorem dL_law_668 : decode cL_law 668 = .ok (.iaload, 1) := by decide +kernel
theorem dL_law_669 : decode cL_law 669 = .ok (.invokevirtual 68, 3) := by decide +kernel
theorem dL_law_672 : decode cL_law 672 = .ok (.if_icmp .eq 947, 3) := by decide +kernel
theorem dL_law_675 : decode cL_law 675 = .ok (.iconst 0, 1) := by decide +kernel
theorem dL_law_676 : decode cL_law 676 = .ok (.ireturn, 1) := by decide +kernel
theorem dL_law_677 : decode cL_law 677 = .ok (.aload_n 1, 1) := by decide +kernel
theorem dL_law_678 : decode cL_law 678 = .ok (.aload_n 0, 1) := by decide +kernel
theorem dL_law_679 : decode cL_law 679 = .ok (.iload_n 3, 1) := by decide +kernel
theorem dL_law_680 : decode cL_law 680 = .ok (.iconst 1, 1) := by decide +kernel
theorem dL_law_681 : decode cL_law 681 = .ok (.iadd, 1) := by decide +kernel
theorem dL_law_682 : decode cL_law 682 = .ok (.iaload, 1) := by decide +kernel
theorem dL_law_683 : decode cL_law 683 = .ok (.aload_n 0, 1) := by decide +kernel
theorem dL_law_684 : decode cL_law 684 = .ok (.iload_n 3, 1) := by decide +kernel
theorem dL_law_685 : decode cL_law 685 = .ok (.iconst 2, 1) := by decide +kernel
theorem dL_law_686 : decode cL_law 686 = .ok (.iadd, 1) := by decide +kernel
theorem dL_law_687 : decode cL_law 687 = .ok (.iaload, 1) := by decide +kernel
theorem dL_law_688 : decode cL_law 688 = .ok (.aload_n 0, 1) := by decide +kernel
theorem dL_law_689 : decode cL_law 689 = .ok (.iload_n 3, 1) := by decide +kernel
theorem dL_law_690 : decode cL_law 690 = .ok (.iconst 3, 1) := by decide +kernel
theorem dL_law_691 : decode cL_law 691 = .ok (.iadd, 1) := by decide +kernel
theorem dL_law_692 : decode cL_law 692 = .ok (.iaload, 1) := by decide +kernel
theorem dL_law_693 : decode cL_law 693 = .ok (.invokevirtual 69, 3) := by decide +kernel
theorem dL_law_696 : decode cL_law 696 = .ok (.aload_n 2, 1) := by decide +kernel
theorem dL_law_697 : decode cL_law 697 = .ok (.aload_n 0, 1) := by decide +kernel
theorem dL_law_698 : decode cL_law 698 = .ok (.iload_n 3, 1) := by decide +kernel
theorem dL_law_699 : decode cL_law 699 = .ok (.iconst 1, 1) := by decide +kernel
theorem dL_law_700 : decode cL_law 700 = .ok (.iadd, 1) := by decide +kernel
theorem dL_law_701 : decode cL_law 701 = .ok (.iaload, 1) := by decide +kernel
theorem dL_law_702 : decode cL_law 702 = .ok (.aload_n 0, 1) := by decide +kernel
theorem dL_law_703 : decode cL_law 703 = .ok (.iload_n 3, 1) := by decide +kernel
theorem dL_law_704 : decode cL_law 704 = .ok (.iconst 2, 1) := by decide +kernel
theorem dL_law_705 : decode cL_law 705 = .ok (.iadd, 1) := by decide +kernel
theorem dL_law_706 : decode cL_law 706 = .ok (.iaload, 1) := by decide +kernel
theorem dL_law_707 : decode cL_law 707 = .ok (.aload_n 0, 1) := by decide +kernel
theorem dL_law_708 : decode cL_law 708 = .ok (.iload_n 3, 1) := by decide +kernel
theorem dL_law_709 : decode cL_law 709 = .ok (.iconst 3, 1) := by decide +kernel
theorem dL_law_710 : decode cL_law 710 = .ok (.iadd, 1) := by decide +kernel
theorem dL_law_711 : decode cL_law 711 = .ok (.iaload, 1) := by decide +kernel
theorem dL_law_712 : decode cL_law 712 = .ok (.invokevirtual 72, 3) := by decide +kernel
theorem dL_law_715 : decode cL_law 715 = .ok (.if_icmp .eq 904, 3) := by decide +kernel
theorem dL_law_718 : decode cL_law 718 = .ok (.iconst 0, 1) := by decide +kernel
theorem dL_law_719 : decode cL_law 719 = .ok (.ireturn, 1) := by decide +kernel
theorem dL_law_720 : decode cL_law 720 = .ok (.aload_n 1, 1) := by decide +kernel
theorem dL_law_721 : decode cL_law 721 = .ok (.aload_n 0, 1) := by decide +kernel
theorem dL_law_722 : decode cL_law 722 = .ok (.iload_n 3, 1) := by decide +kernel
theorem dL_law_723 : decode cL_law 723 = .ok (.iconst 1, 1) := by decide +kernel
theorem dL_law_724 : decode cL_law 724 = .ok (.iadd, 1) := by decide +kernel
theorem dL_law_725 : decode cL_law 725 = .ok (.iaload, 1) := by decide +kernel
theorem dL_law_726 : decode cL_law 726 = .ok (.aload_n 0, 1) := by decide +kernel
theorem dL_law_727 : decode cL_law 727 = .ok (.iload_n 3, 1) := by decide +kernel
theorem dL_law_728 : decode cL_law 728 = .ok (.iconst 2, 1) := by decide +kernel
theorem dL_law_729 : decode cL_law 729 = .ok (.iadd, 1) := by decide +kernel
theorem dL_law_730 : decode cL_law 730 = .ok (.iaload, 1) := by decide +kernel
theorem dL_law_731 : decode cL_law 731 = .ok (.aload_n 0, 1) := by decide +kernel
theorem dL_law_732 : decode cL_law 732 = .ok (.iload_n 3, 1) := by decide +kernel
theorem dL_law_733 : decode cL_law 733 = .ok (.iconst 3, 1) := by decide +kernel
theorem dL_law_734 : decode cL_law 734 = .ok (.iadd, 1) := by decide +kernel
theorem dL_law_735 : decode cL_law 735 = .ok (.iaload, 1) := by decide +kernel
theorem dL_law_736 : decode cL_law 736 = .ok (.aload_n 0, 1) := by decide +kernel
theorem dL_law_737 : decode cL_law 737 = .ok (.iload_n 3, 1) := by decide +kernel
theorem dL_law_738 : decode cL_law 738 = .ok (.iconst 4, 1) := by decide +kernel
theorem dL_law_739 : decode cL_law 739 = .ok (.iadd, 1) := by decide +kernel
theorem dL_law_740 : decode cL_law 740 = .ok (.iaload, 1) := by decide +kernel
theorem dL_law_741 : decode cL_law 741 = .ok (.invokevirtual 73, 3) := by decide +kernel
theorem dL_law_744 : decode cL_law 744 = .ok (.aload_n 2, 1) := by decide +kernel
theorem dL_law_745 : decode cL_law 745 = .ok (.aload_n 0, 1) := by decide +kernel
theorem dL_law_746 : decode cL_law 746 = .ok (.iload_n 3, 1) := by decide +kernel
theorem dL_law_747 : decode cL_law 747 = .ok (.iconst 1, 1) := by decide +kernel
theorem dL_law_748 : decode cL_law 748 = .ok (.iadd, 1) := by decide +kernel
theorem dL_law_749 : decode cL_law 749 = .ok (.iaload, 1) := by decide +kernel
theorem dL_law_750 : decode cL_law 750 = .ok (.aload_n 0, 1) := by decide +kernel
theorem dL_law_751 : decode cL_law 751 = .ok (.iload_n 3, 1) := by decide +kernel
theorem dL_law_752 : decode cL_law 752 = .ok (.iconst 2, 1) := by decide +kernel
theorem dL_law_753 : decode cL_law 753 = .ok (.iadd, 1) := by decide +kernel
theorem dL_law_754 : decode cL_law 754 = .ok (.iaload, 1) := by decide +kernel
theorem dL_law_755 : decode cL_law 755 = .ok (.aload_n 0, 1) := by decide +kernel
theorem dL_law_756 : decode cL_law 756 = .ok (.iload_n 3, 1) := by decide +kernel
theorem dL_law_757 : decode cL_law 757 = .ok (.iconst 3, 1) := by decide +kernel
theorem dL_law_758 : decode cL_law 758 = .ok (.iadd, 1) := by decide +kernel
theorem dL_law_759 : decode cL_law 759 = .ok (.iaload, 1) := by decide +kernel
theorem dL_law_760 : decode cL_law 760 = .ok (.aload_n 0, 1) := by decide +kernel
theorem dL_law_761 : decode cL_law 761 = .ok (.iload_n 3, 1) := by decide +kernel
theorem dL_law_762 : decode cL_law 762 = .ok (.iconst 4, 1) := by decide +kernel
theorem dL_law_763 : decode cL_law 763 = .ok (.iadd, 1) := by decide +kernel
theorem dL_law_764 : decode cL_law 764 = .ok (.iaload, 1) := by decide +kernel
theorem dL_law_765 : decode cL_law 765 = .ok (.invokevirtual 76, 3) := by decide +kernel
theorem dL_law_768 : decode cL_law 768 = .ok (.if_icmp .eq 851, 3) := by decide +kernel
theorem dL_law_771 : decode cL_law 771 = .ok (.iconst 0, 1) := by decide +kernel
theorem dL_law_772 : decode cL_law 772 = .ok (.ireturn, 1) := by decide +kernel
theorem dL_law_773 : decode cL_law 773 = .ok (.aload_n 1, 1) := by decide +kernel
theorem dL_law_774 : decode cL_law 774 = .ok (.aload_n 0, 1) := by decide +kernel
theorem dL_law_775 : decode cL_law 775 = .ok (.iload_n 3, 1) := by decide +kernel
theorem dL_law_776 : decode cL_law 776 = .ok (.iconst 1, 1) := by decide +kernel
theorem dL_law_777 : decode cL_law 777 = .ok (.iadd, 1) := by decide +kernel
theorem dL_law_778 : decode cL_law 778 = .ok (.iaload, 1) := by decide +kernel
theorem dL_law_779 : decode cL_law 779 = .ok (.aload_n 0, 1) := by decide +kernel
theorem dL_law_780 : decode cL_law 780 = .ok (.iload_n 3, 1) := by decide +kernel
theorem dL_law_781 : decode cL_law 781 = .ok (.iconst 2, 1) := by decide +kernel
theorem dL_law_782 : decode cL_law 782 = .ok (.iadd, 1) := by decide +kernel
theorem dL_law_783 : decode cL_law 783 = .ok (.iaload, 1) := by decide +kernel
theorem dL_law_784 : decode cL_law 784 = .ok (.aload_n 0, 1) := by decide +kernel
theorem dL_law_785 : decode cL_law 785 = .ok (.iload_n 3, 1) := by decide +kernel
theorem dL_law_786 : decode cL_law 786 = .ok (.iconst 3, 1) := by decide +kernel
theorem dL_law_787 : decode cL_law 787 = .ok (.iadd, 1) := by decide +kernel
theorem dL_law_788 : decode cL_law 788 = .ok (.iaload, 1) := by decide +kernel
theorem dL_law_789 : decode cL_law 789 = .ok (.aload_n 0, 1) := by decide +kernel
theorem dL_law_790 : decode cL_law 790 = .ok (.iload_n 3, 1) := by decide +kernel
theorem dL_law_791 : decode cL_law 791 = .ok (.iconst 4, 1) := by decide +kernel
theorem dL_law_792 : decode cL_law 792 = .ok (.iadd, 1) := by decide +kernel
theorem dL_law_793 : decode cL_law 793 = .ok (.iaload, 1) := by decide +kernel
theorem dL_law_794 : decode cL_law 794 = .ok (.invokevirtual 77, 3) := by decide +kernel
theorem dL_law_797 : decode cL_law 797 = .ok (.aload_n 2, 1) := by decide +kernel
theorem dL_law_798 : decode cL_law 798 = .ok (.aload_n 0, 1) := by decide +kernel
theorem dL_law_799 : decode cL_law 799 = .ok (.iload_n 3, 1) := by decide +kernel
theorem dL_law_800 : decode cL_law 800 = .ok (.iconst 1, 1) := by decide +kernel
theorem dL_law_801 : decode cL_law 801 = .ok (.iadd, 1) := by decide +kernel
theorem dL_law_802 : decode cL_law 802 = .ok (.iaload, 1) := by decide +kernel
theorem dL_law_803 : decode cL_law 803 = .ok (.aload_n 0, 1) := by decide +kernel
theorem dL_law_804 : decode cL_law 804 = .ok (.iload_n 3, 1) := by decide +kernel
theorem dL_law_805 : decode cL_law 805 = .ok (.iconst 2, 1) := by decide +kernel
theorem dL_law_806 : decode cL_law 806 = .ok (.iadd, 1) := by decide +kernel
theorem dL_law_807 : decode cL_law 807 = .ok (.iaload, 1) := by decide +kernel
theorem dL_law_808 : decode cL_law 808 = .ok (.aload_n 0, 1) := by decide +kernel
theorem dL_law_809 : decode cL_law 809 = .ok (.iload_n 3, 1) := by decide +kernel
theorem dL_law_810 : decode cL_law 810 = .ok (.iconst 3, 1) := by decide +kernel
theorem dL_law_811 : decode cL_law 811 = .ok (.iadd, 1) := by decide +kernel
theorem dL_law_812 : decode cL_law 812 = .ok (.iaload, 1) := by decide +kernel
theorem dL_law_813 : decode cL_law 813 = .ok (.aload_n 0, 1) := by decide +kernel
theorem dL_law_814 : decode cL_law 814 = .ok (.iload_n 3, 1) := by decide +kernel
theorem dL_law_815 : decode cL_law 815 = .ok (.iconst 4, 1) := by decide +kernel
theorem dL_law_816 : decode cL_law 816 = .ok (.iadd, 1) := by decide +kernel
theorem dL_law_817 : decode cL_law 817 = .ok (.iaload, 1) := by decide +kernel
theorem dL_law_818 : decode cL_law 818 = .ok (.invokevirtual 80, 3) := by decide +kernel
theorem dL_law_821 : decode cL_law 821 = .ok (.if_icmp .eq 798, 3) := by decide +kernel
theorem dL_law_824 : decode cL_law 824 = .ok (.iconst 0, 1) := by decide +kernel
theorem dL_law_825 : decode cL_law 825 = .ok (.ireturn, 1) := by decide +kernel
theorem dL_law_826 : decode cL_law 826 = .ok (.aload_n 1, 1) := by decide +kernel
theorem dL_law_827 : decode cL_law 827 = .ok (.aload_n 0, 1) := by decide +kernel
theorem dL_law_828 : decode cL_law 828 = .ok (.iload_n 3, 1) := by decide +kernel
theorem dL_law_829 : decode cL_law 829 = .ok (.iconst 1, 1) := by decide +kernel
theorem dL_law_830 : decode cL_law 830 = .ok (.iadd, 1) := by decide +kernel
theorem dL_law_831 : decode cL_law 831 = .ok (.iaload, 1) := by decide +kernel
theorem dL_law_832 : decode cL_law 832 = .ok (.aload_n 0, 1) := by decide +kernel
theorem dL_law_833 : decode cL_law 833 = .ok (.iload_n 3, 1) := by decide +kernel
theorem dL_law_834 : decode cL_law 834 = .ok (.iconst 2, 1) := by decide +kernel
theorem dL_law_835 : decode cL_law 835 = .ok (.iadd, 1) := by decide +kernel
theorem dL_law_836 : decode cL_law 836 = .ok (.iaload, 1) := by decide +kernel
theorem dL_law_837 : decode cL_law 837 = .ok (.aload_n 0, 1) := by decide +kernel
theorem dL_law_838 : decode cL_law 838 = .ok (.iload_n 3, 1) := by decide +kernel
theorem dL_law_839 : decode cL_law 839 = .ok (.iconst 3, 1) := by decide +kernel
theorem dL_law_840 : decode cL_law 840 = .ok (.iadd, 1) := by decide +kernel
theorem dL_law_841 : decode cL_law 841 = .ok (.iaload, 1) := by decide +kernel
theorem dL_law_842 : decode cL_law 842 = .ok (.invokevirtual 81, 3) := by decide +kernel
theorem dL_law_845 : decode cL_law 845 = .ok (.aload_n 2, 1) := by decide +kernel
theorem dL_law_846 : decode cL_law 846 = .ok (.aload_n 0, 1) := by decide +kernel
theorem dL_law_847 : decode cL_law 847 = .ok (.iload_n 3, 1) := by decide +kernel
theorem dL_law_848 : decode cL_law 848 = .ok (.iconst 1, 1) := by decide +kernel
theorem dL_law_849 : decode cL_law 849 = .ok (.iadd, 1) := by decide +kernel
theorem dL_law_850 : decode cL_law 850 = .ok (.iaload, 1) := by decide +kernel
theorem dL_law_851 : decode cL_law 851 = .ok (.aload_n 0, 1) := by decide +kernel
theorem dL_law_852 : decode cL_law 852 = .ok (.iload_n 3, 1) := by decide +kernel
theorem dL_law_853 : decode cL_law 853 = .ok (.iconst 2, 1) := by decide +kernel
theorem dL_law_854 : decode cL_law 854 = .ok (.iadd, 1) := by decide +kernel
theorem dL_law_855 : decode cL_law 855 = .ok (.iaload, 1) := by decide +kernel
theorem dL_law_856 : decode cL_law 856 = .ok (.aload_n 0, 1) := by decide +kernel
theorem dL_law_857 : decode cL_law 857 = .ok (.iload_n 3, 1) := by decide +kernel
theorem dL_law_858 : decode cL_law 858 = .ok (.iconst 3, 1) := by decide +kernel
theorem dL_law_859 : decode cL_law 859 = .ok (.iadd, 1) := by decide +kernel
theorem dL_law_860 : decode cL_law 860 = .ok (.iaload, 1) := by decide +kernel
theorem dL_law_861 : decode cL_law 861 = .ok (.invokevirtual 84, 3) := by decide +kernel
theorem dL_law_864 : decode cL_law 864 = .ok (.if_icmp .eq 755, 3) := by decide +kernel
theorem dL_law_867 : decode cL_law 867 = .ok (.iconst 0, 1) := by decide +kernel
theorem dL_law_868 : decode cL_law 868 = .ok (.ireturn, 1) := by decide +kernel
theorem dL_law_869 : decode cL_law 869 = .ok (.aload_n 1, 1) := by decide +kernel
theorem dL_law_870 : decode cL_law 870 = .ok (.aload_n 0, 1) := by decide +kernel
theorem dL_law_871 : decode cL_law 871 = .ok (.iload_n 3, 1) := by decide +kernel
theorem dL_law_872 : decode cL_law 872 = .ok (.iconst 1, 1) := by decide +kernel
theorem dL_law_873 : decode cL_law 873 = .ok (.iadd, 1) := by decide +kernel
theorem dL_law_874 : decode cL_law 874 = .ok (.iaload, 1) := by decide +kernel
theorem dL_law_875 : decode cL_law 875 = .ok (.aload_n 0, 1) := by decide +kernel
theorem dL_law_876 : decode cL_law 876 = .ok (.iload_n 3, 1) := by decide +kernel
theorem dL_law_877 : decode cL_law 877 = .ok (.iconst 2, 1) := by decide +kernel
theorem dL_law_878 : decode cL_law 878 = .ok (.iadd, 1) := by decide +kernel
theorem dL_law_879 : decode cL_law 879 = .ok (.iaload, 1) := by decide +kernel
theorem dL_law_880 : decode cL_law 880 = .ok (.aload_n 0, 1) := by decide +kernel
theorem dL_law_881 : decode cL_law 881 = .ok (.iload_n 3, 1) := by decide +kernel
theorem dL_law_882 : decode cL_law 882 = .ok (.iconst 3, 1) := by decide +kernel
theorem dL_law_883 : decode cL_law 883 = .ok (.iadd, 1) := by decide +kernel
theorem dL_law_884 : decode cL_law 884 = .ok (.iaload, 1) := by decide +kernel
theorem dL_law_885 : decode cL_law 885 = .ok (.invokevirtual 85, 3) := by decide +kernel
theorem dL_law_888 : decode cL_law 888 = .ok (.aload_n 2, 1) := by decide +kernel
theorem dL_law_889 : decode cL_law 889 = .ok (.aload_n 0, 1) := by decide +kernel
theorem dL_law_890 : decode cL_law 890 = .ok (.iload_n 3, 1) := by decide +kernel
theorem dL_law_891 : decode cL_law 891 = .ok (.iconst 1, 1) := by decide +kernel
theorem dL_law_892 : decode cL_law 892 = .ok (.iadd, 1) := by decide +kernel
theorem dL_law_893 : decode cL_law 893 = .ok (.iaload, 1) := by decide +kernel
theorem dL_law_894 : decode cL_law 894 = .ok (.aload_n 0, 1) := by decide +kernel
theorem dL_law_895 : decode cL_law 895 = .ok (.iload_n 3, 1) := by decide +kernel
theorem dL_law_896 : decode cL_law 896 = .ok (.iconst 2, 1) := by decide +kernel
theorem dL_law_897 : decode cL_law 897 = .ok (.iadd, 1) := by decide +kernel
theorem dL_law_898 : decode cL_law 898 = .ok (.iaload, 1) := by decide +kernel
theorem dL_law_899 : decode cL_law 899 = .ok (.aload_n 0, 1) := by decide +kernel
theorem dL_law_900 : decode cL_law 900 = .ok (.iload_n 3, 1) := by decide +kernel
theorem dL_law_901 : decode cL_law 901 = .ok (.iconst 3, 1) := by decide +kernel
theorem dL_law_902 : decode cL_law 902 = .ok (.iadd, 1) := by decide +kernel
theorem dL_law_903 : decode cL_law 903 = .ok (.iaload, 1) := by decide +kernel
theorem dL_law_904 : decode cL_law 904 = .ok (.invokevirtual 88, 3) := by decide +kernel
theorem dL_law_907 : decode cL_law 907 = .ok (.if_icmp .eq 712, 3) := by decide +kernel
theorem dL_law_910 : decode cL_law 910 = .ok (.iconst 0, 1) := by decide +kernel
theorem dL_law_911 : decode cL_law 911 = .ok (.ireturn, 1) := by decide +kernel
theorem dL_law_912 : decode cL_law 912 = .ok (.aload_n 1, 1) := by decide +kernel
theorem dL_law_913 : decode cL_law 913 = .ok (.aload_n 0, 1) := by decide +kernel
theorem dL_law_914 : decode cL_law 914 = .ok (.iload_n 3, 1) := by decide +kernel
theorem dL_law_915 : decode cL_law 915 = .ok (.iconst 1, 1) := by decide +kernel
theorem dL_law_916 : decode cL_law 916 = .ok (.iadd, 1) := by decide +kernel
theorem dL_law_917 : decode cL_law 917 = .ok (.iaload, 1) := by decide +kernel
theorem dL_law_918 : decode cL_law 918 = .ok (.aload_n 0, 1) := by decide +kernel
theorem dL_law_919 : decode cL_law 919 = .ok (.iload_n 3, 1) := by decide +kernel
theorem dL_law_920 : decode cL_law 920 = .ok (.iconst 2, 1) := by decide +kernel
theorem dL_law_921 : decode cL_law 921 = .ok (.iadd, 1) := by decide +kernel
theorem dL_law_922 : decode cL_law 922 = .ok (.iaload, 1) := by decide +kernel
theorem dL_law_923 : decode cL_law 923 = .ok (.aload_n 0, 1) := by decide +kernel
theorem dL_law_924 : decode cL_law 924 = .ok (.iload_n 3, 1) := by decide +kernel
theorem dL_law_925 : decode cL_law 925 = .ok (.iconst 3, 1) := by decide +kernel
theorem dL_law_926 : decode cL_law 926 = .ok (.iadd, 1) := by decide +kernel
theorem dL_law_927 : decode cL_law 927 = .ok (.iaload, 1) := by decide +kernel
theorem dL_law_928 : decode cL_law 928 = .ok (.invokevirtual 89, 3) := by decide +kernel
theorem dL_law_931 : decode cL_law 931 = .ok (.aload_n 2, 1) := by decide +kernel
theorem dL_law_932 : decode cL_law 932 = .ok (.aload_n 0, 1) := by decide +kernel
theorem dL_law_933 : decode cL_law 933 = .ok (.iload_n 3, 1) := by decide +kernel
theorem dL_law_934 : decode cL_law 934 = .ok (.iconst 1, 1) := by decide +kernel
theorem dL_law_935 : decode cL_law 935 = .ok (.iadd, 1) := by decide +kernel
theorem dL_law_936 : decode cL_law 936 = .ok (.iaload, 1) := by decide +kernel
theorem dL_law_937 : decode cL_law 937 = .ok (.aload_n 0, 1) := by decide +kernel
theorem dL_law_938 : decode cL_law 938 = .ok (.iload_n 3, 1) := by decide +kernel
theorem dL_law_939 : decode cL_law 939 = .ok (.iconst 2, 1) := by decide +kernel
theorem dL_law_940 : decode cL_law 940 = .ok (.iadd, 1) := by decide +kernel
theorem dL_law_941 : decode cL_law 941 = .ok (.iaload, 1) := by decide +kernel
theorem dL_law_942 : decode cL_law 942 = .ok (.aload_n 0, 1) := by decide +kernel
theorem dL_law_943 : decode cL_law 943 = .ok (.iload_n 3, 1) := by decide +kernel
theorem dL_law_944 : decode cL_law 944 = .ok (.iconst 3, 1) := by decide +kernel
theorem dL_law_945 : decode cL_law 945 = .ok (.iadd, 1) := by decide +kernel
theorem dL_law_946 : decode cL_law 946 = .ok (.iaload, 1) := by decide +kernel
theorem dL_law_947 : decode cL_law 947 = .ok (.invokevirtual 92, 3) := by decide +kernel
theorem dL_law_950 : decode cL_law 950 = .ok (.if_icmp .eq 669, 3) := by decide +kernel
theorem dL_law_953 : decode cL_law 953 = .ok (.iconst 0, 1) := by decide +kernel
theorem dL_law_954 : decode cL_law 954 = .ok (.ireturn, 1) := by decide +kernel
theorem dL_law_955 : decode cL_law 955 = .ok (.aload_n 1, 1) := by decide +kernel
theorem dL_law_956 : decode cL_law 956 = .ok (.aload_n 0, 1) := by decide +kernel
theorem dL_law_957 : decode cL_law 957 = .ok (.iload_n 3, 1) := by decide +kernel
theorem dL_law_958 : decode cL_law 958 = .ok (.iconst 1, 1) := by decide +kernel
theorem dL_law_959 : decode cL_law 959 = .ok (.iadd, 1) := by decide +kernel
theorem dL_law_960 : decode cL_law 960 = .ok (.iaload, 1) := by decide +kernel
theorem dL_law_961 : decode cL_law 961 = .ok (.aload_n 0, 1) := by decide +kernel
theorem dL_law_962 : decode cL_law 962 = .ok (.iload_n 3, 1) := by decide +kernel
theorem dL_law_963 : decode cL_law 963 = .ok (.iconst 2, 1) := by decide +kernel
theorem dL_law_964 : decode cL_law 964 = .ok (.iadd, 1) := by decide +kernel
theorem dL_law_965 : decode cL_law 965 = .ok (.iaload, 1) := by decide +kernel
theorem dL_law_966 : decode cL_law 966 = .ok (.invokevirtual 93, 3) := by decide +kernel
theorem dL_law_969 : decode cL_law 969 = .ok (.aload_n 2, 1) := by decide +kernel
theorem dL_law_970 : decode cL_law 970 = .ok (.aload_n 0, 1) := by decide +kernel
theorem dL_law_971 : decode cL_law 971 = .ok (.iload_n 3, 1) := by decide +kernel
theorem dL_law_972 : decode cL_law 972 = .ok (.iconst 1, 1) := by decide +kernel
theorem dL_law_973 : decode cL_law 973 = .ok (.iadd, 1) := by decide +kernel
theorem dL_law_974 : decode cL_law 974 = .ok (.iaload, 1) := by decide +kernel
theorem dL_law_975 : decode cL_law 975 = .ok (.aload_n 0, 1) := by decide +kernel
theorem dL_law_976 : decode cL_law 976 = .ok (.iload_n 3, 1) := by decide +kernel
theorem dL_law_977 : decode cL_law 977 = .ok (.iconst 2, 1) := by decide +kernel
theorem dL_law_978 : decode cL_law 978 = .ok (.iadd, 1) := by decide +kernel
theorem dL_law_979 : decode cL_law 979 = .ok (.iaload, 1) := by decide +kernel
theorem dL_law_980 : decode cL_law 980 = .ok (.invokevirtual 96, 3) := by decide +kernel
theorem dL_law_983 : decode cL_law 983 = .ok (.if_icmp .eq 636, 3) := by decide +kernel
theorem dL_law_986 : decode cL_law 986 = .ok (.iconst 0, 1) := by decide +kernel
theorem dL_law_987 : decode cL_law 987 = .ok (.ireturn, 1) := by decide +kernel
theorem dL_law_988 : decode cL_law 988 = .ok (.aload_n 1, 1) := by decide +kernel
theorem dL_law_989 : decode cL_law 989 = .ok (.aload_n 0, 1) := by decide +kernel
theorem dL_law_990 : decode cL_law 990 = .ok (.iload_n 3, 1) := by decide +kernel
theorem dL_law_991 : decode cL_law 991 = .ok (.iconst 1, 1) := by decide +kernel
theorem dL_law_992 : decode cL_law 992 = .ok (.iadd, 1) := by decide +kernel
theorem dL_law_993 : decode cL_law 993 = .ok (.iaload, 1) := by decide +kernel
theorem dL_law_994 : decode cL_law 994 = .ok (.invokevirtual 97, 3) := by decide +kernel
theorem dL_law_997 : decode cL_law 997 = .ok (.aload_n 2, 1) := by decide +kernel
theorem dL_law_998 : decode cL_law 998 = .ok (.aload_n 0, 1) := by decide +kernel
theorem dL_law_999 : decode cL_law 999 = .ok (.iload_n 3, 1) := by decide +kernel
theorem dL_law_1000 : decode cL_law 1000 = .ok (.iconst 1, 1) := by decide +kernel
theorem dL_law_1001 : decode cL_law 1001 = .ok (.iadd, 1) := by decide +kernel
theorem dL_law_1002 : decode cL_law 1002 = .ok (.iaload, 1) := by decide +kernel
theorem dL_law_1003 : decode cL_law 1003 = .ok (.invokevirtual 100, 3) := by decide +kernel
theorem dL_law_1006 : decode cL_law 1006 = .ok (.if_icmp .eq 613, 3) := by decide +kernel
theorem dL_law_1009 : decode cL_law 1009 = .ok (.iconst 0, 1) := by decide +kernel
theorem dL_law_1010 : decode cL_law 1010 = .ok (.ireturn, 1) := by decide +kernel
theorem dL_law_1011 : decode cL_law 1011 = .ok (.aload_n 1, 1) := by decide +kernel
theorem dL_law_1012 : decode cL_law 1012 = .ok (.aload_n 0, 1) := by decide +kernel
theorem dL_law_1013 : decode cL_law 1013 = .ok (.iload_n 3, 1) := by decide +kernel
theorem dL_law_1014 : decode cL_law 1014 = .ok (.iconst 1, 1) := by decide +kernel
theorem dL_law_1015 : decode cL_law 1015 = .ok (.iadd, 1) := by decide +kernel
theorem dL_law_1016 : decode cL_law 1016 = .ok (.iaload, 1) := by decide +kernel
theorem dL_law_1017 : decode cL_law 1017 = .ok (.aload_n 0, 1) := by decide +kernel
theorem dL_law_1018 : decode cL_law 1018 = .ok (.iload_n 3, 1) := by decide +kernel
theorem dL_law_1019 : decode cL_law 1019 = .ok (.iconst 2, 1) := by decide +kernel
theorem dL_law_1020 : decode cL_law 1020 = .ok (.iadd, 1) := by decide +kernel
theorem dL_law_1021 : decode cL_law 1021 = .ok (.iaload, 1) := by decide +kernel
theorem dL_law_1022 : decode cL_law 1022 = .ok (.aload_n 0, 1) := by decide +kernel
theorem dL_law_1023 : decode cL_law 1023 = .ok (.iload_n 3, 1) := by decide +kernel
theorem dL_law_1024 : decode cL_law 1024 = .ok (.iconst 3, 1) := by decide +kernel
theorem dL_law_1025 : decode cL_law 1025 = .ok (.iadd, 1) := by decide +kernel
theorem dL_law_1026 : decode cL_law 1026 = .ok (.iaload, 1) := by decide +kernel
theorem dL_law_1027 : decode cL_law 1027 = .ok (.invokevirtual 101, 3) := by decide +kernel
theorem dL_law_1030 : decode cL_law 1030 = .ok (.aload_n 2, 1) := by decide +kernel
theorem dL_law_1031 : decode cL_law 1031 = .ok (.aload_n 0, 1) := by decide +kernel
theorem dL_law_1032 : decode cL_law 1032 = .ok (.iload_n 3, 1) := by decide +kernel
theorem dL_law_1033 : decode cL_law 1033 = .ok (.iconst 1, 1) := by decide +kernel
theorem dL_law_1034 : decode cL_law 1034 = .ok (.iadd, 1) := by decide +kernel
theorem dL_law_1035 : decode cL_law 1035 = .ok (.iaload, 1) := by decide +kernel
theorem dL_law_1036 : decode cL_law 1036 = .ok (.aload_n 0, 1) := by decide +kernel
theorem dL_law_1037 : decode cL_law 1037 = .ok (.iload_n 3, 1) := by decide +kernel
theorem dL_law_1038 : decode cL_law 1038 = .ok (.iconst 2, 1) := by decide +kernel
theorem dL_law_1039 : decode cL_law 1039 = .ok (.iadd, 1) := by decide +kernel
theorem dL_law_1040 : decode cL_law 1040 = .ok (.iaload, 1) := by decide +kernel
theorem dL_law_1041 : decode cL_law 1041 = .ok (.aload_n 0, 1) := by decide +kernel
theorem dL_law_1042 : decode cL_law 1042 = .ok (.iload_n 3, 1) := by decide +kernel
theorem dL_law_1043 : decode cL_law 1043 = .ok (.iconst 3, 1) := by decide +kernel
theorem dL_law_1044 : decode cL_law 1044 = .ok (.iadd, 1) := by decide +kernel
theorem dL_law_1045 : decode cL_law 1045 = .ok (.iaload, 1) := by decide +kernel
theorem dL_law_1046 : decode cL_law 1046 = .ok (.invokevirtual 104, 3) := by decide +kernel
theorem dL_law_1049 : decode cL_law 1049 = .ok (.if_icmp .eq 570, 3) := by decide +kernel
theorem dL_law_1052 : decode cL_law 1052 = .ok (.iconst 0, 1) := by decide +kernel
theorem dL_law_1053 : decode cL_law 1053 = .ok (.ireturn, 1) := by decide +kernel
theorem dL_law_1054 : decode cL_law 1054 = .ok (.aload_n 1, 1) := by decide +kernel
theorem dL_law_1055 : decode cL_law 1055 = .ok (.aload_n 0, 1) := by decide +kernel
theorem dL_law_1056 : decode cL_law 1056 = .ok (.iload_n 3, 1) := by decide +kernel
theorem dL_law_1057 : decode cL_law 1057 = .ok (.iconst 1, 1) := by decide +kernel
theorem dL_law_1058 : decode cL_law 1058 = .ok (.iadd, 1) := by decide +kernel
theorem dL_law_1059 : decode cL_law 1059 = .ok (.iaload, 1) := by decide +kernel
theorem dL_law_1060 : decode cL_law 1060 = .ok (.aload_n 0, 1) := by decide +kernel
theorem dL_law_1061 : decode cL_law 1061 = .ok (.iload_n 3, 1) := by decide +kernel
theorem dL_law_1062 : decode cL_law 1062 = .ok (.iconst 2, 1) := by decide +kernel
theorem dL_law_1063 : decode cL_law 1063 = .ok (.iadd, 1) := by decide +kernel
theorem dL_law_1064 : decode cL_law 1064 = .ok (.iaload, 1) := by decide +kernel
theorem dL_law_1065 : decode cL_law 1065 = .ok (.aload_n 0, 1) := by decide +kernel
theorem dL_law_1066 : decode cL_law 1066 = .ok (.iload_n 3, 1) := by decide +kernel
theorem dL_law_1067 : decode cL_law 1067 = .ok (.iconst 3, 1) := by decide +kernel
theorem dL_law_1068 : decode cL_law 1068 = .ok (.iadd, 1) := by decide +kernel
theorem dL_law_1069 : decode cL_law 1069 = .ok (.iaload, 1) := by decide +kernel
theorem dL_law_1070 : decode cL_law 1070 = .ok (.invokevirtual 105, 3) := by decide +kernel
theorem dL_law_1073 : decode cL_law 1073 = .ok (.aload_n 2, 1) := by decide +kernel
theorem dL_law_1074 : decode cL_law 1074 = .ok (.aload_n 0, 1) := by decide +kernel
theorem dL_law_1075 : decode cL_law 1075 = .ok (.iload_n 3, 1) := by decide +kernel
theorem dL_law_1076 : decode cL_law 1076 = .ok (.iconst 1, 1) := by decide +kernel
theorem dL_law_1077 : decode cL_law 1077 = .ok (.iadd, 1) := by decide +kernel
theorem dL_law_1078 : decode cL_law 1078 = .ok (.iaload, 1) := by decide +kernel
theorem dL_law_1079 : decode cL_law 1079 = .ok (.aload_n 0, 1) := by decide +kernel
theorem dL_law_1080 : decode cL_law 1080 = .ok (.iload_n 3, 1) := by decide +kernel
theorem dL_law_1081 : decode cL_law 1081 = .ok (.iconst 2, 1) := by decide +kernel
theorem dL_law_1082 : decode cL_law 1082 = .ok (.iadd, 1) := by decide +kernel
theorem dL_law_1083 : decode cL_law 1083 = .ok (.iaload, 1) := by decide +kernel
theorem dL_law_1084 : decode cL_law 1084 = .ok (.aload_n 0, 1) := by decide +kernel
theorem dL_law_1085 : decode cL_law 1085 = .ok (.iload_n 3, 1) := by decide +kernel
theorem dL_law_1086 : decode cL_law 1086 = .ok (.iconst 3, 1) := by decide +kernel
theorem dL_law_1087 : decode cL_law 1087 = .ok (.iadd, 1) := by decide +kernel
theorem dL_law_1088 : decode cL_law 1088 = .ok (.iaload, 1) := by decide +kernel
theorem dL_law_1089 : decode cL_law 1089 = .ok (.invokevirtual 108, 3) := by decide +kernel
theorem dL_law_1092 : decode cL_law 1092 = .ok (.if_icmp .eq 527, 3) := by decide +kernel
theorem dL_law_1095 : decode cL_law 1095 = .ok (.iconst 0, 1) := by decide +kernel
theorem dL_law_1096 : decode cL_law 1096 = .ok (.ireturn, 1) := by decide +kernel
theorem dL_law_1097 : decode cL_law 1097 = .ok (.aload_n 1, 1) := by decide +kernel
theorem dL_law_1098 : decode cL_law 1098 = .ok (.aload_n 0, 1) := by decide +kernel
theorem dL_law_1099 : decode cL_law 1099 = .ok (.iload_n 3, 1) := by decide +kernel
theorem dL_law_1100 : decode cL_law 1100 = .ok (.iconst 1, 1) := by decide +kernel
theorem dL_law_1101 : decode cL_law 1101 = .ok (.iadd, 1) := by decide +kernel
theorem dL_law_1102 : decode cL_law 1102 = .ok (.iaload, 1) := by decide +kernel
theorem dL_law_1103 : decode cL_law 1103 = .ok (.aload_n 0, 1) := by decide +kernel
theorem dL_law_1104 : decode cL_law 1104 = .ok (.iload_n 3, 1) := by decide +kernel
theorem dL_law_1105 : decode cL_law 1105 = .ok (.iconst 2, 1) := by decide +kernel
theorem dL_law_1106 : decode cL_law 1106 = .ok (.iadd, 1) := by decide +kernel
theorem dL_law_1107 : decode cL_law 1107 = .ok (.iaload, 1) := by decide +kernel
theorem dL_law_1108 : decode cL_law 1108 = .ok (.aload_n 0, 1) := by decide +kernel
theorem dL_law_1109 : decode cL_law 1109 = .ok (.iload_n 3, 1) := by decide +kernel
theorem dL_law_1110 : decode cL_law 1110 = .ok (.iconst 3, 1) := by decide +kernel
theorem dL_law_1111 : decode cL_law 1111 = .ok (.iadd, 1) := by decide +kernel
theorem dL_law_1112 : decode cL_law 1112 = .ok (.iaload, 1) := by decide +kernel
theorem dL_law_1113 : decode cL_law 1113 = .ok (.invokevirtual 109, 3) := by decide +kernel
theorem dL_law_1116 : decode cL_law 1116 = .ok (.aload_n 2, 1) := by decide +kernel
theorem dL_law_1117 : decode cL_law 1117 = .ok (.aload_n 0, 1) := by decide +kernel
theorem dL_law_1118 : decode cL_law 1118 = .ok (.iload_n 3, 1) := by decide +kernel
theorem dL_law_1119 : decode cL_law 1119 = .ok (.iconst 1, 1) := by decide +kernel
theorem dL_law_1120 : decode cL_law 1120 = .ok (.iadd, 1) := by decide +kernel
theorem dL_law_1121 : decode cL_law 1121 = .ok (.iaload, 1) := by decide +kernel
theorem dL_law_1122 : decode cL_law 1122 = .ok (.aload_n 0, 1) := by decide +kernel
theorem dL_law_1123 : decode cL_law 1123 = .ok (.iload_n 3, 1) := by decide +kernel
theorem dL_law_1124 : decode cL_law 1124 = .ok (.iconst 2, 1) := by decide +kernel
theorem dL_law_1125 : decode cL_law 1125 = .ok (.iadd, 1) := by decide +kernel
theorem dL_law_1126 : decode cL_law 1126 = .ok (.iaload, 1) := by decide +kernel
theorem dL_law_1127 : decode cL_law 1127 = .ok (.aload_n 0, 1) := by decide +kernel
theorem dL_law_1128 : decode cL_law 1128 = .ok (.iload_n 3, 1) := by decide +kernel
theorem dL_law_1129 : decode cL_law 1129 = .ok (.iconst 3, 1) := by decide +kernel
theorem dL_law_1130 : decode cL_law 1130 = .ok (.iadd, 1) := by decide +kernel
theorem dL_law_1131 : decode cL_law 1131 = .ok (.iaload, 1) := by decide +kernel
theorem dL_law_1132 : decode cL_law 1132 = .ok (.invokevirtual 112, 3) := by decide +kernel
theorem dL_law_1135 : decode cL_law 1135 = .ok (.if_icmp .eq 484, 3) := by decide +kernel
theorem dL_law_1138 : decode cL_law 1138 = .ok (.iconst 0, 1) := by decide +kernel
theorem dL_law_1139 : decode cL_law 1139 = .ok (.ireturn, 1) := by decide +kernel
theorem dL_law_1140 : decode cL_law 1140 = .ok (.aload_n 1, 1) := by decide +kernel
theorem dL_law_1141 : decode cL_law 1141 = .ok (.aload_n 0, 1) := by decide +kernel
theorem dL_law_1142 : decode cL_law 1142 = .ok (.iload_n 3, 1) := by decide +kernel
theorem dL_law_1143 : decode cL_law 1143 = .ok (.iconst 1, 1) := by decide +kernel
theorem dL_law_1144 : decode cL_law 1144 = .ok (.iadd, 1) := by decide +kernel
theorem dL_law_1145 : decode cL_law 1145 = .ok (.iaload, 1) := by decide +kernel
theorem dL_law_1146 : decode cL_law 1146 = .ok (.aload_n 0, 1) := by decide +kernel
theorem dL_law_1147 : decode cL_law 1147 = .ok (.iload_n 3, 1) := by decide +kernel
theorem dL_law_1148 : decode cL_law 1148 = .ok (.iconst 2, 1) := by decide +kernel
theorem dL_law_1149 : decode cL_law 1149 = .ok (.iadd, 1) := by decide +kernel
theorem dL_law_1150 : decode cL_law 1150 = .ok (.iaload, 1) := by decide +kernel
theorem dL_law_1151 : decode cL_law 1151 = .ok (.invokevirtual 113, 3) := by decide +kernel
theorem dL_law_1154 : decode cL_law 1154 = .ok (.aload_n 2, 1) := by decide +kernel
theorem dL_law_1155 : decode cL_law 1155 = .ok (.aload_n 0, 1) := by decide +kernel
theorem dL_law_1156 : decode cL_law 1156 = .ok (.iload_n 3, 1) := by decide +kernel
theorem dL_law_1157 : decode cL_law 1157 = .ok (.iconst 1, 1) := by decide +kernel
theorem dL_law_1158 : decode cL_law 1158 = .ok (.iadd, 1) := by decide +kernel
theorem dL_law_1159 : decode cL_law 1159 = .ok (.iaload, 1) := by decide +kernel
theorem dL_law_1160 : decode cL_law 1160 = .ok (.aload_n 0, 1) := by decide +kernel
theorem dL_law_1161 : decode cL_law 1161 = .ok (.iload_n 3, 1) := by decide +kernel
theorem dL_law_1162 : decode cL_law 1162 = .ok (.iconst 2, 1) := by decide +kernel
theorem dL_law_1163 : decode cL_law 1163 = .ok (.iadd, 1) := by decide +kernel
theorem dL_law_1164 : decode cL_law 1164 = .ok (.iaload, 1) := by decide +kernel
theorem dL_law_1165 : decode cL_law 1165 = .ok (.invokevirtual 116, 3) := by decide +kernel
theorem dL_law_1168 : decode cL_law 1168 = .ok (.if_icmp .eq 451, 3) := by decide +kernel
theorem dL_law_1171 : decode cL_law 1171 = .ok (.iconst 0, 1) := by decide +kernel
theorem dL_law_1172 : decode cL_law 1172 = .ok (.ireturn, 1) := by decide +kernel
theorem dL_law_1173 : decode cL_law 1173 = .ok (.aload_n 1, 1) := by decide +kernel
theorem dL_law_1174 : decode cL_law 1174 = .ok (.aload_n 0, 1) := by decide +kernel
theorem dL_law_1175 : decode cL_law 1175 = .ok (.iload_n 3, 1) := by decide +kernel
theorem dL_law_1176 : decode cL_law 1176 = .ok (.iconst 1, 1) := by decide +kernel
theorem dL_law_1177 : decode cL_law 1177 = .ok (.iadd, 1) := by decide +kernel
theorem dL_law_1178 : decode cL_law 1178 = .ok (.iaload, 1) := by decide +kernel
theorem dL_law_1179 : decode cL_law 1179 = .ok (.invokevirtual 117, 3) := by decide +kernel
theorem dL_law_1182 : decode cL_law 1182 = .ok (.aload_n 2, 1) := by decide +kernel
theorem dL_law_1183 : decode cL_law 1183 = .ok (.aload_n 0, 1) := by decide +kernel
theorem dL_law_1184 : decode cL_law 1184 = .ok (.iload_n 3, 1) := by decide +kernel
theorem dL_law_1185 : decode cL_law 1185 = .ok (.iconst 1, 1) := by decide +kernel
theorem dL_law_1186 : decode cL_law 1186 = .ok (.iadd, 1) := by decide +kernel
theorem dL_law_1187 : decode cL_law 1187 = .ok (.iaload, 1) := by decide +kernel
theorem dL_law_1188 : decode cL_law 1188 = .ok (.invokevirtual 120, 3) := by decide +kernel
theorem dL_law_1191 : decode cL_law 1191 = .ok (.if_icmp .eq 428, 3) := by decide +kernel
theorem dL_law_1194 : decode cL_law 1194 = .ok (.iconst 0, 1) := by decide +kernel
theorem dL_law_1195 : decode cL_law 1195 = .ok (.ireturn, 1) := by decide +kernel
theorem dL_law_1196 : decode cL_law 1196 = .ok (.aload_n 1, 1) := by decide +kernel
theorem dL_law_1197 : decode cL_law 1197 = .ok (.aload_n 0, 1) := by decide +kernel
theorem dL_law_1198 : decode cL_law 1198 = .ok (.iload_n 3, 1) := by decide +kernel
theorem dL_law_1199 : decode cL_law 1199 = .ok (.iconst 1, 1) := by decide +kernel
theorem dL_law_1200 : decode cL_law 1200 = .ok (.iadd, 1) := by decide +kernel
theorem dL_law_1201 : decode cL_law 1201 = .ok (.iaload, 1) := by decide +kernel
theorem dL_law_1202 : decode cL_law 1202 = .ok (.aload_n 0, 1) := by decide +kernel
theorem dL_law_1203 : decode cL_law 1203 = .ok (.iload_n 3, 1) := by decide +kernel
theorem dL_law_1204 : decode cL_law 1204 = .ok (.iconst 2, 1) := by decide +kernel
theorem dL_law_1205 : decode cL_law 1205 = .ok (.iadd, 1) := by decide +kernel
theorem dL_law_1206 : decode cL_law 1206 = .ok (.iaload, 1) := by decide +kernel
theorem dL_law_1207 : decode cL_law 1207 = .ok (.invokevirtual 121, 3) := by decide +kernel
theorem dL_law_1210 : decode cL_law 1210 = .ok (.aload_n 2, 1) := by decide +kernel
theorem dL_law_1211 : decode cL_law 1211 = .ok (.aload_n 0, 1) := by decide +kernel
theorem dL_law_1212 : decode cL_law 1212 = .ok (.iload_n 3, 1) := by decide +kernel
theorem dL_law_1213 : decode cL_law 1213 = .ok (.iconst 1, 1) := by decide +kernel
theorem dL_law_1214 : decode cL_law 1214 = .ok (.iadd, 1) := by decide +kernel
theorem dL_law_1215 : decode cL_law 1215 = .ok (.iaload, 1) := by decide +kernel
theorem dL_law_1216 : decode cL_law 1216 = .ok (.aload_n 0, 1) := by decide +kernel
theorem dL_law_1217 : decode cL_law 1217 = .ok (.iload_n 3, 1) := by decide +kernel
theorem dL_law_1218 : decode cL_law 1218 = .ok (.iconst 2, 1) := by decide +kernel
theorem dL_law_1219 : decode cL_law 1219 = .ok (.iadd, 1) := by decide +kernel
theorem dL_law_1220 : decode cL_law 1220 = .ok (.iaload, 1) := by decide +kernel
theorem dL_law_1221 : decode cL_law 1221 = .ok (.invokevirtual 124, 3) := by decide +kernel
theorem dL_law_1224 : decode cL_law 1224 = .ok (.if_icmp .eq 395, 3) := by decide +kernel
theorem dL_law_1227 : decode cL_law 1227 = .ok (.iconst 0, 1) := by decide +kernel
theorem dL_law_1228 : decode cL_law 1228 = .ok (.ireturn, 1) := by decide +kernel
theorem dL_law_1229 : decode cL_law 1229 = .ok (.aload_n 1, 1) := by decide +kernel
theorem dL_law_1230 : decode cL_law 1230 = .ok (.invokevirtual 125, 3) := by decide +kernel
theorem dL_law_1233 : decode cL_law 1233 = .ok (.aload_n 2, 1) := by decide +kernel
theorem dL_law_1234 : decode cL_law 1234 = .ok (.invokevirtual 129, 3) := by decide +kernel
theorem dL_law_1237 : decode cL_law 1237 = .ok (.if_icmp .eq 382, 3) := by decide +kernel
theorem dL_law_1240 : decode cL_law 1240 = .ok (.iconst 0, 1) := by decide +kernel
theorem dL_law_1241 : decode cL_law 1241 = .ok (.ireturn, 1) := by decide +kernel
theorem dL_law_1242 : decode cL_law 1242 = .ok (.aload_n 1, 1) := by decide +kernel
theorem dL_law_1243 : decode cL_law 1243 = .ok (.invokevirtual 130, 3) := by decide +kernel
theorem dL_law_1246 : decode cL_law 1246 = .ok (.aload_n 2, 1) := by decide +kernel
theorem dL_law_1247 : decode cL_law 1247 = .ok (.invokevirtual 133, 3) := by decide +kernel
theorem dL_law_1250 : decode cL_law 1250 = .ok (.if_icmp .eq 369, 3) := by decide +kernel
theorem dL_law_1253 : decode cL_law 1253 = .ok (.iconst 0, 1) := by decide +kernel
theorem dL_law_1254 : decode cL_law 1254 = .ok (.ireturn, 1) := by decide +kernel
theorem dL_law_1255 : decode cL_law 1255 = .ok (.aload_n 1, 1) := by decide +kernel
theorem dL_law_1256 : decode cL_law 1256 = .ok (.aload_n 0, 1) := by decide +kernel
theorem dL_law_1257 : decode cL_law 1257 = .ok (.iload_n 3, 1) := by decide +kernel
theorem dL_law_1258 : decode cL_law 1258 = .ok (.iconst 1, 1) := by decide +kernel
theorem dL_law_1259 : decode cL_law 1259 = .ok (.iadd, 1) := by decide +kernel
theorem dL_law_1260 : decode cL_law 1260 = .ok (.iaload, 1) := by decide +kernel
theorem dL_law_1261 : decode cL_law 1261 = .ok (.aload_n 0, 1) := by decide +kernel
theorem dL_law_1262 : decode cL_law 1262 = .ok (.iload_n 3, 1) := by decide +kernel
theorem dL_law_1263 : decode cL_law 1263 = .ok (.iconst 2, 1) := by decide +kernel
theorem dL_law_1264 : decode cL_law 1264 = .ok (.iadd, 1) := by decide +kernel
theorem dL_law_1265 : decode cL_law 1265 = .ok (.iaload, 1) := by decide +kernel
theorem dL_law_1266 : decode cL_law 1266 = .ok (.aload_n 0, 1) := by decide +kernel
theorem dL_law_1267 : decode cL_law 1267 = .ok (.iload_n 3, 1) := by decide +kernel
theorem dL_law_1268 : decode cL_law 1268 = .ok (.iconst 3, 1) := by decide +kernel
theorem dL_law_1269 : decode cL_law 1269 = .ok (.iadd, 1) := by decide +kernel
theorem dL_law_1270 : decode cL_law 1270 = .ok (.iaload, 1) := by decide +kernel
theorem dL_law_1271 : decode cL_law 1271 = .ok (.invokevirtual 134, 3) := by decide +kernel
theorem dL_law_1274 : decode cL_law 1274 = .ok (.aload_n 2, 1) := by decide +kernel
theorem dL_law_1275 : decode cL_law 1275 = .ok (.aload_n 0, 1) := by decide +kernel
theorem dL_law_1276 : decode cL_law 1276 = .ok (.iload_n 3, 1) := by decide +kernel
theorem dL_law_1277 : decode cL_law 1277 = .ok (.iconst 1, 1) := by decide +kernel
theorem dL_law_1278 : decode cL_law 1278 = .ok (.iadd, 1) := by decide +kernel
theorem dL_law_1279 : decode cL_law 1279 = .ok (.iaload, 1) := by decide +kernel
theorem dL_law_1280 : decode cL_law 1280 = .ok (.aload_n 0, 1) := by decide +kernel
theorem dL_law_1281 : decode cL_law 1281 = .ok (.iload_n 3, 1) := by decide +kernel
theorem dL_law_1282 : decode cL_law 1282 = .ok (.iconst 2, 1) := by decide +kernel
theorem dL_law_1283 : decode cL_law 1283 = .ok (.iadd, 1) := by decide +kernel
theorem dL_law_1284 : decode cL_law 1284 = .ok (.iaload, 1) := by decide +kernel
theorem dL_law_1285 : decode cL_law 1285 = .ok (.aload_n 0, 1) := by decide +kernel
theorem dL_law_1286 : decode cL_law 1286 = .ok (.iload_n 3, 1) := by decide +kernel
theorem dL_law_1287 : decode cL_law 1287 = .ok (.iconst 3, 1) := by decide +kernel
theorem dL_law_1288 : decode cL_law 1288 = .ok (.iadd, 1) := by decide +kernel
theorem dL_law_1289 : decode cL_law 1289 = .ok (.iaload, 1) := by decide +kernel
theorem dL_law_1290 : decode cL_law 1290 = .ok (.invokevirtual 137, 3) := by decide +kernel
theorem dL_law_1293 : decode cL_law 1293 = .ok (.if_icmp .eq 326, 3) := by decide +kernel
theorem dL_law_1296 : decode cL_law 1296 = .ok (.iconst 0, 1) := by decide +kernel
theorem dL_law_1297 : decode cL_law 1297 = .ok (.ireturn, 1) := by decide +kernel
theorem dL_law_1298 : decode cL_law 1298 = .ok (.aload_n 1, 1) := by decide +kernel
theorem dL_law_1299 : decode cL_law 1299 = .ok (.aload_n 0, 1) := by decide +kernel
theorem dL_law_1300 : decode cL_law 1300 = .ok (.iload_n 3, 1) := by decide +kernel
theorem dL_law_1301 : decode cL_law 1301 = .ok (.iconst 1, 1) := by decide +kernel
theorem dL_law_1302 : decode cL_law 1302 = .ok (.iadd, 1) := by decide +kernel
theorem dL_law_1303 : decode cL_law 1303 = .ok (.iaload, 1) := by decide +kernel
theorem dL_law_1304 : decode cL_law 1304 = .ok (.aload_n 0, 1) := by decide +kernel
theorem dL_law_1305 : decode cL_law 1305 = .ok (.iload_n 3, 1) := by decide +kernel
theorem dL_law_1306 : decode cL_law 1306 = .ok (.iconst 2, 1) := by decide +kernel
theorem dL_law_1307 : decode cL_law 1307 = .ok (.iadd, 1) := by decide +kernel
theorem dL_law_1308 : decode cL_law 1308 = .ok (.iaload, 1) := by decide +kernel
theorem dL_law_1309 : decode cL_law 1309 = .ok (.aload_n 0, 1) := by decide +kernel
theorem dL_law_1310 : decode cL_law 1310 = .ok (.iload_n 3, 1) := by decide +kernel
theorem dL_law_1311 : decode cL_law 1311 = .ok (.iconst 3, 1) := by decide +kernel
theorem dL_law_1312 : decode cL_law 1312 = .ok (.iadd, 1) := by decide +kernel
theorem dL_law_1313 : decode cL_law 1313 = .ok (.iaload, 1) := by decide +kernel
theorem dL_law_1314 : decode cL_law 1314 = .ok (.i2l, 1) := by decide +kernel
theorem dL_law_1315 : decode cL_law 1315 = .ok (.bipush 32, 2) := by decide +kernel
theorem dL_law_1317 : decode cL_law 1317 = .ok (.lshl, 1) := by decide +kernel
theorem dL_law_1318 : decode cL_law 1318 = .ok (.aload_n 0, 1) := by decide +kernel
theorem dL_law_1319 : decode cL_law 1319 = .ok (.iload_n 3, 1) := by decide +kernel
theorem dL_law_1320 : decode cL_law 1320 = .ok (.iconst 4, 1) := by decide +kernel
theorem dL_law_1321 : decode cL_law 1321 = .ok (.iadd, 1) := by decide +kernel
theorem dL_law_1322 : decode cL_law 1322 = .ok (.iaload, 1) := by decide +kernel
theorem dL_law_1323 : decode cL_law 1323 = .ok (.i2l, 1) := by decide +kernel
theorem dL_law_1324 : decode cL_law 1324 = .ok (.ldc2_w 138, 3) := by decide +kernel
theorem dL_law_1327 : decode cL_law 1327 = .ok (.land, 1) := by decide +kernel
theorem dL_law_1328 : decode cL_law 1328 = .ok (.lor, 1) := by decide +kernel
theorem dL_law_1329 : decode cL_law 1329 = .ok (.invokevirtual 140, 3) := by decide +kernel
theorem dL_law_1332 : decode cL_law 1332 = .ok (.aload_n 2, 1) := by decide +kernel
theorem dL_law_1333 : decode cL_law 1333 = .ok (.aload_n 0, 1) := by decide +kernel
theorem dL_law_1334 : decode cL_law 1334 = .ok (.iload_n 3, 1) := by decide +kernel
theorem dL_law_1335 : decode cL_law 1335 = .ok (.iconst 1, 1) := by decide +kernel
theorem dL_law_1336 : decode cL_law 1336 = .ok (.iadd, 1) := by decide +kernel
theorem dL_law_1337 : decode cL_law 1337 = .ok (.iaload, 1) := by decide +kernel
theorem dL_law_1338 : decode cL_law 1338 = .ok (.aload_n 0, 1) := by decide +kernel
theorem dL_law_1339 : decode cL_law 1339 = .ok (.iload_n 3, 1) := by decide +kernel
theorem dL_law_1340 : decode cL_law 1340 = .ok (.iconst 2, 1) := by decide +kernel
theorem dL_law_1341 : decode cL_law 1341 = .ok (.iadd, 1) := by decide +kernel
theorem dL_law_1342 : decode cL_law 1342 = .ok (.iaload, 1) := by decide +kernel
theorem dL_law_1343 : decode cL_law 1343 = .ok (.aload_n 0, 1) := by decide +kernel
theorem dL_law_1344 : decode cL_law 1344 = .ok (.iload_n 3, 1) := by decide +kernel
theorem dL_law_1345 : decode cL_law 1345 = .ok (.iconst 3, 1) := by decide +kernel
theorem dL_law_1346 : decode cL_law 1346 = .ok (.iadd, 1) := by decide +kernel
theorem dL_law_1347 : decode cL_law 1347 = .ok (.iaload, 1) := by decide +kernel
theorem dL_law_1348 : decode cL_law 1348 = .ok (.i2l, 1) := by decide +kernel
theorem dL_law_1349 : decode cL_law 1349 = .ok (.bipush 32, 2) := by decide +kernel
theorem dL_law_1351 : decode cL_law 1351 = .ok (.lshl, 1) := by decide +kernel
theorem dL_law_1352 : decode cL_law 1352 = .ok (.aload_n 0, 1) := by decide +kernel
theorem dL_law_1353 : decode cL_law 1353 = .ok (.iload_n 3, 1) := by decide +kernel
theorem dL_law_1354 : decode cL_law 1354 = .ok (.iconst 4, 1) := by decide +kernel
theorem dL_law_1355 : decode cL_law 1355 = .ok (.iadd, 1) := by decide +kernel
theorem dL_law_1356 : decode cL_law 1356 = .ok (.iaload, 1) := by decide +kernel
theorem dL_law_1357 : decode cL_law 1357 = .ok (.i2l, 1) := by decide +kernel
theorem dL_law_1358 : decode cL_law 1358 = .ok (.ldc2_w 138, 3) := by decide +kernel
theorem dL_law_1361 : decode cL_law 1361 = .ok (.land, 1) := by decide +kernel
theorem dL_law_1362 : decode cL_law 1362 = .ok (.lor, 1) := by decide +kernel
theorem dL_law_1363 : decode cL_law 1363 = .ok (.invokevirtual 144, 3) := by decide +kernel
theorem dL_law_1366 : decode cL_law 1366 = .ok (.lcmp, 1) := by decide +kernel
theorem dL_law_1367 : decode cL_law 1367 = .ok (.ifCond .eq 252, 3) := by decide +kernel
theorem dL_law_1370 : decode cL_law 1370 = .ok (.iconst 0, 1) := by decide +kernel
theorem dL_law_1371 : decode cL_law 1371 = .ok (.ireturn, 1) := by decide +kernel
theorem dL_law_1372 : decode cL_law 1372 = .ok (.aload_n 1, 1) := by decide +kernel
theorem dL_law_1373 : decode cL_law 1373 = .ok (.aload_n 0, 1) := by decide +kernel
theorem dL_law_1374 : decode cL_law 1374 = .ok (.iload_n 3, 1) := by decide +kernel
theorem dL_law_1375 : decode cL_law 1375 = .ok (.iconst 1, 1) := by decide +kernel
theorem dL_law_1376 : decode cL_law 1376 = .ok (.iadd, 1) := by decide +kernel
theorem dL_law_1377 : decode cL_law 1377 = .ok (.iaload, 1) := by decide +kernel
theorem dL_law_1378 : decode cL_law 1378 = .ok (.aload_n 0, 1) := by decide +kernel
theorem dL_law_1379 : decode cL_law 1379 = .ok (.iload_n 3, 1) := by decide +kernel
theorem dL_law_1380 : decode cL_law 1380 = .ok (.iconst 2, 1) := by decide +kernel
theorem dL_law_1381 : decode cL_law 1381 = .ok (.iadd, 1) := by decide +kernel
theorem dL_law_1382 : decode cL_law 1382 = .ok (.iaload, 1) := by decide +kernel
theorem dL_law_1383 : decode cL_law 1383 = .ok (.aload_n 0, 1) := by decide +kernel
theorem dL_law_1384 : decode cL_law 1384 = .ok (.iload_n 3, 1) := by decide +kernel
theorem dL_law_1385 : decode cL_law 1385 = .ok (.iconst 3, 1) := by decide +kernel
theorem dL_law_1386 : decode cL_law 1386 = .ok (.iadd, 1) := by decide +kernel
theorem dL_law_1387 : decode cL_law 1387 = .ok (.iaload, 1) := by decide +kernel
theorem dL_law_1388 : decode cL_law 1388 = .ok (.aload_n 0, 1) := by decide +kernel
theorem dL_law_1389 : decode cL_law 1389 = .ok (.iload_n 3, 1) := by decide +kernel
theorem dL_law_1390 : decode cL_law 1390 = .ok (.iconst 4, 1) := by decide +kernel
theorem dL_law_1391 : decode cL_law 1391 = .ok (.iadd, 1) := by decide +kernel
theorem dL_law_1392 : decode cL_law 1392 = .ok (.iaload, 1) := by decide +kernel
theorem dL_law_1393 : decode cL_law 1393 = .ok (.aload_n 0, 1) := by decide +kernel
theorem dL_law_1394 : decode cL_law 1394 = .ok (.iload_n 3, 1) := by decide +kernel
theorem dL_law_1395 : decode cL_law 1395 = .ok (.iconst 5, 1) := by decide +kernel
theorem dL_law_1396 : decode cL_law 1396 = .ok (.iadd, 1) := by decide +kernel
theorem dL_law_1397 : decode cL_law 1397 = .ok (.iaload, 1) := by decide +kernel
theorem dL_law_1398 : decode cL_law 1398 = .ok (.invokevirtual 145, 3) := by decide +kernel
theorem dL_law_1401 : decode cL_law 1401 = .ok (.aload_n 2, 1) := by decide +kernel
theorem dL_law_1402 : decode cL_law 1402 = .ok (.aload_n 0, 1) := by decide +kernel
theorem dL_law_1403 : decode cL_law 1403 = .ok (.iload_n 3, 1) := by decide +kernel
theorem dL_law_1404 : decode cL_law 1404 = .ok (.iconst 1, 1) := by decide +kernel
theorem dL_law_1405 : decode cL_law 1405 = .ok (.iadd, 1) := by decide +kernel
theorem dL_law_1406 : decode cL_law 1406 = .ok (.iaload, 1) := by decide +kernel
theorem dL_law_1407 : decode cL_law 1407 = .ok (.aload_n 0, 1) := by decide +kernel
theorem dL_law_1408 : decode cL_law 1408 = .ok (.iload_n 3, 1) := by decide +kernel
theorem dL_law_1409 : decode cL_law 1409 = .ok (.iconst 2, 1) := by decide +kernel
theorem dL_law_1410 : decode cL_law 1410 = .ok (.iadd, 1) := by decide +kernel
theorem dL_law_1411 : decode cL_law 1411 = .ok (.iaload, 1) := by decide +kernel
theorem dL_law_1412 : decode cL_law 1412 = .ok (.aload_n 0, 1) := by decide +kernel
theorem dL_law_1413 : decode cL_law 1413 = .ok (.iload_n 3, 1) := by decide +kernel
theorem dL_law_1414 : decode cL_law 1414 = .ok (.iconst 3, 1) := by decide +kernel
theorem dL_law_1415 : decode cL_law 1415 = .ok (.iadd, 1) := by decide +kernel
theorem dL_law_1416 : decode cL_law 1416 = .ok (.iaload, 1) := by decide +kernel
theorem dL_law_1417 : decode cL_law 1417 = .ok (.aload_n 0, 1) := by decide +kernel
theorem dL_law_1418 : decode cL_law 1418 = .ok (.iload_n 3, 1) := by decide +kernel
theorem dL_law_1419 : decode cL_law 1419 = .ok (.iconst 4, 1) := by decide +kernel
theorem dL_law_1420 : decode cL_law 1420 = .ok (.iadd, 1) := by decide +kernel
theorem dL_law_1421 : decode cL_law 1421 = .ok (.iaload, 1) := by decide +kernel
theorem dL_law_1422 : decode cL_law 1422 = .ok (.aload_n 0, 1) := by decide +kernel
theorem dL_law_1423 : decode cL_law 1423 = .ok (.iload_n 3, 1) := by decide +kernel
theorem dL_law_1424 : decode cL_law 1424 = .ok (.iconst 5, 1) := by decide +kernel
theorem dL_law_1425 : decode cL_law 1425 = .ok (.iadd, 1) := by decide +kernel
theorem dL_law_1426 : decode cL_law 1426 = .ok (.iaload, 1) := by decide +kernel
theorem dL_law_1427 : decode cL_law 1427 = .ok (.invokevirtual 149, 3) := by decide +kernel
theorem dL_law_1430 : decode cL_law 1430 = .ok (.if_icmp .eq 189, 3) := by decide +kernel
theorem dL_law_1433 : decode cL_law 1433 = .ok (.iconst 0, 1) := by decide +kernel
theorem dL_law_1434 : decode cL_law 1434 = .ok (.ireturn, 1) := by decide +kernel
theorem dL_law_1435 : decode cL_law 1435 = .ok (.aload_n 1, 1) := by decide +kernel
theorem dL_law_1436 : decode cL_law 1436 = .ok (.aload_n 0, 1) := by decide +kernel
theorem dL_law_1437 : decode cL_law 1437 = .ok (.iload_n 3, 1) := by decide +kernel
theorem dL_law_1438 : decode cL_law 1438 = .ok (.iconst 1, 1) := by decide +kernel
theorem dL_law_1439 : decode cL_law 1439 = .ok (.iadd, 1) := by decide +kernel
theorem dL_law_1440 : decode cL_law 1440 = .ok (.iaload, 1) := by decide +kernel
theorem dL_law_1441 : decode cL_law 1441 = .ok (.aload_n 0, 1) := by decide +kernel
theorem dL_law_1442 : decode cL_law 1442 = .ok (.iload_n 3, 1) := by decide +kernel
theorem dL_law_1443 : decode cL_law 1443 = .ok (.iconst 2, 1) := by decide +kernel
theorem dL_law_1444 : decode cL_law 1444 = .ok (.iadd, 1) := by decide +kernel
theorem dL_law_1445 : decode cL_law 1445 = .ok (.iaload, 1) := by decide +kernel
theorem dL_law_1446 : decode cL_law 1446 = .ok (.invokevirtual 150, 3) := by decide +kernel
theorem dL_law_1449 : decode cL_law 1449 = .ok (.aload_n 2, 1) := by decide +kernel
theorem dL_law_1450 : decode cL_law 1450 = .ok (.aload_n 0, 1) := by decide +kernel
theorem dL_law_1451 : decode cL_law 1451 = .ok (.iload_n 3, 1) := by decide +kernel
theorem dL_law_1452 : decode cL_law 1452 = .ok (.iconst 1, 1) := by decide +kernel
theorem dL_law_1453 : decode cL_law 1453 = .ok (.iadd, 1) := by decide +kernel
theorem dL_law_1454 : decode cL_law 1454 = .ok (.iaload, 1) := by decide +kernel
theorem dL_law_1455 : decode cL_law 1455 = .ok (.aload_n 0, 1) := by decide +kernel
theorem dL_law_1456 : decode cL_law 1456 = .ok (.iload_n 3, 1) := by decide +kernel
theorem dL_law_1457 : decode cL_law 1457 = .ok (.iconst 2, 1) := by decide +kernel
theorem dL_law_1458 : decode cL_law 1458 = .ok (.iadd, 1) := by decide +kernel
theorem dL_law_1459 : decode cL_law 1459 = .ok (.iaload, 1) := by decide +kernel
theorem dL_law_1460 : decode cL_law 1460 = .ok (.invokevirtual 153, 3) := by decide +kernel
theorem dL_law_1463 : decode cL_law 1463 = .ok (.if_icmp .eq 156, 3) := by decide +kernel
theorem dL_law_1466 : decode cL_law 1466 = .ok (.iconst 0, 1) := by decide +kernel
theorem dL_law_1467 : decode cL_law 1467 = .ok (.ireturn, 1) := by decide +kernel
theorem dL_law_1468 : decode cL_law 1468 = .ok (.aload_n 1, 1) := by decide +kernel
theorem dL_law_1469 : decode cL_law 1469 = .ok (.aload_n 0, 1) := by decide +kernel
theorem dL_law_1470 : decode cL_law 1470 = .ok (.iload_n 3, 1) := by decide +kernel
theorem dL_law_1471 : decode cL_law 1471 = .ok (.iconst 1, 1) := by decide +kernel
theorem dL_law_1472 : decode cL_law 1472 = .ok (.iadd, 1) := by decide +kernel
theorem dL_law_1473 : decode cL_law 1473 = .ok (.iaload, 1) := by decide +kernel
theorem dL_law_1474 : decode cL_law 1474 = .ok (.aload_n 0, 1) := by decide +kernel
theorem dL_law_1475 : decode cL_law 1475 = .ok (.iload_n 3, 1) := by decide +kernel
theorem dL_law_1476 : decode cL_law 1476 = .ok (.iconst 2, 1) := by decide +kernel
theorem dL_law_1477 : decode cL_law 1477 = .ok (.iadd, 1) := by decide +kernel
theorem dL_law_1478 : decode cL_law 1478 = .ok (.iaload, 1) := by decide +kernel
theorem dL_law_1479 : decode cL_law 1479 = .ok (.invokevirtual 154, 3) := by decide +kernel
theorem dL_law_1482 : decode cL_law 1482 = .ok (.aload_n 2, 1) := by decide +kernel
theorem dL_law_1483 : decode cL_law 1483 = .ok (.aload_n 0, 1) := by decide +kernel
theorem dL_law_1484 : decode cL_law 1484 = .ok (.iload_n 3, 1) := by decide +kernel
theorem dL_law_1485 : decode cL_law 1485 = .ok (.iconst 1, 1) := by decide +kernel
theorem dL_law_1486 : decode cL_law 1486 = .ok (.iadd, 1) := by decide +kernel
theorem dL_law_1487 : decode cL_law 1487 = .ok (.iaload, 1) := by decide +kernel
theorem dL_law_1488 : decode cL_law 1488 = .ok (.aload_n 0, 1) := by decide +kernel
theorem dL_law_1489 : decode cL_law 1489 = .ok (.iload_n 3, 1) := by decide +kernel
theorem dL_law_1490 : decode cL_law 1490 = .ok (.iconst 2, 1) := by decide +kernel
theorem dL_law_1491 : decode cL_law 1491 = .ok (.iadd, 1) := by decide +kernel
theorem dL_law_1492 : decode cL_law 1492 = .ok (.iaload, 1) := by decide +kernel
theorem dL_law_1493 : decode cL_law 1493 = .ok (.invokevirtual 157, 3) := by decide +kernel
theorem dL_law_1496 : decode cL_law 1496 = .ok (.if_icmp .eq 123, 3) := by decide +kernel
theorem dL_law_1499 : decode cL_law 1499 = .ok (.iconst 0, 1) := by decide +kernel
theorem dL_law_1500 : decode cL_law 1500 = .ok (.ireturn, 1) := by decide +kernel
theorem dL_law_1501 : decode cL_law 1501 = .ok (.aload_n 1, 1) := by decide +kernel
theorem dL_law_1502 : decode cL_law 1502 = .ok (.aload_n 0, 1) := by decide +kernel
theorem dL_law_1503 : decode cL_law 1503 = .ok (.iload_n 3, 1) := by decide +kernel
theorem dL_law_1504 : decode cL_law 1504 = .ok (.iconst 1, 1) := by decide +kernel
theorem dL_law_1505 : decode cL_law 1505 = .ok (.iadd, 1) := by decide +kernel
theorem dL_law_1506 : decode cL_law 1506 = .ok (.iaload, 1) := by decide +kernel
theorem dL_law_1507 : decode cL_law 1507 = .ok (.aload_n 0, 1) := by decide +kernel
theorem dL_law_1508 : decode cL_law 1508 = .ok (.iload_n 3, 1) := by decide +kernel
theorem dL_law_1509 : decode cL_law 1509 = .ok (.iconst 2, 1) := by decide +kernel
theorem dL_law_1510 : decode cL_law 1510 = .ok (.iadd, 1) := by decide +kernel
theorem dL_law_1511 : decode cL_law 1511 = .ok (.iaload, 1) := by decide +kernel
theorem dL_law_1512 : decode cL_law 1512 = .ok (.invokevirtual 158, 3) := by decide +kernel
theorem dL_law_1515 : decode cL_law 1515 = .ok (.aload_n 2, 1) := by decide +kernel
theorem dL_law_1516 : decode cL_law 1516 = .ok (.aload_n 0, 1) := by decide +kernel
theorem dL_law_1517 : decode cL_law 1517 = .ok (.iload_n 3, 1) := by decide +kernel
theorem dL_law_1518 : decode cL_law 1518 = .ok (.iconst 1, 1) := by decide +kernel
theorem dL_law_1519 : decode cL_law 1519 = .ok (.iadd, 1) := by decide +kernel
theorem dL_law_1520 : decode cL_law 1520 = .ok (.iaload, 1) := by decide +kernel
theorem dL_law_1521 : decode cL_law 1521 = .ok (.aload_n 0, 1) := by decide +kernel
theorem dL_law_1522 : decode cL_law 1522 = .ok (.iload_n 3, 1) := by decide +kernel
theorem dL_law_1523 : decode cL_law 1523 = .ok (.iconst 2, 1) := by decide +kernel
theorem dL_law_1524 : decode cL_law 1524 = .ok (.iadd, 1) := by decide +kernel
theorem dL_law_1525 : decode cL_law 1525 = .ok (.iaload, 1) := by decide +kernel
theorem dL_law_1526 : decode cL_law 1526 = .ok (.invokevirtual 161, 3) := by decide +kernel
theorem dL_law_1529 : decode cL_law 1529 = .ok (.if_icmp .eq 90, 3) := by decide +kernel
theorem dL_law_1532 : decode cL_law 1532 = .ok (.iconst 0, 1) := by decide +kernel
theorem dL_law_1533 : decode cL_law 1533 = .ok (.ireturn, 1) := by decide +kernel
theorem dL_law_1534 : decode cL_law 1534 = .ok (.aload_n 1, 1) := by decide +kernel
theorem dL_law_1535 : decode cL_law 1535 = .ok (.invokevirtual 162, 3) := by decide +kernel
theorem dL_law_1538 : decode cL_law 1538 = .ok (.aload_n 2, 1) := by decide +kernel
theorem dL_law_1539 : decode cL_law 1539 = .ok (.invokevirtual 165, 3) := by decide +kernel
theorem dL_law_1542 : decode cL_law 1542 = .ok (.if_icmp .eq 77, 3) := by decide +kernel
theorem dL_law_1545 : decode cL_law 1545 = .ok (.iconst 0, 1) := by decide +kernel
theorem dL_law_1546 : decode cL_law 1546 = .ok (.ireturn, 1) := by decide +kernel
theorem dL_law_1547 : decode cL_law 1547 = .ok (.aload_n 1, 1) := by decide +kernel
theorem dL_law_1548 : decode cL_law 1548 = .ok (.invokevirtual 166, 3) := by decide +kernel
theorem dL_law_1551 : decode cL_law 1551 = .ok (.aload_n 2, 1) := by decide +kernel
theorem dL_law_1552 : decode cL_law 1552 = .ok (.invokevirtual 169, 3) := by decide +kernel
theorem dL_law_1555 : decode cL_law 1555 = .ok (.if_icmp .eq 64, 3) := by decide +kernel
theorem dL_law_1558 : decode cL_law 1558 = .ok (.iconst 0, 1) := by decide +kernel
theorem dL_law_1559 : decode cL_law 1559 = .ok (.ireturn, 1) := by decide +kernel
theorem dL_law_1560 : decode cL_law 1560 = .ok (.aload_n 1, 1) := by decide +kernel
theorem dL_law_1561 : decode cL_law 1561 = .ok (.invokevirtual 170, 3) := by decide +kernel
theorem dL_law_1564 : decode cL_law 1564 = .ok (.aload_n 2, 1) := by decide +kernel
theorem dL_law_1565 : decode cL_law 1565 = .ok (.invokevirtual 173, 3) := by decide +kernel
theorem dL_law_1568 : decode cL_law 1568 = .ok (.if_icmp .eq 51, 3) := by decide +kernel
theorem dL_law_1571 : decode cL_law 1571 = .ok (.iconst 0, 1) := by decide +kernel
theorem dL_law_1572 : decode cL_law 1572 = .ok (.ireturn, 1) := by decide +kernel
theorem dL_law_1573 : decode cL_law 1573 = .ok (.aload_n 1, 1) := by decide +kernel
theorem dL_law_1574 : decode cL_law 1574 = .ok (.aload_n 0, 1) := by decide +kernel
theorem dL_law_1575 : decode cL_law 1575 = .ok (.iload_n 3, 1) := by decide +kernel
theorem dL_law_1576 : decode cL_law 1576 = .ok (.iconst 1, 1) := by decide +kernel
theorem dL_law_1577 : decode cL_law 1577 = .ok (.iadd, 1) := by decide +kernel
theorem dL_law_1578 : decode cL_law 1578 = .ok (.iaload, 1) := by decide +kernel
theorem dL_law_1579 : decode cL_law 1579 = .ok (.invokevirtual 174, 3) := by decide +kernel
theorem dL_law_1582 : decode cL_law 1582 = .ok (.aload_n 2, 1) := by decide +kernel
theorem dL_law_1583 : decode cL_law 1583 = .ok (.aload_n 0, 1) := by decide +kernel
theorem dL_law_1584 : decode cL_law 1584 = .ok (.iload_n 3, 1) := by decide +kernel
theorem dL_law_1585 : decode cL_law 1585 = .ok (.iconst 1, 1) := by decide +kernel
theorem dL_law_1586 : decode cL_law 1586 = .ok (.iadd, 1) := by decide +kernel
theorem dL_law_1587 : decode cL_law 1587 = .ok (.iaload, 1) := by decide +kernel
theorem dL_law_1588 : decode cL_law 1588 = .ok (.invokevirtual 177, 3) := by decide +kernel
theorem dL_law_1591 : decode cL_law 1591 = .ok (.if_icmp .eq 28, 3) := by decide +kernel
theorem dL_law_1594 : decode cL_law 1594 = .ok (.iconst 0, 1) := by decide +kernel
theorem dL_law_1595 : decode cL_law 1595 = .ok (.ireturn, 1) := by decide +kernel
theorem dL_law_1596 : decode cL_law 1596 = .ok (.aload_n 1, 1) := by decide +kernel
theorem dL_law_1597 : decode cL_law 1597 = .ok (.aload_n 0, 1) := by decide +kernel
theorem dL_law_1598 : decode cL_law 1598 = .ok (.iload_n 3, 1) := by decide +kernel
theorem dL_law_1599 : decode cL_law 1599 = .ok (.iconst 1, 1) := by decide +kernel
theorem dL_law_1600 : decode cL_law 1600 = .ok (.iadd, 1) := by decide +kernel
theorem dL_law_1601 : decode cL_law 1601 = .ok (.iaload, 1) := by decide +kernel
theorem dL_law_1602 : decode cL_law 1602 = .ok (.invokevirtual 178, 3) := by decide +kernel
theorem dL_law_1605 : decode cL_law 1605 = .ok (.aload_n 2, 1) := by decide +kernel
theorem dL_law_1606 : decode cL_law 1606 = .ok (.aload_n 0, 1) := by decide +kernel
theorem dL_law_1607 : decode cL_law 1607 = .ok (.iload_n 3, 1) := by decide +kernel
theorem dL_law_1608 : decode cL_law 1608 = .ok (.iconst 1, 1) := by decide +kernel
theorem dL_law_1609 : decode cL_law 1609 = .ok (.iadd, 1) := by decide +kernel
theorem dL_law_1610 : decode cL_law 1610 = .ok (.iaload, 1) := by decide +kernel
theorem dL_law_1611 : decode cL_law 1611 = .ok (.invokevirtual 181, 3) := by decide +kernel
theorem dL_law_1614 : decode cL_law 1614 = .ok (.if_icmp .eq 5, 3) := by decide +kernel
theorem dL_law_1617 : decode cL_law 1617 = .ok (.iconst 0, 1) := by decide +kernel
theorem dL_law_1618 : decode cL_law 1618 = .ok (.ireturn, 1) := by decide +kernel
theorem dL_law_1619 : decode cL_law 1619 = .ok (.iinc 3 6, 3) := by decide +kernel
theorem dL_law_1622 : decode cL_law 1622 = .ok (.goto (-1604), 3) := by decide +kernel
theorem dL_law_1625 : decode cL_law 1625 = .ok (.iconst 1, 1) := by decide +kernel
theorem dL_law_1626 : decode cL_law 1626 = .ok (.ireturn, 1) := by decide +kernel
end
section
/-! THE JUDGEMENT js_J: the bytecode from a frame on does what a function says. Values name cells by their number in a shape; the heap is told by a state of ints and longs. -/
abbrev js_S : Type := (Nat → Nat → Int32) × (Nat → Nat → Int64)
/-- an int row of a length, a long row of a length, or an object: number of its class, and for each field none (an int) or the cell that it names -/
abbrev js_Shp : Type := Nat ⊕ (Nat ⊕ (Nat × List (Option Nat)))
abbrev js_G : Type := Launch × (Nat → ClassId) × (Nat → Nat → Nat) × ClassId × ClassId × (Nat → Nat)
/-- a method: name, code, locals, what it returns, frames and locals below it -/
abbrev js_M : Type := MethodName × ByteArray × Nat × Option FieldType × Nat × Nat
def js_D (G : js_G) : va_G := (G.2.1, G.2.2.1)
def js_cI (G : js_G) : ClassId := G.2.2.2.1
def js_cL (G : js_G) : ClassId := G.2.2.2.2.1
def js_ad (G : js_G) : Nat → Nat := G.2.2.2.2.2
def js_y (m : js_M) : MethodName := m.1
def js_c (m : js_M) : ByteArray := m.2.1
def js_n (m : js_M) : Nat := m.2.2.1
def js_r (m : js_M) : Option FieldType := m.2.2.2.1
def js_fr (m : js_M) : Nat := m.2.2.2.2.1
def js_lo (m : js_M) : Nat := m.2.2.2.2.2
def js_good : List Cond := lw_tbl.filter goodWord
def js_ws (m : js_M) : List Cond := .code (js_y m) (js_c m) (js_n m) (js_r m) :: js_good
def js_rm (m : js_M) : Room := { frames := js_fr m, cells := 0, slots := 0, locals := js_lo m }
def js_tv (G : js_G) (v : Value) : Value := match v with
  | .ref k => .ref (js_ad G k)
  | w => w
theorem js_tv_cat (G : js_G) (v : Value) : (js_tv G v).category = v.category := by cases v <;> rfl
theorem js_tv_sum (G : js_G) : ∀ st : List Value, (((st.map (js_tv G)).map fun v => v.category).sum) = (st.map fun v => v.category).sum
  | [] => rfl
  | v :: r => by simp only [List.map_cons, List.sum_cons, js_tv_cat, js_tv_sum G r]
def js_lv (G : js_G) : Nat → List (Option Value) → List (Nat × Value)
  | _, [] => []
  | i, none :: r => js_lv G (i + 1) r
  | i, some v :: r => (i, js_tv G v) :: js_lv G (i + 1) r
theorem js_lv_in {G : js_G} : ∀ (lv : List (Option Value)) (i k : Nat) (v : Value), lv[k]? = some (some v) → (i + k, js_tv G v) ∈ js_lv G i lv
  | [], i, k, v, h => by simp at h
  | none :: r, i, 0, v, h => by simp at h
  | some w :: r, i, 0, v, h => by
    have h2 : w = v := by simpa using h
    subst h2
    exact List.mem_cons_self
  | none :: r, i, k + 1, v, h => by
    have h2 := js_lv_in (G := G) r (i + 1) k v (by simpa using h)
    rw [show i + (k + 1) = i + 1 + k by omega]
    exact h2
  | some w :: r, i, k + 1, v, h => by
    have h2 := js_lv_in (G := G) r (i + 1) k v (by simpa using h)
    rw [show i + (k + 1) = i + 1 + k by omega]
    exact List.mem_cons_of_mem _ h2
theorem js_lv_of {G : js_G} : ∀ (lv : List (Option Value)) (i : Nat) (q : Nat × Value), q ∈ js_lv G i lv → ∃ k v, lv[k]? = some (some v) ∧ q = (i + k, js_tv G v)
  | [], i, q, h => by cases h
  | none :: r, i, q, h => by
    obtain ⟨k, v, h1, h2⟩ := js_lv_of r (i + 1) q h
    exact ⟨k + 1, v, by simpa using h1, by rw [h2, show i + 1 + k = i + (k + 1) by omega]⟩
  | some w :: r, i, q, h => by
    rcases List.mem_cons.mp h with h | h
    · exact ⟨0, w, rfl, by rw [h]; rfl⟩
    · obtain ⟨k, v, h1, h2⟩ := js_lv_of r (i + 1) q h
      exact ⟨k + 1, v, by simpa using h1, by rw [h2, show i + 1 + k = i + (k + 1) by omega]⟩
theorem js_lv_sub {G : js_G} {ls : Array Slot} {n : Nat} {l : List (Nat × Value)} {lv : List (Option Value)} (h : lv_has ls n l) (hs : ∀ (k : Nat) (v : Value), lv[k]? = some (some v) → (k, js_tv G v) ∈ l) : lv_has ls n (js_lv G 0 lv) := by
  refine ⟨h.1, h.2.1, fun q hq => ?_⟩
  obtain ⟨k, v, h1, h2⟩ := js_lv_of lv 0 q hq
  rw [h2, Nat.zero_add]
  exact h.2.2 _ (hs k v h1)
theorem js_lv_at {G : js_G} {ls : Array Slot} {n i : Nat} {lv : List (Option Value)} {v : Value} (h : lv_has ls n (js_lv G 0 lv)) (hv : lv[i]? = some (some v)) : ls[i]? = some (.val (js_tv G v)) := by
  have h1 := h.2.2 _ (js_lv_in lv 0 i v hv)
  rw [Nat.zero_add] at h1
  exact h1
/-- no long stands just below the place -/
def js_ok (lv : List (Option Value)) : Nat → Bool
  | 0 => true
  | i + 1 => match lv[i]? with
    | some (some v) => v.category == 1
    | _ => true
theorem js_lv_set1 {G : js_G} {i : Nat} {x : Value} {lv lv' : List (Option Value)} (ho : js_ok lv i = true) (hl : lv.set i (some x) = lv') (k : Nat) (v : Value) (h : lv'[k]? = some (some v)) : (k, js_tv G v) ∈ (i, js_tv G x) :: (js_lv G 0 lv).filter (fun q => !(q.1 == i) && !(q.1 + 1 == i && q.2.category == 2)) := by
  subst hl
  rw [List.getElem?_set] at h
  by_cases hk : i = k
  · subst hk
    by_cases hlt : i < lv.length
    · simp only [if_true, hlt] at h
      have := Option.some.inj (Option.some.inj h)
      subst this
      exact List.mem_cons_self
    · simp only [if_true, hlt, if_false] at h
      cases h
  · rw [if_neg hk] at h
    refine List.mem_cons_of_mem _ (List.mem_filter.mpr ⟨by have := js_lv_in (G := G) lv 0 k v h; rwa [Nat.zero_add] at this, ?_⟩)
    by_cases hk2 : k + 1 = i
    · subst hk2
      have h3 : (v.category == 1) = true := by
        have h4 := ho
        simp only [js_ok, h] at h4
        exact h4
      have h5 : v.category = 1 := by simpa using h3
      simp [js_tv_cat, h5]
    · have h6 : ¬ k = i := fun q => hk q.symm
      simp [h6, hk2]
theorem js_lv_set2 {G : js_G} {i : Nat} {x : Value} {lv lv' : List (Option Value)} (ho : js_ok lv i = true) (hl : (lv.set i (some x)).set (i + 1) none = lv') (k : Nat) (v : Value) (h : lv'[k]? = some (some v)) : (k, js_tv G v) ∈ (i, js_tv G x) :: (js_lv G 0 lv).filter (fun q => !(q.1 == i) && (!(q.1 == i + 1) && !(q.1 + 1 == i && q.2.category == 2))) := by
  subst hl
  rw [List.getElem?_set] at h
  by_cases hk1 : i + 1 = k
  · subst hk1
    simp only [if_true] at h
    split at h <;> simp at h
  · rw [if_neg hk1] at h
    have h1 := js_lv_set1 (G := G) ho rfl k v h
    rcases List.mem_cons.mp h1 with h2 | h2
    · rw [h2]; exact List.mem_cons_self
    · obtain ⟨h3, h4⟩ := List.mem_filter.mp h2
      refine List.mem_cons_of_mem _ (List.mem_filter.mpr ⟨h3, ?_⟩)
      simp only [Bool.and_eq_true] at h4 ⊢
      have h6 : ¬ k = i + 1 := fun q => hk1 q.symm
      exact ⟨h4.1, by simp [h6], h4.2⟩
/-- the locals at the entry, by place -/
def js_args : List Value → List (Option Value)
  | [] => []
  | v :: vs => if v.category = 2 then some v :: none :: js_args vs else some v :: js_args vs
theorem js_args_in {G : js_G} : ∀ (as : List Value) (i k n : Nat) (v : Value), (js_args as ++ List.replicate n none)[k]? = some (some v) → (i + k, js_tv G v) ∈ lv_args i (as.map (js_tv G))
  | [], i, k, n, v, h => by
    simp only [js_args, List.nil_append] at h
    have := List.eq_of_mem_replicate (List.mem_of_getElem? h)
    cases this
  | w :: vs, i, k, n, v, h => by
    simp only [List.map_cons, lv_args, js_tv_cat]
    by_cases hc : w.category = 2
    · simp only [js_args, hc, if_true] at h ⊢
      match k, h with
      | 0, h =>
        have h2 : w = v := by simpa using h
        subst h2
        exact List.mem_cons_self
      | 1, h => simp at h
      | k + 2, h =>
        have h2 := js_args_in (G := G) vs (i + 2) k n v (by simpa using h)
        rw [show i + (k + 2) = i + 2 + k by omega]
        exact List.mem_cons_of_mem _ h2
    · simp only [js_args, hc, if_false] at h ⊢
      match k, h with
      | 0, h =>
        have h2 : w = v := by simpa using h
        subst h2
        exact List.mem_cons_self
      | k + 1, h =>
        have h2 := js_args_in (G := G) vs (i + 1) k n v (by simpa using h)
        rw [show i + (k + 1) = i + 1 + k by omega]
        exact List.mem_cons_of_mem _ h2
/-! the world of a state -/
def js_fv (G : js_G) (σ : js_S) (k : Nat) : Nat → List (Option Nat) → List Value
  | _, [] => []
  | i, none :: r => .int (σ.1 k i) :: js_fv G σ k (i + 1) r
  | i, some j :: r => .ref (js_ad G j) :: js_fv G σ k (i + 1) r
def js_cell (G : js_G) (σ : js_S) (k : Nat) (x : js_Shp) : va_E := match x with
  | .inl n => .inl (js_cI G, n, .inl (σ.1 k))
  | .inr (.inl n) => .inl (js_cL G, n, .inr (.inl (σ.2 k)))
  | .inr (.inr o) => .inr (o.1, js_fv G σ k 0 o.2)
def js_wF (G : js_G) (σ : js_S) : Nat → List js_Shp → va_W
  | _, [] => []
  | k, x :: r => (js_ad G k, js_cell G σ k x) :: js_wF G σ (k + 1) r
def js_wl (G : js_G) (sh : List js_Shp) (σ : js_S) : va_W := js_wF G σ 0 sh
theorem js_wF_at {G : js_G} {σ : js_S} : ∀ (sh : List js_Shp) (i k : Nat), (js_wF G σ i sh)[k]? = sh[k]?.map (fun x => (js_ad G (i + k), js_cell G σ (i + k) x))
  | [], i, k => by simp [js_wF]
  | x :: r, i, 0 => by simp [js_wF]
  | x :: r, i, k + 1 => by
    simp only [js_wF, List.getElem?_cons_succ]
    rw [js_wF_at r (i + 1) k, show i + 1 + k = i + (k + 1) by omega]
theorem js_wl_at {G : js_G} {sh : List js_Shp} (σ : js_S) {k : Nat} {x : js_Shp} (h : sh[k]? = some x) : (js_wl G sh σ)[k]? = some (js_ad G k, js_cell G σ k x) := by
  unfold js_wl
  rw [js_wF_at, h, Nat.zero_add]
  rfl
theorem js_fv_at {G : js_G} {σ : js_S} {k : Nat} : ∀ (fs : List (Option Nat)) (i j : Nat), (js_fv G σ k i fs)[j]? = fs[j]?.map (fun x => match x with | none => .int (σ.1 k (i + j)) | some q => .ref (js_ad G q))
  | [], i, j => by simp [js_fv]
  | none :: r, i, 0 => by simp [js_fv]
  | some q :: r, i, 0 => by simp [js_fv]
  | none :: r, i, j + 1 => by
    simp only [js_fv, List.getElem?_cons_succ]
    rw [js_fv_at r (i + 1) j, show i + 1 + j = i + (j + 1) by omega]
  | some q :: r, i, j + 1 => by
    simp only [js_fv, List.getElem?_cons_succ]
    rw [js_fv_at r (i + 1) j, show i + 1 + j = i + (j + 1) by omega]
theorem js_fv_len {G : js_G} {σ : js_S} {k : Nat} : ∀ (fs : List (Option Nat)) (i : Nat), (js_fv G σ k i fs).length = fs.length
  | [], i => rfl
  | none :: r, i => by simp [js_fv, js_fv_len r]
  | some q :: r, i => by simp [js_fv, js_fv_len r]
def js_sI (σ : js_S) (k i : Nat) (v : Int32) : js_S := (fun a => if a = k then upd (σ.1 k) i v else σ.1 a, σ.2)
def js_sL (σ : js_S) (k i : Nat) (v : Int64) : js_S := (σ.1, fun a => if a = k then vp_updL (σ.2 k) i v else σ.2 a)
theorem js_cell_of {G : js_G} {σ τ : js_S} {k : Nat} (h1 : τ.1 k = σ.1 k) (h2 : τ.2 k = σ.2 k) (x : js_Shp) : js_cell G τ k x = js_cell G σ k x := by
  match x with
  | .inl n => simp only [js_cell, h1]
  | .inr (.inl n) => simp only [js_cell, h2]
  | .inr (.inr o) =>
    simp only [js_cell]
    congr 2
    apply List.ext_getElem?
    intro j
    rw [js_fv_at, js_fv_at, h1]
theorem js_wl_set {G : js_G} {sh : List js_Shp} {σ τ : js_S} {k : Nat} {x : js_Shp} {E : va_E} (hx : sh[k]? = some x) (h : ∀ a, a ≠ k → τ.1 a = σ.1 a ∧ τ.2 a = σ.2 a) (hE : js_cell G τ k x = E) : (js_wl G sh σ).set k (js_ad G k, E) = js_wl G sh τ := by
  apply List.ext_getElem?
  intro j
  unfold js_wl
  rw [List.getElem?_set, js_wF_at, js_wF_at, Nat.zero_add]
  by_cases hj : k = j
  · subst hj
    have hlt : k < (js_wF G σ 0 sh).length := by
      have := js_wl_at (G := G) σ hx
      exact (List.getElem?_eq_some_iff.mp this).1
    rw [if_pos rfl, if_pos hlt, hx, ← hE]
    rfl
  · rw [if_neg hj]
    cases hs : sh[j]? with
    | none => rfl
    | some y =>
      obtain ⟨e1, e2⟩ := h j (fun q => hj q.symm)
      simp only [Option.map_some, js_cell_of e1 e2]
def js_A (G : js_G) (sh : List js_Shp) : Nat → Prop := fun q => ∃ k, k < sh.length ∧ q = js_ad G k
def js_inj (G : js_G) (sh : List js_Shp) : Prop := ∀ i j, i < sh.length → j < sh.length → js_ad G i = js_ad G j → i = j
theorem js_wl_D {G : js_G} {sh : List js_Shp} (h : js_inj G sh) (σ : js_S) : va_D (js_A G sh) (js_wl G sh σ) := by
  have key : ∀ (k : Nat) (q : Nat × va_E), (js_wl G sh σ)[k]? = some q → k < sh.length ∧ q.1 = js_ad G k := by
    intro k q hk
    unfold js_wl at hk
    rw [js_wF_at] at hk
    cases hs : sh[k]? with
    | none => rw [hs] at hk; cases hk
    | some x =>
      rw [hs, Option.map_some] at hk
      have := Option.some.inj hk
      subst this
      exact ⟨(List.getElem?_eq_some_iff.mp hs).1, by simp⟩
  refine ⟨fun i j p q hi hj e => ?_, fun k q hk => ?_⟩
  · obtain ⟨a1, a2⟩ := key i p hi
    obtain ⟨b1, b2⟩ := key j q hj
    exact h i j a1 b1 (by rw [← a2, ← b2]; exact e)
  · obtain ⟨a1, a2⟩ := key k q hk
    exact ⟨k, a1, a2⟩
end
section
/-! what stays of the start: tables, statics, String constants -/
def js_nest : List Cond := [.methodLinkNest RX3 44 yX7_isBend RX7, .methodLinkNest RX3 102 yX7_hasBit RX7, .methodLinkNest RX6 28 yX7_hasBit RX7, .methodLinkNest RX6 49 yX7_isBend RX7]
/-- String constants: class, entry, text, number -/
def js_strs : List (String × Nat × String × Nat) := [(RX5, 64, "say", 0), (RX5, 96, "voice", 1), (RX5, 73, "layer", 2), (RX5, 97, "cake", 3), (RX5, 78, "damp", 4), (RX1, 24, "crooked", 5), (RX1, 26, "wide", 6), (RX1, 28, "shut", 7), (RX1, 30, "queens", 8), (RX1, 32, "jackdaw", 9), (RX1, 34, "flue", 10)]
def js_len : List Nat := [3, 5, 5, 4, 4, 7, 4, 4, 6, 7, 4]
def js_byt : List (List Int32) := [[115, 97, 121], [118, 111, 105, 99, 101], [108, 97, 121, 101, 114], [99, 97, 107, 101], [100, 97, 109, 112], [99, 114, 111, 111, 107, 101, 100], [119, 105, 100, 101], [115, 104, 117, 116], [113, 117, 101, 101, 110, 115], [106, 97, 99, 107, 100, 97, 119], [102, 108, 117, 101]]
def js_abv : List Int32 := [-1, 0, 0, 0, 1, 2]
def js_Stat (G : js_G) (A : Nat → Prop) (U : State) (H : Heap) : Prop :=
  va_Z "SootTalk$Kinds" "ABOVE" "[I" (.ref (js_ad G 2000)) A U H ∧ va_T .int (js_ad G 2000) 6 (fun j => .int (js_abv.getD j 0)) A U H ∧
  vk_S 11 js_len js_byt (fun i => js_ad G (1000 + i)) (fun i => js_ad G (1100 + i)) A U H ∧ (∀ q ∈ js_strs, vk_R q.1 q.2.1 q.2.2.1 (js_ad G (1000 + q.2.2.2)) U) ∧
  va_Z "java/lang/String" "COMPACT_STRINGS" "Z" (.int 1) A U H ∧ (va_Z "jdk/internal/util/Preconditions" "SIOOBE_FORMATTER" "Ljava/util/function/BiFunction;" .null A U H ∨ va_Z "jdk/internal/util/Preconditions" "SIOOBE_FORMATTER" "Ljava/util/function/BiFunction;" (.ref (js_ad G 2001)) A U H)
def js_Env (G : js_G) (sh : List js_Shp) (U : State) : Prop :=
  va_K (js_D G) vwCl [(js_cI G, .int), (js_cL G, .long)] U ∧ (∀ w ∈ js_nest, va_Nw w U) ∧ js_inj G sh ∧ js_Stat G (js_A G sh) U U.heap
theorem js_nest_warm {s U : State} (hW : s.WarmedH U.vm) (h : ∀ w ∈ js_nest, va_Nw w s) : ∀ w ∈ js_nest, va_Nw w U := by
  intro w hw
  have h1 := h w hw
  simp only [js_nest, List.mem_cons, List.not_mem_nil, or_false] at hw
  rcases hw with rfl | rfl | rfl | rfl <;> exact va_Nw.warmM hW h1
theorem js_Stat.moved {G : js_G} {A : Nat → Prop} {s U : State} {H H1 : Heap} (hW : s.WarmedH U.vm) (hq : ∀ a : Nat, a < H.size → ¬ A a → H1[a]? = H[a]?) (h : js_Stat G A s H) : js_Stat G A U H1 := by
  obtain ⟨h1, h2, h3, h4, h5, h6⟩ := h
  have ha := hW.alike
  exact ⟨(va_Z.moved ha h1).kept hq, (va_T.moved ha h2).kept hq, (vk_S.moved ha h3).kept hq, fun q hq => (h4 q hq).warm hW, (va_Z.moved ha h5).kept hq, h6.imp (fun h => (va_Z.moved ha h).kept hq) (fun h => (va_Z.moved ha h).kept hq)⟩
theorem js_Env.call {G : js_G} {sh : List js_Shp} {s U : State} {H : Heap} {locs : List Loc} (h : js_Env G sh s) (hS : va_S (js_A G sh) s.heap H locs) (hU : U.heap = H) (hW : s.WarmedH U.vm) : js_Env G sh U := by
  obtain ⟨h1, h2, h3, h4⟩ := h
  refine ⟨va_K.moved hW.alike h1, js_nest_warm hW h2, h3, ?_⟩
  rw [hU]
  exact h4.moved hW hS.2.1
theorem js_Env.same {G : js_G} {sh : List js_Shp} {u U : State} (hv : U.vm = u.vm) (hh : U.heap = u.heap) (h : js_Env G sh u) : js_Env G sh U := by
  obtain ⟨h1, h2, h3, h4, h5, h6, h7, h8, h9⟩ := h
  have ha : u.vm.Alike U.vm := by rw [hv]; exact Vm.Alike.refl _
  refine ⟨va_K.moved ha h1, fun w hw => ?_, h3, ?_⟩
  · have h1 := h2 w hw
    simp only [js_nest, List.mem_cons, List.not_mem_nil, or_false] at hw
    rcases hw with rfl | rfl | rfl | rfl <;> exact va_Nw.same rfl hv.symm h1
  · rw [hh]
    exact ⟨va_Z.moved ha h4, va_T.moved ha h5, vk_S.moved ha h6, fun q hq => (h7 q hq).same hv, va_Z.moved ha h8, h9.imp (va_Z.moved ha) (va_Z.moved ha)⟩
/-- a method's frame in the machine -/
def js_Cx (G : js_G) (sh : List js_Shp) (mi : js_M) (p : Program) (s : State) (m : MethodId) (args : Array Value) (meth : Method) (c : Code) : Prop :=
  p.tables.exec = Jvm.exec ∧ c.code = js_c mi ∧ c.maxLocals = js_n mi ∧ s.vm.findClass (js_y mi).cls = some m.cls ∧ (∀ w ∈ js_good, w.before args s = true) ∧ meth.sig.returnType = js_r mi ∧ meth.locks = false ∧ js_Env G sh s
/-- how a method ends: its answer, the state behind it -/
def js_Q (G : js_G) (sh : List js_Shp) (ρ : Option Value × js_S) : Array Value → State → Outcome → State → Prop := fun _ st oc t =>
  (oc = .returned (ρ.1.map (js_tv G)) ∧ va_P (js_D G) vwCl (js_wl G sh ρ.2) t.heap) ∧ va_F (js_A G sh) st t
/-- from the frame on, the bytecode does what o says -/
def js_J (G : js_G) (sh : List js_Shp) (mi : js_M) {α : Type} (emb : α → Option Value × js_S) (pc : Nat) (lv : List (Option Value)) (st : List Value) (σ : js_S) (o : Option α) : Prop :=
  ∀ r, o = some r → ∀ (p : Program) (e : Env) (s : State) (m : MethodId) (args : Array Value) (below : List Frame) (meth : Method) (c : Code) (H : Heap) (locs : List Loc) (ls : Array Slot),
    js_Cx G sh mi p s m args meth c → lv_has ls (js_n mi) (js_lv G 0 lv) → va_P (js_D G) vwCl (js_wl G sh σ) H → va_S (js_A G sh) s.heap H locs →
    W p G.1 e (js_rm mi) s m args below meth c H locs 0 0 (MQ below (js_Q G sh (emb r)) args s 0 0 (js_A G sh)) (F0 m pc ls (st.map (js_tv G)))
def js_Con (G : js_G) (sh : List js_Shp) (mi : js_M) (as : List Value) (σ : js_S) (ρ : Option Value × js_S) : Prop :=
  Met G.1 (js_y mi) (js_ws mi) (js_rm mi) (va_Pc (as.map (js_tv G)) (fun U => va_P (js_D G) vwCl (js_wl G sh σ) U.heap ∧ js_Env G sh U)) (js_Q G sh ρ) 0 0 (js_A G sh)
theorem js_con {G : js_G} {sh : List js_Shp} {mi : js_M} {α : Type} {emb : α → Option Value × js_S} {lv : List (Option Value)} {as : List Value} {σ : js_S} {o : Option α} (n : Nat) (hy : plainName (js_y mi).cls = true) (hlv : js_args as ++ List.replicate n none = lv) (hlen : (lg_sl (as.map (js_tv G))).length ≤ js_n mi)
    (J : js_J G sh mi emb 0 lv [] σ o) (r : α) (ho : o = some r) : js_Con G sh mi as σ (emb r) := by
  refine Met.ofW (cc := js_c mi) (maxL := js_n mi) (ret := js_r mi) hy rfl ?_
  intro p e s m args below meth c s₁ B hml hv
  obtain ⟨rfl, hP, hE⟩ := hv
  have hts := atoms_spec (ws := js_ws mi) B.pre
  have hown : s.vm.findClass (js_y mi).cls = some m.cls := findClass_of_methodNamed B.named
  have hl := lv_entry (as.map (js_tv G)) (n := js_n mi) hlen
  rw [lg_entry_eq]
  generalize (lg_sl (as.map (js_tv G)) ++ List.replicate (js_n mi - (lg_sl (as.map (js_tv G))).length) Slot.unset).toArray = ls at hl ⊢
  refine J r ho p e s m _ below meth c s.heap [] ls ⟨B.exec, B.bytes, hml, hown, fun w hw => hts w (List.mem_cons_of_mem _ hw), B.returns, B.notSynchronized, hE⟩ (js_lv_sub hl fun k v h => ?_) hP va_S.rf
  rw [← hlv] at h
  have h2 := js_args_in (G := G) as 0 k n v h
  rwa [Nat.zero_add] at h2
section JR
variable {G : js_G} {sh : List js_Shp} {mi : js_M} {α : Type} {emb : α → Option Value × js_S} {pc : Nat} {lv : List (Option Value)} {st : List Value} {σ : js_S} {o : Option α}
theorem js_none : js_J G sh mi emb pc lv st σ none := fun r h => by cases h
theorem js_iconst {n : Int} {v : Int32} (hd : decode (js_c mi) pc = .ok (.iconst n, 1)) (hv : Int32.ofInt n = v) (k : js_J G sh mi emb (pc + 1) lv (.int v :: st) σ o) : js_J G sh mi emb pc lv st σ o :=
  fun r hr p e s m args below meth c H locs ls C hl hP hS => lv_iconst C.1 C.2.1 hd hv (k r hr p e s m args below meth c H locs ls C hl hP hS)
theorem js_bipush {n : Int} {v : Int32} (hd : decode (js_c mi) pc = .ok (.bipush n, 2)) (hv : (Int8.ofInt n).toInt32 = v) (k : js_J G sh mi emb (pc + 2) lv (.int v :: st) σ o) : js_J G sh mi emb pc lv st σ o :=
  fun r hr p e s m args below meth c H locs ls C hl hP hS => lv_bipush C.1 C.2.1 hd hv (k r hr p e s m args below meth c H locs ls C hl hP hS)
theorem js_sipush {n : Int} {v : Int32} (hd : decode (js_c mi) pc = .ok (.sipush n, 3)) (hv : (Int16.ofInt n).toInt32 = v) (k : js_J G sh mi emb (pc + 3) lv (.int v :: st) σ o) : js_J G sh mi emb pc lv st σ o :=
  fun r hr p e s m args below meth c H locs ls C hl hP hS => lv_sipush C.1 C.2.1 hd hv (k r hr p e s m args below meth c H locs ls C hl hP hS)
theorem js_lconst {n : Fin 2} {v : Int64} (hd : decode (js_c mi) pc = .ok (.lconst n, 1)) (hv : Int64.ofNat (n : Nat) = v) (k : js_J G sh mi emb (pc + 1) lv (.long v :: st) σ o) : js_J G sh mi emb pc lv st σ o :=
  fun r hr p e s m args below meth c H locs ls C hl hP hS => lv_lconst C.1 C.2.1 hd hv (k r hr p e s m args below meth c H locs ls C hl hP hS)
theorem js_ldc {i : Nat} {v : Int32} (hd : decode (js_c mi) pc = .ok (.ldc i, 2)) (hw : Cond.constant (js_y mi).cls i v ∈ js_good) (k : js_J G sh mi emb (pc + 2) lv (.int v :: st) σ o) : js_J G sh mi emb pc lv st σ o :=
  fun r hr p e s m args below meth c H locs ls C hl hP hS => lv_ldc C.1 C.2.1 C.2.2.2.1 (C.2.2.2.2.1 _ hw) hd (k r hr p e s m args below meth c H locs ls C hl hP hS)
theorem js_ldcw {i : Nat} {v : Int32} (hd : decode (js_c mi) pc = .ok (.ldc_w i, 3)) (hw : Cond.constant (js_y mi).cls i v ∈ js_good) (k : js_J G sh mi emb (pc + 3) lv (.int v :: st) σ o) : js_J G sh mi emb pc lv st σ o :=
  fun r hr p e s m args below meth c H locs ls C hl hP hS => lv_ldcw C.1 C.2.1 C.2.2.2.1 (C.2.2.2.2.1 _ hw) hd (k r hr p e s m args below meth c H locs ls C hl hP hS)
theorem js_ldc2 {i : Nat} {v : Int64} (hd : decode (js_c mi) pc = .ok (.ldc2_w i, 3)) (hw : Cond.constantLong (js_y mi).cls i v ∈ js_good) (k : js_J G sh mi emb (pc + 3) lv (.long v :: st) σ o) : js_J G sh mi emb pc lv st σ o :=
  fun r hr p e s m args below meth c H locs ls C hl hP hS => lv_ldc2 C.1 C.2.1 C.2.2.2.1 (C.2.2.2.2.1 _ hw) hd (k r hr p e s m args below meth c H locs ls C hl hP hS)
theorem js_iload_n {q : Fin 4} {i : Nat} {x : Int32} (hd : decode (js_c mi) pc = .ok (.iload_n q, 1)) (hi : (q : Nat) = i) (hl0 : lv[i]? = some (some (.int x))) (k : js_J G sh mi emb (pc + 1) lv (.int x :: st) σ o) : js_J G sh mi emb pc lv st σ o :=
  fun r hr p e s m args below meth c H locs ls C hl hP hS => lv_iload_n C.1 C.2.1 hd hi (js_lv_at hl hl0) (k r hr p e s m args below meth c H locs ls C hl hP hS)
theorem js_iload {i : Nat} {x : Int32} (hd : decode (js_c mi) pc = .ok (.iload i, 2)) (hl0 : lv[i]? = some (some (.int x))) (k : js_J G sh mi emb (pc + 2) lv (.int x :: st) σ o) : js_J G sh mi emb pc lv st σ o :=
  fun r hr p e s m args below meth c H locs ls C hl hP hS => lv_iload C.1 C.2.1 hd (js_lv_at hl hl0) (k r hr p e s m args below meth c H locs ls C hl hP hS)
theorem js_lload_n {q : Fin 4} {i : Nat} {x : Int64} (hd : decode (js_c mi) pc = .ok (.lload_n q, 1)) (hi : (q : Nat) = i) (hl0 : lv[i]? = some (some (.long x))) (k : js_J G sh mi emb (pc + 1) lv (.long x :: st) σ o) : js_J G sh mi emb pc lv st σ o :=
  fun r hr p e s m args below meth c H locs ls C hl hP hS => lv_lload_n C.1 C.2.1 hd hi (js_lv_at hl hl0) (k r hr p e s m args below meth c H locs ls C hl hP hS)
theorem js_lload {i : Nat} {x : Int64} (hd : decode (js_c mi) pc = .ok (.lload i, 2)) (hl0 : lv[i]? = some (some (.long x))) (k : js_J G sh mi emb (pc + 2) lv (.long x :: st) σ o) : js_J G sh mi emb pc lv st σ o :=
  fun r hr p e s m args below meth c H locs ls C hl hP hS => lv_lload C.1 C.2.1 hd (js_lv_at hl hl0) (k r hr p e s m args below meth c H locs ls C hl hP hS)
theorem js_aload_n {q : Fin 4} {i : Nat} {x : Nat} (hd : decode (js_c mi) pc = .ok (.aload_n q, 1)) (hi : (q : Nat) = i) (hl0 : lv[i]? = some (some (.ref x))) (k : js_J G sh mi emb (pc + 1) lv (.ref x :: st) σ o) : js_J G sh mi emb pc lv st σ o :=
  fun r hr p e s m args below meth c H locs ls C hl hP hS => lv_aload_n C.1 C.2.1 hd hi (js_lv_at hl hl0) (k r hr p e s m args below meth c H locs ls C hl hP hS)
theorem js_istore_n {q : Fin 4} {i : Nat} {x : Int32} {lv' : List (Option Value)} (hd : decode (js_c mi) pc = .ok (.istore_n q, 1)) (hi : (q : Nat) = i) (hn : Nat.ble (i + 1) (js_n mi) = true) (ho : js_ok lv i = true) (hl' : lv.set i (some (.int x)) = lv') (k : js_J G sh mi emb (pc + 1) lv' st σ o) : js_J G sh mi emb pc lv (.int x :: st) σ o :=
  fun r hr p e s m args below meth c H locs ls C hl hP hS => lv_istore_n C.1 C.2.1 hd hi hl (Nat.le_of_ble_eq_true hn) rfl fun ls' hl2 => k r hr p e s m args below meth c H locs ls' C (js_lv_sub hl2 (js_lv_set1 (x := .int x) ho hl')) hP hS
theorem js_istore {i : Nat} {x : Int32} {lv' : List (Option Value)} (hd : decode (js_c mi) pc = .ok (.istore i, 2)) (hn : Nat.ble (i + 1) (js_n mi) = true) (ho : js_ok lv i = true) (hl' : lv.set i (some (.int x)) = lv') (k : js_J G sh mi emb (pc + 2) lv' st σ o) : js_J G sh mi emb pc lv (.int x :: st) σ o :=
  fun r hr p e s m args below meth c H locs ls C hl hP hS => lv_istore C.1 C.2.1 hd hl (Nat.le_of_ble_eq_true hn) rfl fun ls' hl2 => k r hr p e s m args below meth c H locs ls' C (js_lv_sub hl2 (js_lv_set1 (x := .int x) ho hl')) hP hS
theorem js_lstore_n {q : Fin 4} {i : Nat} {x : Int64} {lv' : List (Option Value)} (hd : decode (js_c mi) pc = .ok (.lstore_n q, 1)) (hi : (q : Nat) = i) (hn : Nat.ble (i + 2) (js_n mi) = true) (ho : js_ok lv i = true) (hl' : (lv.set i (some (.long x))).set (i + 1) none = lv') (k : js_J G sh mi emb (pc + 1) lv' st σ o) : js_J G sh mi emb pc lv (.long x :: st) σ o :=
  fun r hr p e s m args below meth c H locs ls C hl hP hS => lv_lstore_n C.1 C.2.1 hd hi hl (Nat.le_of_ble_eq_true hn) rfl fun ls' hl2 => k r hr p e s m args below meth c H locs ls' C (js_lv_sub hl2 (js_lv_set2 (x := .long x) ho hl')) hP hS
theorem js_lstore {i : Nat} {x : Int64} {lv' : List (Option Value)} (hd : decode (js_c mi) pc = .ok (.lstore i, 2)) (hn : Nat.ble (i + 2) (js_n mi) = true) (ho : js_ok lv i = true) (hl' : (lv.set i (some (.long x))).set (i + 1) none = lv') (k : js_J G sh mi emb (pc + 2) lv' st σ o) : js_J G sh mi emb pc lv (.long x :: st) σ o :=
  fun r hr p e s m args below meth c H locs ls C hl hP hS => lv_lstore C.1 C.2.1 hd hl (Nat.le_of_ble_eq_true hn) rfl fun ls' hl2 => k r hr p e s m args below meth c H locs ls' C (js_lv_sub hl2 (js_lv_set2 (x := .long x) ho hl')) hP hS
theorem js_iinc {i : Nat} {n : Int} {x v : Int32} {lv' : List (Option Value)} (hd : decode (js_c mi) pc = .ok (.iinc i n, 3)) (hl0 : lv[i]? = some (some (.int x))) (hv : x + Int32.ofInt n = v) (hn : Nat.ble (i + 1) (js_n mi) = true) (ho : js_ok lv i = true) (hl' : lv.set i (some (.int v)) = lv') (k : js_J G sh mi emb (pc + 3) lv' st σ o) : js_J G sh mi emb pc lv st σ o :=
  fun r hr p e s m args below meth c H locs ls C hl hP hS => by
    obtain ⟨q, hq⟩ := List.getElem?_of_mem (js_lv_in (G := G) lv 0 i _ hl0)
    rw [Nat.zero_add] at hq
    exact lv_iinc C.1 C.2.1 hd hl hq hv (Nat.le_of_ble_eq_true hn) rfl fun ls' hl2 => k r hr p e s m args below meth c H locs ls' C (js_lv_sub hl2 (js_lv_set1 (x := .int v) ho hl')) hP hS
end JR
end
section
section JA
variable {G : js_G} {sh : List js_Shp} {mi : js_M} {α : Type} {emb : α → Option Value × js_S} {pc : Nat} {lv : List (Option Value)} {st : List Value} {σ : js_S} {o o1 o2 : Option α}
theorem js_iadd {x y : Int32} (hd : decode (js_c mi) pc = .ok (.iadd, 1)) (k : js_J G sh mi emb (pc + 1) lv (.int (x + y) :: st) σ o) : js_J G sh mi emb pc lv (.int y :: .int x :: st) σ o :=
  fun r hr p e s m args below meth c H locs ls C hl hP hS => lv_iadd C.1 C.2.1 hd (k r hr p e s m args below meth c H locs ls C hl hP hS)
theorem js_isub {x y : Int32} (hd : decode (js_c mi) pc = .ok (.isub, 1)) (k : js_J G sh mi emb (pc + 1) lv (.int (x - y) :: st) σ o) : js_J G sh mi emb pc lv (.int y :: .int x :: st) σ o :=
  fun r hr p e s m args below meth c H locs ls C hl hP hS => lv_isub C.1 C.2.1 hd (k r hr p e s m args below meth c H locs ls C hl hP hS)
theorem js_imul {x y : Int32} (hd : decode (js_c mi) pc = .ok (.imul, 1)) (k : js_J G sh mi emb (pc + 1) lv (.int (x * y) :: st) σ o) : js_J G sh mi emb pc lv (.int y :: .int x :: st) σ o :=
  fun r hr p e s m args below meth c H locs ls C hl hP hS => lv_imul C.1 C.2.1 hd (k r hr p e s m args below meth c H locs ls C hl hP hS)
theorem js_iand {x y : Int32} (hd : decode (js_c mi) pc = .ok (.iand, 1)) (k : js_J G sh mi emb (pc + 1) lv (.int (x &&& y) :: st) σ o) : js_J G sh mi emb pc lv (.int y :: .int x :: st) σ o :=
  fun r hr p e s m args below meth c H locs ls C hl hP hS => lv_iand C.1 C.2.1 hd (k r hr p e s m args below meth c H locs ls C hl hP hS)
theorem js_ior {x y : Int32} (hd : decode (js_c mi) pc = .ok (.ior, 1)) (k : js_J G sh mi emb (pc + 1) lv (.int (x ||| y) :: st) σ o) : js_J G sh mi emb pc lv (.int y :: .int x :: st) σ o :=
  fun r hr p e s m args below meth c H locs ls C hl hP hS => lv_ior C.1 C.2.1 hd (k r hr p e s m args below meth c H locs ls C hl hP hS)
theorem js_ixor {x y : Int32} (hd : decode (js_c mi) pc = .ok (.ixor, 1)) (k : js_J G sh mi emb (pc + 1) lv (.int (x ^^^ y) :: st) σ o) : js_J G sh mi emb pc lv (.int y :: .int x :: st) σ o :=
  fun r hr p e s m args below meth c H locs ls C hl hP hS => lv_ixor C.1 C.2.1 hd (k r hr p e s m args below meth c H locs ls C hl hP hS)
theorem js_idiv {x y : Int32} (hd : decode (js_c mi) pc = .ok (.idiv, 1)) (hne : ¬ y = 0) (k : js_J G sh mi emb (pc + 1) lv (.int (x / y) :: st) σ o) : js_J G sh mi emb pc lv (.int y :: .int x :: st) σ o :=
  fun r hr p e s m args below meth c H locs ls C hl hP hS => lv_idiv C.1 C.2.1 hd hne (k r hr p e s m args below meth c H locs ls C hl hP hS)
theorem js_irem {x y : Int32} (hd : decode (js_c mi) pc = .ok (.irem, 1)) (hne : ¬ y = 0) (k : js_J G sh mi emb (pc + 1) lv (.int (x - x / y * y) :: st) σ o) : js_J G sh mi emb pc lv (.int y :: .int x :: st) σ o :=
  fun r hr p e s m args below meth c H locs ls C hl hP hS => lv_irem C.1 C.2.1 hd hne (k r hr p e s m args below meth c H locs ls C hl hP hS)
theorem js_ineg {x : Int32} (hd : decode (js_c mi) pc = .ok (.ineg, 1)) (k : js_J G sh mi emb (pc + 1) lv (.int (-x) :: st) σ o) : js_J G sh mi emb pc lv (.int x :: st) σ o :=
  fun r hr p e s m args below meth c H locs ls C hl hP hS => lv_ineg C.1 C.2.1 hd (k r hr p e s m args below meth c H locs ls C hl hP hS)
theorem js_ishl {x y : Int32} (hd : decode (js_c mi) pc = .ok (.ishl, 1)) (k : js_J G sh mi emb (pc + 1) lv (.int (x <<< (y &&& 31)) :: st) σ o) : js_J G sh mi emb pc lv (.int y :: .int x :: st) σ o :=
  fun r hr p e s m args below meth c H locs ls C hl hP hS => lv_ishl C.1 C.2.1 hd (k r hr p e s m args below meth c H locs ls C hl hP hS)
theorem js_ishr {x y : Int32} (hd : decode (js_c mi) pc = .ok (.ishr, 1)) (k : js_J G sh mi emb (pc + 1) lv (.int (x >>> (y &&& 31)) :: st) σ o) : js_J G sh mi emb pc lv (.int y :: .int x :: st) σ o :=
  fun r hr p e s m args below meth c H locs ls C hl hP hS => lv_ishr C.1 C.2.1 hd (k r hr p e s m args below meth c H locs ls C hl hP hS)
theorem js_iushr {x y : Int32} (hd : decode (js_c mi) pc = .ok (.iushr, 1)) (k : js_J G sh mi emb (pc + 1) lv (.int (x.toUInt32 >>> (y.toUInt32 &&& Int32.toUInt32 31)).toInt32 :: st) σ o) : js_J G sh mi emb pc lv (.int y :: .int x :: st) σ o :=
  fun r hr p e s m args below meth c H locs ls C hl hP hS => lv_iushr C.1 C.2.1 hd rfl (k r hr p e s m args below meth c H locs ls C hl hP hS)
theorem js_i2l {x : Int32} (hd : decode (js_c mi) pc = .ok (.i2l, 1)) (k : js_J G sh mi emb (pc + 1) lv (.long x.toInt64 :: st) σ o) : js_J G sh mi emb pc lv (.int x :: st) σ o :=
  fun r hr p e s m args below meth c H locs ls C hl hP hS => lv_i2l C.1 C.2.1 hd rfl (k r hr p e s m args below meth c H locs ls C hl hP hS)
theorem js_l2i {x : Int64} (hd : decode (js_c mi) pc = .ok (.l2i, 1)) (k : js_J G sh mi emb (pc + 1) lv (.int x.toInt32 :: st) σ o) : js_J G sh mi emb pc lv (.long x :: st) σ o :=
  fun r hr p e s m args below meth c H locs ls C hl hP hS => lv_l2i C.1 C.2.1 hd rfl (k r hr p e s m args below meth c H locs ls C hl hP hS)
theorem js_i2b {x : Int32} (hd : decode (js_c mi) pc = .ok (.i2b, 1)) (k : js_J G sh mi emb (pc + 1) lv (.int x.toInt8.toInt32 :: st) σ o) : js_J G sh mi emb pc lv (.int x :: st) σ o :=
  fun r hr p e s m args below meth c H locs ls C hl hP hS => lv_i2b C.1 C.2.1 hd rfl (k r hr p e s m args below meth c H locs ls C hl hP hS)
theorem js_i2s {x : Int32} (hd : decode (js_c mi) pc = .ok (.i2s, 1)) (k : js_J G sh mi emb (pc + 1) lv (.int x.toInt16.toInt32 :: st) σ o) : js_J G sh mi emb pc lv (.int x :: st) σ o :=
  fun r hr p e s m args below meth c H locs ls C hl hP hS => lv_i2s C.1 C.2.1 hd rfl (k r hr p e s m args below meth c H locs ls C hl hP hS)
theorem js_i2c {x : Int32} (hd : decode (js_c mi) pc = .ok (.i2c, 1)) (k : js_J G sh mi emb (pc + 1) lv (.int (x.toUInt32 % 65536).toInt32 :: st) σ o) : js_J G sh mi emb pc lv (.int x :: st) σ o :=
  fun r hr p e s m args below meth c H locs ls C hl hP hS => lv_i2c C.1 C.2.1 hd rfl (k r hr p e s m args below meth c H locs ls C hl hP hS)
theorem js_ladd {x y : Int64} (hd : decode (js_c mi) pc = .ok (.ladd, 1)) (k : js_J G sh mi emb (pc + 1) lv (.long (x + y) :: st) σ o) : js_J G sh mi emb pc lv (.long y :: .long x :: st) σ o :=
  fun r hr p e s m args below meth c H locs ls C hl hP hS => lv_ladd C.1 C.2.1 hd (k r hr p e s m args below meth c H locs ls C hl hP hS)
theorem js_lmul {x y : Int64} (hd : decode (js_c mi) pc = .ok (.lmul, 1)) (k : js_J G sh mi emb (pc + 1) lv (.long (x * y) :: st) σ o) : js_J G sh mi emb pc lv (.long y :: .long x :: st) σ o :=
  fun r hr p e s m args below meth c H locs ls C hl hP hS => lv_lmul C.1 C.2.1 hd (k r hr p e s m args below meth c H locs ls C hl hP hS)
theorem js_land {x y : Int64} (hd : decode (js_c mi) pc = .ok (.land, 1)) (k : js_J G sh mi emb (pc + 1) lv (.long (x &&& y) :: st) σ o) : js_J G sh mi emb pc lv (.long y :: .long x :: st) σ o :=
  fun r hr p e s m args below meth c H locs ls C hl hP hS => lv_land C.1 C.2.1 hd (k r hr p e s m args below meth c H locs ls C hl hP hS)
theorem js_lor {x y : Int64} (hd : decode (js_c mi) pc = .ok (.lor, 1)) (k : js_J G sh mi emb (pc + 1) lv (.long (x ||| y) :: st) σ o) : js_J G sh mi emb pc lv (.long y :: .long x :: st) σ o :=
  fun r hr p e s m args below meth c H locs ls C hl hP hS => lv_lor C.1 C.2.1 hd (k r hr p e s m args below meth c H locs ls C hl hP hS)
theorem js_lshl {x : Int64} {y : Int32} (hd : decode (js_c mi) pc = .ok (.lshl, 1)) (k : js_J G sh mi emb (pc + 1) lv (.long (x <<< (y.toInt64 &&& 63)) :: st) σ o) : js_J G sh mi emb pc lv (.int y :: .long x :: st) σ o :=
  fun r hr p e s m args below meth c H locs ls C hl hP hS => lv_lshl C.1 C.2.1 hd rfl (k r hr p e s m args below meth c H locs ls C hl hP hS)
theorem js_dup {v : Value} (hd : decode (js_c mi) pc = .ok (.dup, 1)) (hc : v.category = 1) (k : js_J G sh mi emb (pc + 1) lv (v :: v :: st) σ o) : js_J G sh mi emb pc lv (v :: st) σ o :=
  fun r hr p e s m args below meth c H locs ls C hl hP hS => lv_dup C.1 C.2.1 hd ((js_tv_cat G v).trans hc) (k r hr p e s m args below meth c H locs ls C hl hP hS)
theorem js_pop {v : Value} (hd : decode (js_c mi) pc = .ok (.pop, 1)) (hc : v.category = 1) (k : js_J G sh mi emb (pc + 1) lv st σ o) : js_J G sh mi emb pc lv (v :: st) σ o :=
  fun r hr p e s m args below meth c H locs ls C hl hP hS => lv_pop C.1 C.2.1 hd ((js_tv_cat G v).trans hc) (k r hr p e s m args below meth c H locs ls C hl hP hS)
theorem js_dup2 {v w : Value} (hd : decode (js_c mi) pc = .ok (.dup2, 1)) (hc : v.category = 1) (hc2 : w.category = 1) (k : js_J G sh mi emb (pc + 1) lv (v :: w :: v :: w :: st) σ o) : js_J G sh mi emb pc lv (v :: w :: st) σ o :=
  fun r hr p e s m args below meth c H locs ls C hl hP hS => lv_dup2_11 C.1 C.2.1 hd ((js_tv_cat G v).trans hc) ((js_tv_cat G w).trans hc2) (k r hr p e s m args below meth c H locs ls C hl hP hS)
theorem js_icmp_eq {x y : Int32} {off : Int} (tgt : Nat) (hd : decode (js_c mi) pc = .ok (.if_icmp .eq off, 3)) (ht : (pc : Int) + off = (tgt : Int)) (kt : js_J G sh mi emb tgt lv st σ o1) (kf : js_J G sh mi emb (pc + 3) lv st σ o2) : js_J G sh mi emb pc lv (.int y :: .int x :: st) σ (if x = y then o1 else o2) :=
  fun r hr p e s m args below meth c H locs ls C hl hP hS => lv_icmp_eq C.1 C.2.1 hd ht (fun hc => kt r (by rw [if_pos hc] at hr; exact hr) p e s m args below meth c H locs ls C hl hP hS) (fun hc => kf r (by rw [if_neg hc] at hr; exact hr) p e s m args below meth c H locs ls C hl hP hS)
theorem js_icmp_ne {x y : Int32} {off : Int} (tgt : Nat) (hd : decode (js_c mi) pc = .ok (.if_icmp .ne off, 3)) (ht : (pc : Int) + off = (tgt : Int)) (kt : js_J G sh mi emb tgt lv st σ o1) (kf : js_J G sh mi emb (pc + 3) lv st σ o2) : js_J G sh mi emb pc lv (.int y :: .int x :: st) σ (if x = y then o2 else o1) :=
  fun r hr p e s m args below meth c H locs ls C hl hP hS => lv_icmp_ne C.1 C.2.1 hd ht (fun hc => kt r (by rw [if_neg hc] at hr; exact hr) p e s m args below meth c H locs ls C hl hP hS) (fun hc => kf r (by rw [if_pos hc] at hr; exact hr) p e s m args below meth c H locs ls C hl hP hS)
theorem js_icmp_lt {x y : Int32} {off : Int} (tgt : Nat) (hd : decode (js_c mi) pc = .ok (.if_icmp .lt off, 3)) (ht : (pc : Int) + off = (tgt : Int)) (kt : js_J G sh mi emb tgt lv st σ o1) (kf : js_J G sh mi emb (pc + 3) lv st σ o2) : js_J G sh mi emb pc lv (.int y :: .int x :: st) σ (if x < y then o1 else o2) :=
  fun r hr p e s m args below meth c H locs ls C hl hP hS => lv_icmp_lt C.1 C.2.1 hd ht (fun hc => kt r (by rw [if_pos hc] at hr; exact hr) p e s m args below meth c H locs ls C hl hP hS) (fun hc => kf r (by rw [if_neg hc] at hr; exact hr) p e s m args below meth c H locs ls C hl hP hS)
theorem js_icmp_ge {x y : Int32} {off : Int} (tgt : Nat) (hd : decode (js_c mi) pc = .ok (.if_icmp .ge off, 3)) (ht : (pc : Int) + off = (tgt : Int)) (kt : js_J G sh mi emb tgt lv st σ o1) (kf : js_J G sh mi emb (pc + 3) lv st σ o2) : js_J G sh mi emb pc lv (.int y :: .int x :: st) σ (if y ≤ x then o1 else o2) :=
  fun r hr p e s m args below meth c H locs ls C hl hP hS => lv_icmp_ge C.1 C.2.1 hd ht (fun hc => kt r (by rw [if_pos hc] at hr; exact hr) p e s m args below meth c H locs ls C hl hP hS) (fun hc => kf r (by rw [if_neg hc] at hr; exact hr) p e s m args below meth c H locs ls C hl hP hS)
theorem js_icmp_gt {x y : Int32} {off : Int} (tgt : Nat) (hd : decode (js_c mi) pc = .ok (.if_icmp .gt off, 3)) (ht : (pc : Int) + off = (tgt : Int)) (kt : js_J G sh mi emb tgt lv st σ o1) (kf : js_J G sh mi emb (pc + 3) lv st σ o2) : js_J G sh mi emb pc lv (.int y :: .int x :: st) σ (if y < x then o1 else o2) :=
  fun r hr p e s m args below meth c H locs ls C hl hP hS => lv_icmp_gt C.1 C.2.1 hd ht (fun hc => kt r (by rw [if_pos hc] at hr; exact hr) p e s m args below meth c H locs ls C hl hP hS) (fun hc => kf r (by rw [if_neg hc] at hr; exact hr) p e s m args below meth c H locs ls C hl hP hS)
theorem js_icmp_le {x y : Int32} {off : Int} (tgt : Nat) (hd : decode (js_c mi) pc = .ok (.if_icmp .le off, 3)) (ht : (pc : Int) + off = (tgt : Int)) (kt : js_J G sh mi emb tgt lv st σ o1) (kf : js_J G sh mi emb (pc + 3) lv st σ o2) : js_J G sh mi emb pc lv (.int y :: .int x :: st) σ (if x ≤ y then o1 else o2) :=
  fun r hr p e s m args below meth c H locs ls C hl hP hS => lv_icmp_le C.1 C.2.1 hd ht (fun hc => kt r (by rw [if_pos hc] at hr; exact hr) p e s m args below meth c H locs ls C hl hP hS) (fun hc => kf r (by rw [if_neg hc] at hr; exact hr) p e s m args below meth c H locs ls C hl hP hS)
theorem js_if_eq {x : Int32} {off : Int} (tgt : Nat) (hd : decode (js_c mi) pc = .ok (.ifCond .eq off, 3)) (ht : (pc : Int) + off = (tgt : Int)) (kt : js_J G sh mi emb tgt lv st σ o1) (kf : js_J G sh mi emb (pc + 3) lv st σ o2) : js_J G sh mi emb pc lv (.int x :: st) σ (if x = 0 then o1 else o2) :=
  fun r hr p e s m args below meth c H locs ls C hl hP hS => lv_if_eq C.1 C.2.1 hd ht (fun hc => kt r (by rw [if_pos hc] at hr; exact hr) p e s m args below meth c H locs ls C hl hP hS) (fun hc => kf r (by rw [if_neg hc] at hr; exact hr) p e s m args below meth c H locs ls C hl hP hS)
theorem js_if_ne {x : Int32} {off : Int} (tgt : Nat) (hd : decode (js_c mi) pc = .ok (.ifCond .ne off, 3)) (ht : (pc : Int) + off = (tgt : Int)) (kt : js_J G sh mi emb tgt lv st σ o1) (kf : js_J G sh mi emb (pc + 3) lv st σ o2) : js_J G sh mi emb pc lv (.int x :: st) σ (if x = 0 then o2 else o1) :=
  fun r hr p e s m args below meth c H locs ls C hl hP hS => lv_if_ne C.1 C.2.1 hd ht (fun hc => kt r (by rw [if_neg hc] at hr; exact hr) p e s m args below meth c H locs ls C hl hP hS) (fun hc => kf r (by rw [if_pos hc] at hr; exact hr) p e s m args below meth c H locs ls C hl hP hS)
theorem js_if_lt {x : Int32} {off : Int} (tgt : Nat) (hd : decode (js_c mi) pc = .ok (.ifCond .lt off, 3)) (ht : (pc : Int) + off = (tgt : Int)) (kt : js_J G sh mi emb tgt lv st σ o1) (kf : js_J G sh mi emb (pc + 3) lv st σ o2) : js_J G sh mi emb pc lv (.int x :: st) σ (if x < 0 then o1 else o2) :=
  fun r hr p e s m args below meth c H locs ls C hl hP hS => lv_if_lt C.1 C.2.1 hd ht (fun hc => kt r (by rw [if_pos hc] at hr; exact hr) p e s m args below meth c H locs ls C hl hP hS) (fun hc => kf r (by rw [if_neg hc] at hr; exact hr) p e s m args below meth c H locs ls C hl hP hS)
theorem js_if_ge {x : Int32} {off : Int} (tgt : Nat) (hd : decode (js_c mi) pc = .ok (.ifCond .ge off, 3)) (ht : (pc : Int) + off = (tgt : Int)) (kt : js_J G sh mi emb tgt lv st σ o1) (kf : js_J G sh mi emb (pc + 3) lv st σ o2) : js_J G sh mi emb pc lv (.int x :: st) σ (if 0 ≤ x then o1 else o2) :=
  fun r hr p e s m args below meth c H locs ls C hl hP hS => lv_if_ge C.1 C.2.1 hd ht (fun hc => kt r (by rw [if_pos hc] at hr; exact hr) p e s m args below meth c H locs ls C hl hP hS) (fun hc => kf r (by rw [if_neg hc] at hr; exact hr) p e s m args below meth c H locs ls C hl hP hS)
theorem js_if_gt {x : Int32} {off : Int} (tgt : Nat) (hd : decode (js_c mi) pc = .ok (.ifCond .gt off, 3)) (ht : (pc : Int) + off = (tgt : Int)) (kt : js_J G sh mi emb tgt lv st σ o1) (kf : js_J G sh mi emb (pc + 3) lv st σ o2) : js_J G sh mi emb pc lv (.int x :: st) σ (if 0 < x then o1 else o2) :=
  fun r hr p e s m args below meth c H locs ls C hl hP hS => lv_if_gt C.1 C.2.1 hd ht (fun hc => kt r (by rw [if_pos hc] at hr; exact hr) p e s m args below meth c H locs ls C hl hP hS) (fun hc => kf r (by rw [if_neg hc] at hr; exact hr) p e s m args below meth c H locs ls C hl hP hS)
theorem js_if_le {x : Int32} {off : Int} (tgt : Nat) (hd : decode (js_c mi) pc = .ok (.ifCond .le off, 3)) (ht : (pc : Int) + off = (tgt : Int)) (kt : js_J G sh mi emb tgt lv st σ o1) (kf : js_J G sh mi emb (pc + 3) lv st σ o2) : js_J G sh mi emb pc lv (.int x :: st) σ (if x ≤ 0 then o1 else o2) :=
  fun r hr p e s m args below meth c H locs ls C hl hP hS => lv_if_le C.1 C.2.1 hd ht (fun hc => kt r (by rw [if_pos hc] at hr; exact hr) p e s m args below meth c H locs ls C hl hP hS) (fun hc => kf r (by rw [if_neg hc] at hr; exact hr) p e s m args below meth c H locs ls C hl hP hS)
theorem js_goto {off : Int} (tgt : Nat) (hd : decode (js_c mi) pc = .ok (.goto off, 3)) (ht : (pc : Int) + off = (tgt : Int)) (k : js_J G sh mi emb tgt lv st σ o) : js_J G sh mi emb pc lv st σ o :=
  fun r hr p e s m args below meth c H locs ls C hl hP hS => lv_goto C.1 C.2.1 hd ht (k r hr p e s m args below meth c H locs ls C hl hP hS)
end JA
end
section
/-! fields, rows, calls, ends -/
theorem js_in_of {i : Int32} {n : Nat} (h : 0 ≤ i.toInt ∧ i.toInt < n) : vp_in i n := vp_in_iff.mpr h
/-- an index within, as a number that is looked at -/
def js_ix (i : Int32) (n : Nat) : Bool := decide (0 ≤ i.toInt ∧ i.toInt < (n : Int))
theorem js_ix_in {i : Int32} {n : Nat} (h : js_ix i n = true) : vp_in i n := vp_in_iff.mpr (by simpa [js_ix] using h)
/-- go on only if it is so -/
def js_gd {α : Type} (b : Bool) (o : Option α) : Option α := if b then o else none
theorem js_gd_of {α : Type} {b : Bool} {o : Option α} {r : α} (h : js_gd b o = some r) : b = true ∧ o = some r := by
  unfold js_gd at h
  split at h
  · exact ⟨by assumption, h⟩
  · cases h
/-- a field, by the class's constant: its class's number and its own -/
def js_Fl (own : String) (idx ci k : Nat) : Prop := ∃ (C : String) (T : u_T) (N : Nat), vwCl[ci]? = some (C, T, N) ∧ k < N ∧ (∀ w ∈ u_ws C T N, w ∈ js_good) ∧ Cond.fieldLink own idx (T k).1 (T k).2.1 (T k).2.2.1 ∈ js_good
def js_Fp (own : String) (idx ci k : Nat) (ty : FieldType) : Prop := ∃ (C : String) (T : u_T) (N : Nat) (ty0 : Nat → FieldType), vwCl[ci]? = some (C, T, N) ∧ k < N ∧ (∀ w ∈ u_ws C T N, w ∈ js_good) ∧ Cond.fieldLink own idx (T k).1 (T k).2.1 (T k).2.2.1 ∈ js_good ∧
  (∀ k, k < N → parseFieldDescriptor (T k).2.2.1 = some (ty0 k)) ∧ (∀ a, a < N → ∀ b, b < N → a ≠ b → (T a).2.1 ≠ (T b).2.1) ∧ (T k).2.2.2 = false ∧ parseFieldDescriptor (T k).2.2.1 = some ty
section JH
variable {G : js_G} {sh : List js_Shp} {mi : js_M} {α : Type} {emb : α → Option Value × js_S} {pc : Nat} {lv : List (Option Value)} {st : List Value} {σ : js_S} {o : Option α}
theorem js_getI {idx ci k b : Nat} {fs : List (Option Nat)} (hd : decode (js_c mi) pc = .ok (.getfield idx, 3)) (hf : js_Fl (js_y mi).cls idx ci k) (hb : sh[b]? = some (.inr (.inr (ci, fs)))) (hk : fs[k]? = some none) (kk : js_J G sh mi emb (pc + 3) lv (.int (σ.1 b k) :: st) σ o) : js_J G sh mi emb pc lv (.ref b :: st) σ o := by
  intro r hr p e s m args below meth c H locs ls C hl hP hS
  obtain ⟨Cn, T, N, h1, h2, h3, h4⟩ := hf
  refine va_get C.1 C.2.1 C.2.2.2.2.1 h3 C.2.2.2.1 C.2.2.2.2.2.2.2.1 hP b (js_wl_at σ hb) h1 k h2 (C.2.2.2.2.1 _ h4) (fun x h => h) (v := .int (σ.1 b k)) ?_ hd (kk r hr p e s m args below meth c H locs ls C hl hP hS)
  show (js_fv G σ b 0 fs)[k]? = _
  rw [js_fv_at, hk, Nat.zero_add]
  rfl
theorem js_getR {idx ci k b j : Nat} {fs : List (Option Nat)} (hd : decode (js_c mi) pc = .ok (.getfield idx, 3)) (hf : js_Fl (js_y mi).cls idx ci k) (hb : sh[b]? = some (.inr (.inr (ci, fs)))) (hk : fs[k]? = some (some j)) (kk : js_J G sh mi emb (pc + 3) lv (.ref j :: st) σ o) : js_J G sh mi emb pc lv (.ref b :: st) σ o := by
  intro r hr p e s m args below meth c H locs ls C hl hP hS
  obtain ⟨Cn, T, N, h1, h2, h3, h4⟩ := hf
  refine va_get C.1 C.2.1 C.2.2.2.2.1 h3 C.2.2.2.1 C.2.2.2.2.2.2.2.1 hP b (js_wl_at σ hb) h1 k h2 (C.2.2.2.2.1 _ h4) (fun x h => h) (v := .ref (js_ad G j)) ?_ hd (kk r hr p e s m args below meth c H locs ls C hl hP hS)
  show (js_fv G σ b 0 fs)[k]? = _
  rw [js_fv_at, hk]
  rfl
theorem js_sI_off {k i : Nat} {v : Int32} (a : Nat) (h : a ≠ k) : (js_sI σ k i v).1 a = σ.1 a ∧ (js_sI σ k i v).2 a = σ.2 a := ⟨by simp [js_sI, h], rfl⟩
theorem js_sL_off {k i : Nat} {v : Int64} (a : Nat) (h : a ≠ k) : (js_sL σ k i v).1 a = σ.1 a ∧ (js_sL σ k i v).2 a = σ.2 a := ⟨rfl, by simp [js_sL, h]⟩
theorem js_putI {idx ci k b : Nat} {fs : List (Option Nat)} {ty : FieldType} {x : Int32} (hd : decode (js_c mi) pc = .ok (.putfield idx, 3)) (hf : js_Fp (js_y mi).cls idx ci k ty) (hb : sh[b]? = some (.inr (.inr (ci, fs)))) (hk : fs[k]? = some none) (hn : narrow ty (.int x) = .int x) (hfit : fits ty (.int x) = true)
    (kk : js_J G sh mi emb (pc + 3) lv st (js_sI σ b k x) o) : js_J G sh mi emb pc lv (.int x :: .ref b :: st) σ o := by
  intro r hr p e s m args below meth c H locs ls C hl hP hS
  obtain ⟨Cn, T, N, ty0, h1, h2, h3, h4, h5, h6, h7, h8⟩ := hf
  have hlen : k < fs.length := (List.getElem?_eq_some_iff.mp hk).1
  refine va_put C.1 C.2.1 C.2.2.2.2.1 h3 ty0 h5 h6 C.2.2.2.1 C.2.2.2.2.2.2.2.1 hP (js_wl_D C.2.2.2.2.2.2.2.2.2.1 σ) hS b (js_wl_at σ hb) h1 k h2 (C.2.2.2.2.1 _ h4) (fun x h => h) h7 h8 hn hfit (by rw [js_fv_len]; exact hlen) hd fun H1 locs1 hP1 _ hS1 => ?_
  rw [js_wl_set (τ := js_sI σ b k x) hb js_sI_off] at hP1
  · exact kk r hr p e s m args below meth c H1 locs1 ls C hl hP1 hS1
  · simp only [js_cell]
    congr 2
    apply List.ext_getElem?
    intro j
    rw [js_fv_at, List.getElem?_set, js_fv_at, js_fv_len, Nat.zero_add]
    by_cases hj : k = j
    · subst hj
      rw [if_pos rfl, if_pos hlen, hk]
      simp [js_sI, upd, js_tv]
    · rw [if_neg hj]
      have hj2 : ¬ j = k := fun q => hj q.symm
      cases hfj : fs[j]? with
      | none => rfl
      | some q => cases q <;> simp [js_sI, upd, hj2]
theorem js_iald {b n : Nat} {i : Int32} (hd : decode (js_c mi) pc = .ok (.iaload, 1)) (hb : sh[b]? = some (.inl n)) (kk : js_J G sh mi emb (pc + 1) lv (.int (σ.1 b i.toNatClampNeg) :: st) σ o) : js_J G sh mi emb pc lv (.int i :: .ref b :: st) σ (js_gd (js_ix i n) o) := by
  intro r hr p e s m args below meth c H locs ls C hl hP hS
  obtain ⟨hi, hr⟩ := js_gd_of hr
  exact va_iald C.1 C.2.1 C.2.2.2.2.2.2.2.1 hP b 0 (js_wl_at σ hb) rfl (js_ix_in hi) hd (kk r hr p e s m args below meth c H locs ls C hl hP hS)
theorem js_lald {b n : Nat} {i : Int32} (hd : decode (js_c mi) pc = .ok (.laload, 1)) (hb : sh[b]? = some (.inr (.inl n))) (kk : js_J G sh mi emb (pc + 1) lv (.long (σ.2 b i.toNatClampNeg) :: st) σ o) : js_J G sh mi emb pc lv (.int i :: .ref b :: st) σ (js_gd (js_ix i n) o) := by
  intro r hr p e s m args below meth c H locs ls C hl hP hS
  obtain ⟨hi, hr⟩ := js_gd_of hr
  exact va_lald C.1 C.2.1 C.2.2.2.2.2.2.2.1 hP b 1 (js_wl_at σ hb) rfl (js_ix_in hi) hd (kk r hr p e s m args below meth c H locs ls C hl hP hS)
theorem js_iast {b n : Nat} {i x : Int32} (hd : decode (js_c mi) pc = .ok (.iastore, 1)) (hb : sh[b]? = some (.inl n)) (kk : js_J G sh mi emb (pc + 1) lv st (js_sI σ b i.toNatClampNeg x) o) : js_J G sh mi emb pc lv (.int x :: .int i :: .ref b :: st) σ (js_gd (js_ix i n) o) := by
  intro r hr p e s m args below meth c H locs ls C hl hP hS
  obtain ⟨hi, hr⟩ := js_gd_of hr
  refine va_iast C.1 C.2.1 C.2.2.2.2.2.2.2.1 hP (js_wl_D C.2.2.2.2.2.2.2.2.2.1 σ) hS b 0 (js_wl_at σ hb) rfl (js_ix_in hi) hd fun H1 locs1 hP1 _ hS1 => ?_
  rw [js_wl_set (τ := js_sI σ b i.toNatClampNeg x) hb js_sI_off] at hP1
  · exact kk r hr p e s m args below meth c H1 locs1 ls C hl hP1 hS1
  · simp [js_cell, js_sI]
theorem js_last {b n : Nat} {i : Int32} {x : Int64} (hd : decode (js_c mi) pc = .ok (.lastore, 1)) (hb : sh[b]? = some (.inr (.inl n))) (kk : js_J G sh mi emb (pc + 1) lv st (js_sL σ b i.toNatClampNeg x) o) : js_J G sh mi emb pc lv (.long x :: .int i :: .ref b :: st) σ (js_gd (js_ix i n) o) := by
  intro r hr p e s m args below meth c H locs ls C hl hP hS
  obtain ⟨hi, hr⟩ := js_gd_of hr
  refine va_last C.1 C.2.1 C.2.2.2.2.2.2.2.1 hP (js_wl_D C.2.2.2.2.2.2.2.2.2.1 σ) hS b 1 (js_wl_at σ hb) rfl (js_ix_in hi) hd fun H1 locs1 hP1 _ hS1 => ?_
  rw [js_wl_set (τ := js_sL σ b i.toNatClampNeg x) hb js_sL_off] at hP1
  · exact kk r hr p e s m args below meth c H1 locs1 ls C hl hP1 hS1
  · simp [js_cell, js_sL]
theorem js_alen {b n : Nat} {v : Int32} (hd : decode (js_c mi) pc = .ok (.arraylength, 1)) (hb : sh[b]? = some (.inl n)) (hv : Int32.ofNat n = v) (kk : js_J G sh mi emb (pc + 1) lv (.int v :: st) σ o) : js_J G sh mi emb pc lv (.ref b :: st) σ o :=
  fun r hr p e s m args below meth c H locs ls C hl hP hS => va_alen C.1 C.2.1 C.2.2.2.2.2.2.2.1 hP b 0 (js_wl_at σ hb) (ty := .int) rfl hv hd (kk r hr p e s m args below meth c H locs ls C hl hP hS)
/-! ends -/
theorem js_iret {v : Int32} {r : α} (hd : decode (js_c mi) pc = .ok (.ireturn, 1)) (hr : js_r mi = some .int) (he : emb r = (some (.int v), σ)) : js_J G sh mi emb pc lv [.int v] σ (some r) := by
  intro r2 hr2 p e s m args below meth c H locs ls C hl hP hS
  cases hr2
  refine W.iret C.1 C.2.1 (by rw [C.2.2.2.2.2.1, hr]) (fun t ht hW => ?_) hS.2.2 hd C.2.2.2.2.2.2.1
  rw [he]
  exact ⟨⟨rfl, by rw [ht]; exact hP⟩, hS.F ht⟩
theorem js_zret {v : Int32} {r : α} (hd : decode (js_c mi) pc = .ok (.ireturn, 1)) (hr : js_r mi = some .boolean) (hn : narrow .boolean (.int v) = .int v) (he : emb r = (some (.int v), σ)) : js_J G sh mi emb pc lv [.int v] σ (some r) := by
  intro r2 hr2 p e s m args below meth c H locs ls C hl hP hS
  cases hr2
  refine W.zret C.1 C.2.1 (ty := .boolean) (by rw [C.2.2.2.2.2.1, hr]) hn (fun t ht hW => ?_) hS.2.2 hd C.2.2.2.2.2.2.1
  rw [he]
  exact ⟨⟨rfl, by rw [ht]; exact hP⟩, hS.F ht⟩
theorem js_cret {v : Int32} {r : α} (hd : decode (js_c mi) pc = .ok (.ireturn, 1)) (ty : FieldType) (hr : js_r mi = some ty) (hn : narrow ty (.int v) = .int v) (he : emb r = (some (.int v), σ)) : js_J G sh mi emb pc lv [.int v] σ (some r) := by
  intro r2 hr2 p e s m args below meth c H locs ls C hl hP hS
  cases hr2
  refine W.zret C.1 C.2.1 (ty := ty) (by rw [C.2.2.2.2.2.1, hr]) hn (fun t ht hW => ?_) hS.2.2 hd C.2.2.2.2.2.2.1
  rw [he]
  exact ⟨⟨rfl, by rw [ht]; exact hP⟩, hS.F ht⟩
theorem js_lret {v : Int64} {r : α} (hd : decode (js_c mi) pc = .ok (.lreturn, 1)) (hr : js_r mi = some .long) (he : emb r = (some (.long v), σ)) : js_J G sh mi emb pc lv [.long v] σ (some r) := by
  intro r2 hr2 p e s m args below meth c H locs ls C hl hP hS
  cases hr2
  refine W.lret C.1 C.2.1 (by rw [C.2.2.2.2.2.1, hr]) (fun t ht hW => ?_) hS.2.2 hd C.2.2.2.2.2.2.1
  rw [he]
  exact ⟨⟨rfl, by rw [ht]; exact hP⟩, hS.F ht⟩
theorem js_vret {r : α} (hd : decode (js_c mi) pc = .ok (.return_, 1)) (hr : js_r mi = none) (he : emb r = (none, σ)) : js_J G sh mi emb pc lv [] σ (some r) := by
  intro r2 hr2 p e s m args below meth c H locs ls C hl hP hS
  cases hr2
  refine W.vret C.1 C.2.1 (by rw [C.2.2.2.2.2.1, hr]) (fun t ht hW => ?_) hS.2.2 hd C.2.2.2.2.2.2.1
  rw [he]
  exact ⟨⟨rfl, by rw [ht]; exact hP⟩, hS.F ht⟩
theorem js_aret {v : Nat} {r : α} (hd : decode (js_c mi) pc = .ok (.areturn, 1)) {rt : FieldType} (hr : js_r mi = some rt) (hrt : (∃ n, rt = .object n) ∨ ∃ t, rt = .array t) (he : emb r = (some (.ref v), σ)) : js_J G sh mi emb pc lv [.ref v] σ (some r) := by
  intro r2 hr2 p e s m args below meth c H locs ls C hl hP hS
  cases hr2
  refine W.aret C.1 C.2.1 (by rw [C.2.2.2.2.2.1, hr]) hrt (Or.inr ⟨_, rfl⟩) (fun t ht hW => ?_) hS.2.2 hd C.2.2.2.2.2.2.1
  rw [he]
  exact ⟨⟨rfl, by rw [ht]; exact hP⟩, hS.F ht⟩
end JH
end
section
/-! calls -/
def js_Cm (mj : js_M) (n : Nat) : Prop := Cond.initialized (js_y mj).cls ∈ js_good ∧ Cond.code (js_y mj) (js_c mj) (js_n mj) (js_r mj) ∈ js_good ∧ ((js_y mj).cls ≠ "java/lang/invoke/MethodHandle" ∧ (js_y mj).cls ≠ "java/lang/invoke/VarHandle" ∧ (parseMethodDescriptor (js_y mj).desc).map (fun d => d.parameters.length) = some n)
def js_Cv (mj : js_M) : Prop := Cond.instanceMethod (js_y mj) ∈ js_good ∧ Cond.selects (js_y mj).cls (js_y mj) (js_y mj) ∈ js_good
def js_fit (mi mj : js_M) : Bool := Nat.ble (js_fr mj + 1) (js_fr mi) && Nat.ble (8 + (js_n mj + 11) + js_lo mj) (js_lo mi)
theorem js_fit_of {mi mj : js_M} (h : js_fit mi mj = true) : (js_rm mj).frames + 1 ≤ (js_rm mi).frames ∧ 8 + (js_n mj + 11) + (js_rm mj).locals ≤ (js_rm mi).locals := by
  unfold js_fit at h
  rw [Bool.and_eq_true] at h
  exact ⟨Nat.le_of_ble_eq_true h.1, Nat.le_of_ble_eq_true h.2⟩
theorem js_goodIn {mj : js_M} {n : Nat} (h : js_Cm mj n) : GoodIn js_good (js_ws mj) := by
  intro w hw
  have h1 : w ∈ js_good := by
    rcases List.mem_cons.mp hw with rfl | hw
    · exact h.2.1
    · exact hw
  exact ⟨h1, good_of_word (List.mem_filter.mp h1).2⟩
theorem js_blind {G : js_G} {sh : List js_Shp} {as : List Value} {σ : js_S} : FrameBlind (va_Pc (as.map (js_tv G)) (fun U => va_P (js_D G) vwCl (js_wl G sh σ) U.heap ∧ js_Env G sh U)) :=
  fun a U g mk q => ⟨q.1, q.2.1, js_Env.same (u := U) (U := U.calling g mk a) rfl rfl q.2.2⟩
theorem js_tl (G : js_G) (x : Option Value) (rest : List Value) : (x.toList ++ rest).map (js_tv G) = (x.map (js_tv G)).toList ++ rest.map (js_tv G) := by cases x <;> rfl
section JC
variable {G : js_G} {sh : List js_Shp} {mi mj : js_M} {α β : Type} {emb : α → Option Value × js_S} {embC : β → Option Value × js_S} {pc : Nat} {lv : List (Option Value)} {σ : js_S} {oc : Option β} {f : β → Option α} {stk : List Value} {idx n : Nat}
theorem js_after {p : Program} {e : Env} {R : Room} {s : State} {m : MethodId} {args a : Array Value} {below : List Frame} {meth : Method} {c : Code} {H : Heap} {locs : List Loc} {ls : Array Slot} {st0 rest : List Value} {ρ : Option Value × js_S} {Q : State → Prop}
    (hrun : va_Run p G.1 e R s m args below meth c H locs 0 0 0 0 (F0 m pc ls st0) rest (js_Q G sh ρ a) (js_A G sh)) (hS : va_S (js_A G sh) s.heap H locs)
    (kk : ∀ (H1 : Heap) (locs1 : List Loc), va_P (js_D G) vwCl (js_wl G sh ρ.2) H1 → va_S (js_A G sh) s.heap H1 locs1 → W p G.1 e R s m args below meth c H1 locs1 0 0 Q (F0 m (pc + 3) ls ((ρ.1.map (js_tv G)).toList ++ rest))) : W p G.1 e R s m args below meth c H locs 0 0 Q (F0 m pc ls st0) := by
  intro T hT X
  obtain ⟨v, st₀, t, T', L, h0, X', hL, e1, e2, ⟨⟨hv, hp⟩, hz, hk⟩, stp⟩ := hrun T hT X
  cases hv
  rw [h0] at hz hk
  obtain ⟨t2, a1, b1⟩ := kk T'.heap (locs ++ L) (by rw [e1]; exact hp) ⟨Nat.le_trans hS.1 (by rw [e1]; exact hz), fun q h1 h2 => by rw [e1, hk q (Nat.lt_of_lt_of_le h1 hS.1) h2]; exact hS.2.1 q h1 h2, fun q hq => by
      rcases List.mem_append.mp hq with h | h
      · exact hS.2.2 q h
      · exact hL q h⟩ T' rfl X'
  exact ⟨t2, stp t2 a1, b1⟩
theorem js_callV {ci b : Nat} {fs : List (Option Nat)} {T : u_T} {N : Nat} (as rest : List Value) (hd : decode (js_c mi) pc = .ok (.invokevirtual idx, 3)) (hlk : Cond.methodLink (js_y mi).cls idx (js_y mj) ∈ js_good) (hcm : js_Cm mj n) (hcv : js_Cv mj) (hR : js_fit mi mj = true) (hn : as.length = n)
    (hb : sh[b]? = some (.inr (.inr (ci, fs)))) (hci : vwCl[ci]? = some ((js_y mj).cls, T, N)) (hst : stk = as.reverse ++ .ref b :: rest) (hroom : Nat.ble (rest.map fun v => v.category).sum 8 = true)
    (hM : ∀ r, oc = some r → js_Con G sh mj (.ref b :: as) σ (embC r)) (k : ∀ r, js_J G sh mi emb (pc + 3) lv ((embC r).1.toList ++ rest) (embC r).2 (f r)) : js_J G sh mi emb pc lv stk σ (oc.bind f) := by
  intro r hr p e s m args below meth c H locs ls C hl hP hS
  cases hoc : oc with
  | none => rw [hoc] at hr; cases hr
  | some q =>
    rw [hoc] at hr
    have hr : f q = some r := hr
    have hM := hM q hoc
    have hE := C.2.2.2.2.2.2.2
    have hts := C.2.2.2.2.1
    subst hst
    refine js_after (rest := rest.map (js_tv G)) (va_runV (As := as.map (js_tv G)) (rest := rest.map (js_tv G)) (C := (js_y mj).cls) (n := n) ⟨C.1, C.2.1, C.2.2.1, C.2.2.2.1, hts⟩ hM ⟨callB_of n hts (js_goodIn hcm) rfl rfl rfl (hts _ hcm.1) (hts _ hlk) hcm.2.2 (js_fit_of hR), hts _ hcv.1, hts _ hcv.2⟩ ⟨js_blind, va_recv hE.1 hP hci (js_wl_at σ hb), fun U hU hW => ⟨rfl, by rw [hU]; exact hP, hE.call hS hU hW⟩⟩ rfl (by rw [List.length_map]; exact hn) hl.1 ?_ (lv_room (by rw [js_tv_sum]; exact Nat.le_of_ble_eq_true hroom)) hd ⟨Nat.le_refl _, Nat.le_refl _⟩) hS fun H1 locs1 hP1 hS1 => ?_
    · show List.map (js_tv G) (as.reverse ++ .ref b :: rest) = _
      rw [List.map_append, List.map_reverse]
      rfl
    · have hk := k q r hr p e s m args below meth c H1 locs1 ls C hl hP1 hS1
      rw [js_tl] at hk
      exact hk
theorem js_callS (as rest : List Value) (hd : decode (js_c mi) pc = .ok (.invokestatic idx, 3)) (hlk : Cond.methodLink (js_y mi).cls idx (js_y mj) ∈ js_good) (hcm : js_Cm mj n) (hcs : Cond.static (js_y mj) ∈ js_good) (hR : js_fit mi mj = true) (hn : as.length = n)
    (hst : stk = as.reverse ++ rest) (hroom : Nat.ble (rest.map fun v => v.category).sum 8 = true)
    (hM : ∀ r, oc = some r → js_Con G sh mj as σ (embC r)) (k : ∀ r, js_J G sh mi emb (pc + 3) lv ((embC r).1.toList ++ rest) (embC r).2 (f r)) : js_J G sh mi emb pc lv stk σ (oc.bind f) := by
  intro r hr p e s m args below meth c H locs ls C hl hP hS
  cases hoc : oc with
  | none => rw [hoc] at hr; cases hr
  | some q =>
    rw [hoc] at hr
    have hr : f q = some r := hr
    have hM := hM q hoc
    have hE := C.2.2.2.2.2.2.2
    have hts := C.2.2.2.2.1
    subst hst
    refine js_after (rest := rest.map (js_tv G)) (va_runS (As := as.map (js_tv G)) (rest := rest.map (js_tv G)) (n := n) ⟨C.1, C.2.1, C.2.2.1, C.2.2.2.1, hts⟩ hM ⟨callB_of n hts (js_goodIn hcm) rfl rfl rfl (hts _ hcm.1) (hts _ hlk) hcm.2.2 (js_fit_of hR), hts _ hcs⟩ ⟨js_blind, fun U hU hW => ⟨rfl, by rw [hU]; exact hP, hE.call hS hU hW⟩⟩ rfl (by rw [List.length_map]; exact hn) hl.1 ?_ (lv_room (by rw [js_tv_sum]; exact Nat.le_of_ble_eq_true hroom)) hd ⟨Nat.le_refl _, Nat.le_refl _⟩) hS fun H1 locs1 hP1 hS1 => ?_
    · show List.map (js_tv G) (as.reverse ++ rest) = _
      rw [List.map_append, List.map_reverse]
    · have hk := k q r hr p e s m args below meth c H1 locs1 ls C hl hP1 hS1
      rw [js_tl] at hk
      exact hk
theorem js_callN (as rest : List Value) {host : String} (hd : decode (js_c mi) pc = .ok (.invokestatic idx, 3)) (hlk : Cond.methodLinkNest (js_y mi).cls idx (js_y mj) host ∈ js_nest) (hcm : js_Cm mj n) (hcs : Cond.static (js_y mj) ∈ js_good) (hR : js_fit mi mj = true) (hn : as.length = n)
    (hst : stk = as.reverse ++ rest) (hroom : Nat.ble (rest.map fun v => v.category).sum 8 = true)
    (hM : ∀ r, oc = some r → js_Con G sh mj as σ (embC r)) (k : ∀ r, js_J G sh mi emb (pc + 3) lv ((embC r).1.toList ++ rest) (embC r).2 (f r)) : js_J G sh mi emb pc lv stk σ (oc.bind f) := by
  intro r hr p e s m args below meth c H locs ls C hl hP hS
  cases hoc : oc with
  | none => rw [hoc] at hr; cases hr
  | some q =>
    rw [hoc] at hr
    have hr : f q = some r := hr
    have hM := hM q hoc
    have hE := C.2.2.2.2.2.2.2
    have hts := C.2.2.2.2.1
    subst hst
    refine js_after (rest := rest.map (js_tv G)) (va_runSN (As := as.map (js_tv G)) (rest := rest.map (js_tv G)) (n := n) ⟨C.1, C.2.1, C.2.2.1, C.2.2.2.1, hts⟩ hM ⟨va_cnB n hts (js_goodIn hcm) rfl rfl rfl (hE.2.1 _ hlk) (hts _ hcm.1) hcm.2.2 (js_fit_of hR), hts _ hcs, trivial⟩ ⟨js_blind, fun U hU hW => ⟨rfl, by rw [hU]; exact hP, hE.call hS hU hW⟩⟩ rfl (by rw [List.length_map]; exact hn) hl.1 ?_ (lv_room (by rw [js_tv_sum]; exact Nat.le_of_ble_eq_true hroom)) hd ⟨Nat.le_refl _, Nat.le_refl _⟩) hS fun H1 locs1 hP1 hS1 => ?_
    · show List.map (js_tv G) (as.reverse ++ rest) = _
      rw [List.map_append, List.map_reverse]
    · have hk := k q r hr p e s m args below meth c H1 locs1 ls C hl hP1 hS1
      rw [js_tl] at hk
      exact hk
/-- a call of a method of a String constant -/
theorem js_callT {i : Nat} (as rest : List Value) (hd : decode (js_c mi) pc = .ok (.invokevirtual idx, 3)) (hlk : Cond.methodLink (js_y mi).cls idx (js_y mj) ∈ js_good) (hcm : js_Cm mj n) (hcv : js_Cv mj) (hcl : (js_y mj).cls = "java/lang/String") (hR : js_fit mi mj = true) (hn : as.length = n)
    (hi : i < 11) (hst : stk = as.reverse ++ .ref (1000 + i) :: rest) (hroom : Nat.ble (rest.map fun v => v.category).sum 8 = true)
    (hM : ∀ r, oc = some r → js_Con G sh mj (.ref (1000 + i) :: as) σ (embC r)) (k : ∀ r, js_J G sh mi emb (pc + 3) lv ((embC r).1.toList ++ rest) (embC r).2 (f r)) : js_J G sh mi emb pc lv stk σ (oc.bind f) := by
  intro r hr p e s m args below meth c H locs ls C hl hP hS
  cases hoc : oc with
  | none => rw [hoc] at hr; cases hr
  | some q =>
    rw [hoc] at hr
    have hr : f q = some r := hr
    have hM := hM q hoc
    have hE := C.2.2.2.2.2.2.2
    have hts := C.2.2.2.2.1
    subst hst
    refine js_after (rest := rest.map (js_tv G)) (va_runV (As := as.map (js_tv G)) (rest := rest.map (js_tv G)) (C := (js_y mj).cls) (n := n) ⟨C.1, C.2.1, C.2.2.1, C.2.2.2.1, hts⟩ hM ⟨callB_of n hts (js_goodIn hcm) rfl rfl rfl (hts _ hcm.1) (hts _ hlk) hcm.2.2 (js_fit_of hR), hts _ hcv.1, hts _ hcv.2⟩ ⟨js_blind, by rw [hcl]; have hv := vk_recv (i := i) hE.2.2.2.2.2.1 hi hS; exact hv, fun U hU hW => ⟨rfl, by rw [hU]; exact hP, hE.call hS hU hW⟩⟩ rfl (by rw [List.length_map]; exact hn) hl.1 ?_ (lv_room (by rw [js_tv_sum]; exact Nat.le_of_ble_eq_true hroom)) hd ⟨Nat.le_refl _, Nat.le_refl _⟩) hS fun H1 locs1 hP1 hS1 => ?_
    · show List.map (js_tv G) (as.reverse ++ .ref (1000 + i) :: rest) = _
      rw [List.map_append, List.map_reverse]
      rfl
    · have hk := k q r hr p e s m args below meth c H1 locs1 ls C hl hP1 hS1
      rw [js_tl] at hk
      exact hk
end JC
section JM
variable {G : js_G} {sh : List js_Shp} {mi : js_M} {α : Type} {emb : α → Option Value × js_S} {pc : Nat} {lv : List (Option Value)} {st : List Value} {σ : js_S} {o o1 o2 : Option α}
def js_Mm (y : MethodName) (cd : ByteArray) : Prop := Cond.static y ∈ js_good ∧ Cond.initialized "java/lang/Math" ∈ js_good ∧ Cond.code y cd 2 (some .int) ∈ js_good
theorem js_max {idx : Nat} {x y : Int32} (hd : decode (js_c mi) pc = .ok (.invokestatic idx, 3)) (hlk : Cond.methodLink (js_y mi).cls idx Lib.Math.max.name ∈ js_good) (hm : js_Mm Lib.Math.max.name Lib.Math.max.code) (hR : Nat.ble 1 (js_fr mi) = true) (hR2 : Nat.ble ((st.map fun v => v.category).sum + 13) (js_lo mi) = true)
    (k : js_J G sh mi emb (pc + 3) lv (.int (if x < y then y else x) :: st) σ o) : js_J G sh mi emb pc lv (.int y :: .int x :: st) σ o :=
  fun r hr p e s m args below meth c H locs ls C hl hP hS => va_mmax C.1 C.2.1 (C.2.2.1.trans hl.1.symm) C.2.2.2.1 (C.2.2.2.2.1 _ hlk) (C.2.2.2.2.1 _ hm.1) (C.2.2.2.2.1 _ hm.2.1) (C.2.2.2.2.1 _ hm.2.2) (Nat.le_of_ble_eq_true hR) (by rw [js_tv_sum]; exact Nat.le_of_ble_eq_true hR2) (Nat.le_refl _) (Nat.le_refl _) hd (k r hr p e s m args below meth c H locs ls C hl hP hS)
theorem js_min {idx : Nat} {x y : Int32} (hd : decode (js_c mi) pc = .ok (.invokestatic idx, 3)) (hlk : Cond.methodLink (js_y mi).cls idx Lib.Math.min.name ∈ js_good) (hm : js_Mm Lib.Math.min.name Lib.Math.min.code) (hR : Nat.ble 1 (js_fr mi) = true) (hR2 : Nat.ble ((st.map fun v => v.category).sum + 13) (js_lo mi) = true)
    (k : js_J G sh mi emb (pc + 3) lv (.int (if y < x then y else x) :: st) σ o) : js_J G sh mi emb pc lv (.int y :: .int x :: st) σ o :=
  fun r hr p e s m args below meth c H locs ls C hl hP hS => va_mmin C.1 C.2.1 (C.2.2.1.trans hl.1.symm) C.2.2.2.1 (C.2.2.2.2.1 _ hlk) (C.2.2.2.2.1 _ hm.1) (C.2.2.2.2.1 _ hm.2.1) (C.2.2.2.2.1 _ hm.2.2) (Nat.le_of_ble_eq_true hR) (by rw [js_tv_sum]; exact Nat.le_of_ble_eq_true hR2) (Nat.le_refl _) (Nat.le_refl _) hd (k r hr p e s m args below meth c H locs ls C hl hP hS)
/-! rows copied -/
def js_Ac (own : String) (idx : Nat) : Prop := Cond.methodLink own idx arraycopyName ∈ js_good ∧ Cond.native arraycopyName ∈ js_good ∧ Cond.static arraycopyName ∈ js_good ∧ Cond.initialized "java/lang/System" ∈ js_good
def js_cpI (σ : js_S) (a b sp dp n : Nat) : js_S := (fun q => if q = b then va_cpy (σ.1 a) (σ.1 b) sp dp n else σ.1 q, σ.2)
def js_cpL (σ : js_S) (a b sp dp n : Nat) : js_S := (σ.1, fun q => if q = b then va_cpy (σ.2 a) (σ.2 b) sp dp n else σ.2 q)
def js_cpok (sp dp n : Int32) (n0 n1 : Nat) : Bool := decide (0 ≤ sp.toInt ∧ 0 ≤ dp.toInt ∧ 0 ≤ n.toInt ∧ sp.toNatClampNeg + n.toNatClampNeg ≤ n0 ∧ dp.toNatClampNeg + n.toNatClampNeg ≤ n1)
theorem js_nneg {x : Int32} (h : 0 ≤ x.toInt) : ¬ x < 0 := by
  intro q
  have := Int32.lt_iff_toInt_lt.mp q
  simp at this
  omega
theorem js_copyI {idx a b n0 n1 : Nat} {sp dp n : Int32} (hd : decode (js_c mi) pc = .ok (.invokestatic idx, 3)) (hac : js_Ac (js_y mi).cls idx) (ha : sh[a]? = some (.inl n0)) (hb : sh[b]? = some (.inl n1)) (hR : Nat.ble 1 (js_fr mi) = true) (hR2 : Nat.ble ((st.map fun v => v.category).sum + (nativeFrameWords "java/lang/System" "arraycopy" 5 + 11)) (js_lo mi) = true)
    (k : js_J G sh mi emb (pc + 3) lv st (js_cpI σ a b sp.toNatClampNeg dp.toNatClampNeg n.toNatClampNeg) o) : js_J G sh mi emb pc lv (.int n :: .int dp :: .ref b :: .int sp :: .ref a :: st) σ (js_gd (js_cpok sp dp n n0 n1) o) := by
  intro r hr p e s m args below meth c H locs ls C hl hP hS
  obtain ⟨hi, hr⟩ := js_gd_of hr
  have hi : 0 ≤ sp.toInt ∧ 0 ≤ dp.toInt ∧ 0 ≤ n.toInt ∧ sp.toNatClampNeg + n.toNatClampNeg ≤ n0 ∧ dp.toNatClampNeg + n.toNatClampNeg ≤ n1 := by simpa [js_cpok] using hi
  have hts := C.2.2.2.2.1
  refine va_copyi C.1 C.2.1 (C.2.2.1.trans hl.1.symm) C.2.2.2.1 (hts _ hac.1) (hts _ hac.2.1) (hts _ hac.2.2.1) (hts _ hac.2.2.2) C.2.2.2.2.2.2.2.1 hP (js_wl_D C.2.2.2.2.2.2.2.2.2.1 σ) hS a b 0 0 (js_wl_at σ ha) (js_wl_at σ hb) rfl rfl rfl (js_nneg hi.1) (js_nneg hi.2.1) (js_nneg hi.2.2.1) hi.2.2.2.1 hi.2.2.2.2 (fun _ _ => rfl) (Nat.le_of_ble_eq_true hR) (by rw [js_tv_sum]; exact Nat.le_of_ble_eq_true hR2) hd fun H1 locs1 hP1 _ hS1 => ?_
  rw [js_wl_set (σ := σ) (τ := js_cpI σ a b sp.toNatClampNeg dp.toNatClampNeg n.toNatClampNeg) hb (fun q hq => ⟨by simp [js_cpI, hq], rfl⟩)] at hP1
  · exact k r hr p e s m args below meth c H1 locs1 ls C hl hP1 hS1
  · simp [js_cell, js_cpI]
theorem js_copyL {idx a b n0 n1 : Nat} {sp dp n : Int32} (hd : decode (js_c mi) pc = .ok (.invokestatic idx, 3)) (hac : js_Ac (js_y mi).cls idx) (ha : sh[a]? = some (.inr (.inl n0))) (hb : sh[b]? = some (.inr (.inl n1))) (hR : Nat.ble 1 (js_fr mi) = true) (hR2 : Nat.ble ((st.map fun v => v.category).sum + (nativeFrameWords "java/lang/System" "arraycopy" 5 + 11)) (js_lo mi) = true)
    (k : js_J G sh mi emb (pc + 3) lv st (js_cpL σ a b sp.toNatClampNeg dp.toNatClampNeg n.toNatClampNeg) o) : js_J G sh mi emb pc lv (.int n :: .int dp :: .ref b :: .int sp :: .ref a :: st) σ (js_gd (js_cpok sp dp n n0 n1) o) := by
  intro r hr p e s m args below meth c H locs ls C hl hP hS
  obtain ⟨hi, hr⟩ := js_gd_of hr
  have hi : 0 ≤ sp.toInt ∧ 0 ≤ dp.toInt ∧ 0 ≤ n.toInt ∧ sp.toNatClampNeg + n.toNatClampNeg ≤ n0 ∧ dp.toNatClampNeg + n.toNatClampNeg ≤ n1 := by simpa [js_cpok] using hi
  have hts := C.2.2.2.2.1
  refine va_copyl C.1 C.2.1 (C.2.2.1.trans hl.1.symm) C.2.2.2.1 (hts _ hac.1) (hts _ hac.2.1) (hts _ hac.2.2.1) (hts _ hac.2.2.2) C.2.2.2.2.2.2.2.1 hP (js_wl_D C.2.2.2.2.2.2.2.2.2.1 σ) hS a b 1 1 (js_wl_at σ ha) (js_wl_at σ hb) rfl rfl rfl (js_nneg hi.1) (js_nneg hi.2.1) (js_nneg hi.2.2.1) hi.2.2.2.1 hi.2.2.2.2 (fun _ _ => rfl) (Nat.le_of_ble_eq_true hR) (by rw [js_tv_sum]; exact Nat.le_of_ble_eq_true hR2) hd fun H1 locs1 hP1 _ hS1 => ?_
  rw [js_wl_set (σ := σ) (τ := js_cpL σ a b sp.toNatClampNeg dp.toNatClampNeg n.toNatClampNeg) hb (fun q hq => ⟨rfl, by simp [js_cpL, hq]⟩)] at hP1
  · exact k r hr p e s m args below meth c H1 locs1 ls C hl hP1 hS1
  · simp [js_cell, js_cpL]
/-! the table of the kinds -/
theorem js_above {idx : Nat} (hd : decode (js_c mi) pc = .ok (.getstatic idx, 3)) (hw : Cond.fieldLink (js_y mi).cls idx "SootTalk$Kinds" "ABOVE" "[I" ∈ js_good) (k : js_J G sh mi emb (pc + 3) lv (.ref 2000 :: st) σ o) : js_J G sh mi emb pc lv st σ o :=
  fun r hr p e s m args below meth c H locs ls C hl hP hS => va_gets C.1 C.2.1 C.2.2.2.2.2.2.2.2.2.2.1 hS C.2.2.2.1 (C.2.2.2.2.1 _ hw) (fun _ h => h) hd (k r hr p e s m args below meth c H locs ls C hl hP hS)
theorem js_abvld {i : Int32} (hd : decode (js_c mi) pc = .ok (.iaload, 1)) (k : js_J G sh mi emb (pc + 1) lv (.int (js_abv.getD i.toNatClampNeg 0) :: st) σ o) : js_J G sh mi emb pc lv (.int i :: .ref 2000 :: st) σ (js_gd (js_ix i 6) o) := by
  intro r hr p e s m args below meth c H locs ls C hl hP hS
  obtain ⟨hi, hr⟩ := js_gd_of hr
  exact va_ti C.1 C.2.1 C.2.2.2.2.2.2.2.2.2.2.2.1 hS (js_ix_in hi) rfl hd (k r hr p e s m args below meth c H locs ls C hl hP hS)
theorem js_abvlen (hd : decode (js_c mi) pc = .ok (.arraylength, 1)) (k : js_J G sh mi emb (pc + 1) lv (.int 6 :: st) σ o) : js_J G sh mi emb pc lv (.ref 2000 :: st) σ o :=
  fun r hr p e s m args below meth c H locs ls C hl hP hS => va_tlen C.1 C.2.1 C.2.2.2.2.2.2.2.2.2.2.2.1 hS rfl hd (k r hr p e s m args below meth c H locs ls C hl hP hS)
/-! switches: by cases, then the case -/
theorem js_split {P : Prop} {hP : Decidable P} (kt : P → js_J G sh mi emb pc lv st σ o1) (kf : ¬ P → js_J G sh mi emb pc lv st σ o2) : js_J G sh mi emb pc lv st σ (@ite (Option α) P hP o1 o2) := by
  by_cases h : P
  · rw [if_pos h]; exact kt h
  · rw [if_neg h]; exact kf h
theorem js_tabI {x : Int32} (z : Int32) {dflt lo hi off : Int} {offs : Array Int} {len : Nat} (tgt : Nat) (hd : decode (js_c mi) pc = .ok (.tableswitch dflt lo hi offs, len)) (hx : x = z) (h : (decide (¬ z.toInt < lo) && decide (¬ hi < z.toInt) && decide (offs[(z.toInt - lo).toNat]? = some off) && decide ((pc : Int) + off = (tgt : Int))) = true) (k : js_J G sh mi emb tgt lv st σ o) : js_J G sh mi emb pc lv (.int x :: st) σ o := by
  subst hx
  simp only [Bool.and_eq_true, decide_eq_true_eq] at h
  exact fun r hr p e s m args below meth c H locs ls C hl hP hS => lv_tableIn C.1 C.2.1 hd h.1.1.1 h.1.1.2 h.1.2 h.2 (k r hr p e s m args below meth c H locs ls C hl hP hS)
theorem js_tabO {x : Int32} {dflt lo hi : Int} {offs : Array Int} {len : Nat} (tgt : Nat) (hd : decode (js_c mi) pc = .ok (.tableswitch dflt lo hi offs, len)) (hx : x.toInt < lo ∨ hi < x.toInt) (ht : (pc : Int) + dflt = (tgt : Int)) (k : js_J G sh mi emb tgt lv st σ o) : js_J G sh mi emb pc lv (.int x :: st) σ o :=
  fun r hr p e s m args below meth c H locs ls C hl hP hS => lv_tableOut C.1 C.2.1 hd hx ht (k r hr p e s m args below meth c H locs ls C hl hP hS)
theorem js_lcmp {x y : Int64} (hd : decode (js_c mi) pc = .ok (.lcmp, 1)) (k : js_J G sh mi emb (pc + 1) lv (.int (lg_cmp x y) :: st) σ o) : js_J G sh mi emb pc lv (.long y :: .long x :: st) σ o :=
  fun r hr p e s m args below meth c H locs ls C hl hP hS => W.lcmp C.1 C.2.1 hd (k r hr p e s m args below meth c H locs ls C hl hP hS)
end JM
end
