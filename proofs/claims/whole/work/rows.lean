section
-- ===== PART A: goes FIRST, ahead of the names: the tables' words, and 'selects' of the private methods out of them =====
/-- a private method of a class that the tables say can be made, by its rows of tables_1 -/
def lw_okq (q : MethodName × Nat) : Prop := (q.1.cls ≠ "java/lang/invoke/MethodHandle" ∧ q.1.cls ≠ "java/lang/invoke/VarHandle") ∧ Cond.instantiable q.1.cls q.2 ∈ tables_1 ∧ Cond.privateMethod q.1 ∈ tables_1 ∧ Cond.instanceMethod q.1 ∈ tables_1
theorem lw_p0 : lw_okq (⟨"PaperWay$Reader", "splitTokens", "(I)V"⟩, 11) := ⟨⟨by decide +kernel, by decide +kernel⟩, List.mem_of_getElem? (i := 31) (by decide +kernel), List.mem_of_getElem? (i := 633) (by decide +kernel), List.mem_of_getElem? (i := 634) (by decide +kernel)⟩
theorem lw_p1 : lw_okq (⟨"PaperWay$Reader", "nextKind", "()I"⟩, 11) := ⟨⟨by decide +kernel, by decide +kernel⟩, List.mem_of_getElem? (i := 31) (by decide +kernel), List.mem_of_getElem? (i := 640) (by decide +kernel), List.mem_of_getElem? (i := 641) (by decide +kernel)⟩
theorem lw_p2 : lw_okq (⟨"PaperWay$Reader", "nextWord", "()I"⟩, 11) := ⟨⟨by decide +kernel, by decide +kernel⟩, List.mem_of_getElem? (i := 31) (by decide +kernel), List.mem_of_getElem? (i := 647) (by decide +kernel), List.mem_of_getElem? (i := 648) (by decide +kernel)⟩
theorem lw_p3 : lw_okq (⟨"PaperWay$Reader", "isAt", "(ILjava/lang/String;)Z"⟩, 11) := ⟨⟨by decide +kernel, by decide +kernel⟩, List.mem_of_getElem? (i := 31) (by decide +kernel), List.mem_of_getElem? (i := 652) (by decide +kernel), List.mem_of_getElem? (i := 653) (by decide +kernel)⟩
theorem lw_p4 : lw_okq (⟨"PaperWay$Reader", "wordOfFour", "(I)I"⟩, 11) := ⟨⟨by decide +kernel, by decide +kernel⟩, List.mem_of_getElem? (i := 31) (by decide +kernel), List.mem_of_getElem? (i := 705) (by decide +kernel), List.mem_of_getElem? (i := 706) (by decide +kernel)⟩
theorem lw_p5 : lw_okq (⟨"PaperWay$Reader", "nextNumber", "()I"⟩, 11) := ⟨⟨by decide +kernel, by decide +kernel⟩, List.mem_of_getElem? (i := 31) (by decide +kernel), List.mem_of_getElem? (i := 719) (by decide +kernel), List.mem_of_getElem? (i := 720) (by decide +kernel)⟩
theorem lw_p6 : lw_okq (⟨"PaperWay$Reader", "readLine", "(LPaperWay$Way;Z)V"⟩, 11) := ⟨⟨by decide +kernel, by decide +kernel⟩, List.mem_of_getElem? (i := 31) (by decide +kernel), List.mem_of_getElem? (i := 723) (by decide +kernel), List.mem_of_getElem? (i := 724) (by decide +kernel)⟩
theorem lw_p7 : lw_okq (⟨"PaperWay$Reader", "readNumber", "(II)I"⟩, 11) := ⟨⟨by decide +kernel, by decide +kernel⟩, List.mem_of_getElem? (i := 31) (by decide +kernel), List.mem_of_getElem? (i := 727) (by decide +kernel), List.mem_of_getElem? (i := 728) (by decide +kernel)⟩
theorem lw_p8 : lw_okq (⟨"PaperWay$Reader", "want", "(I)V"⟩, 11) := ⟨⟨by decide +kernel, by decide +kernel⟩, List.mem_of_getElem? (i := 31) (by decide +kernel), List.mem_of_getElem? (i := 731) (by decide +kernel), List.mem_of_getElem? (i := 732) (by decide +kernel)⟩
theorem lw_p9 : lw_okq (⟨"PaperWay$Reader", "goOn", "()V"⟩, 11) := ⟨⟨by decide +kernel, by decide +kernel⟩, List.mem_of_getElem? (i := 31) (by decide +kernel), List.mem_of_getElem? (i := 735) (by decide +kernel), List.mem_of_getElem? (i := 736) (by decide +kernel)⟩
theorem lw_p10 : lw_okq (⟨"PaperWay$Reader", "blame", "(I)V"⟩, 11) := ⟨⟨by decide +kernel, by decide +kernel⟩, List.mem_of_getElem? (i := 31) (by decide +kernel), List.mem_of_getElem? (i := 739) (by decide +kernel), List.mem_of_getElem? (i := 740) (by decide +kernel)⟩
theorem lw_p11 : lw_okq (⟨"PaperWay$Reader", "readRoller", "(LPaperWay$Way;)V"⟩, 11) := ⟨⟨by decide +kernel, by decide +kernel⟩, List.mem_of_getElem? (i := 31) (by decide +kernel), List.mem_of_getElem? (i := 743) (by decide +kernel), List.mem_of_getElem? (i := 744) (by decide +kernel)⟩
theorem lw_p12 : lw_okq (⟨"PaperWay$Reader", "readEye", "(LPaperWay$Way;)V"⟩, 11) := ⟨⟨by decide +kernel, by decide +kernel⟩, List.mem_of_getElem? (i := 31) (by decide +kernel), List.mem_of_getElem? (i := 751) (by decide +kernel), List.mem_of_getElem? (i := 752) (by decide +kernel)⟩
theorem lw_p13 : lw_okq (⟨"PaperWay$Reader", "readTurn", "(LPaperWay$Way;)V"⟩, 11) := ⟨⟨by decide +kernel, by decide +kernel⟩, List.mem_of_getElem? (i := 31) (by decide +kernel), List.mem_of_getElem? (i := 759) (by decide +kernel), List.mem_of_getElem? (i := 760) (by decide +kernel)⟩
theorem lw_p14 : lw_okq (⟨"PaperWay$Reader", "readDamp", "(LPaperWay$Way;)V"⟩, 11) := ⟨⟨by decide +kernel, by decide +kernel⟩, List.mem_of_getElem? (i := 31) (by decide +kernel), List.mem_of_getElem? (i := 763) (by decide +kernel), List.mem_of_getElem? (i := 764) (by decide +kernel)⟩
theorem lw_p15 : lw_okq (⟨"PaperWay$Flaws", "cornerAt", "(I)I"⟩, 4) := ⟨⟨by decide +kernel, by decide +kernel⟩, List.mem_of_getElem? (i := 76) (by decide +kernel), List.mem_of_getElem? (i := 804) (by decide +kernel), List.mem_of_getElem? (i := 805) (by decide +kernel)⟩
def lw_privs_1 : List (MethodName × Nat) := [(⟨"PaperWay$Reader", "splitTokens", "(I)V"⟩, 11), (⟨"PaperWay$Reader", "nextKind", "()I"⟩, 11), (⟨"PaperWay$Reader", "nextWord", "()I"⟩, 11), (⟨"PaperWay$Reader", "isAt", "(ILjava/lang/String;)Z"⟩, 11), (⟨"PaperWay$Reader", "wordOfFour", "(I)I"⟩, 11), (⟨"PaperWay$Reader", "nextNumber", "()I"⟩, 11), (⟨"PaperWay$Reader", "readLine", "(LPaperWay$Way;Z)V"⟩, 11), (⟨"PaperWay$Reader", "readNumber", "(II)I"⟩, 11), (⟨"PaperWay$Reader", "want", "(I)V"⟩, 11), (⟨"PaperWay$Reader", "goOn", "()V"⟩, 11), (⟨"PaperWay$Reader", "blame", "(I)V"⟩, 11), (⟨"PaperWay$Reader", "readRoller", "(LPaperWay$Way;)V"⟩, 11), (⟨"PaperWay$Reader", "readEye", "(LPaperWay$Way;)V"⟩, 11), (⟨"PaperWay$Reader", "readTurn", "(LPaperWay$Way;)V"⟩, 11), (⟨"PaperWay$Reader", "readDamp", "(LPaperWay$Way;)V"⟩, 11), (⟨"PaperWay$Flaws", "cornerAt", "(I)I"⟩, 4)]
theorem lw_r1 : ∀ q ∈ lw_privs_1, lw_okq q := List.forall_mem_cons.mpr ⟨lw_p0, List.forall_mem_cons.mpr ⟨lw_p1, List.forall_mem_cons.mpr ⟨lw_p2, List.forall_mem_cons.mpr ⟨lw_p3, List.forall_mem_cons.mpr ⟨lw_p4, List.forall_mem_cons.mpr ⟨lw_p5, List.forall_mem_cons.mpr ⟨lw_p6, List.forall_mem_cons.mpr ⟨lw_p7, List.forall_mem_cons.mpr ⟨lw_p8, List.forall_mem_cons.mpr ⟨lw_p9, List.forall_mem_cons.mpr ⟨lw_p10, List.forall_mem_cons.mpr ⟨lw_p11, List.forall_mem_cons.mpr ⟨lw_p12, List.forall_mem_cons.mpr ⟨lw_p13, List.forall_mem_cons.mpr ⟨lw_p14, List.forall_mem_cons.mpr ⟨lw_p15, fun _ h => absurd h List.not_mem_nil⟩⟩⟩⟩⟩⟩⟩⟩⟩⟩⟩⟩⟩⟩⟩⟩
theorem lw_p16 : lw_okq (⟨"PaperWay$Traffic", "liesFree", "(II)Z"⟩, 17) := ⟨⟨by decide +kernel, by decide +kernel⟩, List.mem_of_getElem? (i := 98) (by decide +kernel), List.mem_of_getElem? (i := 827) (by decide +kernel), List.mem_of_getElem? (i := 828) (by decide +kernel)⟩
theorem lw_p17 : lw_okq (⟨"PaperWay$Traffic", "putOnWay", "(III)V"⟩, 17) := ⟨⟨by decide +kernel, by decide +kernel⟩, List.mem_of_getElem? (i := 98) (by decide +kernel), List.mem_of_getElem? (i := 840) (by decide +kernel), List.mem_of_getElem? (i := 841) (by decide +kernel)⟩
theorem lw_p18 : lw_okq (⟨"PaperWay$Traffic", "move", "(II)V"⟩, 17) := ⟨⟨by decide +kernel, by decide +kernel⟩, List.mem_of_getElem? (i := 98) (by decide +kernel), List.mem_of_getElem? (i := 858) (by decide +kernel), List.mem_of_getElem? (i := 859) (by decide +kernel)⟩
theorem lw_p19 : lw_okq (⟨"PaperWay$Traffic", "waits", "(I)Z"⟩, 17) := ⟨⟨by decide +kernel, by decide +kernel⟩, List.mem_of_getElem? (i := 98) (by decide +kernel), List.mem_of_getElem? (i := 862) (by decide +kernel), List.mem_of_getElem? (i := 863) (by decide +kernel)⟩
theorem lw_p20 : lw_okq (⟨"PaperWay$Traffic", "drive", "(II)V"⟩, 17) := ⟨⟨by decide +kernel, by decide +kernel⟩, List.mem_of_getElem? (i := 98) (by decide +kernel), List.mem_of_getElem? (i := 866) (by decide +kernel), List.mem_of_getElem? (i := 867) (by decide +kernel)⟩
theorem lw_p21 : lw_okq (⟨"PaperWay$Traffic", "enterPocket", "(I)V"⟩, 17) := ⟨⟨by decide +kernel, by decide +kernel⟩, List.mem_of_getElem? (i := 98) (by decide +kernel), List.mem_of_getElem? (i := 879) (by decide +kernel), List.mem_of_getElem? (i := 880) (by decide +kernel)⟩
theorem lw_p22 : lw_okq (⟨"PaperWay$Traffic", "findJam", "()V"⟩, 17) := ⟨⟨by decide +kernel, by decide +kernel⟩, List.mem_of_getElem? (i := 98) (by decide +kernel), List.mem_of_getElem? (i := 883) (by decide +kernel), List.mem_of_getElem? (i := 884) (by decide +kernel)⟩
theorem lw_p23 : lw_okq (⟨"PaperWay$Traffic", "comeBack", "()V"⟩, 17) := ⟨⟨by decide +kernel, by decide +kernel⟩, List.mem_of_getElem? (i := 98) (by decide +kernel), List.mem_of_getElem? (i := 887) (by decide +kernel), List.mem_of_getElem? (i := 888) (by decide +kernel)⟩
theorem lw_p24 : lw_okq (⟨"PaperWay$Watch", "close", "(II)V"⟩, 5) := ⟨⟨by decide +kernel, by decide +kernel⟩, List.mem_of_getElem? (i := 104) (by decide +kernel), List.mem_of_getElem? (i := 899) (by decide +kernel), List.mem_of_getElem? (i := 900) (by decide +kernel)⟩
theorem lw_p25 : lw_okq (⟨"PaperWay$Causes", "explains", "(LPaperWay$Way;III)Z"⟩, 11) := ⟨⟨by decide +kernel, by decide +kernel⟩, List.mem_of_getElem? (i := 275) (by decide +kernel), List.mem_of_getElem? (i := 956) (by decide +kernel), List.mem_of_getElem? (i := 957) (by decide +kernel)⟩
theorem lw_p26 : lw_okq (⟨"PaperWay$Causes", "putFlaw", "(LPaperWay$Way;I)V"⟩, 11) := ⟨⟨by decide +kernel, by decide +kernel⟩, List.mem_of_getElem? (i := 275) (by decide +kernel), List.mem_of_getElem? (i := 961) (by decide +kernel), List.mem_of_getElem? (i := 962) (by decide +kernel)⟩
theorem lw_p27 : lw_okq (⟨"PaperWay$Causes", "isSeenSo", "(LPaperWay$Way;III)Z"⟩, 11) := ⟨⟨by decide +kernel, by decide +kernel⟩, List.mem_of_getElem? (i := 275) (by decide +kernel), List.mem_of_getElem? (i := 970) (by decide +kernel), List.mem_of_getElem? (i := 971) (by decide +kernel)⟩
theorem lw_p28 : lw_okq (⟨"PaperWay$Causes", "allSeenBy", "(LPaperWay$Way;I)Z"⟩, 11) := ⟨⟨by decide +kernel, by decide +kernel⟩, List.mem_of_getElem? (i := 275) (by decide +kernel), List.mem_of_getElem? (i := 975) (by decide +kernel), List.mem_of_getElem? (i := 976) (by decide +kernel)⟩
theorem lw_p29 : lw_okq (⟨"PaperWay$Causes", "isWorthTrying", "(LPaperWay$Way;I)Z"⟩, 11) := ⟨⟨by decide +kernel, by decide +kernel⟩, List.mem_of_getElem? (i := 275) (by decide +kernel), List.mem_of_getElem? (i := 979) (by decide +kernel), List.mem_of_getElem? (i := 980) (by decide +kernel)⟩
theorem lw_p30 : lw_okq (⟨"PaperWay$Planner", "hasPaperForAll", "()Z"⟩, 14) := ⟨⟨by decide +kernel, by decide +kernel⟩, List.mem_of_getElem? (i := 420) (by decide +kernel), List.mem_of_getElem? (i := 1049) (by decide +kernel), List.mem_of_getElem? (i := 1050) (by decide +kernel)⟩
theorem lw_p31 : lw_okq (⟨"PaperWay$Planner", "gives", "(II)Z"⟩, 14) := ⟨⟨by decide +kernel, by decide +kernel⟩, List.mem_of_getElem? (i := 420) (by decide +kernel), List.mem_of_getElem? (i := 1053) (by decide +kernel), List.mem_of_getElem? (i := 1054) (by decide +kernel)⟩
def lw_privs_2 : List (MethodName × Nat) := [(⟨"PaperWay$Traffic", "liesFree", "(II)Z"⟩, 17), (⟨"PaperWay$Traffic", "putOnWay", "(III)V"⟩, 17), (⟨"PaperWay$Traffic", "move", "(II)V"⟩, 17), (⟨"PaperWay$Traffic", "waits", "(I)Z"⟩, 17), (⟨"PaperWay$Traffic", "drive", "(II)V"⟩, 17), (⟨"PaperWay$Traffic", "enterPocket", "(I)V"⟩, 17), (⟨"PaperWay$Traffic", "findJam", "()V"⟩, 17), (⟨"PaperWay$Traffic", "comeBack", "()V"⟩, 17), (⟨"PaperWay$Watch", "close", "(II)V"⟩, 5), (⟨"PaperWay$Causes", "explains", "(LPaperWay$Way;III)Z"⟩, 11), (⟨"PaperWay$Causes", "putFlaw", "(LPaperWay$Way;I)V"⟩, 11), (⟨"PaperWay$Causes", "isSeenSo", "(LPaperWay$Way;III)Z"⟩, 11), (⟨"PaperWay$Causes", "allSeenBy", "(LPaperWay$Way;I)Z"⟩, 11), (⟨"PaperWay$Causes", "isWorthTrying", "(LPaperWay$Way;I)Z"⟩, 11), (⟨"PaperWay$Planner", "hasPaperForAll", "()Z"⟩, 14), (⟨"PaperWay$Planner", "gives", "(II)Z"⟩, 14)]
theorem lw_r2 : ∀ q ∈ lw_privs_2, lw_okq q := List.forall_mem_cons.mpr ⟨lw_p16, List.forall_mem_cons.mpr ⟨lw_p17, List.forall_mem_cons.mpr ⟨lw_p18, List.forall_mem_cons.mpr ⟨lw_p19, List.forall_mem_cons.mpr ⟨lw_p20, List.forall_mem_cons.mpr ⟨lw_p21, List.forall_mem_cons.mpr ⟨lw_p22, List.forall_mem_cons.mpr ⟨lw_p23, List.forall_mem_cons.mpr ⟨lw_p24, List.forall_mem_cons.mpr ⟨lw_p25, List.forall_mem_cons.mpr ⟨lw_p26, List.forall_mem_cons.mpr ⟨lw_p27, List.forall_mem_cons.mpr ⟨lw_p28, List.forall_mem_cons.mpr ⟨lw_p29, List.forall_mem_cons.mpr ⟨lw_p30, List.forall_mem_cons.mpr ⟨lw_p31, fun _ h => absurd h List.not_mem_nil⟩⟩⟩⟩⟩⟩⟩⟩⟩⟩⟩⟩⟩⟩⟩⟩
theorem lw_p32 : lw_okq (⟨"PaperWay$Planner", "meet", "(IIIIIJ)V"⟩, 14) := ⟨⟨by decide +kernel, by decide +kernel⟩, List.mem_of_getElem? (i := 420) (by decide +kernel), List.mem_of_getElem? (i := 1060) (by decide +kernel), List.mem_of_getElem? (i := 1061) (by decide +kernel)⟩
theorem lw_p33 : lw_okq (⟨"PaperWay$Planner", "leave", "(I)V"⟩, 14) := ⟨⟨by decide +kernel, by decide +kernel⟩, List.mem_of_getElem? (i := 420) (by decide +kernel), List.mem_of_getElem? (i := 1065) (by decide +kernel), List.mem_of_getElem? (i := 1066) (by decide +kernel)⟩
theorem lw_p34 : lw_okq (⟨"PaperWay$Planner", "unpack", "(I)V"⟩, 14) := ⟨⟨by decide +kernel, by decide +kernel⟩, List.mem_of_getElem? (i := 420) (by decide +kernel), List.mem_of_getElem? (i := 1070) (by decide +kernel), List.mem_of_getElem? (i := 1071) (by decide +kernel)⟩
theorem lw_p35 : lw_okq (⟨"PaperWay$Planner", "agedPocket", "(II)I"⟩, 14) := ⟨⟨by decide +kernel, by decide +kernel⟩, List.mem_of_getElem? (i := 420) (by decide +kernel), List.mem_of_getElem? (i := 1074) (by decide +kernel), List.mem_of_getElem? (i := 1075) (by decide +kernel)⟩
theorem lw_p36 : lw_okq (⟨"PaperWay$Planner", "takesNext", "()Z"⟩, 14) := ⟨⟨by decide +kernel, by decide +kernel⟩, List.mem_of_getElem? (i := 420) (by decide +kernel), List.mem_of_getElem? (i := 1081) (by decide +kernel), List.mem_of_getElem? (i := 1082) (by decide +kernel)⟩
theorem lw_p37 : lw_okq (⟨"PaperWay$Planner", "feedFromEach", "(IIJ)V"⟩, 14) := ⟨⟨by decide +kernel, by decide +kernel⟩, List.mem_of_getElem? (i := 420) (by decide +kernel), List.mem_of_getElem? (i := 1091) (by decide +kernel), List.mem_of_getElem? (i := 1092) (by decide +kernel)⟩
theorem lw_p38 : lw_okq (⟨"PaperWay$Planner", "traceBack", "()V"⟩, 14) := ⟨⟨by decide +kernel, by decide +kernel⟩, List.mem_of_getElem? (i := 420) (by decide +kernel), List.mem_of_getElem? (i := 1095) (by decide +kernel), List.mem_of_getElem? (i := 1096) (by decide +kernel)⟩
theorem lw_p39 : lw_okq (⟨"PaperWay$Planner", "parentOf", "(I)I"⟩, 14) := ⟨⟨by decide +kernel, by decide +kernel⟩, List.mem_of_getElem? (i := 420) (by decide +kernel), List.mem_of_getElem? (i := 1099) (by decide +kernel), List.mem_of_getElem? (i := 1100) (by decide +kernel)⟩
theorem lw_p40 : lw_okq (⟨"PaperWay$Keeper", "measureRoom", "(LPaperWay$Job;)V"⟩, 5) := ⟨⟨by decide +kernel, by decide +kernel⟩, List.mem_of_getElem? (i := 476) (by decide +kernel), List.mem_of_getElem? (i := 1123) (by decide +kernel), List.mem_of_getElem? (i := 1124) (by decide +kernel)⟩
theorem lw_p41 : lw_okq (⟨"PaperWay$Keeper", "pairInOrder", "(LPaperWay$Job;)V"⟩, 5) := ⟨⟨by decide +kernel, by decide +kernel⟩, List.mem_of_getElem? (i := 476) (by decide +kernel), List.mem_of_getElem? (i := 1132) (by decide +kernel), List.mem_of_getElem? (i := 1133) (by decide +kernel)⟩
theorem lw_p42 : lw_okq (⟨"PaperWay$Rounds", "costOfNewOnes", "(LPaperWay$Job;II)I"⟩, 6) := ⟨⟨by decide +kernel, by decide +kernel⟩, List.mem_of_getElem? (i := 502) (by decide +kernel), List.mem_of_getElem? (i := 1176) (by decide +kernel), List.mem_of_getElem? (i := 1177) (by decide +kernel)⟩
theorem lw_p43 : lw_okq (⟨"PaperWay$Rounds", "isBetter", "(II)Z"⟩, 6) := ⟨⟨by decide +kernel, by decide +kernel⟩, List.mem_of_getElem? (i := 502) (by decide +kernel), List.mem_of_getElem? (i := 1184) (by decide +kernel), List.mem_of_getElem? (i := 1185) (by decide +kernel)⟩
theorem lw_p44 : lw_okq (⟨"PaperWay", "countOfSet", "(I)I"⟩, 13) := ⟨⟨by decide +kernel, by decide +kernel⟩, List.mem_of_getElem? (i := 23) (by decide +kernel), List.mem_of_getElem? (i := 1234) (by decide +kernel), List.mem_of_getElem? (i := 1235) (by decide +kernel)⟩
theorem lw_p45 : lw_okq (⟨"PaperWayModel", "begins", "()V"⟩, 69) := ⟨⟨by decide +kernel, by decide +kernel⟩, List.mem_of_getElem? (i := 1238) (by decide +kernel), List.mem_of_getElem? (i := 1245) (by decide +kernel), List.mem_of_getElem? (i := 1246) (by decide +kernel)⟩
theorem lw_p46 : lw_okq (⟨"PaperWayModel", "becomes", "()V"⟩, 69) := ⟨⟨by decide +kernel, by decide +kernel⟩, List.mem_of_getElem? (i := 1238) (by decide +kernel), List.mem_of_getElem? (i := 1249) (by decide +kernel), List.mem_of_getElem? (i := 1250) (by decide +kernel)⟩
theorem lw_p47 : lw_okq (⟨"PaperWayModel", "setsOut", "()V"⟩, 69) := ⟨⟨by decide +kernel, by decide +kernel⟩, List.mem_of_getElem? (i := 1238) (by decide +kernel), List.mem_of_getElem? (i := 1253) (by decide +kernel), List.mem_of_getElem? (i := 1254) (by decide +kernel)⟩
def lw_privs_3 : List (MethodName × Nat) := [(⟨"PaperWay$Planner", "meet", "(IIIIIJ)V"⟩, 14), (⟨"PaperWay$Planner", "leave", "(I)V"⟩, 14), (⟨"PaperWay$Planner", "unpack", "(I)V"⟩, 14), (⟨"PaperWay$Planner", "agedPocket", "(II)I"⟩, 14), (⟨"PaperWay$Planner", "takesNext", "()Z"⟩, 14), (⟨"PaperWay$Planner", "feedFromEach", "(IIJ)V"⟩, 14), (⟨"PaperWay$Planner", "traceBack", "()V"⟩, 14), (⟨"PaperWay$Planner", "parentOf", "(I)I"⟩, 14), (⟨"PaperWay$Keeper", "measureRoom", "(LPaperWay$Job;)V"⟩, 5), (⟨"PaperWay$Keeper", "pairInOrder", "(LPaperWay$Job;)V"⟩, 5), (⟨"PaperWay$Rounds", "costOfNewOnes", "(LPaperWay$Job;II)I"⟩, 6), (⟨"PaperWay$Rounds", "isBetter", "(II)Z"⟩, 6), (⟨"PaperWay", "countOfSet", "(I)I"⟩, 13), (⟨"PaperWayModel", "begins", "()V"⟩, 69), (⟨"PaperWayModel", "becomes", "()V"⟩, 69), (⟨"PaperWayModel", "setsOut", "()V"⟩, 69)]
theorem lw_r3 : ∀ q ∈ lw_privs_3, lw_okq q := List.forall_mem_cons.mpr ⟨lw_p32, List.forall_mem_cons.mpr ⟨lw_p33, List.forall_mem_cons.mpr ⟨lw_p34, List.forall_mem_cons.mpr ⟨lw_p35, List.forall_mem_cons.mpr ⟨lw_p36, List.forall_mem_cons.mpr ⟨lw_p37, List.forall_mem_cons.mpr ⟨lw_p38, List.forall_mem_cons.mpr ⟨lw_p39, List.forall_mem_cons.mpr ⟨lw_p40, List.forall_mem_cons.mpr ⟨lw_p41, List.forall_mem_cons.mpr ⟨lw_p42, List.forall_mem_cons.mpr ⟨lw_p43, List.forall_mem_cons.mpr ⟨lw_p44, List.forall_mem_cons.mpr ⟨lw_p45, List.forall_mem_cons.mpr ⟨lw_p46, List.forall_mem_cons.mpr ⟨lw_p47, fun _ h => absurd h List.not_mem_nil⟩⟩⟩⟩⟩⟩⟩⟩⟩⟩⟩⟩⟩⟩⟩⟩
theorem lw_p48 : lw_okq (⟨"PaperWayModel", "next", "()V"⟩, 69) := ⟨⟨by decide +kernel, by decide +kernel⟩, List.mem_of_getElem? (i := 1238) (by decide +kernel), List.mem_of_getElem? (i := 1476) (by decide +kernel), List.mem_of_getElem? (i := 1477) (by decide +kernel)⟩
theorem lw_p49 : lw_okq (⟨"PaperWayModel", "see", "(I)I"⟩, 69) := ⟨⟨by decide +kernel, by decide +kernel⟩, List.mem_of_getElem? (i := 1238) (by decide +kernel), List.mem_of_getElem? (i := 1480) (by decide +kernel), List.mem_of_getElem? (i := 1481) (by decide +kernel)⟩
theorem lw_p50 : lw_okq (⟨"PaperWayModel", "keyAt", "()I"⟩, 69) := ⟨⟨by decide +kernel, by decide +kernel⟩, List.mem_of_getElem? (i := 1238) (by decide +kernel), List.mem_of_getElem? (i := 1487) (by decide +kernel), List.mem_of_getElem? (i := 1488) (by decide +kernel)⟩
theorem lw_p51 : lw_okq (⟨"PaperWayModel", "is", "(I)Z"⟩, 69) := ⟨⟨by decide +kernel, by decide +kernel⟩, List.mem_of_getElem? (i := 1238) (by decide +kernel), List.mem_of_getElem? (i := 1497) (by decide +kernel), List.mem_of_getElem? (i := 1498) (by decide +kernel)⟩
theorem lw_p52 : lw_okq (⟨"PaperWayModel", "reads", "(II)I"⟩, 69) := ⟨⟨by decide +kernel, by decide +kernel⟩, List.mem_of_getElem? (i := 1238) (by decide +kernel), List.mem_of_getElem? (i := 1501) (by decide +kernel), List.mem_of_getElem? (i := 1502) (by decide +kernel)⟩
theorem lw_p53 : lw_okq (⟨"PaperWayModel", "fails", "(I)V"⟩, 69) := ⟨⟨by decide +kernel, by decide +kernel⟩, List.mem_of_getElem? (i := 1238) (by decide +kernel), List.mem_of_getElem? (i := 1505) (by decide +kernel), List.mem_of_getElem? (i := 1506) (by decide +kernel)⟩
theorem lw_p54 : lw_okq (⟨"PaperWayModel", "needs", "(I)V"⟩, 69) := ⟨⟨by decide +kernel, by decide +kernel⟩, List.mem_of_getElem? (i := 1238) (by decide +kernel), List.mem_of_getElem? (i := 1509) (by decide +kernel), List.mem_of_getElem? (i := 1510) (by decide +kernel)⟩
theorem lw_p55 : lw_okq (⟨"PaperWayModel", "readsRoller", "()V"⟩, 69) := ⟨⟨by decide +kernel, by decide +kernel⟩, List.mem_of_getElem? (i := 1238) (by decide +kernel), List.mem_of_getElem? (i := 1513) (by decide +kernel), List.mem_of_getElem? (i := 1514) (by decide +kernel)⟩
theorem lw_p56 : lw_okq (⟨"PaperWayModel", "readsEye", "()V"⟩, 69) := ⟨⟨by decide +kernel, by decide +kernel⟩, List.mem_of_getElem? (i := 1238) (by decide +kernel), List.mem_of_getElem? (i := 1517) (by decide +kernel), List.mem_of_getElem? (i := 1518) (by decide +kernel)⟩
theorem lw_p57 : lw_okq (⟨"PaperWayModel", "readsTurn", "()V"⟩, 69) := ⟨⟨by decide +kernel, by decide +kernel⟩, List.mem_of_getElem? (i := 1238) (by decide +kernel), List.mem_of_getElem? (i := 1521) (by decide +kernel), List.mem_of_getElem? (i := 1522) (by decide +kernel)⟩
theorem lw_p58 : lw_okq (⟨"PaperWayModel", "readsDamp", "()V"⟩, 69) := ⟨⟨by decide +kernel, by decide +kernel⟩, List.mem_of_getElem? (i := 1238) (by decide +kernel), List.mem_of_getElem? (i := 1525) (by decide +kernel), List.mem_of_getElem? (i := 1526) (by decide +kernel)⟩
theorem lw_p59 : lw_okq (⟨"PaperWayModel", "isRoller", "(I)Z"⟩, 69) := ⟨⟨by decide +kernel, by decide +kernel⟩, List.mem_of_getElem? (i := 1238) (by decide +kernel), List.mem_of_getElem? (i := 1537) (by decide +kernel), List.mem_of_getElem? (i := 1538) (by decide +kernel)⟩
theorem lw_p60 : lw_okq (⟨"PaperWayModel", "leaves", "(I)Z"⟩, 69) := ⟨⟨by decide +kernel, by decide +kernel⟩, List.mem_of_getElem? (i := 1238) (by decide +kernel), List.mem_of_getElem? (i := 1548) (by decide +kernel), List.mem_of_getElem? (i := 1549) (by decide +kernel)⟩
theorem lw_p61 : lw_okq (⟨"PaperWayModel", "cornerOf", "(I)I"⟩, 69) := ⟨⟨by decide +kernel, by decide +kernel⟩, List.mem_of_getElem? (i := 1238) (by decide +kernel), List.mem_of_getElem? (i := 1552) (by decide +kernel), List.mem_of_getElem? (i := 1553) (by decide +kernel)⟩
theorem lw_p62 : lw_okq (⟨"PaperWayModel", "isOver", "(II)Z"⟩, 69) := ⟨⟨by decide +kernel, by decide +kernel⟩, List.mem_of_getElem? (i := 1238) (by decide +kernel), List.mem_of_getElem? (i := 1562) (by decide +kernel), List.mem_of_getElem? (i := 1563) (by decide +kernel)⟩
theorem lw_p63 : lw_okq (⟨"PaperWayModel", "isGoing", "(I)Z"⟩, 69) := ⟨⟨by decide +kernel, by decide +kernel⟩, List.mem_of_getElem? (i := 1238) (by decide +kernel), List.mem_of_getElem? (i := 1566) (by decide +kernel), List.mem_of_getElem? (i := 1567) (by decide +kernel)⟩
def lw_privs_4 : List (MethodName × Nat) := [(⟨"PaperWayModel", "next", "()V"⟩, 69), (⟨"PaperWayModel", "see", "(I)I"⟩, 69), (⟨"PaperWayModel", "keyAt", "()I"⟩, 69), (⟨"PaperWayModel", "is", "(I)Z"⟩, 69), (⟨"PaperWayModel", "reads", "(II)I"⟩, 69), (⟨"PaperWayModel", "fails", "(I)V"⟩, 69), (⟨"PaperWayModel", "needs", "(I)V"⟩, 69), (⟨"PaperWayModel", "readsRoller", "()V"⟩, 69), (⟨"PaperWayModel", "readsEye", "()V"⟩, 69), (⟨"PaperWayModel", "readsTurn", "()V"⟩, 69), (⟨"PaperWayModel", "readsDamp", "()V"⟩, 69), (⟨"PaperWayModel", "isRoller", "(I)Z"⟩, 69), (⟨"PaperWayModel", "leaves", "(I)Z"⟩, 69), (⟨"PaperWayModel", "cornerOf", "(I)I"⟩, 69), (⟨"PaperWayModel", "isOver", "(II)Z"⟩, 69), (⟨"PaperWayModel", "isGoing", "(I)Z"⟩, 69)]
theorem lw_r4 : ∀ q ∈ lw_privs_4, lw_okq q := List.forall_mem_cons.mpr ⟨lw_p48, List.forall_mem_cons.mpr ⟨lw_p49, List.forall_mem_cons.mpr ⟨lw_p50, List.forall_mem_cons.mpr ⟨lw_p51, List.forall_mem_cons.mpr ⟨lw_p52, List.forall_mem_cons.mpr ⟨lw_p53, List.forall_mem_cons.mpr ⟨lw_p54, List.forall_mem_cons.mpr ⟨lw_p55, List.forall_mem_cons.mpr ⟨lw_p56, List.forall_mem_cons.mpr ⟨lw_p57, List.forall_mem_cons.mpr ⟨lw_p58, List.forall_mem_cons.mpr ⟨lw_p59, List.forall_mem_cons.mpr ⟨lw_p60, List.forall_mem_cons.mpr ⟨lw_p61, List.forall_mem_cons.mpr ⟨lw_p62, List.forall_mem_cons.mpr ⟨lw_p63, fun _ h => absurd h List.not_mem_nil⟩⟩⟩⟩⟩⟩⟩⟩⟩⟩⟩⟩⟩⟩⟩⟩
theorem lw_p64 : lw_okq (⟨"PaperWayModel", "tail", "(I)I"⟩, 69) := ⟨⟨by decide +kernel, by decide +kernel⟩, List.mem_of_getElem? (i := 1238) (by decide +kernel), List.mem_of_getElem? (i := 1570) (by decide +kernel), List.mem_of_getElem? (i := 1571) (by decide +kernel)⟩
theorem lw_p65 : lw_okq (⟨"PaperWayModel", "ticks", "()V"⟩, 69) := ⟨⟨by decide +kernel, by decide +kernel⟩, List.mem_of_getElem? (i := 1238) (by decide +kernel), List.mem_of_getElem? (i := 1579) (by decide +kernel), List.mem_of_getElem? (i := 1580) (by decide +kernel)⟩
theorem lw_p66 : lw_okq (⟨"PaperWayModel", "goes", "(I)V"⟩, 69) := ⟨⟨by decide +kernel, by decide +kernel⟩, List.mem_of_getElem? (i := 1238) (by decide +kernel), List.mem_of_getElem? (i := 1583) (by decide +kernel), List.mem_of_getElem? (i := 1584) (by decide +kernel)⟩
theorem lw_p67 : lw_okq (⟨"PaperWayModel", "waits", "(I)Z"⟩, 69) := ⟨⟨by decide +kernel, by decide +kernel⟩, List.mem_of_getElem? (i := 1238) (by decide +kernel), List.mem_of_getElem? (i := 1587) (by decide +kernel), List.mem_of_getElem? (i := 1588) (by decide +kernel)⟩
theorem lw_p68 : lw_okq (⟨"PaperWayModel", "waitsNow", "(I)V"⟩, 69) := ⟨⟨by decide +kernel, by decide +kernel⟩, List.mem_of_getElem? (i := 1238) (by decide +kernel), List.mem_of_getElem? (i := 1591) (by decide +kernel), List.mem_of_getElem? (i := 1592) (by decide +kernel)⟩
theorem lw_p69 : lw_okq (⟨"PaperWayModel", "inPocket", "()I"⟩, 69) := ⟨⟨by decide +kernel, by decide +kernel⟩, List.mem_of_getElem? (i := 1238) (by decide +kernel), List.mem_of_getElem? (i := 1595) (by decide +kernel), List.mem_of_getElem? (i := 1596) (by decide +kernel)⟩
theorem lw_p70 : lw_okq (⟨"PaperWayModel", "drive", "(III[I[I)I"⟩, 69) := ⟨⟨by decide +kernel, by decide +kernel⟩, List.mem_of_getElem? (i := 1238) (by decide +kernel), List.mem_of_getElem? (i := 1599) (by decide +kernel), List.mem_of_getElem? (i := 1600) (by decide +kernel)⟩
theorem lw_p71 : lw_okq (⟨"PaperWayModel", "ahead", "(I)I"⟩, 69) := ⟨⟨by decide +kernel, by decide +kernel⟩, List.mem_of_getElem? (i := 1238) (by decide +kernel), List.mem_of_getElem? (i := 1606) (by decide +kernel), List.mem_of_getElem? (i := 1607) (by decide +kernel)⟩
theorem lw_p72 : lw_okq (⟨"PaperWayModel", "comesBack", "()V"⟩, 69) := ⟨⟨by decide +kernel, by decide +kernel⟩, List.mem_of_getElem? (i := 1238) (by decide +kernel), List.mem_of_getElem? (i := 1610) (by decide +kernel), List.mem_of_getElem? (i := 1611) (by decide +kernel)⟩
theorem lw_p73 : lw_okq (⟨"PaperWayModel", "looks", "()V"⟩, 69) := ⟨⟨by decide +kernel, by decide +kernel⟩, List.mem_of_getElem? (i := 1238) (by decide +kernel), List.mem_of_getElem? (i := 1614) (by decide +kernel), List.mem_of_getElem? (i := 1615) (by decide +kernel)⟩
theorem lw_p74 : lw_okq (⟨"PaperWayModel", "isEye", "(I)Z"⟩, 69) := ⟨⟨by decide +kernel, by decide +kernel⟩, List.mem_of_getElem? (i := 1238) (by decide +kernel), List.mem_of_getElem? (i := 1630) (by decide +kernel), List.mem_of_getElem? (i := 1631) (by decide +kernel)⟩
theorem lw_p75 : lw_okq (⟨"PaperWayModel", "observed", "()I"⟩, 69) := ⟨⟨by decide +kernel, by decide +kernel⟩, List.mem_of_getElem? (i := 1238) (by decide +kernel), List.mem_of_getElem? (i := 1647) (by decide +kernel), List.mem_of_getElem? (i := 1648) (by decide +kernel)⟩
theorem lw_p76 : lw_okq (⟨"PaperWayModel", "explains", "(III)Z"⟩, 69) := ⟨⟨by decide +kernel, by decide +kernel⟩, List.mem_of_getElem? (i := 1238) (by decide +kernel), List.mem_of_getElem? (i := 1655) (by decide +kernel), List.mem_of_getElem? (i := 1656) (by decide +kernel)⟩
theorem lw_p77 : lw_okq (⟨"PaperWayModel", "takesCause", "(I)V"⟩, 69) := ⟨⟨by decide +kernel, by decide +kernel⟩, List.mem_of_getElem? (i := 1238) (by decide +kernel), List.mem_of_getElem? (i := 1659) (by decide +kernel), List.mem_of_getElem? (i := 1660) (by decide +kernel)⟩
theorem lw_p78 : lw_okq (⟨"PaperWayModel", "looksAlone", "(I)V"⟩, 69) := ⟨⟨by decide +kernel, by decide +kernel⟩, List.mem_of_getElem? (i := 1238) (by decide +kernel), List.mem_of_getElem? (i := 1663) (by decide +kernel), List.mem_of_getElem? (i := 1664) (by decide +kernel)⟩
theorem lw_p79 : lw_okq (⟨"PaperWayModel", "goesAlone", "(II)V"⟩, 69) := ⟨⟨by decide +kernel, by decide +kernel⟩, List.mem_of_getElem? (i := 1238) (by decide +kernel), List.mem_of_getElem? (i := 1667) (by decide +kernel), List.mem_of_getElem? (i := 1668) (by decide +kernel)⟩
def lw_privs_5 : List (MethodName × Nat) := [(⟨"PaperWayModel", "tail", "(I)I"⟩, 69), (⟨"PaperWayModel", "ticks", "()V"⟩, 69), (⟨"PaperWayModel", "goes", "(I)V"⟩, 69), (⟨"PaperWayModel", "waits", "(I)Z"⟩, 69), (⟨"PaperWayModel", "waitsNow", "(I)V"⟩, 69), (⟨"PaperWayModel", "inPocket", "()I"⟩, 69), (⟨"PaperWayModel", "drive", "(III[I[I)I"⟩, 69), (⟨"PaperWayModel", "ahead", "(I)I"⟩, 69), (⟨"PaperWayModel", "comesBack", "()V"⟩, 69), (⟨"PaperWayModel", "looks", "()V"⟩, 69), (⟨"PaperWayModel", "isEye", "(I)Z"⟩, 69), (⟨"PaperWayModel", "observed", "()I"⟩, 69), (⟨"PaperWayModel", "explains", "(III)Z"⟩, 69), (⟨"PaperWayModel", "takesCause", "(I)V"⟩, 69), (⟨"PaperWayModel", "looksAlone", "(I)V"⟩, 69), (⟨"PaperWayModel", "goesAlone", "(II)V"⟩, 69)]
theorem lw_r5 : ∀ q ∈ lw_privs_5, lw_okq q := List.forall_mem_cons.mpr ⟨lw_p64, List.forall_mem_cons.mpr ⟨lw_p65, List.forall_mem_cons.mpr ⟨lw_p66, List.forall_mem_cons.mpr ⟨lw_p67, List.forall_mem_cons.mpr ⟨lw_p68, List.forall_mem_cons.mpr ⟨lw_p69, List.forall_mem_cons.mpr ⟨lw_p70, List.forall_mem_cons.mpr ⟨lw_p71, List.forall_mem_cons.mpr ⟨lw_p72, List.forall_mem_cons.mpr ⟨lw_p73, List.forall_mem_cons.mpr ⟨lw_p74, List.forall_mem_cons.mpr ⟨lw_p75, List.forall_mem_cons.mpr ⟨lw_p76, List.forall_mem_cons.mpr ⟨lw_p77, List.forall_mem_cons.mpr ⟨lw_p78, List.forall_mem_cons.mpr ⟨lw_p79, fun _ h => absurd h List.not_mem_nil⟩⟩⟩⟩⟩⟩⟩⟩⟩⟩⟩⟩⟩⟩⟩⟩
theorem lw_p80 : lw_okq (⟨"PaperWayModel", "isCause", "(I)Z"⟩, 69) := ⟨⟨by decide +kernel, by decide +kernel⟩, List.mem_of_getElem? (i := 1238) (by decide +kernel), List.mem_of_getElem? (i := 1671) (by decide +kernel), List.mem_of_getElem? (i := 1672) (by decide +kernel)⟩
theorem lw_p81 : lw_okq (⟨"PaperWayModel", "isOutAlone", "(II)Z"⟩, 69) := ⟨⟨by decide +kernel, by decide +kernel⟩, List.mem_of_getElem? (i := 1238) (by decide +kernel), List.mem_of_getElem? (i := 1680) (by decide +kernel), List.mem_of_getElem? (i := 1681) (by decide +kernel)⟩
theorem lw_p82 : lw_okq (⟨"PaperWayModel", "creaseOf", "(III)I"⟩, 69) := ⟨⟨by decide +kernel, by decide +kernel⟩, List.mem_of_getElem? (i := 1238) (by decide +kernel), List.mem_of_getElem? (i := 1689) (by decide +kernel), List.mem_of_getElem? (i := 1690) (by decide +kernel)⟩
theorem lw_p83 : lw_okq (⟨"PaperWayModel", "finds", "()Z"⟩, 69) := ⟨⟨by decide +kernel, by decide +kernel⟩, List.mem_of_getElem? (i := 1238) (by decide +kernel), List.mem_of_getElem? (i := 1716) (by decide +kernel), List.mem_of_getElem? (i := 1717) (by decide +kernel)⟩
theorem lw_p84 : lw_okq (⟨"PaperWayModel", "adds", "(III)V"⟩, 69) := ⟨⟨by decide +kernel, by decide +kernel⟩, List.mem_of_getElem? (i := 1238) (by decide +kernel), List.mem_of_getElem? (i := 1723) (by decide +kernel), List.mem_of_getElem? (i := 1724) (by decide +kernel)⟩
theorem lw_p85 : lw_okq (⟨"PaperWayModel", "isOut", "(I)Z"⟩, 69) := ⟨⟨by decide +kernel, by decide +kernel⟩, List.mem_of_getElem? (i := 1238) (by decide +kernel), List.mem_of_getElem? (i := 1727) (by decide +kernel), List.mem_of_getElem? (i := 1728) (by decide +kernel)⟩
theorem lw_p86 : lw_okq (⟨"PaperWayModel", "opens", "(I)V"⟩, 69) := ⟨⟨by decide +kernel, by decide +kernel⟩, List.mem_of_getElem? (i := 1238) (by decide +kernel), List.mem_of_getElem? (i := 1731) (by decide +kernel), List.mem_of_getElem? (i := 1732) (by decide +kernel)⟩
theorem lw_p87 : lw_okq (⟨"PaperWayModel", "lain", "(I)I"⟩, 69) := ⟨⟨by decide +kernel, by decide +kernel⟩, List.mem_of_getElem? (i := 1238) (by decide +kernel), List.mem_of_getElem? (i := 1735) (by decide +kernel), List.mem_of_getElem? (i := 1736) (by decide +kernel)⟩
theorem lw_p88 : lw_okq (⟨"PaperWayModel", "pairs", "()V"⟩, 69) := ⟨⟨by decide +kernel, by decide +kernel⟩, List.mem_of_getElem? (i := 1238) (by decide +kernel), List.mem_of_getElem? (i := 1756) (by decide +kernel), List.mem_of_getElem? (i := 1757) (by decide +kernel)⟩
theorem lw_p89 : lw_okq (⟨"PaperWayModel", "wanted", "()I"⟩, 69) := ⟨⟨by decide +kernel, by decide +kernel⟩, List.mem_of_getElem? (i := 1238) (by decide +kernel), List.mem_of_getElem? (i := 1760) (by decide +kernel), List.mem_of_getElem? (i := 1761) (by decide +kernel)⟩
theorem lw_p90 : lw_okq (⟨"PaperWayModel", "mostAt", "(II)I"⟩, 69) := ⟨⟨by decide +kernel, by decide +kernel⟩, List.mem_of_getElem? (i := 1238) (by decide +kernel), List.mem_of_getElem? (i := 1764) (by decide +kernel), List.mem_of_getElem? (i := 1765) (by decide +kernel)⟩
theorem lw_p91 : lw_okq (⟨"PaperWayModel", "serves", "(III)Z"⟩, 69) := ⟨⟨by decide +kernel, by decide +kernel⟩, List.mem_of_getElem? (i := 1238) (by decide +kernel), List.mem_of_getElem? (i := 1792) (by decide +kernel), List.mem_of_getElem? (i := 1793) (by decide +kernel)⟩
theorem lw_p92 : lw_okq (⟨"PaperWayModel", "renewals", "(III)I"⟩, 69) := ⟨⟨by decide +kernel, by decide +kernel⟩, List.mem_of_getElem? (i := 1238) (by decide +kernel), List.mem_of_getElem? (i := 1796) (by decide +kernel), List.mem_of_getElem? (i := 1797) (by decide +kernel)⟩
def lw_privs_6 : List (MethodName × Nat) := [(⟨"PaperWayModel", "isCause", "(I)Z"⟩, 69), (⟨"PaperWayModel", "isOutAlone", "(II)Z"⟩, 69), (⟨"PaperWayModel", "creaseOf", "(III)I"⟩, 69), (⟨"PaperWayModel", "finds", "()Z"⟩, 69), (⟨"PaperWayModel", "adds", "(III)V"⟩, 69), (⟨"PaperWayModel", "isOut", "(I)Z"⟩, 69), (⟨"PaperWayModel", "opens", "(I)V"⟩, 69), (⟨"PaperWayModel", "lain", "(I)I"⟩, 69), (⟨"PaperWayModel", "pairs", "()V"⟩, 69), (⟨"PaperWayModel", "wanted", "()I"⟩, 69), (⟨"PaperWayModel", "mostAt", "(II)I"⟩, 69), (⟨"PaperWayModel", "serves", "(III)Z"⟩, 69), (⟨"PaperWayModel", "renewals", "(III)I"⟩, 69)]
theorem lw_r6 : ∀ q ∈ lw_privs_6, lw_okq q := List.forall_mem_cons.mpr ⟨lw_p80, List.forall_mem_cons.mpr ⟨lw_p81, List.forall_mem_cons.mpr ⟨lw_p82, List.forall_mem_cons.mpr ⟨lw_p83, List.forall_mem_cons.mpr ⟨lw_p84, List.forall_mem_cons.mpr ⟨lw_p85, List.forall_mem_cons.mpr ⟨lw_p86, List.forall_mem_cons.mpr ⟨lw_p87, List.forall_mem_cons.mpr ⟨lw_p88, List.forall_mem_cons.mpr ⟨lw_p89, List.forall_mem_cons.mpr ⟨lw_p90, List.forall_mem_cons.mpr ⟨lw_p91, List.forall_mem_cons.mpr ⟨lw_p92, fun _ h => absurd h List.not_mem_nil⟩⟩⟩⟩⟩⟩⟩⟩⟩⟩⟩⟩⟩
def lw_privs : List (MethodName × Nat) := lw_privs_1 ++ (lw_privs_2 ++ (lw_privs_3 ++ (lw_privs_4 ++ (lw_privs_5 ++ (lw_privs_6)))))
def lw_tbl : List Cond := k2_sels lw_privs ++ tables_1
theorem lw_privs_ok : ∀ q ∈ lw_privs, lw_okq q := by
  show ∀ q ∈ lw_privs_1 ++ (lw_privs_2 ++ (lw_privs_3 ++ (lw_privs_4 ++ (lw_privs_5 ++ (lw_privs_6))))), lw_okq q
  exact List.forall_mem_append.mpr ⟨lw_r1, List.forall_mem_append.mpr ⟨lw_r2, List.forall_mem_append.mpr ⟨lw_r3, List.forall_mem_append.mpr ⟨lw_r4, List.forall_mem_append.mpr ⟨lw_r5, lw_r6⟩⟩⟩⟩⟩
-- ===== end of PART A; then your names; then what follows =====
end
section
/-- the array class over arrays of t is there -/
def zAOA (t : FieldType) (U : State) : Prop := (Cond.arrayOver (.array t)).before #[] U = true
theorem zAOA.use {t : FieldType} {A : Array Value} {U : State} (h : zAOA t U) : (Cond.arrayOver (.array t)).before A U = true := h
theorem zAOA.of {t : FieldType} {A : Array Value} {U : State} (h : (Cond.arrayOver (.array t)).before A U = true) : zAOA t U := h
theorem zAOA.warm {t : FieldType} {s U : State} (hW : s.WarmedH U.vm) (h : zAOA t s) : zAOA t U := by
  have h1 : (Cond.arrayOver (.array t)).before #[] (s.setVm U.vm) = true := Cond.before_shiftedFace (State.Shifted.of_warmed hW) _ rfl h
  exact h1
/-! ===== BEGIN words of one list among another's, by their places ===== -/
theorem goodIn_r {big : List Cond} (ws : List Cond) (ps : List Nat) (hp : ws = ps.filterMap (fun i => big[i]?)) (h : ws.all goodWord = true) : GoodIn big ws := by
  intro w hw
  have h1 := List.all_eq_true.mp h w hw
  rw [hp] at hw
  obtain ⟨i, -, hi⟩ := List.mem_filterMap.mp hw
  have hm : w ∈ big := by first | exact List.mem_of_getElem? hi | exact List.getElem?_mem hi
  exact ⟨hm, good_of_word h1⟩
theorem goodIn_app {big a b : List Cond} (ha : GoodIn big a) (hb : GoodIn big b) : GoodIn big (a ++ b) := fun w h => (List.mem_append.mp h).elim (ha w) (hb w)
theorem goodIn_ca {big a b : List Cond} {c : Cond} (ha : GoodIn big (c :: a)) (hb : GoodIn big b) : GoodIn big (c :: (a ++ b)) := fun w h => (List.mem_cons.mp h).elim (fun e => ha w (List.mem_cons.mpr (Or.inl e))) (fun h => (List.mem_append.mp h).elim (fun h => ha w (List.mem_cons.mpr (Or.inr h))) (hb w))
theorem goodIn_sub {big ws : List Cond} (hm : ∀ w ∈ ws, w ∈ big) (h : ws.all goodWord = true) : GoodIn big ws := fun w hw => ⟨hm w hw, good_of_word (List.all_eq_true.mp h w hw)⟩
/-! ===== END ===== -/

/-! ===== BEGIN new T[n][m]: the outer array a place, the inner ones among the pooled ===== -/
/-- f, but v at every address of l -/
def vr_up {α : Type} (f : Nat → α) (l : List Nat) (v : α) : Nat → α := fun a => if a ∈ l then v else f a
theorem vr_up_in {α : Type} {f : Nat → α} {l : List Nat} {v : α} {a : Nat} (h : a ∈ l) : vr_up f l v a = v := if_pos h
theorem vr_up_ne {α : Type} {f : Nat → α} {l : List Nat} {v : α} {a : Nat} (h : a ∉ l) : vr_up f l v a = f a := if_neg h
theorem vr_rows {L l : List Nat} {f : Nat → va_E} {e : va_E} (h : ∀ a, a ∈ l → a ∉ L) : va_pl L f ++ l.map (fun a => (a, e)) = va_pl (L ++ l) (vr_up f l e) := by
  unfold va_pl
  rw [List.map_append]
  congr 1
  · apply List.map_congr_left
    intro a ha
    rw [vr_up_ne (fun q => h a q ha)]
  · apply List.map_congr_left
    intro a ha
    rw [vr_up_in ha]
theorem vr_lay {X rows : va_W} {x : Nat × va_E} {pl : va_W} {D : va_G} {cl : List vw_C} {H : Heap} (hP : va_P D cl (((X ++ pl) ++ [x]) ++ rows) H) : va_P D cl ((X ++ [x]) ++ (pl ++ rows)) H := by
  rw [List.append_assoc (X ++ pl)] at hP
  have h := va_P.swap hP
  rw [← List.append_assoc X] at h
  have h2 := va_P.swap h
  rw [List.append_assoc (X ++ [x])] at h2
  exact h2
theorem vr_layD {X rows : va_W} {x : Nat × va_E} {pl : va_W} {A : Nat → Prop} (hD : va_D A (((X ++ pl) ++ [x]) ++ rows)) : va_D A ((X ++ [x]) ++ (pl ++ rows)) := by
  rw [List.append_assoc (X ++ pl)] at hD
  have h := va_D.swap hD
  rw [← List.append_assoc X] at h
  have h2 := va_D.swap h
  rw [List.append_assoc (X ++ [x])] at h2
  exact h2
theorem vr_outer (c : ClassId) (N h0 : Nat) : ∀ i : Nat, Jvm.Free.Multi.outerC c N h0 i = arrV c N (fun j => va_rf (if j < i then some (h0 + 1 + j) else none))
  | 0 => by
    show ({ cls := c, slots := Array.replicate N .null, vm := .none } : Cell) = _
    rw [arrV_new]
    refine congrArg (arrV c N) (funext fun j => ?_)
    simp [va_rf]
  | i + 1 => by
    show (Jvm.Free.Multi.outerC c N h0 i).setSlot i (.ref (h0 + 1 + i)) = _
    rw [vr_outer c N h0 i, arrV_store]
    refine congrArg (arrV c N) (funext fun j => ?_)
    by_cases e : j = i
    · subst e
      simp [updV, va_rf]
    · by_cases h : j < i
      · simp [updV, e, h, Nat.lt_succ_of_lt h]
      · simp [updV, e, h, show ¬ j < i + 1 by omega]
section VGM
variable {p : Program} {l : Launch} {e : Env} {R : Room} {s : State} {m : MethodId} {args : Array Value} {below : List Frame} {meth : Method} {c : Code} {H : Heap} {locs : List Loc} {cells slots : Nat} {Q : State → Prop}
variable {cc : ByteArray} {pc : Nat} {ls : Array Slot} {rest : List Value} {D : va_G} {cl : List vw_C} {A : Nat → Prop} {a : Nat} {tys : List (ClassId × FieldType)} {ws : va_W} {H0 : Heap}
theorem va_mna {X : va_W} {L : List Nat} {f : Nat → va_E} {cc : ByteArray} (hexec : p.tables.exec = Jvm.exec) (hb : c.code = cc) {own : String} {index : Nat} {ty : FieldType} {cy : ClassId} (hown : s.vm.findClass own = some m.cls) (hclink : (Cond.classLink own index ("[" ++ (FieldType.array ty).toString)).before args s = true) (hover : zAOA ty s) (harr : (Cond.arrayClass ty).before args s = true) (hcy : s.vm.findClass (FieldType.array ty).toString = some cy)
    (hK : va_K D cl tys s) (hP : va_P D cl (X ++ va_pl L f) H) (hD : va_D A (X ++ va_pl L f)) (hS : va_S A H0 H locs) (hA : ∀ q, H0.size ≤ q → A q) {n k : Int32} {N' K' : Nat} {z : vp_A} (hn : ¬ n < 0) (hk : ¬ k < 0) (hN : n.toNatClampNeg = N') (hM : k.toNatClampNeg = K')
    (hb1 : N' * 4 ≤ 536870912) (hb2 : K' * componentBytes ty ≤ 536870912) (hb3 : K' ≤ 536870912) (hdf : fits ty (defaultValue ty) = true) (hdd : (defaultValue ty).isDefault = true) (hcells : cells + (1 + N') ≤ R.cells) (hslots : slots + (N' + N' * K') ≤ R.slots) (hz : ∀ c : ClassId, Jvm.Free.Multi.innerC c K' (defaultValue ty) = vp_cell c z) (hdg : decode cc pc = .ok (.multianewarray index 2, 4))
    (kk : ∀ (q : Nat) (r : Nat → Nat) (cA : ClassId) (H1 : Heap), (∀ i j : Nat, i < N' → j < N' → r i = r j → i = j) → (∀ i : Nat, i < N' → r i ∉ L) → va_K D cl (tys ++ [(cA, .array ty)]) s →
      va_P D cl ((X ++ [(q, .inl (cA, N', .inr (.inr (.inr (.inr (fun i => if i < N' then some (r i) else none))))))]) ++ va_pl (L ++ (List.range N').map r) (vr_up f ((List.range N').map r) (.inl (cy, z)))) H1 → va_D A ((X ++ [(q, .inl (cA, N', .inr (.inr (.inr (.inr (fun i => if i < N' then some (r i) else none))))))]) ++ va_pl (L ++ (List.range N').map r) (vr_up f ((List.range N').map r) (.inl (cy, z)))) → va_S A H0 H1 locs →
      W p l e R s m args below meth c H1 locs (cells + 1 + N') (slots + N' + N' * K') Q (F0 m (pc + 4) ls (.ref q :: rest))) : W p l e R s m args below meth c H locs cells slots Q (F0 m pc ls (.int k :: .int n :: rest)) := by
  subst hN
  subst hM
  intro T hT Xs
  obtain ⟨vm₁, cA, comp, -, fA, fC, hO, -, X', step⟩ := Xs.multianewarray2F hexec hown hclink (zAOA.use hover) harr (g := F0 m pc ls (.int k :: .int n :: rest)) rfl (by rw [hb]; exact hdg) rfl hn hk hb1 hb2 hb3 hdf hdd hcells hslots
  have ec : some cy = some comp := hcy.symm.trans fC
  cases ec
  generalize hF : Jvm.Free.Multi.fill (T.setVm vm₁) cA cy n.toNatClampNeg k.toNatClampNeg (defaultValue ty) n.toNatClampNeg = F at X' step
  have hTh : (T.setVm vm₁).heap = H := hT
  obtain ⟨f1, f2, -, -⟩ := Jvm.Free.Multi.fill_facts (T.setVm vm₁) cA cy n.toNatClampNeg k.toNatClampNeg (defaultValue ty) n.toNatClampNeg
  rw [hF, hTh] at f1 f2
  have hold : ∀ x : Nat, x < H.size → F.heap[x]? = H[x]? := fun x hx => by
    have := Jvm.Free.Multi.fill_old (T.setVm vm₁) cA cy n.toNatClampNeg k.toNatClampNeg (defaultValue ty) (a := x) (by rw [hTh]; exact hx) n.toNatClampNeg
    rw [hF, hTh] at this
    exact this
  have hrow : ∀ j : Nat, j < n.toNatClampNeg → F.heap[H.size + 1 + j]? = some (vp_cell cy z) := fun j hj => by
    have := Jvm.Free.Multi.fill_inner (T.setVm vm₁) cA cy n.toNatClampNeg k.toNatClampNeg (defaultValue ty) n.toNatClampNeg j hj
    rw [hF, hTh, hz] at this
    exact this
  have hout : Jvm.Free.Multi.outerC cA n.toNatClampNeg H.size n.toNatClampNeg = vp_cell cA (n.toNatClampNeg, .inr (.inr (.inr (.inr (fun i => if i < n.toNatClampNeg then some (H.size + 1 + i) else none))))) := by
    rw [vp_cell_q]
    exact vr_outer cA n.toNatClampNeg H.size n.toNatClampNeg
  rw [hout] at f2
  have hlt : ∀ a, a ∈ L → a < H.size := fun a ha => by
    obtain ⟨k9, hk9⟩ := va_pl_get (X := X) (f := f) ha
    exact (hP k9 _ hk9).lt
  have hnl : ∀ i : Nat, i < n.toNatClampNeg → H.size + 1 + i ∉ L := fun i _ h => by
    have := hlt _ h
    omega
  have hnm : ∀ a, a ∈ (List.range n.toNatClampNeg).map (fun i => H.size + 1 + i) → a ∉ L := fun a ha h => by
    obtain ⟨i, -, rfl⟩ := List.mem_map.mp ha
    have := hlt _ h
    omega
  have hP0 : va_P D cl (X ++ va_pl L f) F.heap := hP.kept (fun k9 x hx => hold x.1 ((hP k9 x hx).lt))
  have hP1 : va_P D cl ((X ++ va_pl L f) ++ [(H.size, .inl (cA, n.toNatClampNeg, .inr (.inr (.inr (.inr (fun i => if i < n.toNatClampNeg then some (H.size + 1 + i) else none))))))]) F.heap := hP0.app (fun k9 x hx => by
    have h0 : k9 < 1 := (List.getElem?_eq_some_iff.mp hx).1
    rw [show k9 = 0 by omega] at hx
    cases hx
    exact f2)
  have hP2 : va_P D cl (((X ++ va_pl L f) ++ [(H.size, .inl (cA, n.toNatClampNeg, .inr (.inr (.inr (.inr (fun i => if i < n.toNatClampNeg then some (H.size + 1 + i) else none))))))]) ++ ((List.range n.toNatClampNeg).map (fun i => H.size + 1 + i)).map (fun a => (a, .inl (cy, z)))) F.heap := hP1.app (fun k9 x hx => by
    obtain ⟨a, ha, rfl⟩ := List.mem_map.mp (List.mem_of_getElem? hx)
    obtain ⟨i, hi, rfl⟩ := List.mem_map.mp ha
    exact hrow i (List.mem_range.mp hi))
  have hD2 : va_D A (((X ++ va_pl L f) ++ [(H.size, .inl (cA, n.toNatClampNeg, .inr (.inr (.inr (.inr (fun i => if i < n.toNatClampNeg then some (H.size + 1 + i) else none))))))]) ++ ((List.range n.toNatClampNeg).map (fun i => H.size + 1 + i)).map (fun a => (a, .inl (cy, z)))) := by
    have hD1 := hD.push (e := .inl (cA, n.toNatClampNeg, .inr (.inr (.inr (.inr (fun i => if i < n.toNatClampNeg then some (H.size + 1 + i) else none)))))) hP rfl (hA _ hS.1)
    generalize hW1 : (X ++ va_pl L f) ++ [(H.size, .inl (cA, n.toNatClampNeg, .inr (.inr (.inr (.inr (fun i => if i < n.toNatClampNeg then some (H.size + 1 + i) else none))))))] = W1 at hD1 hP1 ⊢
    have hle : ∀ (k9 : Nat) (x : Nat × va_E), W1[k9]? = some x → x.1 ≤ H.size := fun k9 x hx => by
      rw [← hW1] at hx
      by_cases hl : k9 < (X ++ va_pl L f).length
      · rw [List.getElem?_append_left hl] at hx
        exact Nat.le_of_lt ((hP k9 x hx).lt)
      · rw [List.getElem?_append_right (by omega)] at hx
        have h0 : k9 - (X ++ va_pl L f).length < 1 := (List.getElem?_eq_some_iff.mp hx).1
        rw [show k9 - (X ++ va_pl L f).length = 0 by omega] at hx
        cases hx
        exact Nat.le_refl _
    have hr : ∀ (k9 : Nat) (x : Nat × va_E), (((List.range n.toNatClampNeg).map (fun i => H.size + 1 + i)).map (fun a => ((a, .inl (cy, z)) : Nat × va_E)))[k9]? = some x → x.1 = H.size + 1 + k9 := fun k9 x hx => by
      rw [List.getElem?_map, List.getElem?_map] at hx
      by_cases h9 : k9 < n.toNatClampNeg
      · rw [List.getElem?_range h9] at hx
        cases hx
        rfl
      · have hn0 : (List.range n.toNatClampNeg)[k9]? = none := List.getElem?_eq_none (by rw [List.length_range]; omega)
        rw [hn0] at hx
        cases hx
    refine ⟨fun i j x y hi hj hxy => ?_, fun k9 x hx => ?_⟩
    · by_cases h1 : i < W1.length <;> by_cases h2 : j < W1.length
      · rw [List.getElem?_append_left h1] at hi
        rw [List.getElem?_append_left h2] at hj
        exact hD1.1 i j x y hi hj hxy
      · rw [List.getElem?_append_left h1] at hi
        rw [List.getElem?_append_right (by omega)] at hj
        have := hle _ _ hi
        have := hr _ _ hj
        omega
      · rw [List.getElem?_append_right (by omega)] at hi
        rw [List.getElem?_append_left h2] at hj
        have := hle _ _ hj
        have := hr _ _ hi
        omega
      · rw [List.getElem?_append_right (by omega)] at hi hj
        have := hr _ _ hi
        have := hr _ _ hj
        omega
    · by_cases h1 : k9 < W1.length
      · rw [List.getElem?_append_left h1] at hx
        exact hD1.2 k9 x hx
      · rw [List.getElem?_append_right (by omega)] at hx
        have := hr _ _ hx
        exact hA _ (by have := hS.1; omega)
  have hAr : ArrOfT s cA (.array ty) := fun N9 z9 => by
    obtain ⟨-, k9, hk9, cm9, hkk9⟩ := (hO 0 0 0).1
    exact ⟨(fun q hq => by cases hq), k9, hk9, cm9, hkk9⟩
  have hK2 : va_K D cl (tys ++ [(cA, .array ty)]) s := ⟨hK.1, fun k9 x hx => by
    by_cases hl : k9 < tys.length
    · rw [List.getElem?_append_left hl] at hx
      exact hK.2 k9 x hx
    · rw [List.getElem?_append_right (by omega)] at hx
      have h0 : k9 - tys.length < 1 := (List.getElem?_eq_some_iff.mp hx).1
      rw [show k9 - tys.length = 0 by omega] at hx
      cases hx
      exact ⟨hAr, fA⟩⟩
  obtain ⟨t, a1, b1⟩ := kk H.size (fun i => H.size + 1 + i) cA F.heap (fun i j _ _ h => by have h9 : H.size + 1 + i = H.size + 1 + j := h; omega) hnl hK2 (by rw [← vr_rows hnm]; exact vr_lay hP2) (by rw [← vr_rows hnm]; exact vr_layD hD2) ⟨by rw [f1]; have := hS.1; omega, fun x h1 h2 => (hold x (Nat.lt_of_lt_of_le h1 hS.1)).trans (hS.2.1 x h1 h2), hS.2.2⟩ F rfl X'
  refine ⟨t, step t ?_, b1⟩
  have e : T.heap.size = H.size := by rw [hT]
  rw [e]
  exact a1
end VGM
/-! ===== END ===== -/

/-! ===== BEGIN printed: names, fields, word lists, decode rows ===== -/
def RX0 : String := "PaperWay$Causes"
def TX0 : u_T := fun k => match k with
  | 0 => ("PaperWay$Causes", "observed", "I", false)
  | 1 => ("PaperWay$Causes", "found", "I", false)
  | 2 => ("PaperWay$Causes", "first", "I", false)
  | 3 => ("PaperWay$Causes", "second", "I", false)
  | 4 => ("PaperWay$Causes", "told", "[Z", true)
  | 5 => ("PaperWay$Causes", "on", "[I", true)
  | 6 => ("PaperWay$Causes", "off", "[I", true)
  | 7 => ("PaperWay$Causes", "reach", "[I", true)
  | 8 => ("PaperWay$Causes", "trial", "LPaperWay$Traffic;", true)
  | 9 => ("PaperWay$Causes", "trialFlaws", "LPaperWay$Flaws;", true)
  | _ => ("PaperWay$Causes", "soughtLength", "I", false)
def tyX0 : Nat → FieldType := fun k => match k with
  | 0 => .int
  | 1 => .int
  | 2 => .int
  | 3 => .int
  | 4 => .array .boolean
  | 5 => .array .int
  | 6 => .array .int
  | 7 => .array .int
  | 8 => .object "PaperWay$Traffic"
  | 9 => .object "PaperWay$Flaws"
  | _ => .int
abbrev wsX00 : List Cond := u_ws RX0 TX0 11
theorem nmX0 : ∀ a, a < 11 → ∀ b, b < 11 → a ≠ b → (TX0 a).2.1 ≠ (TX0 b).2.1 := by decide +kernel
theorem tyX0_ok : ∀ k, k < 11 → parseFieldDescriptor (TX0 k).2.2.1 = some (tyX0 k) := by decide +kernel
abbrev cX0_init : ByteArray := prog_2_method_1_code
def yX0_init : MethodName := ⟨RX0, "<init>", "()V"⟩
abbrev cX0_observe : ByteArray := prog_2_method_2_code
def yX0_observe : MethodName := ⟨RX0, "observe", "(III)Z"⟩
abbrev cX0_canBe : ByteArray := prog_2_method_3_code
def yX0_canBe : MethodName := ⟨RX0, "canBe", "(II)Z"⟩
abbrev cX0_dropObserved : ByteArray := prog_2_method_4_code
def yX0_dropObserved : MethodName := ⟨RX0, "dropObserved", "()I"⟩
abbrev cX0_seek : ByteArray := prog_2_method_5_code
def yX0_seek : MethodName := ⟨RX0, "seek", "(LPaperWay$Way;I)V"⟩
abbrev cX0_isWorthTrying : ByteArray := prog_2_method_6_code
def yX0_isWorthTrying : MethodName := ⟨RX0, "isWorthTrying", "(LPaperWay$Way;I)Z"⟩
abbrev cX0_canMatter : ByteArray := prog_2_method_7_code
def yX0_canMatter : MethodName := ⟨RX0, "canMatter", "(LPaperWay$Way;II)Z"⟩
abbrev cX0_explains : ByteArray := prog_2_method_8_code
def yX0_explains : MethodName := ⟨RX0, "explains", "(LPaperWay$Way;III)Z"⟩
abbrev cX0_putFlaw : ByteArray := prog_2_method_9_code
def yX0_putFlaw : MethodName := ⟨RX0, "putFlaw", "(LPaperWay$Way;I)V"⟩
abbrev cX0_isSeenSo : ByteArray := prog_2_method_10_code
def yX0_isSeenSo : MethodName := ⟨RX0, "isSeenSo", "(LPaperWay$Way;III)Z"⟩
abbrev cX0_allSeenBy : ByteArray := prog_2_method_11_code
def yX0_allSeenBy : MethodName := ⟨RX0, "allSeenBy", "(LPaperWay$Way;I)Z"⟩
abbrev cX0_firstToFail : ByteArray := prog_2_method_12_code
def yX0_firstToFail : MethodName := ⟨RX0, "firstToFail", "(LPaperWay$Way;LPaperWay$Flaws;III)I"⟩
def RX1 : String := "PaperWay$Flaws"
def TX1 : u_T := fun k => match k with
  | 0 => ("PaperWay$Flaws", "wear", "[I", true)
  | 1 => ("PaperWay$Flaws", "beat", "[I", true)
  | 2 => ("PaperWay$Flaws", "cornerPlace", "[I", true)
  | _ => ("PaperWay$Flaws", "corners", "I", false)
def tyX1 : Nat → FieldType := fun k => match k with
  | 0 => .array .int
  | 1 => .array .int
  | 2 => .array .int
  | _ => .int
abbrev wsX10 : List Cond := u_ws RX1 TX1 4
theorem nmX1 : ∀ a, a < 4 → ∀ b, b < 4 → a ≠ b → (TX1 a).2.1 ≠ (TX1 b).2.1 := by decide +kernel
theorem tyX1_ok : ∀ k, k < 4 → parseFieldDescriptor (TX1 k).2.2.1 = some (tyX1 k) := by decide +kernel
abbrev cX1_init : ByteArray := prog_3_method_1_code
def yX1_init : MethodName := ⟨RX1, "<init>", "()V"⟩
abbrev cX1_reset : ByteArray := prog_3_method_2_code
def yX1_reset : MethodName := ⟨RX1, "reset", "()V"⟩
abbrev cX1_becomeLike : ByteArray := prog_3_method_3_code
def yX1_becomeLike : MethodName := ⟨RX1, "becomeLike", "(LPaperWay$Flaws;)V"⟩
abbrev cX1_changeWear : ByteArray := prog_3_method_4_code
def yX1_changeWear : MethodName := ⟨RX1, "changeWear", "(II)I"⟩
abbrev cX1_changeBeat : ByteArray := prog_3_method_5_code
def yX1_changeBeat : MethodName := ⟨RX1, "changeBeat", "(II)I"⟩
abbrev cX1_leaveCorner : ByteArray := prog_3_method_6_code
def yX1_leaveCorner : MethodName := ⟨RX1, "leaveCorner", "(I)Z"⟩
abbrev cX1_takeCorner : ByteArray := prog_3_method_7_code
def yX1_takeCorner : MethodName := ⟨RX1, "takeCorner", "(I)Z"⟩
abbrev cX1_cornerAt : ByteArray := prog_3_method_8_code
def yX1_cornerAt : MethodName := ⟨RX1, "cornerAt", "(I)I"⟩
abbrev cX1_cornerLimit : ByteArray := prog_3_method_9_code
def yX1_cornerLimit : MethodName := ⟨RX1, "cornerLimit", "(I)I"⟩
abbrev cX1_driveOf : ByteArray := prog_3_method_10_code
def yX1_driveOf : MethodName := ⟨RX1, "driveOf", "(LPaperWay$Way;III)I"⟩
def RX2 : String := "PaperWay$Job"
def TX2 : u_T := fun k => match k with
  | 0 => ("PaperWay$Job", "pages", "I", false)
  | 1 => ("PaperWay$Job", "pageKind", "[I", true)
  | 2 => ("PaperWay$Job", "pageBoth", "[Z", true)
  | 3 => ("PaperWay$Job", "trayKind", "[I", true)
  | 4 => ("PaperWay$Job", "trayPaper", "[Z", true)
  | 5 => ("PaperWay$Job", "hold", "I", false)
  | 6 => ("PaperWay$Job", "rest", "I", false)
  | 7 => ("PaperWay$Job", "heatFirst", "I", false)
  | 8 => ("PaperWay$Job", "heatNeed", "I", false)
  | 9 => ("PaperWay$Job", "heatCost", "I", false)
  | 10 => ("PaperWay$Job", "heatGain", "I", false)
  | 11 => ("PaperWay$Job", "copyNumber", "I", false)
  | 12 => ("PaperWay$Job", "stacked", "I", false)
  | 13 => ("PaperWay$Job", "stack", "[I", true)
  | 14 => ("PaperWay$Job", "partCost", "[I", true)
  | 15 => ("PaperWay$Job", "partWeeks", "[I", true)
  | 16 => ("PaperWay$Job", "partAge", "[I", true)
  | _ => ("PaperWay$Job", "partTold", "[Z", true)
def tyX2 : Nat → FieldType := fun k => match k with
  | 0 => .int
  | 1 => .array .int
  | 2 => .array .boolean
  | 3 => .array .int
  | 4 => .array .boolean
  | 5 => .int
  | 6 => .int
  | 7 => .int
  | 8 => .int
  | 9 => .int
  | 10 => .int
  | 11 => .int
  | 12 => .int
  | 13 => .array .int
  | 14 => .array .int
  | 15 => .array .int
  | 16 => .array .int
  | _ => .array .boolean
abbrev wsX20 : List Cond := u_ws RX2 TX2 18
theorem nmX2 : ∀ a, a < 18 → ∀ b, b < 18 → a ≠ b → (TX2 a).2.1 ≠ (TX2 b).2.1 := by decide +kernel
theorem tyX2_ok : ∀ k, k < 18 → parseFieldDescriptor (TX2 k).2.2.1 = some (tyX2 k) := by decide +kernel
abbrev cX2_init : ByteArray := prog_4_method_1_code
def yX2_init : MethodName := ⟨RX2, "<init>", "()V"⟩
abbrev cX2_addPage : ByteArray := prog_4_method_2_code
def yX2_addPage : MethodName := ⟨RX2, "addPage", "(IZ)I"⟩
abbrev cX2_stackSides : ByteArray := prog_4_method_3_code
def yX2_stackSides : MethodName := ⟨RX2, "stackSides", "()I"⟩
abbrev cX2_becomeLike : ByteArray := prog_4_method_4_code
def yX2_becomeLike : MethodName := ⟨RX2, "becomeLike", "(LPaperWay$Job;)V"⟩
def RX3 : String := "PaperWay$Keeper"
def TX3 : u_T := fun k => match k with
  | 0 => ("PaperWay$Keeper", "fresh", "Z", false)
  | 1 => ("PaperWay$Keeper", "wanted", "I", false)
  | 2 => ("PaperWay$Keeper", "pairs", "I", false)
  | 3 => ("PaperWay$Keeper", "paired", "[I", true)
  | _ => ("PaperWay$Keeper", "room", "[I", true)
def tyX3 : Nat → FieldType := fun k => match k with
  | 0 => .boolean
  | 1 => .int
  | 2 => .int
  | 3 => .array .int
  | _ => .array .int
abbrev wsX30 : List Cond := u_ws RX3 TX3 5
theorem nmX3 : ∀ a, a < 5 → ∀ b, b < 5 → a ≠ b → (TX3 a).2.1 ≠ (TX3 b).2.1 := by decide +kernel
theorem tyX3_ok : ∀ k, k < 5 → parseFieldDescriptor (TX3 k).2.2.1 = some (tyX3 k) := by decide +kernel
abbrev cX3_init : ByteArray := prog_5_method_1_code
def yX3_init : MethodName := ⟨RX3, "<init>", "()V"⟩
abbrev cX3_pair : ByteArray := prog_5_method_2_code
def yX3_pair : MethodName := ⟨RX3, "pair", "(LPaperWay$Job;)V"⟩
abbrev cX3_measureRoom : ByteArray := prog_5_method_3_code
def yX3_measureRoom : MethodName := ⟨RX3, "measureRoom", "(LPaperWay$Job;)V"⟩
abbrev cX3_lastPlaceBelow : ByteArray := prog_5_method_4_code
def yX3_lastPlaceBelow : MethodName := ⟨RX3, "lastPlaceBelow", "(III)I"⟩
abbrev cX3_pairInOrder : ByteArray := prog_5_method_5_code
def yX3_pairInOrder : MethodName := ⟨RX3, "pairInOrder", "(LPaperWay$Job;)V"⟩
abbrev cX3_earliest : ByteArray := prog_5_method_6_code
def yX3_earliest : MethodName := ⟨RX3, "earliest", "(LPaperWay$Job;II)I"⟩
abbrev cX3_lackingPlace : ByteArray := prog_5_method_7_code
def yX3_lackingPlace : MethodName := ⟨RX3, "lackingPlace", "(I)I"⟩
abbrev cX3_wholeCopies : ByteArray := prog_5_method_8_code
def yX3_wholeCopies : MethodName := ⟨RX3, "wholeCopies", "(LPaperWay$Job;)I"⟩
def RX4 : String := "PaperWay$Memory"
def TX4 : u_T := fun k => match k with
  | 0 => ("PaperWay$Memory", "number", "[[J", true)
  | 1 => ("PaperWay$Memory", "sort", "[I", true)
  | _ => ("PaperWay$Memory", "size", "[I", true)
def tyX4 : Nat → FieldType := fun k => match k with
  | 0 => .array (.array .long)
  | 1 => .array .int
  | _ => .array .int
abbrev wsX40 : List Cond := u_ws RX4 TX4 3
theorem nmX4 : ∀ a, a < 3 → ∀ b, b < 3 → a ≠ b → (TX4 a).2.1 ≠ (TX4 b).2.1 := by decide +kernel
theorem tyX4_ok : ∀ k, k < 3 → parseFieldDescriptor (TX4 k).2.2.1 = some (tyX4 k) := by decide +kernel
abbrev cX4_init : ByteArray := prog_6_method_1_code
def yX4_init : MethodName := ⟨RX4, "<init>", "()V"⟩
abbrev cX4_make : ByteArray := prog_6_method_2_code
def yX4_make : MethodName := ⟨RX4, "make", "(III)V"⟩
abbrev cX4_cut : ByteArray := prog_6_method_3_code
def yX4_cut : MethodName := ⟨RX4, "cut", "(JI)J"⟩
abbrev cX4_tellsPages : ByteArray := prog_6_method_4_code
def yX4_tellsPages : MethodName := ⟨RX4, "tellsPages", "(III)Z"⟩
def RX5 : String := "PaperWay$Planner"
def TX5 : u_T := fun k => match k with
  | 0 => ("PaperWay$Planner", "fresh", "Z", false)
  | 1 => ("PaperWay$Planner", "slots", "I", false)
  | 2 => ("PaperWay$Planner", "acts", "[I", true)
  | 3 => ("PaperWay$Planner", "queue", "[J", true)
  | 4 => ("PaperWay$Planner", "met", "[J", true)
  | 5 => ("PaperWay$Planner", "queued", "I", false)
  | 6 => ("PaperWay$Planner", "goal", "I", false)
  | 7 => ("PaperWay$Planner", "job", "LPaperWay$Job;", false)
  | 8 => ("PaperWay$Planner", "fed", "I", false)
  | 9 => ("PaperWay$Planner", "young", "I", false)
  | 10 => ("PaperWay$Planner", "ripe", "I", false)
  | 11 => ("PaperWay$Planner", "heatNow", "I", false)
  | 12 => ("PaperWay$Planner", "lastTray", "I", false)
  | _ => ("PaperWay$Planner", "stopAhead", "Z", false)
def tyX5 : Nat → FieldType := fun k => match k with
  | 0 => .boolean
  | 1 => .int
  | 2 => .array .int
  | 3 => .array .long
  | 4 => .array .long
  | 5 => .int
  | 6 => .int
  | 7 => .object "PaperWay$Job"
  | 8 => .int
  | 9 => .int
  | 10 => .int
  | 11 => .int
  | 12 => .int
  | _ => .boolean
abbrev wsX50 : List Cond := u_ws RX5 TX5 14
theorem nmX5 : ∀ a, a < 14 → ∀ b, b < 14 → a ≠ b → (TX5 a).2.1 ≠ (TX5 b).2.1 := by decide +kernel
theorem tyX5_ok : ∀ k, k < 14 → parseFieldDescriptor (TX5 k).2.2.1 = some (tyX5 k) := by decide +kernel
abbrev cX5_init : ByteArray := prog_7_method_1_code
def yX5_init : MethodName := ⟨RX5, "<init>", "()V"⟩
abbrev cX5_seek : ByteArray := prog_7_method_2_code
def yX5_seek : MethodName := ⟨RX5, "seek", "(LPaperWay$Job;)V"⟩
abbrev cX5_hasPaperForAll : ByteArray := prog_7_method_3_code
def yX5_hasPaperForAll : MethodName := ⟨RX5, "hasPaperForAll", "()Z"⟩
abbrev cX5_gives : ByteArray := prog_7_method_4_code
def yX5_gives : MethodName := ⟨RX5, "gives", "(II)Z"⟩
abbrev cX5_leave : ByteArray := prog_7_method_5_code
def yX5_leave : MethodName := ⟨RX5, "leave", "(I)V"⟩
abbrev cX5_takesNext : ByteArray := prog_7_method_6_code
def yX5_takesNext : MethodName := ⟨RX5, "takesNext", "()Z"⟩
abbrev cX5_feedFromEach : ByteArray := prog_7_method_7_code
def yX5_feedFromEach : MethodName := ⟨RX5, "feedFromEach", "(IIJ)V"⟩
abbrev cX5_agedPocket : ByteArray := prog_7_method_8_code
def yX5_agedPocket : MethodName := ⟨RX5, "agedPocket", "(II)I"⟩
abbrev cX5_unpack : ByteArray := prog_7_method_9_code
def yX5_unpack : MethodName := ⟨RX5, "unpack", "(I)V"⟩
abbrev cX5_meet : ByteArray := prog_7_method_10_code
def yX5_meet : MethodName := ⟨RX5, "meet", "(IIIIIJ)V"⟩
abbrev cX5_traceBack : ByteArray := prog_7_method_11_code
def yX5_traceBack : MethodName := ⟨RX5, "traceBack", "()V"⟩
abbrev cX5_parentOf : ByteArray := prog_7_method_12_code
def yX5_parentOf : MethodName := ⟨RX5, "parentOf", "(I)I"⟩
def RX6 : String := "PaperWay$Reader"
def TX6 : u_T := fun k => match k with
  | 0 => ("PaperWay$Reader", "tape", "[B", true)
  | 1 => ("PaperWay$Reader", "size", "I", false)
  | 2 => ("PaperWay$Reader", "faultKind", "I", false)
  | 3 => ("PaperWay$Reader", "faultPlace", "I", false)
  | 4 => ("PaperWay$Reader", "kind", "[I", true)
  | 5 => ("PaperWay$Reader", "place", "[I", true)
  | 6 => ("PaperWay$Reader", "value", "[I", true)
  | 7 => ("PaperWay$Reader", "tokens", "I", false)
  | 8 => ("PaperWay$Reader", "current", "I", false)
  | 9 => ("PaperWay$Reader", "end", "I", false)
  | _ => ("PaperWay$Reader", "at", "I", false)
def tyX6 : Nat → FieldType := fun k => match k with
  | 0 => .array .byte
  | 1 => .int
  | 2 => .int
  | 3 => .int
  | 4 => .array .int
  | 5 => .array .int
  | 6 => .array .int
  | 7 => .int
  | 8 => .int
  | 9 => .int
  | _ => .int
abbrev wsX60 : List Cond := u_ws RX6 TX6 11
theorem nmX6 : ∀ a, a < 11 → ∀ b, b < 11 → a ≠ b → (TX6 a).2.1 ≠ (TX6 b).2.1 := by decide +kernel
theorem tyX6_ok : ∀ k, k < 11 → parseFieldDescriptor (TX6 k).2.2.1 = some (tyX6 k) := by decide +kernel
abbrev cX6_init : ByteArray := prog_8_method_1_code
def yX6_init : MethodName := ⟨RX6, "<init>", "()V"⟩
abbrev cX6_hasRoomForFive : ByteArray := prog_8_method_2_code
def yX6_hasRoomForFive : MethodName := ⟨RX6, "hasRoomForFive", "()Z"⟩
abbrev cX6_append : ByteArray := prog_8_method_3_code
def yX6_append : MethodName := ⟨RX6, "append", "(I)V"⟩
abbrev cX6_readWay : ByteArray := prog_8_method_4_code
def yX6_readWay : MethodName := ⟨RX6, "readWay", "(LPaperWay$Way;I)I"⟩
abbrev cX6_splitTokens : ByteArray := prog_8_method_5_code
def yX6_splitTokens : MethodName := ⟨RX6, "splitTokens", "(I)V"⟩
abbrev cX6_nextKind : ByteArray := prog_8_method_6_code
def yX6_nextKind : MethodName := ⟨RX6, "nextKind", "()I"⟩
abbrev cX6_nextNumber : ByteArray := prog_8_method_7_code
def yX6_nextNumber : MethodName := ⟨RX6, "nextNumber", "()I"⟩
abbrev cX6_nextWord : ByteArray := prog_8_method_8_code
def yX6_nextWord : MethodName := ⟨RX6, "nextWord", "()I"⟩
abbrev cX6_wordOfFour : ByteArray := prog_8_method_9_code
def yX6_wordOfFour : MethodName := ⟨RX6, "wordOfFour", "(I)I"⟩
abbrev cX6_isAt : ByteArray := prog_8_method_10_code
def yX6_isAt : MethodName := ⟨RX6, "isAt", "(ILjava/lang/String;)Z"⟩
abbrev cX6_readLine : ByteArray := prog_8_method_11_code
def yX6_readLine : MethodName := ⟨RX6, "readLine", "(LPaperWay$Way;Z)V"⟩
abbrev cX6_readRoller : ByteArray := prog_8_method_12_code
def yX6_readRoller : MethodName := ⟨RX6, "readRoller", "(LPaperWay$Way;)V"⟩
abbrev cX6_readEye : ByteArray := prog_8_method_13_code
def yX6_readEye : MethodName := ⟨RX6, "readEye", "(LPaperWay$Way;)V"⟩
abbrev cX6_readTurn : ByteArray := prog_8_method_14_code
def yX6_readTurn : MethodName := ⟨RX6, "readTurn", "(LPaperWay$Way;)V"⟩
abbrev cX6_readDamp : ByteArray := prog_8_method_15_code
def yX6_readDamp : MethodName := ⟨RX6, "readDamp", "(LPaperWay$Way;)V"⟩
abbrev cX6_readNumber : ByteArray := prog_8_method_16_code
def yX6_readNumber : MethodName := ⟨RX6, "readNumber", "(II)I"⟩
abbrev cX6_want : ByteArray := prog_8_method_17_code
def yX6_want : MethodName := ⟨RX6, "want", "(I)V"⟩
abbrev cX6_goOn : ByteArray := prog_8_method_18_code
def yX6_goOn : MethodName := ⟨RX6, "goOn", "()V"⟩
abbrev cX6_blame : ByteArray := prog_8_method_19_code
def yX6_blame : MethodName := ⟨RX6, "blame", "(I)V"⟩
abbrev cX6_isBlank : ByteArray := prog_8_method_20_code
def yX6_isBlank : MethodName := ⟨RX6, "isBlank", "(B)Z"⟩
abbrev cX6_isLetter : ByteArray := prog_8_method_21_code
def yX6_isLetter : MethodName := ⟨RX6, "isLetter", "(B)Z"⟩
abbrev cX6_isDigit : ByteArray := prog_8_method_22_code
def yX6_isDigit : MethodName := ⟨RX6, "isDigit", "(B)Z"⟩
def RX7 : String := "PaperWay$Rounds"
def TX7 : u_T := fun k => match k with
  | 0 => ("PaperWay$Rounds", "weeks", "I", false)
  | 1 => ("PaperWay$Rounds", "total", "I", false)
  | 2 => ("PaperWay$Rounds", "visits", "I", false)
  | 3 => ("PaperWay$Rounds", "renewed", "I", false)
  | 4 => ("PaperWay$Rounds", "priceSought", "I", false)
  | _ => ("PaperWay$Rounds", "newOnes", "I", false)
def tyX7 : Nat → FieldType := fun k => match k with
  | 0 => .int
  | 1 => .int
  | 2 => .int
  | 3 => .int
  | 4 => .int
  | _ => .int
abbrev wsX70 : List Cond := u_ws RX7 TX7 6
theorem nmX7 : ∀ a, a < 6 → ∀ b, b < 6 → a ≠ b → (TX7 a).2.1 ≠ (TX7 b).2.1 := by decide +kernel
theorem tyX7_ok : ∀ k, k < 6 → parseFieldDescriptor (TX7 k).2.2.1 = some (tyX7 k) := by decide +kernel
abbrev cX7_init : ByteArray := prog_9_method_1_code
def yX7_init : MethodName := ⟨RX7, "<init>", "()V"⟩
abbrev cX7_seek : ByteArray := prog_9_method_2_code
def yX7_seek : MethodName := ⟨RX7, "seek", "(LPaperWay$Job;II)V"⟩
abbrev cX7_isBetter : ByteArray := prog_9_method_3_code
def yX7_isBetter : MethodName := ⟨RX7, "isBetter", "(II)Z"⟩
abbrev cX7_costOfNewOnes : ByteArray := prog_9_method_4_code
def yX7_costOfNewOnes : MethodName := ⟨RX7, "costOfNewOnes", "(LPaperWay$Job;II)I"⟩
abbrev cX7_timesNew : ByteArray := prog_9_method_5_code
def yX7_timesNew : MethodName := ⟨RX7, "timesNew", "(IIII)I"⟩
def RX8 : String := "PaperWay$Traffic"
def TX8 : u_T := fun k => match k with
  | 0 => ("PaperWay$Traffic", "watch", "LPaperWay$Watch;", true)
  | 1 => ("PaperWay$Traffic", "sheets", "I", false)
  | 2 => ("PaperWay$Traffic", "now", "I", false)
  | 3 => ("PaperWay$Traffic", "jammed", "I", false)
  | 4 => ("PaperWay$Traffic", "pocketed", "I", false)
  | 5 => ("PaperWay$Traffic", "state", "[I", true)
  | 6 => ("PaperWay$Traffic", "head", "[I", true)
  | 7 => ("PaperWay$Traffic", "side", "[I", true)
  | 8 => ("PaperWay$Traffic", "stood", "[I", true)
  | 9 => ("PaperWay$Traffic", "tenths", "[I", true)
  | 10 => ("PaperWay$Traffic", "came", "[I", true)
  | 11 => ("PaperWay$Traffic", "turned", "[Z", true)
  | 12 => ("PaperWay$Traffic", "line", "[I", true)
  | 13 => ("PaperWay$Traffic", "lined", "I", false)
  | 14 => ("PaperWay$Traffic", "pocketRow", "[I", true)
  | 15 => ("PaperWay$Traffic", "way", "LPaperWay$Way;", false)
  | _ => ("PaperWay$Traffic", "flaws", "LPaperWay$Flaws;", false)
def tyX8 : Nat → FieldType := fun k => match k with
  | 0 => .object "PaperWay$Watch"
  | 1 => .int
  | 2 => .int
  | 3 => .int
  | 4 => .int
  | 5 => .array .int
  | 6 => .array .int
  | 7 => .array .int
  | 8 => .array .int
  | 9 => .array .int
  | 10 => .array .int
  | 11 => .array .boolean
  | 12 => .array .int
  | 13 => .int
  | 14 => .array .int
  | 15 => .object "PaperWay$Way"
  | _ => .object "PaperWay$Flaws"
abbrev wsX80 : List Cond := u_ws RX8 TX8 17
theorem nmX8 : ∀ a, a < 17 → ∀ b, b < 17 → a ≠ b → (TX8 a).2.1 ≠ (TX8 b).2.1 := by decide +kernel
theorem tyX8_ok : ∀ k, k < 17 → parseFieldDescriptor (TX8 k).2.2.1 = some (tyX8 k) := by decide +kernel
abbrev cX8_init : ByteArray := prog_10_method_1_code
def yX8_init : MethodName := ⟨RX8, "<init>", "()V"⟩
abbrev cX8_start : ByteArray := prog_10_method_2_code
def yX8_start : MethodName := ⟨RX8, "start", "(LPaperWay$Way;LPaperWay$Flaws;)V"⟩
abbrev cX8_isFull : ByteArray := prog_10_method_3_code
def yX8_isFull : MethodName := ⟨RX8, "isFull", "()Z"⟩
abbrev cX8_tailOf : ByteArray := prog_10_method_4_code
def yX8_tailOf : MethodName := ⟨RX8, "tailOf", "(I)I"⟩
abbrev cX8_isFreeFor : ByteArray := prog_10_method_5_code
def yX8_isFreeFor : MethodName := ⟨RX8, "isFreeFor", "(I)Z"⟩
abbrev cX8_begin : ByteArray := prog_10_method_6_code
def yX8_begin : MethodName := ⟨RX8, "begin", "(IZ)I"⟩
abbrev cX8_liesFree : ByteArray := prog_10_method_7_code
def yX8_liesFree : MethodName := ⟨RX8, "liesFree", "(II)Z"⟩
abbrev cX8_putOnWay : ByteArray := prog_10_method_8_code
def yX8_putOnWay : MethodName := ⟨RX8, "putOnWay", "(III)V"⟩
abbrev cX8_goOnce : ByteArray := prog_10_method_9_code
def yX8_goOnce : MethodName := ⟨RX8, "goOnce", "()V"⟩
abbrev cX8_carryOn : ByteArray := prog_10_method_10_code
def yX8_carryOn : MethodName := ⟨RX8, "carryOn", "()V"⟩
abbrev cX8_move : ByteArray := prog_10_method_11_code
def yX8_move : MethodName := ⟨RX8, "move", "(II)V"⟩
abbrev cX8_waits : ByteArray := prog_10_method_12_code
def yX8_waits : MethodName := ⟨RX8, "waits", "(I)Z"⟩
abbrev cX8_drive : ByteArray := prog_10_method_13_code
def yX8_drive : MethodName := ⟨RX8, "drive", "(II)V"⟩
abbrev cX8_enterPocket : ByteArray := prog_10_method_14_code
def yX8_enterPocket : MethodName := ⟨RX8, "enterPocket", "(I)V"⟩
abbrev cX8_findJam : ByteArray := prog_10_method_15_code
def yX8_findJam : MethodName := ⟨RX8, "findJam", "()V"⟩
abbrev cX8_comeBack : ByteArray := prog_10_method_16_code
def yX8_comeBack : MethodName := ⟨RX8, "comeBack", "()V"⟩
abbrev cX8_isUnderEye : ByteArray := prog_10_method_17_code
def yX8_isUnderEye : MethodName := ⟨RX8, "isUnderEye", "(I)Z"⟩
abbrev cX8_takeAll : ByteArray := prog_10_method_18_code
def yX8_takeAll : MethodName := ⟨RX8, "takeAll", "()I"⟩
def RX9 : String := "PaperWay$Watch"
def TX9 : u_T := fun k => match k with
  | 0 => ("PaperWay$Watch", "seeing", "[Z", true)
  | 1 => ("PaperWay$Watch", "passings", "[I", true)
  | 2 => ("PaperWay$Watch", "from", "[I", true)
  | 3 => ("PaperWay$Watch", "to", "[I", true)
  | _ => ("PaperWay$Watch", "open", "[I", true)
def tyX9 : Nat → FieldType := fun k => match k with
  | 0 => .array .boolean
  | 1 => .array .int
  | 2 => .array .int
  | 3 => .array .int
  | _ => .array .int
abbrev wsX90 : List Cond := u_ws RX9 TX9 5
theorem nmX9 : ∀ a, a < 5 → ∀ b, b < 5 → a ≠ b → (TX9 a).2.1 ≠ (TX9 b).2.1 := by decide +kernel
theorem tyX9_ok : ∀ k, k < 5 → parseFieldDescriptor (TX9 k).2.2.1 = some (tyX9 k) := by decide +kernel
abbrev cX9_init : ByteArray := prog_11_method_1_code
def yX9_init : MethodName := ⟨RX9, "<init>", "()V"⟩
abbrev cX9_reset : ByteArray := prog_11_method_2_code
def yX9_reset : MethodName := ⟨RX9, "reset", "()V"⟩
abbrev cX9_cutOff : ByteArray := prog_11_method_3_code
def yX9_cutOff : MethodName := ⟨RX9, "cutOff", "()V"⟩
abbrev cX9_look : ByteArray := prog_11_method_4_code
def yX9_look : MethodName := ⟨RX9, "look", "(IZI)V"⟩
abbrev cX9_close : ByteArray := prog_11_method_5_code
def yX9_close : MethodName := ⟨RX9, "close", "(II)V"⟩
def RX10 : String := "PaperWay$Way"
def TX10 : u_T := fun k => match k with
  | 0 => ("PaperWay$Way", "length", "I", false)
  | 1 => ("PaperWay$Way", "rollers", "I", false)
  | 2 => ("PaperWay$Way", "rollerPlace", "[I", true)
  | 3 => ("PaperWay$Way", "speed", "[I", true)
  | 4 => ("PaperWay$Way", "eyes", "I", false)
  | 5 => ("PaperWay$Way", "eyePlace", "[I", true)
  | 6 => ("PaperWay$Way", "turn", "I", false)
  | 7 => ("PaperWay$Way", "back", "I", false)
  | 8 => ("PaperWay$Way", "hold", "I", false)
  | 9 => ("PaperWay$Way", "rest", "I", false)
  | 10 => ("PaperWay$Way", "damp", "I", false)
  | _ => ("PaperWay$Way", "dampTold", "Z", false)
def tyX10 : Nat → FieldType := fun k => match k with
  | 0 => .int
  | 1 => .int
  | 2 => .array .int
  | 3 => .array .int
  | 4 => .int
  | 5 => .array .int
  | 6 => .int
  | 7 => .int
  | 8 => .int
  | 9 => .int
  | 10 => .int
  | _ => .boolean
abbrev wsX100 : List Cond := u_ws RX10 TX10 12
theorem nmX10 : ∀ a, a < 12 → ∀ b, b < 12 → a ≠ b → (TX10 a).2.1 ≠ (TX10 b).2.1 := by decide +kernel
theorem tyX10_ok : ∀ k, k < 12 → parseFieldDescriptor (TX10 k).2.2.1 = some (tyX10 k) := by decide +kernel
abbrev cX10_init : ByteArray := prog_12_method_1_code
def yX10_init : MethodName := ⟨RX10, "<init>", "()V"⟩
abbrev cX10_reset : ByteArray := prog_12_method_2_code
def yX10_reset : MethodName := ⟨RX10, "reset", "()V"⟩
abbrev cX10_hasRoller : ByteArray := prog_12_method_3_code
def yX10_hasRoller : MethodName := ⟨RX10, "hasRoller", "(I)Z"⟩
abbrev cX10_hasEye : ByteArray := prog_12_method_4_code
def yX10_hasEye : MethodName := ⟨RX10, "hasEye", "(I)Z"⟩
abbrev cX10_lastRollerPlace : ByteArray := prog_12_method_5_code
def yX10_lastRollerPlace : MethodName := ⟨RX10, "lastRollerPlace", "()I"⟩
abbrev cX10_lastEyePlace : ByteArray := prog_12_method_6_code
def yX10_lastEyePlace : MethodName := ⟨RX10, "lastEyePlace", "()I"⟩
abbrev cX10_creasesAre : ByteArray := prog_12_method_7_code
def yX10_creasesAre : MethodName := ⟨RX10, "creasesAre", "(IIIII)Z"⟩
def RX11 : String := "PaperWay"
def TX11 : u_T := fun k => match k with
  | 0 => ("PaperWay", "reader", "LPaperWay$Reader;", true)
  | 1 => ("PaperWay", "flaws", "LPaperWay$Flaws;", true)
  | 2 => ("PaperWay", "traffic", "LPaperWay$Traffic;", true)
  | 3 => ("PaperWay", "causes", "LPaperWay$Causes;", true)
  | 4 => ("PaperWay", "job", "LPaperWay$Job;", true)
  | 5 => ("PaperWay", "images", "[LPaperWay$Job;", true)
  | 6 => ("PaperWay", "imageMade", "[Z", true)
  | 7 => ("PaperWay", "planner", "LPaperWay$Planner;", true)
  | 8 => ("PaperWay", "keeper", "LPaperWay$Keeper;", true)
  | 9 => ("PaperWay", "rounds", "LPaperWay$Rounds;", true)
  | 10 => ("PaperWay", "memory", "LPaperWay$Memory;", true)
  | 11 => ("PaperWay", "way", "LPaperWay$Way;", false)
  | _ => ("PaperWay", "spareWay", "LPaperWay$Way;", false)
def tyX11 : Nat → FieldType := fun k => match k with
  | 0 => .object "PaperWay$Reader"
  | 1 => .object "PaperWay$Flaws"
  | 2 => .object "PaperWay$Traffic"
  | 3 => .object "PaperWay$Causes"
  | 4 => .object "PaperWay$Job"
  | 5 => .array (.object "PaperWay$Job")
  | 6 => .array .boolean
  | 7 => .object "PaperWay$Planner"
  | 8 => .object "PaperWay$Keeper"
  | 9 => .object "PaperWay$Rounds"
  | 10 => .object "PaperWay$Memory"
  | 11 => .object "PaperWay$Way"
  | _ => .object "PaperWay$Way"
abbrev wsX110 : List Cond := u_ws RX11 TX11 13
theorem nmX11 : ∀ a, a < 13 → ∀ b, b < 13 → a ≠ b → (TX11 a).2.1 ≠ (TX11 b).2.1 := by decide +kernel
theorem tyX11_ok : ∀ k, k < 13 → parseFieldDescriptor (TX11 k).2.2.1 = some (tyX11 k) := by decide +kernel
abbrev cX11_init : ByteArray := prog_1_method_1_code
def yX11_init : MethodName := ⟨RX11, "<init>", "()V"⟩
abbrev cX11_feed : ByteArray := prog_1_method_2_code
def yX11_feed : MethodName := ⟨RX11, "feed", "(IIIII)I"⟩
abbrev cX11_text : ByteArray := prog_1_method_3_code
def yX11_text : MethodName := ⟨RX11, "text", "(I)I"⟩
abbrev cX11_fault : ByteArray := prog_1_method_4_code
def yX11_fault : MethodName := ⟨RX11, "fault", "(I)I"⟩
abbrev cX11_set : ByteArray := prog_1_method_5_code
def yX11_set : MethodName := ⟨RX11, "set", "(III)I"⟩
abbrev cX11_corner : ByteArray := prog_1_method_6_code
def yX11_corner : MethodName := ⟨RX11, "corner", "(IZ)Z"⟩
abbrev cX11_lay : ByteArray := prog_1_method_7_code
def yX11_lay : MethodName := ⟨RX11, "lay", "(IZ)I"⟩
abbrev cX11_tick : ByteArray := prog_1_method_8_code
def yX11_tick : MethodName := ⟨RX11, "tick", "(I)I"⟩
abbrev cX11_sheet : ByteArray := prog_1_method_9_code
def yX11_sheet : MethodName := ⟨RX11, "sheet", "(II)I"⟩
abbrev cX11_clear : ByteArray := prog_1_method_10_code
def yX11_clear : MethodName := ⟨RX11, "clear", "(Z)I"⟩
abbrev cX11_sees : ByteArray := prog_1_method_11_code
def yX11_sees : MethodName := ⟨RX11, "sees", "(I)I"⟩
abbrev cX11_passing : ByteArray := prog_1_method_12_code
def yX11_passing : MethodName := ⟨RX11, "passing", "(III)I"⟩
abbrev cX11_saw : ByteArray := prog_1_method_13_code
def yX11_saw : MethodName := ⟨RX11, "saw", "(III)Z"⟩
abbrev cX11_forget : ByteArray := prog_1_method_14_code
def yX11_forget : MethodName := ⟨RX11, "forget", "()I"⟩
abbrev cX11_explain : ByteArray := prog_1_method_15_code
def yX11_explain : MethodName := ⟨RX11, "explain", "(II)I"⟩
abbrev cX11_foretold : ByteArray := prog_1_method_16_code
def yX11_foretold : MethodName := ⟨RX11, "foretold", "(III)I"⟩
abbrev cX11_crease : ByteArray := prog_1_method_17_code
def yX11_crease : MethodName := ⟨RX11, "crease", "(IIIII)I"⟩
abbrev cX11_page : ByteArray := prog_1_method_18_code
def yX11_page : MethodName := ⟨RX11, "page", "(IZ)I"⟩
abbrev cX11_tray : ByteArray := prog_1_method_19_code
def yX11_tray : MethodName := ⟨RX11, "tray", "(IIZ)Z"⟩
abbrev cX11_pocket : ByteArray := prog_1_method_20_code
def yX11_pocket : MethodName := ⟨RX11, "pocket", "(II)Z"⟩
abbrev cX11_heat : ByteArray := prog_1_method_21_code
def yX11_heat : MethodName := ⟨RX11, "heat", "(IIII)Z"⟩
abbrev cX11_plan : ByteArray := prog_1_method_22_code
def yX11_plan : MethodName := ⟨RX11, "plan", "(I)I"⟩
abbrev cX11_copies : ByteArray := prog_1_method_23_code
def yX11_copies : MethodName := ⟨RX11, "copies", "(I)I"⟩
abbrev cX11_out : ByteArray := prog_1_method_24_code
def yX11_out : MethodName := ⟨RX11, "out", "(I)I"⟩
abbrev cX11_empty : ByteArray := prog_1_method_25_code
def yX11_empty : MethodName := ⟨RX11, "empty", "()I"⟩
abbrev cX11_again : ByteArray := prog_1_method_26_code
def yX11_again : MethodName := ⟨RX11, "again", "(I)I"⟩
abbrev cX11_lack : ByteArray := prog_1_method_27_code
def yX11_lack : MethodName := ⟨RX11, "lack", "(I)I"⟩
abbrev cX11_kept : ByteArray := prog_1_method_28_code
def yX11_kept : MethodName := ⟨RX11, "kept", "(I)I"⟩
abbrev cX11_pay : ByteArray := prog_1_method_29_code
def yX11_pay : MethodName := ⟨RX11, "pay", "(III)I"⟩
abbrev cX11_part : ByteArray := prog_1_method_30_code
def yX11_part : MethodName := ⟨RX11, "part", "(IIII)Z"⟩
abbrev cX11_service : ByteArray := prog_1_method_31_code
def yX11_service : MethodName := ⟨RX11, "service", "(III)I"⟩
abbrev cX11_row : ByteArray := prog_1_method_32_code
def yX11_row : MethodName := ⟨RX11, "row", "(III)I"⟩
abbrev cX11_write : ByteArray := prog_1_method_33_code
def yX11_write : MethodName := ⟨RX11, "write", "(IIJ)J"⟩
abbrev cX11_save : ByteArray := prog_1_method_34_code
def yX11_save : MethodName := ⟨RX11, "save", "(I)I"⟩
abbrev cX11_load : ByteArray := prog_1_method_35_code
def yX11_load : MethodName := ⟨RX11, "load", "(II)I"⟩
abbrev cX11_image : ByteArray := prog_1_method_36_code
def yX11_image : MethodName := ⟨RX11, "image", "(I)Z"⟩
abbrev cX11_restore : ByteArray := prog_1_method_37_code
def yX11_restore : MethodName := ⟨RX11, "restore", "(I)Z"⟩
abbrev cX11_count : ByteArray := prog_1_method_38_code
def yX11_count : MethodName := ⟨RX11, "count", "(I)I"⟩
abbrev cX11_countOfSet : ByteArray := prog_1_method_39_code
def yX11_countOfSet : MethodName := ⟨RX11, "countOfSet", "(I)I"⟩
abbrev cX11_isSheetLength : ByteArray := prog_1_method_40_code
def yX11_isSheetLength : MethodName := ⟨RX11, "isSheetLength", "(I)Z"⟩
abbrev cX11_isCreaseRow : ByteArray := prog_1_method_41_code
def yX11_isCreaseRow : MethodName := ⟨RX11, "isCreaseRow", "(III)Z"⟩
abbrev cX11_isCrease : ByteArray := prog_1_method_42_code
def yX11_isCrease : MethodName := ⟨RX11, "isCrease", "(I)Z"⟩
abbrev cX11_falls : ByteArray := prog_1_method_43_code
def yX11_falls : MethodName := ⟨RX11, "falls", "(II)Z"⟩
def RX12 : String := "PaperWayModel"
def TX12 : u_T := fun k => match k with
  | 0 => ("PaperWayModel", "thrown", "I", false)
  | 1 => ("PaperWayModel", "tape", "[I", true)
  | 2 => ("PaperWayModel", "taped", "I", false)
  | 3 => ("PaperWayModel", "way", "[I", true)
  | 4 => ("PaperWayModel", "told", "[I", true)
  | 5 => ("PaperWayModel", "roller", "[I", true)
  | 6 => ("PaperWayModel", "speed", "[I", true)
  | 7 => ("PaperWayModel", "toldRoller", "[I", true)
  | 8 => ("PaperWayModel", "toldSpeed", "[I", true)
  | 9 => ("PaperWayModel", "eye", "[I", true)
  | 10 => ("PaperWayModel", "toldEye", "[I", true)
  | 11 => ("PaperWayModel", "at", "I", false)
  | 12 => ("PaperWayModel", "behind", "I", false)
  | 13 => ("PaperWayModel", "size", "I", false)
  | 14 => ("PaperWayModel", "kind", "I", false)
  | 15 => ("PaperWayModel", "number", "I", false)
  | 16 => ("PaperWayModel", "wrong", "I", false)
  | 17 => ("PaperWayModel", "wrongAt", "I", false)
  | 18 => ("PaperWayModel", "lines", "I", false)
  | 19 => ("PaperWayModel", "hasTurn", "Z", false)
  | 20 => ("PaperWayModel", "hasDamp", "Z", false)
  | 21 => ("PaperWayModel", "faultKind", "I", false)
  | 22 => ("PaperWayModel", "faultPlace", "I", false)
  | 23 => ("PaperWayModel", "wear", "[I", true)
  | 24 => ("PaperWayModel", "beat", "[I", true)
  | 25 => ("PaperWayModel", "cornerAt", "[I", true)
  | 26 => ("PaperWayModel", "cornerMany", "I", false)
  | 27 => ("PaperWayModel", "sheets", "I", false)
  | 28 => ("PaperWayModel", "now", "I", false)
  | 29 => ("PaperWayModel", "jammed", "I", false)
  | 30 => ("PaperWayModel", "sheetLong", "[I", true)
  | 31 => ("PaperWayModel", "head", "[I", true)
  | 32 => ("PaperWayModel", "state", "[I", true)
  | 33 => ("PaperWayModel", "side", "[I", true)
  | 34 => ("PaperWayModel", "stood", "[I", true)
  | 35 => ("PaperWayModel", "came", "[I", true)
  | 36 => ("PaperWayModel", "isTurned", "[Z", true)
  | 37 => ("PaperWayModel", "isSeen", "[Z", true)
  | 38 => ("PaperWayModel", "seeing", "[Z", true)
  | 39 => ("PaperWayModel", "isKept", "[Z", true)
  | 40 => ("PaperWayModel", "passings", "[I", true)
  | 41 => ("PaperWayModel", "passOn", "[I", true)
  | 42 => ("PaperWayModel", "passOff", "[I", true)
  | 43 => ("PaperWayModel", "seenOn", "[I", true)
  | 44 => ("PaperWayModel", "seenOff", "[I", true)
  | 45 => ("PaperWayModel", "went", "[Z", true)
  | 46 => ("PaperWayModel", "tryWear", "[I", true)
  | 47 => ("PaperWayModel", "tryBeat", "[I", true)
  | 48 => ("PaperWayModel", "tryCorner", "[I", true)
  | 49 => ("PaperWayModel", "firstOn", "[I", true)
  | 50 => ("PaperWayModel", "firstOff", "[I", true)
  | 51 => ("PaperWayModel", "tryCorners", "I", false)
  | 52 => ("PaperWayModel", "tryHead", "I", false)
  | 53 => ("PaperWayModel", "tryStood", "I", false)
  | 54 => ("PaperWayModel", "all", "[I", true)
  | 55 => ("PaperWayModel", "hasImage", "[Z", true)
  | 56 => ("PaperWayModel", "isMet", "[J", true)
  | 57 => ("PaperWayModel", "line", "[I", true)
  | 58 => ("PaperWayModel", "lineFrom", "[I", true)
  | 59 => ("PaperWayModel", "lineAct", "[I", true)
  | 60 => ("PaperWayModel", "lined", "I", false)
  | 61 => ("PaperWayModel", "goal", "I", false)
  | 62 => ("PaperWayModel", "most", "[I", true)
  | 63 => ("PaperWayModel", "pairOf", "[I", true)
  | 64 => ("PaperWayModel", "serviceCost", "I", false)
  | 65 => ("PaperWayModel", "serviceNew", "I", false)
  | 66 => ("PaperWayModel", "rowSort", "[I", true)
  | 67 => ("PaperWayModel", "rowMany", "[I", true)
  | _ => ("PaperWayModel", "cells", "[J", true)
def tyX12 : Nat → FieldType := fun k => match k with
  | 0 => .int
  | 1 => .array .int
  | 2 => .int
  | 3 => .array .int
  | 4 => .array .int
  | 5 => .array .int
  | 6 => .array .int
  | 7 => .array .int
  | 8 => .array .int
  | 9 => .array .int
  | 10 => .array .int
  | 11 => .int
  | 12 => .int
  | 13 => .int
  | 14 => .int
  | 15 => .int
  | 16 => .int
  | 17 => .int
  | 18 => .int
  | 19 => .boolean
  | 20 => .boolean
  | 21 => .int
  | 22 => .int
  | 23 => .array .int
  | 24 => .array .int
  | 25 => .array .int
  | 26 => .int
  | 27 => .int
  | 28 => .int
  | 29 => .int
  | 30 => .array .int
  | 31 => .array .int
  | 32 => .array .int
  | 33 => .array .int
  | 34 => .array .int
  | 35 => .array .int
  | 36 => .array .boolean
  | 37 => .array .boolean
  | 38 => .array .boolean
  | 39 => .array .boolean
  | 40 => .array .int
  | 41 => .array .int
  | 42 => .array .int
  | 43 => .array .int
  | 44 => .array .int
  | 45 => .array .boolean
  | 46 => .array .int
  | 47 => .array .int
  | 48 => .array .int
  | 49 => .array .int
  | 50 => .array .int
  | 51 => .int
  | 52 => .int
  | 53 => .int
  | 54 => .array .int
  | 55 => .array .boolean
  | 56 => .array .long
  | 57 => .array .int
  | 58 => .array .int
  | 59 => .array .int
  | 60 => .int
  | 61 => .int
  | 62 => .array .int
  | 63 => .array .int
  | 64 => .int
  | 65 => .int
  | 66 => .array .int
  | 67 => .array .int
  | _ => .array .long
abbrev wsX120 : List Cond := u_ws RX12 TX12 69
theorem nmX12 : ∀ a, a < 69 → ∀ b, b < 69 → a ≠ b → (TX12 a).2.1 ≠ (TX12 b).2.1 := by decide +kernel
theorem tyX12_ok : ∀ k, k < 69 → parseFieldDescriptor (TX12 k).2.2.1 = some (tyX12 k) := by decide +kernel
abbrev cX12_within : ByteArray := prog_14_method_2_code
def yX12_within : MethodName := ⟨RX12, "within", "(JJJ)Z"⟩
abbrev cX12_init : ByteArray := prog_14_method_3_code
def yX12_init : MethodName := ⟨RX12, "<init>", "()V"⟩
abbrev cX12_begins : ByteArray := prog_14_method_4_code
def yX12_begins : MethodName := ⟨RX12, "begins", "()V"⟩
abbrev cX12_becomes : ByteArray := prog_14_method_5_code
def yX12_becomes : MethodName := ⟨RX12, "becomes", "()V"⟩
abbrev cX12_feed : ByteArray := prog_14_method_6_code
def yX12_feed : MethodName := ⟨RX12, "feed", "(IIIII)I"⟩
abbrev cX12_see : ByteArray := prog_14_method_7_code
def yX12_see : MethodName := ⟨RX12, "see", "(I)I"⟩
abbrev cX12_isSmall : ByteArray := prog_14_method_8_code
def yX12_isSmall : MethodName := ⟨RX12, "isSmall", "(I)Z"⟩
abbrev cX12_isDigit : ByteArray := prog_14_method_9_code
def yX12_isDigit : MethodName := ⟨RX12, "isDigit", "(I)Z"⟩
abbrev cX12_keyAt : ByteArray := prog_14_method_10_code
def yX12_keyAt : MethodName := ⟨RX12, "keyAt", "()I"⟩
abbrev cX12_next : ByteArray := prog_14_method_11_code
def yX12_next : MethodName := ⟨RX12, "next", "()V"⟩
abbrev cX12_fails : ByteArray := prog_14_method_12_code
def yX12_fails : MethodName := ⟨RX12, "fails", "(I)V"⟩
abbrev cX12_is : ByteArray := prog_14_method_13_code
def yX12_is : MethodName := ⟨RX12, "is", "(I)Z"⟩
abbrev cX12_needs : ByteArray := prog_14_method_14_code
def yX12_needs : MethodName := ⟨RX12, "needs", "(I)V"⟩
abbrev cX12_reads : ByteArray := prog_14_method_15_code
def yX12_reads : MethodName := ⟨RX12, "reads", "(II)I"⟩
abbrev cX12_readsRoller : ByteArray := prog_14_method_16_code
def yX12_readsRoller : MethodName := ⟨RX12, "readsRoller", "()V"⟩
abbrev cX12_readsEye : ByteArray := prog_14_method_17_code
def yX12_readsEye : MethodName := ⟨RX12, "readsEye", "()V"⟩
abbrev cX12_readsTurn : ByteArray := prog_14_method_18_code
def yX12_readsTurn : MethodName := ⟨RX12, "readsTurn", "()V"⟩
abbrev cX12_readsDamp : ByteArray := prog_14_method_19_code
def yX12_readsDamp : MethodName := ⟨RX12, "readsDamp", "()V"⟩
abbrev cX12_text : ByteArray := prog_14_method_20_code
def yX12_text : MethodName := ⟨RX12, "text", "(I)I"⟩
abbrev cX12_fault : ByteArray := prog_14_method_21_code
def yX12_fault : MethodName := ⟨RX12, "fault", "(I)I"⟩
abbrev cX12_isRoller : ByteArray := prog_14_method_22_code
def yX12_isRoller : MethodName := ⟨RX12, "isRoller", "(I)Z"⟩
abbrev cX12_isEye : ByteArray := prog_14_method_23_code
def yX12_isEye : MethodName := ⟨RX12, "isEye", "(I)Z"⟩
abbrev cX12_set : ByteArray := prog_14_method_24_code
def yX12_set : MethodName := ⟨RX12, "set", "(III)I"⟩
abbrev cX12_cornerOf : ByteArray := prog_14_method_25_code
def yX12_cornerOf : MethodName := ⟨RX12, "cornerOf", "(I)I"⟩
abbrev cX12_leaves : ByteArray := prog_14_method_26_code
def yX12_leaves : MethodName := ⟨RX12, "leaves", "(I)Z"⟩
abbrev cX12_corner : ByteArray := prog_14_method_27_code
def yX12_corner : MethodName := ⟨RX12, "corner", "(IZ)Z"⟩
abbrev cX12_isGoing : ByteArray := prog_14_method_28_code
def yX12_isGoing : MethodName := ⟨RX12, "isGoing", "(I)Z"⟩
abbrev cX12_tail : ByteArray := prog_14_method_29_code
def yX12_tail : MethodName := ⟨RX12, "tail", "(I)I"⟩
abbrev cX12_isOver : ByteArray := prog_14_method_30_code
def yX12_isOver : MethodName := ⟨RX12, "isOver", "(II)Z"⟩
abbrev cX12_lay : ByteArray := prog_14_method_31_code
def yX12_lay : MethodName := ⟨RX12, "lay", "(IZ)I"⟩
abbrev cX12_drive : ByteArray := prog_14_method_32_code
def yX12_drive : MethodName := ⟨RX12, "drive", "(III[I[I)I"⟩
abbrev cX12_bound : ByteArray := prog_14_method_33_code
def yX12_bound : MethodName := ⟨RX12, "bound", "(II[II)I"⟩
abbrev cX12_ahead : ByteArray := prog_14_method_34_code
def yX12_ahead : MethodName := ⟨RX12, "ahead", "(I)I"⟩
abbrev cX12_inPocket : ByteArray := prog_14_method_35_code
def yX12_inPocket : MethodName := ⟨RX12, "inPocket", "()I"⟩
abbrev cX12_waits : ByteArray := prog_14_method_36_code
def yX12_waits : MethodName := ⟨RX12, "waits", "(I)Z"⟩
abbrev cX12_waitsNow : ByteArray := prog_14_method_37_code
def yX12_waitsNow : MethodName := ⟨RX12, "waitsNow", "(I)V"⟩
abbrev cX12_goes : ByteArray := prog_14_method_38_code
def yX12_goes : MethodName := ⟨RX12, "goes", "(I)V"⟩
abbrev cX12_ticks : ByteArray := prog_14_method_39_code
def yX12_ticks : MethodName := ⟨RX12, "ticks", "()V"⟩
abbrev cX12_comesBack : ByteArray := prog_14_method_40_code
def yX12_comesBack : MethodName := ⟨RX12, "comesBack", "()V"⟩
abbrev cX12_looks : ByteArray := prog_14_method_41_code
def yX12_looks : MethodName := ⟨RX12, "looks", "()V"⟩
abbrev cX12_tick : ByteArray := prog_14_method_42_code
def yX12_tick : MethodName := ⟨RX12, "tick", "(I)I"⟩
abbrev cX12_sheet : ByteArray := prog_14_method_43_code
def yX12_sheet : MethodName := ⟨RX12, "sheet", "(II)I"⟩
abbrev cX12_clear : ByteArray := prog_14_method_44_code
def yX12_clear : MethodName := ⟨RX12, "clear", "(Z)I"⟩
abbrev cX12_sees : ByteArray := prog_14_method_45_code
def yX12_sees : MethodName := ⟨RX12, "sees", "(I)I"⟩
abbrev cX12_passing : ByteArray := prog_14_method_46_code
def yX12_passing : MethodName := ⟨RX12, "passing", "(III)I"⟩
abbrev cX12_goesAlone : ByteArray := prog_14_method_47_code
def yX12_goesAlone : MethodName := ⟨RX12, "goesAlone", "(II)V"⟩
abbrev cX12_isOutAlone : ByteArray := prog_14_method_48_code
def yX12_isOutAlone : MethodName := ⟨RX12, "isOutAlone", "(II)Z"⟩
abbrev cX12_looksAlone : ByteArray := prog_14_method_49_code
def yX12_looksAlone : MethodName := ⟨RX12, "looksAlone", "(I)V"⟩
abbrev cX12_saw : ByteArray := prog_14_method_50_code
def yX12_saw : MethodName := ⟨RX12, "saw", "(III)Z"⟩
abbrev cX12_observed : ByteArray := prog_14_method_51_code
def yX12_observed : MethodName := ⟨RX12, "observed", "()I"⟩
abbrev cX12_forget : ByteArray := prog_14_method_52_code
def yX12_forget : MethodName := ⟨RX12, "forget", "()I"⟩
abbrev cX12_isCause : ByteArray := prog_14_method_53_code
def yX12_isCause : MethodName := ⟨RX12, "isCause", "(I)Z"⟩
abbrev cX12_takesCause : ByteArray := prog_14_method_54_code
def yX12_takesCause : MethodName := ⟨RX12, "takesCause", "(I)V"⟩
abbrev cX12_explains : ByteArray := prog_14_method_55_code
def yX12_explains : MethodName := ⟨RX12, "explains", "(III)Z"⟩
abbrev cX12_explain : ByteArray := prog_14_method_56_code
def yX12_explain : MethodName := ⟨RX12, "explain", "(II)I"⟩
abbrev cX12_foretold : ByteArray := prog_14_method_57_code
def yX12_foretold : MethodName := ⟨RX12, "foretold", "(III)I"⟩
abbrev cX12_creaseOf : ByteArray := prog_14_method_58_code
def yX12_creaseOf : MethodName := ⟨RX12, "creaseOf", "(III)I"⟩
abbrev cX12_crease : ByteArray := prog_14_method_59_code
def yX12_crease : MethodName := ⟨RX12, "crease", "(IIIII)I"⟩
abbrev cX12_setsOut : ByteArray := prog_14_method_60_code
def yX12_setsOut : MethodName := ⟨RX12, "setsOut", "()V"⟩
abbrev cX12_page : ByteArray := prog_14_method_61_code
def yX12_page : MethodName := ⟨RX12, "page", "(IZ)I"⟩
abbrev cX12_tray : ByteArray := prog_14_method_62_code
def yX12_tray : MethodName := ⟨RX12, "tray", "(IIZ)Z"⟩
abbrev cX12_pocket : ByteArray := prog_14_method_63_code
def yX12_pocket : MethodName := ⟨RX12, "pocket", "(II)Z"⟩
abbrev cX12_heat : ByteArray := prog_14_method_64_code
def yX12_heat : MethodName := ⟨RX12, "heat", "(IIII)Z"⟩
abbrev cX12_stateOf : ByteArray := prog_14_method_65_code
def yX12_stateOf : MethodName := ⟨RX12, "stateOf", "(IIIIIII)I"⟩
abbrev cX12_adds : ByteArray := prog_14_method_66_code
def yX12_adds : MethodName := ⟨RX12, "adds", "(III)V"⟩
abbrev cX12_lain : ByteArray := prog_14_method_67_code
def yX12_lain : MethodName := ⟨RX12, "lain", "(I)I"⟩
abbrev cX12_isOut : ByteArray := prog_14_method_68_code
def yX12_isOut : MethodName := ⟨RX12, "isOut", "(I)Z"⟩
abbrev cX12_opens : ByteArray := prog_14_method_69_code
def yX12_opens : MethodName := ⟨RX12, "opens", "(I)V"⟩
abbrev cX12_finds : ByteArray := prog_14_method_70_code
def yX12_finds : MethodName := ⟨RX12, "finds", "()Z"⟩
abbrev cX12_plan : ByteArray := prog_14_method_71_code
def yX12_plan : MethodName := ⟨RX12, "plan", "(I)I"⟩
abbrev cX12_copies : ByteArray := prog_14_method_72_code
def yX12_copies : MethodName := ⟨RX12, "copies", "(I)I"⟩
abbrev cX12_out : ByteArray := prog_14_method_73_code
def yX12_out : MethodName := ⟨RX12, "out", "(I)I"⟩
abbrev cX12_empty : ByteArray := prog_14_method_74_code
def yX12_empty : MethodName := ⟨RX12, "empty", "()I"⟩
abbrev cX12_wanted : ByteArray := prog_14_method_75_code
def yX12_wanted : MethodName := ⟨RX12, "wanted", "()I"⟩
abbrev cX12_mostAt : ByteArray := prog_14_method_76_code
def yX12_mostAt : MethodName := ⟨RX12, "mostAt", "(II)I"⟩
abbrev cX12_pairs : ByteArray := prog_14_method_77_code
def yX12_pairs : MethodName := ⟨RX12, "pairs", "()V"⟩
abbrev cX12_again : ByteArray := prog_14_method_78_code
def yX12_again : MethodName := ⟨RX12, "again", "(I)I"⟩
abbrev cX12_lack : ByteArray := prog_14_method_79_code
def yX12_lack : MethodName := ⟨RX12, "lack", "(I)I"⟩
abbrev cX12_kept : ByteArray := prog_14_method_80_code
def yX12_kept : MethodName := ⟨RX12, "kept", "(I)I"⟩
abbrev cX12_pay : ByteArray := prog_14_method_81_code
def yX12_pay : MethodName := ⟨RX12, "pay", "(III)I"⟩
abbrev cX12_part : ByteArray := prog_14_method_82_code
def yX12_part : MethodName := ⟨RX12, "part", "(IIII)Z"⟩
abbrev cX12_renewals : ByteArray := prog_14_method_83_code
def yX12_renewals : MethodName := ⟨RX12, "renewals", "(III)I"⟩
abbrev cX12_serves : ByteArray := prog_14_method_84_code
def yX12_serves : MethodName := ⟨RX12, "serves", "(III)Z"⟩
abbrev cX12_ones : ByteArray := prog_14_method_85_code
def yX12_ones : MethodName := ⟨RX12, "ones", "(I)I"⟩
abbrev cX12_service : ByteArray := prog_14_method_86_code
def yX12_service : MethodName := ⟨RX12, "service", "(III)I"⟩
abbrev cX12_cut : ByteArray := prog_14_method_87_code
def yX12_cut : MethodName := ⟨RX12, "cut", "(JI)J"⟩
abbrev cX12_row : ByteArray := prog_14_method_88_code
def yX12_row : MethodName := ⟨RX12, "row", "(III)I"⟩
abbrev cX12_write : ByteArray := prog_14_method_89_code
def yX12_write : MethodName := ⟨RX12, "write", "(IIJ)J"⟩
abbrev cX12_save : ByteArray := prog_14_method_90_code
def yX12_save : MethodName := ⟨RX12, "save", "(I)I"⟩
abbrev cX12_load : ByteArray := prog_14_method_91_code
def yX12_load : MethodName := ⟨RX12, "load", "(II)I"⟩
abbrev cX12_image : ByteArray := prog_14_method_92_code
def yX12_image : MethodName := ⟨RX12, "image", "(I)Z"⟩
abbrev cX12_restore : ByteArray := prog_14_method_93_code
def yX12_restore : MethodName := ⟨RX12, "restore", "(I)Z"⟩
abbrev cX12_count : ByteArray := prog_14_method_94_code
def yX12_count : MethodName := ⟨RX12, "count", "(I)I"⟩
def RJx145de : String := "java/io/Serializable"
def TJx145de : u_T := fun k => match k with
  | _ => ("", "", "", false)
def tyJx145de : Nat → FieldType := fun k => match k with
  | _ => .int
abbrev wsJx145de0 : List Cond := u_ws RJx145de TJx145de 0
theorem nmJx145de : ∀ a, a < 0 → ∀ b, b < 0 → a ≠ b → (TJx145de a).2.1 ≠ (TJx145de b).2.1 := by decide +kernel
theorem tyJx145de_ok : ∀ k, k < 0 → parseFieldDescriptor (TJx145de k).2.2.1 = some (tyJx145de k) := by decide +kernel
def RJx9f9b0 : String := "java/lang/CharSequence"
def TJx9f9b0 : u_T := fun k => match k with
  | _ => ("", "", "", false)
def tyJx9f9b0 : Nat → FieldType := fun k => match k with
  | _ => .int
abbrev wsJx9f9b00 : List Cond := u_ws RJx9f9b0 TJx9f9b0 0
theorem nmJx9f9b0 : ∀ a, a < 0 → ∀ b, b < 0 → a ≠ b → (TJx9f9b0 a).2.1 ≠ (TJx9f9b0 b).2.1 := by decide +kernel
theorem tyJx9f9b0_ok : ∀ k, k < 0 → parseFieldDescriptor (TJx9f9b0 k).2.2.1 = some (tyJx9f9b0 k) := by decide +kernel
def RJxb160c : String := "java/lang/Comparable"
def TJxb160c : u_T := fun k => match k with
  | _ => ("", "", "", false)
def tyJxb160c : Nat → FieldType := fun k => match k with
  | _ => .int
abbrev wsJxb160c0 : List Cond := u_ws RJxb160c TJxb160c 0
theorem nmJxb160c : ∀ a, a < 0 → ∀ b, b < 0 → a ≠ b → (TJxb160c a).2.1 ≠ (TJxb160c b).2.1 := by decide +kernel
theorem tyJxb160c_ok : ∀ k, k < 0 → parseFieldDescriptor (TJxb160c k).2.2.1 = some (tyJxb160c k) := by decide +kernel
def RJ6 : String := "java/lang/Integer"
def TJ6 : u_T := fun k => match k with
  | _ => ("", "", "", false)
def tyJ6 : Nat → FieldType := fun k => match k with
  | _ => .int
abbrev wsJ60 : List Cond := u_ws RJ6 TJ6 0
theorem nmJ6 : ∀ a, a < 0 → ∀ b, b < 0 → a ≠ b → (TJ6 a).2.1 ≠ (TJ6 b).2.1 := by decide +kernel
theorem tyJ6_ok : ∀ k, k < 0 → parseFieldDescriptor (TJ6 k).2.2.1 = some (tyJ6 k) := by decide +kernel
abbrev cJ6_bitCount_0f7a4 : ByteArray := prog_15_method_49_code
def yJ6_bitCount_0f7a4 : MethodName := ⟨RJ6, "bitCount", "(I)I"⟩
def RJ9 : String := "java/lang/Math"
def TJ9 : u_T := fun k => match k with
  | _ => ("", "", "", false)
def tyJ9 : Nat → FieldType := fun k => match k with
  | _ => .int
abbrev wsJ90 : List Cond := u_ws RJ9 TJ9 0
theorem nmJ9 : ∀ a, a < 0 → ∀ b, b < 0 → a ≠ b → (TJ9 a).2.1 ≠ (TJ9 b).2.1 := by decide +kernel
theorem tyJ9_ok : ∀ k, k < 0 → parseFieldDescriptor (TJ9 k).2.2.1 = some (tyJ9 k) := by decide +kernel
abbrev cJ9_max_7cf53 : ByteArray := prog_16_method_65_code
def yJ9_max_7cf53 : MethodName := ⟨RJ9, "max", "(II)I"⟩
abbrev cJ9_min_7cf53 : ByteArray := prog_16_method_69_code
def yJ9_min_7cf53 : MethodName := ⟨RJ9, "min", "(II)I"⟩
def RJ0 : String := "java/lang/String"
def TJ0 : u_T := fun k => match k with
  | _ => ("", "", "", false)
def tyJ0 : Nat → FieldType := fun k => match k with
  | _ => .int
abbrev wsJ00 : List Cond := u_ws RJ0 TJ0 0
theorem nmJ0 : ∀ a, a < 0 → ∀ b, b < 0 → a ≠ b → (TJ0 a).2.1 ≠ (TJ0 b).2.1 := by decide +kernel
theorem tyJ0_ok : ∀ k, k < 0 → parseFieldDescriptor (TJ0 k).2.2.1 = some (tyJ0 k) := by decide +kernel
abbrev cJ0_length_8abf5 : ByteArray := prog_17_method_54_code
def yJ0_length_8abf5 : MethodName := ⟨RJ0, "length", "()I"⟩
abbrev cJ0_charAt_5068e : ByteArray := prog_17_method_56_code
def yJ0_charAt_5068e : MethodName := ⟨RJ0, "charAt", "(I)C"⟩
abbrev cJ0_coder_7d493 : ByteArray := prog_17_method_152_code
def yJ0_coder_7d493 : MethodName := ⟨RJ0, "coder", "()B"⟩
abbrev cJ0_isLatin1_aae02 : ByteArray := prog_17_method_154_code
def yJ0_isLatin1_aae02 : MethodName := ⟨RJ0, "isLatin1", "()Z"⟩
abbrev cJ0_checkIndex_df160 : ByteArray := prog_17_method_155_code
def yJ0_checkIndex_df160 : MethodName := ⟨RJ0, "checkIndex", "(II)V"⟩
def RJ1 : String := "java/lang/StringLatin1"
def TJ1 : u_T := fun k => match k with
  | _ => ("", "", "", false)
def tyJ1 : Nat → FieldType := fun k => match k with
  | _ => .int
abbrev wsJ10 : List Cond := u_ws RJ1 TJ1 0
theorem nmJ1 : ∀ a, a < 0 → ∀ b, b < 0 → a ≠ b → (TJ1 a).2.1 ≠ (TJ1 b).2.1 := by decide +kernel
theorem tyJ1_ok : ∀ k, k < 0 → parseFieldDescriptor (TJ1 k).2.2.1 = some (tyJ1 k) := by decide +kernel
abbrev cJ1_charAt_3b067 : ByteArray := prog_18_method_2_code
def yJ1_charAt_3b067 : MethodName := ⟨RJ1, "charAt", "([BI)C"⟩
def RJ2 : String := "java/lang/StringUTF16"
def TJ2 : u_T := fun k => match k with
  | _ => ("", "", "", false)
def tyJ2 : Nat → FieldType := fun k => match k with
  | _ => .int
abbrev wsJ20 : List Cond := u_ws RJ2 TJ2 0
theorem nmJ2 : ∀ a, a < 0 → ∀ b, b < 0 → a ≠ b → (TJ2 a).2.1 ≠ (TJ2 b).2.1 := by decide +kernel
theorem tyJ2_ok : ∀ k, k < 0 → parseFieldDescriptor (TJ2 k).2.2.1 = some (tyJ2 k) := by decide +kernel
abbrev cJ2_getChar_3b067 : ByteArray := prog_19_method_5_code
def yJ2_getChar_3b067 : MethodName := ⟨RJ2, "getChar", "([BI)C"⟩
abbrev cJ2_length_9d52b : ByteArray := prog_19_method_6_code
def yJ2_length_9d52b : MethodName := ⟨RJ2, "length", "([B)I"⟩
abbrev cJ2_charAt_3b067 : ByteArray := prog_19_method_83_code
def yJ2_charAt_3b067 : MethodName := ⟨RJ2, "charAt", "([BI)C"⟩
abbrev cJ2_checkIndex_2214a : ByteArray := prog_19_method_91_code
def yJ2_checkIndex_2214a : MethodName := ⟨RJ2, "checkIndex", "(I[B)V"⟩
def RJ10 : String := "java/lang/System"
def TJ10 : u_T := fun k => match k with
  | _ => ("", "", "", false)
def tyJ10 : Nat → FieldType := fun k => match k with
  | _ => .int
abbrev wsJ100 : List Cond := u_ws RJ10 TJ10 0
theorem nmJ10 : ∀ a, a < 0 → ∀ b, b < 0 → a ≠ b → (TJ10 a).2.1 ≠ (TJ10 b).2.1 := by decide +kernel
theorem tyJ10_ok : ∀ k, k < 0 → parseFieldDescriptor (TJ10 k).2.2.1 = some (tyJ10 k) := by decide +kernel
def RJxfd54e : String := "java/lang/constant/Constable"
def TJxfd54e : u_T := fun k => match k with
  | _ => ("", "", "", false)
def tyJxfd54e : Nat → FieldType := fun k => match k with
  | _ => .int
abbrev wsJxfd54e0 : List Cond := u_ws RJxfd54e TJxfd54e 0
theorem nmJxfd54e : ∀ a, a < 0 → ∀ b, b < 0 → a ≠ b → (TJxfd54e a).2.1 ≠ (TJxfd54e b).2.1 := by decide +kernel
theorem tyJxfd54e_ok : ∀ k, k < 0 → parseFieldDescriptor (TJxfd54e k).2.2.1 = some (tyJxfd54e k) := by decide +kernel
def RJx3cf43 : String := "java/lang/constant/ConstantDesc"
def TJx3cf43 : u_T := fun k => match k with
  | _ => ("", "", "", false)
def tyJx3cf43 : Nat → FieldType := fun k => match k with
  | _ => .int
abbrev wsJx3cf430 : List Cond := u_ws RJx3cf43 TJx3cf43 0
theorem nmJx3cf43 : ∀ a, a < 0 → ∀ b, b < 0 → a ≠ b → (TJx3cf43 a).2.1 ≠ (TJx3cf43 b).2.1 := by decide +kernel
theorem tyJx3cf43_ok : ∀ k, k < 0 → parseFieldDescriptor (TJx3cf43 k).2.2.1 = some (tyJx3cf43 k) := by decide +kernel
def RJ7 : String := "java/util/Arrays"
def TJ7 : u_T := fun k => match k with
  | _ => ("", "", "", false)
def tyJ7 : Nat → FieldType := fun k => match k with
  | _ => .int
abbrev wsJ70 : List Cond := u_ws RJ7 TJ7 0
theorem nmJ7 : ∀ a, a < 0 → ∀ b, b < 0 → a ≠ b → (TJ7 a).2.1 ≠ (TJ7 b).2.1 := by decide +kernel
theorem tyJ7_ok : ∀ k, k < 0 → parseFieldDescriptor (TJ7 k).2.2.1 = some (tyJ7 k) := by decide +kernel
abbrev cJ7_fill_d0a16 : ByteArray := prog_21_method_101_code
def yJ7_fill_d0a16 : MethodName := ⟨RJ7, "fill", "([JJ)V"⟩
abbrev cJ7_fill_53178 : ByteArray := prog_21_method_103_code
def yJ7_fill_53178 : MethodName := ⟨RJ7, "fill", "([II)V"⟩
def RJ3 : String := "jdk/internal/util/Preconditions"
def TJ3 : u_T := fun k => match k with
  | _ => ("", "", "", false)
def tyJ3 : Nat → FieldType := fun k => match k with
  | _ => .int
abbrev wsJ30 : List Cond := u_ws RJ3 TJ3 0
theorem nmJ3 : ∀ a, a < 0 → ∀ b, b < 0 → a ≠ b → (TJ3 a).2.1 ≠ (TJ3 b).2.1 := by decide +kernel
theorem tyJ3_ok : ∀ k, k < 0 → parseFieldDescriptor (TJ3 k).2.2.1 = some (tyJ3 k) := by decide +kernel
abbrev cJ3_checkIndex_8e157 : ByteArray := prog_22_method_11_code
def yJ3_checkIndex_8e157 : MethodName := ⟨RJ3, "checkIndex", "(IILjava/util/function/BiFunction;)I"⟩
def RL : String := "PaperWayLaw"
abbrev cL_law : ByteArray := code
def yL_law : MethodName := ⟨RL, "law", "([I)Z"⟩
abbrev vwCl : List vw_C := [(RX0, TX0, 11), (RX1, TX1, 4), (RX2, TX2, 18), (RX3, TX3, 5), (RX4, TX4, 3), (RX5, TX5, 14), (RX6, TX6, 11), (RX7, TX7, 6), (RX8, TX8, 17), (RX9, TX9, 5), (RX10, TX10, 12), (RX11, TX11, 13), (RX12, TX12, 69)]
end
section
/-! A machine of numbers over named cells: values, memory, one step, a method's run. The rows behind it (04) show that the JVM's machine does the same. -/
/-- a value: an int, a long, or (tag, name): 0 null, 1 a cell (r, o), 2 nothing, 4 a String constant, 5 its bytes, 6 some reference -/
abbrev ZV : Type := Int ⊕ (Int ⊕ (Nat × Nat × Nat))
abbrev zi (n : Int) : ZV := .inl n
abbrev zl (n : Int) : ZV := .inr (.inl n)
abbrev zx (t r o : Nat) : ZV := .inr (.inr (t, r, o))
abbrev zr (r o : Nat) : ZV := .inr (.inr (1, r, o))
abbrev zu : ZV := .inr (.inr (2, 0, 0))
abbrev zn : ZV := .inr (.inr (0, 0, 0))
abbrev ZK : Type := Nat → Nat → Option (Nat × Nat)
abbrev ZF : Type := Nat → Nat → Nat → ZV
abbrev ZA : Type := Nat → Nat → Nat → Int
abbrev ZW : Type := List (Nat × Nat) × Nat × Nat
/-- memory: kinds and sizes; fields and rows of references; rows of numbers; names for new cells, how many cells and slots were made -/
abbrev ZM : Type := ZK × ZF × ZA × ZW
def zuf (f : ZF) (r o k : Nat) (v : ZV) : ZF := fun r' o' k' => if r' = r ∧ o' = o ∧ k' = k then v else f r' o' k'
def zua (a : ZA) (r o k : Nat) (v : Int) : ZA := fun r' o' k' => if r' = r ∧ o' = o ∧ k' = k then v else a r' o' k'
def zuk (q : ZK) (r o : Nat) (v : Nat × Nat) : ZK := fun r' o' => if r' = r ∧ o' = o then some v else q r' o'
def zuF (f : ZF) (r o : Nat) (g : Nat → ZV) : ZF := fun r' o' k' => if r' = r ∧ o' = o then g k' else f r' o' k'
def zuA (a : ZA) (r o : Nat) (g : Nat → Int) : ZA := fun r' o' k' => if r' = r ∧ o' = o then g k' else a r' o' k'
-- numbers as the machine counts them
def zadd (x y : Int) : Int := (Int32.ofInt x + Int32.ofInt y).toInt
def zsub (x y : Int) : Int := (Int32.ofInt x - Int32.ofInt y).toInt
def zmul (x y : Int) : Int := (Int32.ofInt x * Int32.ofInt y).toInt
def zdiv (x y : Int) : Int := (Int32.ofInt x / Int32.ofInt y).toInt
def zrem (x y : Int) : Int := (Int32.ofInt x - Int32.ofInt x / Int32.ofInt y * Int32.ofInt y).toInt
def zneg (x : Int) : Int := (-Int32.ofInt x).toInt
def zand (x y : Int) : Int := (Int32.ofInt x &&& Int32.ofInt y).toInt
def zor (x y : Int) : Int := (Int32.ofInt x ||| Int32.ofInt y).toInt
def zshl (x y : Int) : Int := (Int32.ofInt x <<< (Int32.ofInt y &&& 31)).toInt
def zshr (x y : Int) : Int := (Int32.ofInt x >>> (Int32.ofInt y &&& 31)).toInt
def zushr (x y : Int) : Int := ((Int32.ofInt x).toUInt32 >>> ((Int32.ofInt y).toUInt32 &&& Int32.toUInt32 31)).toInt32.toInt
def zland (x y : Int) : Int := (Int64.ofInt x &&& Int64.ofInt y).toInt
def zlor (x y : Int) : Int := (Int64.ofInt x ||| Int64.ofInt y).toInt
def zlshl (x y : Int) : Int := (Int64.ofInt x <<< ((Int32.ofInt y).toInt64 &&& 63)).toInt
def zlshr (x y : Int) : Int := (Int64.ofInt x >>> ((Int32.ofInt y).toInt64 &&& 63)).toInt
def zl2i (x : Int) : Int := (Int64.ofInt x).toInt32.toInt
def zi2b (x : Int) : Int := (Int32.ofInt x).toInt8.toInt32.toInt
def zi2s (x : Int) : Int := (Int32.ofInt x).toInt16.toInt32.toInt
def zi2c (x : Int) : Int := ((Int32.ofInt x).toUInt32 % 65536).toInt32.toInt
def zlcmp (x y : Int) : Int := if x < y then -1 else if x = y then 0 else 1
def zislong : ZV → Bool
  | .inr (.inl _) => true
  | _ => false
def zcat : ZV → Nat
  | .inr (.inl _) => 2
  | _ => 1
def zst1 : List ZV → Nat → ZV → List ZV
  | [], _, _ => []
  | _ :: t, 0, v => v :: t
  | h :: t, i + 1, v => (bif i == 0 && zislong h then zu else h) :: zst1 t i v
def zst2 : List ZV → Nat → ZV → List ZV
  | [], _, _ => []
  | _ :: [], 0, _ => []
  | _ :: _ :: t, 0, v => v :: zu :: t
  | h :: t, i + 1, v => (bif i == 0 && zislong h then zu else h) :: zst2 t i v
def zgetI (ls : List ZV) (i : Nat) : Option Int := match ls[i]? with
  | some (.inl x) => some x
  | _ => none
def zstrs : List (List Int) := [[119, 97, 121], [101, 121, 101], [115, 112, 101, 101, 100], [114, 111, 108, 108, 101, 114], [116, 117, 114, 110], [98, 97, 99, 107], [104, 111, 108, 100], [114, 101, 115, 116], [100, 97, 109, 112],
  [32, 119, 97, 121, 32, 114, 111, 108, 108, 101, 114, 32, 115, 112, 101, 101, 100, 32, 101, 121, 101, 32, 116, 117, 114, 110, 32, 98, 97, 99, 107, 32, 104, 111, 108, 100, 32, 114, 101, 115, 116, 32, 100, 97, 109, 112, 32]]
def zstr (k : Nat) : List Int := zstrs.getD k []
abbrev ZP : Type := Nat × Nat × Int
abbrev ZR : Type := Option (List ZV × List ZV × ZM)
/-- loads: 1 an int, 2 a long, 3 a reference -/
def zldI (i : Nat) (ls st : List ZV) (μ : ZM) : ZR := match ls[i]? with
  | some (.inl x) => some (ls, .inl x :: st, μ)
  | _ => none
def zldL (i : Nat) (ls st : List ZV) (μ : ZM) : ZR := match ls[i]? with
  | some (.inr (.inl x)) => some (ls, .inr (.inl x) :: st, μ)
  | _ => none
def zldA (i : Nat) (ls st : List ZV) (μ : ZM) : ZR := match ls[i]? with
  | some (.inr (.inr (t, r, o))) => if t = 1 ∨ t = 4 ∨ t = 5 then some (ls, .inr (.inr (t, r, o)) :: st, μ) else none
  | _ => none
def zstI (i : Nat) (ls st : List ZV) (μ : ZM) : ZR := match st with
  | .inl x :: st' => if i < ls.length then some (zst1 ls i (.inl x), st', μ) else none
  | _ => none
def zstL (i : Nat) (ls st : List ZV) (μ : ZM) : ZR := match st with
  | .inr (.inl x) :: st' => if i + 1 < ls.length then some (zst2 ls i (.inr (.inl x)), st', μ) else none
  | _ => none
def zstA (i : Nat) (ls st : List ZV) (μ : ZM) : ZR := match st with
  | .inr (.inr (t, r, o)) :: st' => if i < ls.length ∧ t = 1 then some (zst1 ls i (.inr (.inr (t, r, o))), st', μ) else none
  | _ => none
/-- loads and stores of rows: kd the kind -/
def zaldN (kd : Nat) (lg : Bool) (st : List ZV) (ls : List ZV) (μ : ZM) : ZR := match st with
  | .inl i :: .inr (.inr (t, r, o)) :: st' =>
    match t, μ.1 r o with
    | 1, some (k, n) => if (k = kd ∨ (kd = 0 ∧ k = 6)) ∧ 0 ≤ i ∧ i < (n : Int) then some (ls, (bif lg then .inr (.inl (μ.2.2.1 r o i.toNat)) else .inl (μ.2.2.1 r o i.toNat)) :: st', μ) else none
    | _, _ => none
  | _ => none
def zbald (p : ZP) (st : List ZV) (ls : List ZV) (μ : ZM) : ZR := match st with
  | .inl i :: .inr (.inr (t, r, o)) :: st' =>
    match t with
    | 5 => if 0 ≤ i ∧ i < ((zstr r).length : Int) ∧ r < 10 ∧ p.1 = 5 then some (ls, .inl ((zstr r).getD i.toNat 0) :: st', μ) else none
    | _ => zaldN p.1 false st ls μ
  | _ => none
def zaald (st : List ZV) (ls : List ZV) (μ : ZM) : ZR := match st with
  | .inl i :: .inr (.inr (t, r, o)) :: st' =>
    match t, μ.1 r o with
    | 1, some (k, n) => if (k = 4 ∨ k = 5) ∧ 0 ≤ i ∧ i < (n : Int) then some (ls, μ.2.1 r o i.toNat :: st', μ) else none
    | _, _ => none
  | _ => none
def zastN (kd : Nat) (st : List ZV) (ls : List ZV) (μ : ZM) : ZR := match st with
  | .inl x :: .inl i :: .inr (.inr (t, r, o)) :: st' =>
    match t, μ.1 r o with
    | 1, some (k, n) => if k = kd ∧ 0 ≤ i ∧ i < (n : Int) ∧ (kd = 0 ∨ (kd = 1 ∧ (x = 0 ∨ x = 1)) ∨ (kd = 2 ∧ -128 ≤ x ∧ x < 128)) then some (ls, st', (μ.1, μ.2.1, zua μ.2.2.1 r o i.toNat x, μ.2.2.2)) else none
    | _, _ => none
  | _ => none
def zastL (st : List ZV) (ls : List ZV) (μ : ZM) : ZR := match st with
  | .inr (.inl x) :: .inl i :: .inr (.inr (t, r, o)) :: st' =>
    match t, μ.1 r o with
    | 1, some (k, n) => if k = 3 ∧ 0 ≤ i ∧ i < (n : Int) then some (ls, st', (μ.1, μ.2.1, zua μ.2.2.1 r o i.toNat x, μ.2.2.2)) else none
    | _, _ => none
  | _ => none
/-- aastore, of objects of the class of kind 12 into a row of kind 4 -/
def zaast (st : List ZV) (ls : List ZV) (μ : ZM) : ZR := match st with
  | .inr (.inr (t', r', o')) :: .inl i :: .inr (.inr (t, r, o)) :: st' =>
    match t, t', μ.1 r o, μ.1 r' o' with
    | 1, 1, some (k, n), some (k', _) => if k = 4 ∧ k' = 12 ∧ 0 ≤ i ∧ i < (n : Int) then some (ls, st', (μ.1, zuf μ.2.1 r o i.toNat (.inr (.inr (1, r', o'))), μ.2.2)) else none
    | _, _, _, _ => none
  | _ => none
def zalen (st : List ZV) (ls : List ZV) (μ : ZM) : ZR := match st with
  | .inr (.inr (t, r, o)) :: st' =>
    match t with
    | 5 => if r < 10 then some (ls, .inl ((zstr r).length : Int) :: st', μ) else none
    | 1 => match μ.1 r o with
      | some (k, n) => if k < 7 ∧ n < 2147483648 then some (ls, .inl (n : Int) :: st', μ) else none
      | _ => none
    | _ => none
  | _ => none
/-- getfield: the class's number and the field's; 50, 51: value and coder of a String constant -/
def zgetf (p : ZP) (st : List ZV) (ls : List ZV) (μ : ZM) : ZR := match st with
  | .inr (.inr (t, r, o)) :: st' =>
    match t with
    | 4 => if p.1 = 50 ∧ r < 10 then some (ls, .inr (.inr (5, r, 0)) :: st', μ) else if p.1 = 51 ∧ r < 10 then some (ls, .inl 0 :: st', μ) else none
    | 1 => match μ.1 r o with
      | some (k, n) => if k = p.1 + 10 ∧ p.1 < 13 ∧ p.2.1 < n then some (ls, μ.2.1 r o p.2.1 :: st', μ) else none
      | _ => none
    | _ => none
  | _ => none
/-- the sort of a field: 0 int, 1 boolean, 2 a reference -/
def zfits (srt : Int) (v : ZV) : Bool := match v with
  | .inl x => srt == 0 || (srt == 1 && (x == 0 || x == 1))
  | .inr (.inl _) => false
  | .inr (.inr (t, _, _)) => srt == 2 && t == 1
def zputf (p : ZP) (st : List ZV) (ls : List ZV) (μ : ZM) : ZR := match st with
  | v :: .inr (.inr (t, r, o)) :: st' =>
    match t, μ.1 r o with
    | 1, some (k, n) => if k = p.1 + 10 ∧ p.1 < 13 ∧ p.2.1 < n ∧ zfits p.2.2 v = true then some (ls, st', (μ.1, zuf μ.2.1 r o p.2.1 v, μ.2.2)) else none
    | _, _ => none
  | _ => none
/-- the next name, if it is free -/
def znew (kd n : Nat) (g : Nat → ZV) (μ : ZM) : Option ((Nat × Nat) × ZM) := match μ with
  | (q, f, a, (r, o) :: ns, c, s) => if q r o = none then some ((r, o), (zuk q r o (kd, n), zuF f r o g, zuA a r o (fun _ => 0), ns, c + 1, s + n)) else none
  | _ => none
def zdfl (ci : Nat) (srts : Nat → Int) : Nat → ZV := fun k => if srts k = 2 then zn else .inl 0
def znewa (kd : Nat) (st ls : List ZV) (μ : ZM) : ZR := match st with
  | .inl n :: st' => if 0 ≤ n ∧ n ≤ 1000000 then (match znew kd n.toNat (fun _ => zn) μ with
    | some ((r, o), μ') => some (ls, .inr (.inr (1, r, o)) :: st', μ')
    | none => none) else none
  | _ => none
def zakind : ClassFile.ArrayType → Nat
  | .int => 0
  | .boolean => 1
  | .byte => 2
  | .long => 3
  | _ => 99
def zbin (st ls : List ZV) (μ : ZM) (g : Int → Int → Int) : ZR := match st with
  | .inl y :: .inl x :: st' => some (ls, .inl (g x y) :: st', μ)
  | _ => none
def zbind (st ls : List ZV) (μ : ZM) (g : Int → Int → Int) : ZR := match st with
  | .inl y :: .inl x :: st' => if y = 0 then none else some (ls, .inl (g x y) :: st', μ)
  | _ => none
def zun (st ls : List ZV) (μ : ZM) (g : Int → Int) : ZR := match st with
  | .inl x :: st' => some (ls, .inl (g x) :: st', μ)
  | _ => none
def zlbin (st ls : List ZV) (μ : ZM) (g : Int → Int → Int) : ZR := match st with
  | .inr (.inl y) :: .inr (.inl x) :: st' => some (ls, .inr (.inl (g x y)) :: st', μ)
  | _ => none
def zlsh (st ls : List ZV) (μ : ZM) (g : Int → Int → Int) : ZR := match st with
  | .inl y :: .inr (.inl x) :: st' => some (ls, .inr (.inl (g x y)) :: st', μ)
  | _ => none
/-- new long[4][60], by five names -/
def zmulti (st ls : List ZV) (μ : ZM) : ZR := match st, μ with
  | .inl k :: .inl n :: st', (q, f, a, (r0, o0) :: (r1, o1) :: (r2, o2) :: (r3, o3) :: (r4, o4) :: ns, c, s) =>
    if n = 4 ∧ k = 60 ∧ q r0 o0 = none ∧ q r1 o1 = none ∧ q r2 o2 = none ∧ q r3 o3 = none ∧ q r4 o4 = none ∧ [(r0, o0), (r1, o1), (r2, o2), (r3, o3), (r4, o4)].Nodup then
      some (ls, .inr (.inr (1, r0, o0)) :: st', (zuk (zuk (zuk (zuk (zuk q r0 o0 (5, 4)) r1 o1 (3, 60)) r2 o2 (3, 60)) r3 o3 (3, 60)) r4 o4 (3, 60),
        zuF f r0 o0 (fun i => if i = 0 then zr r1 o1 else if i = 1 then zr r2 o2 else if i = 2 then zr r3 o3 else if i = 3 then zr r4 o4 else zn),
        zuA (zuA (zuA (zuA a r1 o1 (fun _ => 0)) r2 o2 (fun _ => 0)) r3 o3 (fun _ => 0)) r4 o4 (fun _ => 0), ns, c + 5, s + 244))
    else none
  | _, _ => none
/-- the sorts of the classes' fields: 0 int, 1 boolean, 2 a reference -/
def zsrt (ci k : Nat) : Int := match ci with
  | 0 => (match tyX0 k with | .int => 0 | .boolean => 1 | _ => 2)
  | 1 => (match tyX1 k with | .int => 0 | .boolean => 1 | _ => 2)
  | 2 => (match tyX2 k with | .int => 0 | .boolean => 1 | _ => 2)
  | 3 => (match tyX3 k with | .int => 0 | .boolean => 1 | _ => 2)
  | 4 => (match tyX4 k with | .int => 0 | .boolean => 1 | _ => 2)
  | 5 => (match tyX5 k with | .int => 0 | .boolean => 1 | _ => 2)
  | 6 => (match tyX6 k with | .int => 0 | .boolean => 1 | _ => 2)
  | 7 => (match tyX7 k with | .int => 0 | .boolean => 1 | _ => 2)
  | 8 => (match tyX8 k with | .int => 0 | .boolean => 1 | _ => 2)
  | 9 => (match tyX9 k with | .int => 0 | .boolean => 1 | _ => 2)
  | 10 => (match tyX10 k with | .int => 0 | .boolean => 1 | _ => 2)
  | 11 => (match tyX11 k with | .int => 0 | .boolean => 1 | _ => 2)
  | _ => (match tyX12 k with | .int => 0 | .boolean => 1 | _ => 2)
def znewo (p : ZP) (st ls : List ZV) (μ : ZM) : ZR := if p.1 < 13 then (match znew (p.1 + 10) p.2.1 (zdfl p.1 (zsrt p.1)) μ with
  | some ((r, o), μ') => some (ls, .inr (.inr (1, r, o)) :: st, μ')
  | none => none) else none
/-- System.arraycopy of ints or booleans, from one row to another -/
def zcopy (st ls : List ZV) (μ : ZM) : ZR := match st with
  | .inl n :: .inl dp :: .inr (.inr (1, r2, o2)) :: .inl sp :: .inr (.inr (1, r1, o1)) :: st' =>
    match μ.1 r1 o1, μ.1 r2 o2 with
    | some (k1, n1), some (k2, n2) => if k1 = k2 ∧ k1 < 2 ∧ ¬(r1 = r2 ∧ o1 = o2) ∧ 0 ≤ n ∧ 0 ≤ sp ∧ 0 ≤ dp ∧ sp + n ≤ n1 ∧ dp + n ≤ n2 then
        some (ls, st', (μ.1, μ.2.1, (fun r o j => if r = r2 ∧ o = o2 ∧ dp.toNat ≤ j ∧ j < dp.toNat + n.toNat then μ.2.2.1 r1 o1 (sp.toNat + (j - dp.toNat)) else μ.2.2.1 r o j), μ.2.2.2)) else none
    | _, _ => none
  | _ => none
/-- one instruction that neither jumps, calls nor ends -/
def zop (i : Instr) (p : ZP) (ls st : List ZV) (μ : ZM) : ZR := match i with
  | .aload n => zldA n ls st μ
  | .aload_n n => zldA n.val ls st μ
  | .iload n => zldI n ls st μ
  | .iload_n n => zldI n.val ls st μ
  | .lload n => zldL n ls st μ
  | .lload_n n => zldL n.val ls st μ
  | .istore n => zstI n ls st μ
  | .istore_n n => zstI n.val ls st μ
  | .lstore n => zstL n ls st μ
  | .lstore_n n => zstL n.val ls st μ
  | .astore n => zstA n ls st μ
  | .astore_n n => zstA n.val ls st μ
  | .iinc n c => match ls[n]? with
    | some (.inl x) => some (zst1 ls n (.inl (zadd x c)), st, μ)
    | _ => none
  | .iconst n => some (ls, .inl n :: st, μ)
  | .bipush n => some (ls, .inl n :: st, μ)
  | .sipush n => some (ls, .inl n :: st, μ)
  | .lconst n => some (ls, .inr (.inl (n.val : Int)) :: st, μ)
  | .ldc _ => match p.1 with
    | 0 => some (ls, .inl p.2.2 :: st, μ)
    | _ => if p.2.1 < 10 then some (ls, .inr (.inr (4, p.2.1, 0)) :: st, μ) else none
  | .ldc_w _ => some (ls, .inl p.2.2 :: st, μ)
  | .ldc2_w _ => some (ls, .inr (.inl p.2.2) :: st, μ)
  | .getfield _ => zgetf p st ls μ
  | .putfield _ => zputf p st ls μ
  | .getstatic _ => match p.1 with
    | 0 => some (ls, .inl 1 :: st, μ)
    | _ => some (ls, .inr (.inr (6, 0, 0)) :: st, μ)
  | .iaload => zaldN 0 false st ls μ
  | .laload => zaldN 3 true st ls μ
  | .baload => zbald p st ls μ
  | .aaload => zaald st ls μ
  | .iastore => zastN 0 st ls μ
  | .bastore => zastN p.1 st ls μ
  | .lastore => zastL st ls μ
  | .aastore => zaast st ls μ
  | .arraylength => zalen st ls μ
  | .newarray t => znewa (zakind t) st ls μ
  | .anewarray _ => znewa 4 st ls μ
  | .multianewarray _ _ => zmulti st ls μ
  | .new _ => znewo p st ls μ
  | .iadd => zbin st ls μ zadd
  | .isub => zbin st ls μ zsub
  | .imul => zbin st ls μ zmul
  | .idiv => zbind st ls μ zdiv
  | .irem => zbind st ls μ zrem
  | .ineg => zun st ls μ zneg
  | .iand => zbin st ls μ zand
  | .ior => zbin st ls μ zor
  | .ishl => zbin st ls μ zshl
  | .ishr => zbin st ls μ zshr
  | .iushr => zbin st ls μ zushr
  | .land => zlbin st ls μ zland
  | .lor => zlbin st ls μ zlor
  | .lshl => zlsh st ls μ zlshl
  | .lshr => zlsh st ls μ zlshr
  | .lcmp => match st with
    | .inr (.inl y) :: .inr (.inl x) :: st' => some (ls, .inl (zlcmp x y) :: st', μ)
    | _ => none
  | .i2l => match st with
    | .inl x :: st' => some (ls, .inr (.inl x) :: st', μ)
    | _ => none
  | .l2i => match st with
    | .inr (.inl x) :: st' => some (ls, .inl (zl2i x) :: st', μ)
    | _ => none
  | .i2b => zun st ls μ zi2b
  | .i2s => zun st ls μ zi2s
  | .i2c => zun st ls μ zi2c
  | .dup => match st with
    | v :: st' => if zislong v = true then none else some (ls, v :: v :: st', μ)
    | _ => none
  | .dup2 => match st with
    | v :: w :: st' => if zislong v = true ∨ zislong w = true then none else some (ls, v :: w :: v :: w :: st', μ)
    | _ => none
  | .pop => match st with
    | v :: st' => if zislong v = true then none else some (ls, st', μ)
    | _ => none
  | .invokespecial _ => match st with
    | .inr (.inr (1, _, _)) :: st' => if (st'.map zcat).sum ≤ 8 then some (ls, st', μ) else none
    | _ => none
  | .invokestatic _ => if (st.map zcat).sum ≤ 13 then zcopy st ls μ else none
  | _ => none
/-- where a switch goes: pc the switch's own place -/
def zsw (pc : Nat) (d lo hi : Int) (offs : Array Int) (x : Int) : Nat := if x < lo ∨ hi < x then ((pc : Int) + d).toNat else ((pc : Int) + (offs[(x - lo).toNat]?.getD d)).toNat
def zlsw (pc : Nat) (d : Int) (ps : List (Int × Int)) (x : Int) : Nat := match ps with
  | [] => ((pc : Int) + d).toNat
  | (k, o) :: t => if x = k then ((pc : Int) + o).toNat else zlsw pc d t x
abbrev ZN : Type := Instr × Nat × ZP
abbrev ZO : Type := Option (Option ZV × ZM)
/-- a stretch of code: 'call' what methods do, 'rec' what comes behind a jump -/
def zexec (call : Nat → List ZV → ZM → ZO) (rec : Nat → List ZV → List ZV → ZM → ZO) : List ZN → List ZV → List ZV → ZM → ZO
  | [], _, _, _ => none
  | (i, _, p) :: k, ls, st, μ => match i with
    | .nop => rec p.1 ls st μ
    | .goto _ => rec p.1 ls st μ
    | .ifCond c _ => (match st with
      | .inl x :: st' => (match c with
        | .eq => if x = 0 then rec p.1 ls st' μ else zexec call rec k ls st' μ
        | .ne => if x = 0 then zexec call rec k ls st' μ else rec p.1 ls st' μ
        | .lt => if x < 0 then rec p.1 ls st' μ else zexec call rec k ls st' μ
        | .ge => if x < 0 then zexec call rec k ls st' μ else rec p.1 ls st' μ
        | .gt => if 0 < x then rec p.1 ls st' μ else zexec call rec k ls st' μ
        | .le => if 0 < x then zexec call rec k ls st' μ else rec p.1 ls st' μ)
      | _ => none)
    | .if_icmp c _ => (match st with
      | .inl y :: .inl x :: st' => (match c with
        | .eq => if x = y then rec p.1 ls st' μ else zexec call rec k ls st' μ
        | .ne => if x = y then zexec call rec k ls st' μ else rec p.1 ls st' μ
        | .lt => if x < y then rec p.1 ls st' μ else zexec call rec k ls st' μ
        | .ge => if x < y then zexec call rec k ls st' μ else rec p.1 ls st' μ
        | .gt => if y < x then rec p.1 ls st' μ else zexec call rec k ls st' μ
        | .le => if y < x then zexec call rec k ls st' μ else rec p.1 ls st' μ)
      | _ => none)
    | .tableswitch d lo hi offs => (match st with
      | .inl x :: st' => rec (zsw p.1 d lo hi offs x) ls st' μ
      | _ => none)
    | .lookupswitch d ps => (match st with
      | .inl x :: st' => rec (zlsw p.1 d ps.toList x) ls st' μ
      | _ => none)
    | .ireturn => (match st with
      | .inl x :: [] => if p.1 = 0 ∨ (p.1 = 1 ∧ (x = 0 ∨ x = 1)) ∨ (p.1 = 2 ∧ -128 ≤ x ∧ x < 128) ∨ (p.1 = 3 ∧ 0 ≤ x ∧ x < 65536) then some (some (.inl x), μ) else none
      | _ => none)
    | .lreturn => (match st with
      | .inr (.inl x) :: [] => some (some (.inr (.inl x)), μ)
      | _ => none)
    | .return_ => (match st with
      | [] => some (none, μ)
      | _ => none)
    | .invokestatic _ | .invokevirtual _ | .invokespecial _ =>
      (match p.2.2 with
      | 0 => if p.2.1 ≤ st.length ∧ ((st.drop p.2.1).map zcat).sum ≤ 8 then (match call p.1 ((st.take p.2.1).reverse) μ with
        | some (none, μ') => zexec call rec k ls (st.drop p.2.1) μ'
        | some (some v, μ') => zexec call rec k ls (v :: st.drop p.2.1) μ'
        | none => none) else none
      | _ => (match zop i p ls st μ with
        | some (ls', st', μ') => zexec call rec k ls' st' μ'
        | none => none))
    | i => (match zop i p ls st μ with
      | some (ls', st', μ') => zexec call rec k ls' st' μ'
      | none => none)
end
