section
-- ===== PART A: goes FIRST, ahead of the names: the tables' words, and 'selects' of the private methods out of them =====
/-- a private method of a class that the tables say can be made, by its rows of tables_1 -/
def lw_okq (q : MethodName × Nat) : Prop := (q.1.cls ≠ "java/lang/invoke/MethodHandle" ∧ q.1.cls ≠ "java/lang/invoke/VarHandle") ∧ Cond.instantiable q.1.cls q.2 ∈ tables_1 ∧ Cond.privateMethod q.1 ∈ tables_1 ∧ Cond.instanceMethod q.1 ∈ tables_1
theorem lw_p0 : lw_okq (⟨"PaperWay$Reader", "splitTokens", "(I)V"⟩, 11) := ⟨⟨by decide +kernel, by decide +kernel⟩, List.mem_of_getElem? (i := 31) (by decide +kernel), List.mem_of_getElem? (i := 633) (by decide +kernel), List.mem_of_getElem? (i := 634) (by decide +kernel)⟩
theorem lw_p1 : lw_okq (⟨"PaperWay$Reader", "nextKind", "()I"⟩, 11) := ⟨⟨by decide +kernel, by decide +kernel⟩, List.mem_of_getElem? (i := 31) (by decide +kernel), List.mem_of_getElem? (i := 640) (by decide +kernel), List.mem_of_getElem? (i := 641) (by decide +kernel)⟩
theorem lw_p2 : lw_okq (⟨"PaperWay$Reader", "nextWord", "()I"⟩, 11) := ⟨⟨by decide +kernel, by decide +kernel⟩, List.mem_of_getElem? (i := 31) (by decide +kernel), List.mem_of_getElem? (i := 647) (by decide +kernel), List.mem_of_getElem? (i := 648) (by decide +kernel)⟩
theorem lw_p3 : lw_okq (⟨"PaperWay$Reader", "isAt", "(ILjava/lang/String;)Z"⟩, 11) := ⟨⟨by decide +kernel, by decide +kernel⟩, List.mem_of_getElem? (i := 31) (by decide +kernel), List.mem_of_getElem? (i := 652) (by decide +kernel), List.mem_of_getElem? (i := 653) (by decide +kernel)⟩
theorem lw_p4 : lw_okq (⟨"PaperWay$Reader", "wordOfFour", "(I)I"⟩, 11) := ⟨⟨by decide +kernel, by decide +kernel⟩, List.mem_of_getElem? (i := 31) (by decide +kernel), List.mem_of_getElem? (i := 705) (by decide +kernel), List.mem_of_getElem? (i := 706) (by decide +kernel)⟩
theorem lw_p5 : lw_okq (⟨"PaperWay$Reader", "nextNumber", "()I"⟩, 11) := ⟨⟨by decide +kernel, by decide +kernel⟩, List.mem_of_getElem? (i := 31) (by decide +kernel), List.mem_of_getElem? (i := 719) (by decide +kernel), List.mem_of_getElem? (i := 720) (by decide +kernel)⟩
theorem lw_p6 : lw_okq (⟨"PaperWay$Reader", "readLine", "(LPaperWay$Way;Z)V"⟩, 11) := ⟨⟨by decide +kernel, by decide +kernel⟩, List.mem_of_getElem? (i := 31) (by decide +kernel), List.mem_of_getElem? (i := 723) (by decide +kernel), List.mem_of_getElem? (i := 724) (by decide +kernel)⟩
theorem lw_p7 : lw_okq (⟨"PaperWay$Reader", "readNumber", "(II)I"⟩, 11) := ⟨⟨by decide +kernel, by decide +kernel⟩, List.mem_of_getElem? (i := 31) (by decide +kernel), List.mem_of_getElem? (i := 727) (by decide +kernel), List.mem_of_getElem? (i := 728) (by decide +kernel)⟩
theorem lw_p8 : lw_okq (⟨"PaperWay$Reader", "want", "(I)V"⟩, 11) := ⟨⟨by decide +kernel, by decide +kernel⟩, List.mem_of_getElem? (i := 31) (by decide +kernel), List.mem_of_getElem? (i := 731) (by decide +kernel), List.mem_of_getElem? (i := 732) (by decide +kernel)⟩
theorem lw_p9 : lw_okq (⟨"PaperWay$Reader", "goOn", "()V"⟩, 11) := ⟨⟨by decide +kernel, by decide +kernel⟩, List.mem_of_getElem? (i := 31) (by decide +kernel), List.mem_of_getElem? (i := 735) (by decide +kernel), List.mem_of_getElem? (i := 736) (by decide +kernel)⟩
theorem lw_p10 : lw_okq (⟨"PaperWay$Reader", "blame", "(I)V"⟩, 11) := ⟨⟨by decide +kernel, by decide +kernel⟩, List.mem_of_getElem? (i := 31) (by decide +kernel), List.mem_of_getElem? (i := 739) (by decide +kernel), List.mem_of_getElem? (i := 740) (by decide +kernel)⟩
theorem lw_p11 : lw_okq (⟨"PaperWay$Reader", "readRoller", "(LPaperWay$Way;)V"⟩, 11) := ⟨⟨by decide +kernel, by decide +kernel⟩, List.mem_of_getElem? (i := 31) (by decide +kernel), List.mem_of_getElem? (i := 743) (by decide +kernel), List.mem_of_getElem? (i := 744) (by decide +kernel)⟩
theorem lw_p12 : lw_okq (⟨"PaperWay$Reader", "readEye", "(LPaperWay$Way;)V"⟩, 11) := ⟨⟨by decide +kernel, by decide +kernel⟩, List.mem_of_getElem? (i := 31) (by decide +kernel), List.mem_of_getElem? (i := 751) (by decide +kernel), List.mem_of_getElem? (i := 752) (by decide +kernel)⟩
theorem lw_p13 : lw_okq (⟨"PaperWay$Reader", "readTurn", "(LPaperWay$Way;)V"⟩, 11) := ⟨⟨by decide +kernel, by decide +kernel⟩, List.mem_of_getElem? (i := 31) (by decide +kernel), List.mem_of_getElem? (i := 759) (by decide +kernel), List.mem_of_getElem? (i := 760) (by decide +kernel)⟩
theorem lw_p14 : lw_okq (⟨"PaperWay$Reader", "readDamp", "(LPaperWay$Way;)V"⟩, 11) := ⟨⟨by decide +kernel, by decide +kernel⟩, List.mem_of_getElem? (i := 31) (by decide +kernel), List.mem_of_getElem? (i := 763) (by decide +kernel), List.mem_of_getElem? (i := 764) (by decide +kernel)⟩
theorem lw_p15 : lw_okq (⟨"PaperWay$Flaws", "cornerAt", "(I)I"⟩, 4) := ⟨⟨by decide +kernel, by decide +kernel⟩, List.mem_of_getElem? (i := 76) (by decide +kernel), List.mem_of_getElem? (i := 804) (by decide +kernel), List.mem_of_getElem? (i := 805) (by decide +kernel)⟩
def lw_privs_1 : List (MethodName × Nat) := [(⟨"PaperWay$Reader", "splitTokens", "(I)V"⟩, 11), (⟨"PaperWay$Reader", "nextKind", "()I"⟩, 11), (⟨"PaperWay$Reader", "nextWord", "()I"⟩, 11), (⟨"PaperWay$Reader", "isAt", "(ILjava/lang/String;)Z"⟩, 11), (⟨"PaperWay$Reader", "wordOfFour", "(I)I"⟩, 11), (⟨"PaperWay$Reader", "nextNumber", "()I"⟩, 11), (⟨"PaperWay$Reader", "readLine", "(LPaperWay$Way;Z)V"⟩, 11), (⟨"PaperWay$Reader", "readNumber", "(II)I"⟩, 11), (⟨"PaperWay$Reader", "want", "(I)V"⟩, 11), (⟨"PaperWay$Reader", "goOn", "()V"⟩, 11), (⟨"PaperWay$Reader", "blame", "(I)V"⟩, 11), (⟨"PaperWay$Reader", "readRoller", "(LPaperWay$Way;)V"⟩, 11), (⟨"PaperWay$Reader", "readEye", "(LPaperWay$Way;)V"⟩, 11), (⟨"PaperWay$Reader", "readTurn", "(LPaperWay$Way;)V"⟩, 11), (⟨"PaperWay$Reader", "readDamp", "(LPaperWay$Way;)V"⟩, 11), (⟨"PaperWay$Flaws", "cornerAt", "(I)I"⟩, 4)]
theorem lw_r1 : ∀ q ∈ lw_privs_1, lw_okq q := List.forall_mem_cons.mpr ⟨lw_p0, List.forall_mem_cons.mpr ⟨lw_p1, List.forall_mem_cons.mpr ⟨lw_p2, List.forall_mem_cons.mpr ⟨lw_p3, List.forall_mem_cons.mpr ⟨lw_p4, List.forall_mem_cons.mpr ⟨lw_p5, List.forall_mem_cons.mpr ⟨lw_p6, List.forall_mem_cons.mpr ⟨lw_p7, List.forall_mem_cons.mpr ⟨lw_p8, List.forall_mem_cons.mpr ⟨lw_p9, List.forall_mem_cons.mpr ⟨lw_p10, List.forall_mem_cons.mpr ⟨lw_p11, List.forall_mem_cons.mpr ⟨lw_p12, List.forall_mem_cons.mpr ⟨lw_p13, List.forall_mem_cons.mpr ⟨lw_p14, List.forall_mem_cons.mpr ⟨lw_p15, fun _ h => absurd h List.not_mem_nil⟩⟩⟩⟩⟩⟩⟩⟩⟩⟩⟩⟩⟩⟩⟩⟩
theorem lw_p16 : lw_okq (⟨"PaperWay$Traffic", "liesFree", "(II)Z"⟩, 17) := ⟨⟨by decide +kernel, by decide +kernel⟩, List.mem_of_getElem? (i := 98) (by decide +kernel), List.mem_of_getElem? (i := 827) (by decide +kernel), List.mem_of_getElem? (i := 828) (by decide +kernel)⟩
theorem lw_p17 : lw_okq (⟨"PaperWay$Traffic", "putOnWay", "(III)V"⟩, 17) := ⟨⟨by decide +kernel, by decide +kernel⟩, List.mem_of_getElem? (i := 98) (by decide +kernel), List.mem_of_getElem? (i := 840) (by decide +kernel), List.mem_of_getElem? (i := 841) (by decide +kernel)⟩
theorem lw_p18 : lw_okq (⟨"PaperWay$Traffic", "move", "(II)V"⟩, 17) := ⟨⟨by decide +kernel, by decide +kernel⟩, List.mem_of_getElem? (i := 98) (by decide +kernel), List.mem_of_getElem? (i := 858) (by decide +kernel), List.mem_of_getElem? (i := 859) (by decide +kernel)⟩
theorem lw_p19 : lw_okq (⟨"PaperWay$Traffic", "waits", "(I)Z"⟩, 17) := ⟨⟨by decide +kernel, by decide +kernel⟩, List.mem_of_getElem? (i := 98) (by decide +kernel), List.mem_of_getElem? (i := 862) (by decide +kernel), List.mem_of_getElem? (i := 863) (by decide +kernel)⟩
theorem lw_p20 : lw_okq (⟨"PaperWay$Traffic", "drive", "(II)V"⟩, 17) := ⟨⟨by decide +kernel, by decide +kernel⟩, List.mem_of_getElem? (i := 98) (by decide +kernel), List.mem_of_getElem? (i := 866) (by decide +kernel), List.mem_of_getElem? (i := 867) (by decide +kernel)⟩
theorem lw_p21 : lw_okq (⟨"PaperWay$Traffic", "enterPocket", "(I)V"⟩, 17) := ⟨⟨by decide +kernel, by decide +kernel⟩, List.mem_of_getElem? (i := 98) (by decide +kernel), List.mem_of_getElem? (i := 879) (by decide +kernel), List.mem_of_getElem? (i := 880) (by decide +kernel)⟩
theorem lw_p22 : lw_okq (⟨"PaperWay$Traffic", "findJam", "()V"⟩, 17) := ⟨⟨by decide +kernel, by decide +kernel⟩, List.mem_of_getElem? (i := 98) (by decide +kernel), List.mem_of_getElem? (i := 883) (by decide +kernel), List.mem_of_getElem? (i := 884) (by decide +kernel)⟩
theorem lw_p23 : lw_okq (⟨"PaperWay$Traffic", "comeBack", "()V"⟩, 17) := ⟨⟨by decide +kernel, by decide +kernel⟩, List.mem_of_getElem? (i := 98) (by decide +kernel), List.mem_of_getElem? (i := 887) (by decide +kernel), List.mem_of_getElem? (i := 888) (by decide +kernel)⟩
theorem lw_p24 : lw_okq (⟨"PaperWay$Watch", "close", "(II)V"⟩, 5) := ⟨⟨by decide +kernel, by decide +kernel⟩, List.mem_of_getElem? (i := 104) (by decide +kernel), List.mem_of_getElem? (i := 899) (by decide +kernel), List.mem_of_getElem? (i := 900) (by decide +kernel)⟩
theorem lw_p25 : lw_okq (⟨"PaperWay$Causes", "explains", "(LPaperWay$Way;III)Z"⟩, 11) := ⟨⟨by decide +kernel, by decide +kernel⟩, List.mem_of_getElem? (i := 275) (by decide +kernel), List.mem_of_getElem? (i := 956) (by decide +kernel), List.mem_of_getElem? (i := 957) (by decide +kernel)⟩
theorem lw_p26 : lw_okq (⟨"PaperWay$Causes", "putFlaw", "(LPaperWay$Way;I)V"⟩, 11) := ⟨⟨by decide +kernel, by decide +kernel⟩, List.mem_of_getElem? (i := 275) (by decide +kernel), List.mem_of_getElem? (i := 961) (by decide +kernel), List.mem_of_getElem? (i := 962) (by decide +kernel)⟩
theorem lw_p27 : lw_okq (⟨"PaperWay$Causes", "isSeenSo", "(LPaperWay$Way;III)Z"⟩, 11) := ⟨⟨by decide +kernel, by decide +kernel⟩, List.mem_of_getElem? (i := 275) (by decide +kernel), List.mem_of_getElem? (i := 970) (by decide +kernel), List.mem_of_getElem? (i := 971) (by decide +kernel)⟩
theorem lw_p28 : lw_okq (⟨"PaperWay$Causes", "allSeenBy", "(LPaperWay$Way;I)Z"⟩, 11) := ⟨⟨by decide +kernel, by decide +kernel⟩, List.mem_of_getElem? (i := 275) (by decide +kernel), List.mem_of_getElem? (i := 975) (by decide +kernel), List.mem_of_getElem? (i := 976) (by decide +kernel)⟩
theorem lw_p29 : lw_okq (⟨"PaperWay$Causes", "isWorthTrying", "(LPaperWay$Way;I)Z"⟩, 11) := ⟨⟨by decide +kernel, by decide +kernel⟩, List.mem_of_getElem? (i := 275) (by decide +kernel), List.mem_of_getElem? (i := 979) (by decide +kernel), List.mem_of_getElem? (i := 980) (by decide +kernel)⟩
theorem lw_p30 : lw_okq (⟨"PaperWay$Planner", "hasPaperForAll", "()Z"⟩, 14) := ⟨⟨by decide +kernel, by decide +kernel⟩, List.mem_of_getElem? (i := 420) (by decide +kernel), List.mem_of_getElem? (i := 1049) (by decide +kernel), List.mem_of_getElem? (i := 1050) (by decide +kernel)⟩
theorem lw_p31 : lw_okq (⟨"PaperWay$Planner", "gives", "(II)Z"⟩, 14) := ⟨⟨by decide +kernel, by decide +kernel⟩, List.mem_of_getElem? (i := 420) (by decide +kernel), List.mem_of_getElem? (i := 1053) (by decide +kernel), List.mem_of_getElem? (i := 1054) (by decide +kernel)⟩
def lw_privs_2 : List (MethodName × Nat) := [(⟨"PaperWay$Traffic", "liesFree", "(II)Z"⟩, 17), (⟨"PaperWay$Traffic", "putOnWay", "(III)V"⟩, 17), (⟨"PaperWay$Traffic", "move", "(II)V"⟩, 17), (⟨"PaperWay$Traffic", "waits", "(I)Z"⟩, 17), (⟨"PaperWay$Traffic", "drive", "(II)V"⟩, 17), (⟨"PaperWay$Traffic", "enterPocket", "(I)V"⟩, 17), (⟨"PaperWay$Traffic", "findJam", "()V"⟩, 17), (⟨"PaperWay$Traffic", "comeBack", "()V"⟩, 17), (⟨"PaperWay$Watch", "close", "(II)V"⟩, 5), (⟨"PaperWay$Causes", "explains", "(LPaperWay$Way;III)Z"⟩, 11), (⟨"PaperWay$Causes", "putFlaw", "(LPaperWay$Way;I)V"⟩, 11), (⟨"PaperWay$Causes", "isSeenSo", "(LPaperWay$Way;III)Z"⟩, 11), (⟨"PaperWay$Causes", "allSeenBy", "(LPaperWay$Way;I)Z"⟩, 11), (⟨"PaperWay$Causes", "isWorthTrying", "(LPaperWay$Way;I)Z"⟩, 11), (⟨"PaperWay$Planner", "hasPaperForAll", "()Z"⟩, 14), (⟨"PaperWay$Planner", "gives", "(II)Z"⟩, 14)]
theorem lw_r2 : ∀ q ∈ lw_privs_2, lw_okq q := List.forall_mem_cons.mpr ⟨lw_p16, List.forall_mem_cons.mpr ⟨lw_p17, List.forall_mem_cons.mpr ⟨lw_p18, List.forall_mem_cons.mpr ⟨lw_p19, List.forall_mem_cons.mpr ⟨lw_p20, List.forall_mem_cons.mpr ⟨lw_p21, List.forall_mem_cons.mpr ⟨lw_p22, List.forall_mem_cons.mpr ⟨lw_p23, List.forall_mem_cons.mpr ⟨lw_p24, List.forall_mem_cons.mpr ⟨lw_p25, List.forall_mem_cons.mpr ⟨lw_p26, List.forall_mem_cons.mpr ⟨lw_p27, List.forall_mem_cons.mpr ⟨lw_p28, List.forall_mem_cons.mpr ⟨lw_p29, List.forall_mem_cons.mpr ⟨lw_p30, List.forall_mem_cons.mpr ⟨lw_p31, fun _ h => absurd h List.not_mem_nil⟩⟩⟩⟩⟩⟩⟩⟩⟩⟩⟩⟩⟩⟩⟩⟩
theorem lw_p32 : lw_okq (⟨"PaperWay$Planner", "meet", "(IIIIIJ)V"⟩, 14) := ⟨⟨by decide +kernel, by decide +kernel⟩, List.mem_of_getElem? (i := 420) (by decide +kernel), List.mem_of_getElem? (i := 1060) (by decide +kernel), List.mem_of_getElem? (i := 1061) (by decide +kernel)⟩
theorem lw_p33 : lw_okq (⟨"PaperWay$Planner", "leave", "(I)V"⟩, 14) := ⟨⟨by decide +kernel, by decide +kernel⟩, List.mem_of_getElem? (i := 420) (by decide +kernel), List.mem_of_getElem? (i := 1065) (by decide +kernel), List.mem_of_getElem? (i := 1066) (by decide +kernel)⟩
theorem lw_p34 : lw_okq (⟨"PaperWay$Planner", "unpack", "(I)V"⟩, 14) := ⟨⟨by decide +kernel, by decide +kernel⟩, List.mem_of_getElem? (i := 420) (by decide +kernel), List.mem_of_getElem? (i := 1070) (by decide +kernel), List.mem_of_getElem? (i := 1071) (by decide +kernel)⟩
theorem lw_p35 : lw_okq (⟨"PaperWay$Planner", "agedPocket", "(II)I"⟩, 14) := ⟨⟨by decide +kernel, by decide +kernel⟩, List.mem_of_getElem? (i := 420) (by decide +kernel), List.mem_of_getElem? (i := 1074) (by decide +kernel), List.mem_of_getElem? (i := 1075) (by decide +kernel)⟩
theorem lw_p36 : lw_okq (⟨"PaperWay$Planner", "takesNext", "()Z"⟩, 14) := ⟨⟨by decide +kernel, by decide +kernel⟩, List.mem_of_getElem? (i := 420) (by decide +kernel), List.mem_of_getElem? (i := 1081) (by decide +kernel), List.mem_of_getElem? (i := 1082) (by decide +kernel)⟩
theorem lw_p37 : lw_okq (⟨"PaperWay$Planner", "feedFromEach", "(IIJ)V"⟩, 14) := ⟨⟨by decide +kernel, by decide +kernel⟩, List.mem_of_getElem? (i := 420) (by decide +kernel), List.mem_of_getElem? (i := 1091) (by decide +kernel), List.mem_of_getElem? (i := 1092) (by decide +kernel)⟩
theorem lw_p38 : lw_okq (⟨"PaperWay$Planner", "traceBack", "()V"⟩, 14) := ⟨⟨by decide +kernel, by decide +kernel⟩, List.mem_of_getElem? (i := 420) (by decide +kernel), List.mem_of_getElem? (i := 1095) (by decide +kernel), List.mem_of_getElem? (i := 1096) (by decide +kernel)⟩
theorem lw_p39 : lw_okq (⟨"PaperWay$Planner", "parentOf", "(I)I"⟩, 14) := ⟨⟨by decide +kernel, by decide +kernel⟩, List.mem_of_getElem? (i := 420) (by decide +kernel), List.mem_of_getElem? (i := 1099) (by decide +kernel), List.mem_of_getElem? (i := 1100) (by decide +kernel)⟩
theorem lw_p40 : lw_okq (⟨"PaperWay$Keeper", "measureRoom", "(LPaperWay$Job;)V"⟩, 5) := ⟨⟨by decide +kernel, by decide +kernel⟩, List.mem_of_getElem? (i := 476) (by decide +kernel), List.mem_of_getElem? (i := 1123) (by decide +kernel), List.mem_of_getElem? (i := 1124) (by decide +kernel)⟩
theorem lw_p41 : lw_okq (⟨"PaperWay$Keeper", "pairInOrder", "(LPaperWay$Job;)V"⟩, 5) := ⟨⟨by decide +kernel, by decide +kernel⟩, List.mem_of_getElem? (i := 476) (by decide +kernel), List.mem_of_getElem? (i := 1132) (by decide +kernel), List.mem_of_getElem? (i := 1133) (by decide +kernel)⟩
theorem lw_p42 : lw_okq (⟨"PaperWay$Rounds", "costOfNewOnes", "(LPaperWay$Job;II)I"⟩, 6) := ⟨⟨by decide +kernel, by decide +kernel⟩, List.mem_of_getElem? (i := 502) (by decide +kernel), List.mem_of_getElem? (i := 1176) (by decide +kernel), List.mem_of_getElem? (i := 1177) (by decide +kernel)⟩
theorem lw_p43 : lw_okq (⟨"PaperWay$Rounds", "isBetter", "(II)Z"⟩, 6) := ⟨⟨by decide +kernel, by decide +kernel⟩, List.mem_of_getElem? (i := 502) (by decide +kernel), List.mem_of_getElem? (i := 1184) (by decide +kernel), List.mem_of_getElem? (i := 1185) (by decide +kernel)⟩
theorem lw_p44 : lw_okq (⟨"PaperWay", "countOfSet", "(I)I"⟩, 13) := ⟨⟨by decide +kernel, by decide +kernel⟩, List.mem_of_getElem? (i := 23) (by decide +kernel), List.mem_of_getElem? (i := 1234) (by decide +kernel), List.mem_of_getElem? (i := 1235) (by decide +kernel)⟩
theorem lw_p45 : lw_okq (⟨"PaperWayModel", "begins", "()V"⟩, 69) := ⟨⟨by decide +kernel, by decide +kernel⟩, List.mem_of_getElem? (i := 1238) (by decide +kernel), List.mem_of_getElem? (i := 1245) (by decide +kernel), List.mem_of_getElem? (i := 1246) (by decide +kernel)⟩
theorem lw_p46 : lw_okq (⟨"PaperWayModel", "becomes", "()V"⟩, 69) := ⟨⟨by decide +kernel, by decide +kernel⟩, List.mem_of_getElem? (i := 1238) (by decide +kernel), List.mem_of_getElem? (i := 1249) (by decide +kernel), List.mem_of_getElem? (i := 1250) (by decide +kernel)⟩
theorem lw_p47 : lw_okq (⟨"PaperWayModel", "setsOut", "()V"⟩, 69) := ⟨⟨by decide +kernel, by decide +kernel⟩, List.mem_of_getElem? (i := 1238) (by decide +kernel), List.mem_of_getElem? (i := 1253) (by decide +kernel), List.mem_of_getElem? (i := 1254) (by decide +kernel)⟩
def lw_privs_3 : List (MethodName × Nat) := [(⟨"PaperWay$Planner", "meet", "(IIIIIJ)V"⟩, 14), (⟨"PaperWay$Planner", "leave", "(I)V"⟩, 14), (⟨"PaperWay$Planner", "unpack", "(I)V"⟩, 14), (⟨"PaperWay$Planner", "agedPocket", "(II)I"⟩, 14), (⟨"PaperWay$Planner", "takesNext", "()Z"⟩, 14), (⟨"PaperWay$Planner", "feedFromEach", "(IIJ)V"⟩, 14), (⟨"PaperWay$Planner", "traceBack", "()V"⟩, 14), (⟨"PaperWay$Planner", "parentOf", "(I)I"⟩, 14), (⟨"PaperWay$Keeper", "measureRoom", "(LPaperWay$Job;)V"⟩, 5), (⟨"PaperWay$Keeper", "pairInOrder", "(LPaperWay$Job;)V"⟩, 5), (⟨"PaperWay$Rounds", "costOfNewOnes", "(LPaperWay$Job;II)I"⟩, 6), (⟨"PaperWay$Rounds", "isBetter", "(II)Z"⟩, 6), (⟨"PaperWay", "countOfSet", "(I)I"⟩, 13), (⟨"PaperWayModel", "begins", "()V"⟩, 69), (⟨"PaperWayModel", "becomes", "()V"⟩, 69), (⟨"PaperWayModel", "setsOut", "()V"⟩, 69)]
theorem lw_r3 : ∀ q ∈ lw_privs_3, lw_okq q := List.forall_mem_cons.mpr ⟨lw_p32, List.forall_mem_cons.mpr ⟨lw_p33, List.forall_mem_cons.mpr ⟨lw_p34, List.forall_mem_cons.mpr ⟨lw_p35, List.forall_mem_cons.mpr ⟨lw_p36, List.forall_mem_cons.mpr ⟨lw_p37, List.forall_mem_cons.mpr ⟨lw_p38, List.forall_mem_cons.mpr ⟨lw_p39, List.forall_mem_cons.mpr ⟨lw_p40, List.forall_mem_cons.mpr ⟨lw_p41, List.forall_mem_cons.mpr ⟨lw_p42, List.forall_mem_cons.mpr ⟨lw_p43, List.forall_mem_cons.mpr ⟨lw_p44, List.forall_mem_cons.mpr ⟨lw_p45, List.forall_mem_cons.mpr ⟨lw_p46, List.forall_mem_cons.mpr ⟨lw_p47, fun _ h => absurd h List.not_mem_nil⟩⟩⟩⟩⟩⟩⟩⟩⟩⟩⟩⟩⟩⟩⟩⟩
theorem lw_p48 : lw_okq (⟨"PaperWayModel", "next", "()V"⟩, 69) := ⟨⟨by decide +kernel, by decide +kernel⟩, List.mem_of_getElem? (i := 1238) (by decide +kernel), List.mem_of_getElem? (i := 1476) (by decide +kernel), List.mem_of_getElem? (i := 1477) (by decide +kernel)⟩
theorem lw_p49 : lw_okq (⟨"PaperWayModel", "see", "(I)I"⟩, 69) := ⟨⟨by decide +kernel, by decide +kernel⟩, List.mem_of_getElem? (i := 1238) (by decide +kernel), List.mem_of_getElem? (i := 1480) (by decide +kernel), List.mem_of_getElem? (i := 1481) (by decide +kernel)⟩
theorem lw_p50 : lw_okq (⟨"PaperWayModel", "keyAt", "()I"⟩, 69) := ⟨⟨by decide +kernel, by decide +kernel⟩, List.mem_of_getElem? (i := 1238) (by decide +kernel), List.mem_of_getElem? (i := 1487) (by decide +kernel), List.mem_of_getElem? (i := 1488) (by decide +kernel)⟩
theorem lw_p51 : lw_okq (⟨"PaperWayModel", "is", "(I)Z"⟩, 69) := ⟨⟨by decide +kernel, by decide +kernel⟩, List.mem_of_getElem? (i := 1238) (by decide +kernel), List.mem_of_getElem? (i := 1497) (by decide +kernel), List.mem_of_getElem? (i := 1498) (by decide +kernel)⟩
theorem lw_p52 : lw_okq (⟨"PaperWayModel", "reads", "(II)I"⟩, 69) := ⟨⟨by decide +kernel, by decide +kernel⟩, List.mem_of_getElem? (i := 1238) (by decide +kernel), List.mem_of_getElem? (i := 1501) (by decide +kernel), List.mem_of_getElem? (i := 1502) (by decide +kernel)⟩
theorem lw_p53 : lw_okq (⟨"PaperWayModel", "fails", "(I)V"⟩, 69) := ⟨⟨by decide +kernel, by decide +kernel⟩, List.mem_of_getElem? (i := 1238) (by decide +kernel), List.mem_of_getElem? (i := 1505) (by decide +kernel), List.mem_of_getElem? (i := 1506) (by decide +kernel)⟩
theorem lw_p54 : lw_okq (⟨"PaperWayModel", "needs", "(I)V"⟩, 69) := ⟨⟨by decide +kernel, by decide +kernel⟩, List.mem_of_getElem? (i := 1238) (by decide +kernel), List.mem_of_getElem? (i := 1509) (by decide +kernel), List.mem_of_getElem? (i := 1510) (by decide +kernel)⟩
theorem lw_p55 : lw_okq (⟨"PaperWayModel", "readsRoller", "()V"⟩, 69) := ⟨⟨by decide +kernel, by decide +kernel⟩, List.mem_of_getElem? (i := 1238) (by decide +kernel), List.mem_of_getElem? (i := 1513) (by decide +kernel), List.mem_of_getElem? (i := 1514) (by decide +kernel)⟩
theorem lw_p56 : lw_okq (⟨"PaperWayModel", "readsEye", "()V"⟩, 69) := ⟨⟨by decide +kernel, by decide +kernel⟩, List.mem_of_getElem? (i := 1238) (by decide +kernel), List.mem_of_getElem? (i := 1517) (by decide +kernel), List.mem_of_getElem? (i := 1518) (by decide +kernel)⟩
theorem lw_p57 : lw_okq (⟨"PaperWayModel", "readsTurn", "()V"⟩, 69) := ⟨⟨by decide +kernel, by decide +kernel⟩, List.mem_of_getElem? (i := 1238) (by decide +kernel), List.mem_of_getElem? (i := 1521) (by decide +kernel), List.mem_of_getElem? (i := 1522) (by decide +kernel)⟩
theorem lw_p58 : lw_okq (⟨"PaperWayModel", "readsDamp", "()V"⟩, 69) := ⟨⟨by decide +kernel, by decide +kernel⟩, List.mem_of_getElem? (i := 1238) (by decide +kernel), List.mem_of_getElem? (i := 1525) (by decide +kernel), List.mem_of_getElem? (i := 1526) (by decide +kernel)⟩
theorem lw_p59 : lw_okq (⟨"PaperWayModel", "isRoller", "(I)Z"⟩, 69) := ⟨⟨by decide +kernel, by decide +kernel⟩, List.mem_of_getElem? (i := 1238) (by decide +kernel), List.mem_of_getElem? (i := 1537) (by decide +kernel), List.mem_of_getElem? (i := 1538) (by decide +kernel)⟩
theorem lw_p60 : lw_okq (⟨"PaperWayModel", "leaves", "(I)Z"⟩, 69) := ⟨⟨by decide +kernel, by decide +kernel⟩, List.mem_of_getElem? (i := 1238) (by decide +kernel), List.mem_of_getElem? (i := 1548) (by decide +kernel), List.mem_of_getElem? (i := 1549) (by decide +kernel)⟩
theorem lw_p61 : lw_okq (⟨"PaperWayModel", "cornerOf", "(I)I"⟩, 69) := ⟨⟨by decide +kernel, by decide +kernel⟩, List.mem_of_getElem? (i := 1238) (by decide +kernel), List.mem_of_getElem? (i := 1552) (by decide +kernel), List.mem_of_getElem? (i := 1553) (by decide +kernel)⟩
theorem lw_p62 : lw_okq (⟨"PaperWayModel", "isOver", "(II)Z"⟩, 69) := ⟨⟨by decide +kernel, by decide +kernel⟩, List.mem_of_getElem? (i := 1238) (by decide +kernel), List.mem_of_getElem? (i := 1562) (by decide +kernel), List.mem_of_getElem? (i := 1563) (by decide +kernel)⟩
theorem lw_p63 : lw_okq (⟨"PaperWayModel", "isGoing", "(I)Z"⟩, 69) := ⟨⟨by decide +kernel, by decide +kernel⟩, List.mem_of_getElem? (i := 1238) (by decide +kernel), List.mem_of_getElem? (i := 1566) (by decide +kernel), List.mem_of_getElem? (i := 1567) (by decide +kernel)⟩
def lw_privs_4 : List (MethodName × Nat) := [(⟨"PaperWayModel", "next", "()V"⟩, 69), (⟨"PaperWayModel", "see", "(I)I"⟩, 69), (⟨"PaperWayModel", "keyAt", "()I"⟩, 69), (⟨"PaperWayModel", "is", "(I)Z"⟩, 69), (⟨"PaperWayModel", "reads", "(II)I"⟩, 69), (⟨"PaperWayModel", "fails", "(I)V"⟩, 69), (⟨"PaperWayModel", "needs", "(I)V"⟩, 69), (⟨"PaperWayModel", "readsRoller", "()V"⟩, 69), (⟨"PaperWayModel", "readsEye", "()V"⟩, 69), (⟨"PaperWayModel", "readsTurn", "()V"⟩, 69), (⟨"PaperWayModel", "readsDamp", "()V"⟩, 69), (⟨"PaperWayModel", "isRoller", "(I)Z"⟩, 69), (⟨"PaperWayModel", "leaves", "(I)Z"⟩, 69), (⟨"PaperWayModel", "cornerOf", "(I)I"⟩, 69), (⟨"PaperWayModel", "isOver", "(II)Z"⟩, 69), (⟨"PaperWayModel", "isGoing", "(I)Z"⟩, 69)]
theorem lw_r4 : ∀ q ∈ lw_privs_4, lw_okq q := List.forall_mem_cons.mpr ⟨lw_p48, List.forall_mem_cons.mpr ⟨lw_p49, List.forall_mem_cons.mpr ⟨lw_p50, List.forall_mem_cons.mpr ⟨lw_p51, List.forall_mem_cons.mpr ⟨lw_p52, List.forall_mem_cons.mpr ⟨lw_p53, List.forall_mem_cons.mpr ⟨lw_p54, List.forall_mem_cons.mpr ⟨lw_p55, List.forall_mem_cons.mpr ⟨lw_p56, List.forall_mem_cons.mpr ⟨lw_p57, List.forall_mem_cons.mpr ⟨lw_p58, List.forall_mem_cons.mpr ⟨lw_p59, List.forall_mem_cons.mpr ⟨lw_p60, List.forall_mem_cons.mpr ⟨lw_p61, List.forall_mem_cons.mpr ⟨lw_p62, List.forall_mem_cons.mpr ⟨lw_p63, fun _ h => absurd h List.not_mem_nil⟩⟩⟩⟩⟩⟩⟩⟩⟩⟩⟩⟩⟩⟩⟩⟩
theorem lw_p64 : lw_okq (⟨"PaperWayModel", "tail", "(I)I"⟩, 69) := ⟨⟨by decide +kernel, by decide +kernel⟩, List.mem_of_getElem? (i := 1238) (by decide +kernel), List.mem_of_getElem? (i := 1570) (by decide +kernel), List.mem_of_getElem? (i := 1571) (by decide +kernel)⟩
theorem lw_p65 : lw_okq (⟨"PaperWayModel", "ticks", "()V"⟩, 69) := ⟨⟨by decide +kernel, by decide +kernel⟩, List.mem_of_getElem? (i := 1238) (by decide +kernel), List.mem_of_getElem? (i := 1579) (by decide +kernel), List.mem_of_getElem? (i := 1580) (by decide +kernel)⟩
theorem lw_p66 : lw_okq (⟨"PaperWayModel", "goes", "(I)V"⟩, 69) := ⟨⟨by decide +kernel, by decide +kernel⟩, List.mem_of_getElem? (i := 1238) (by decide +kernel), List.mem_of_getElem? (i := 1583) (by decide +kernel), List.mem_of_getElem? (i := 1584) (by decide +kernel)⟩
theorem lw_p67 : lw_okq (⟨"PaperWayModel", "waits", "(I)Z"⟩, 69) := ⟨⟨by decide +kernel, by decide +kernel⟩, List.mem_of_getElem? (i := 1238) (by decide +kernel), List.mem_of_getElem? (i := 1587) (by decide +kernel), List.mem_of_getElem? (i := 1588) (by decide +kernel)⟩
theorem lw_p68 : lw_okq (⟨"PaperWayModel", "waitsNow", "(I)V"⟩, 69) := ⟨⟨by decide +kernel, by decide +kernel⟩, List.mem_of_getElem? (i := 1238) (by decide +kernel), List.mem_of_getElem? (i := 1591) (by decide +kernel), List.mem_of_getElem? (i := 1592) (by decide +kernel)⟩
theorem lw_p69 : lw_okq (⟨"PaperWayModel", "inPocket", "()I"⟩, 69) := ⟨⟨by decide +kernel, by decide +kernel⟩, List.mem_of_getElem? (i := 1238) (by decide +kernel), List.mem_of_getElem? (i := 1595) (by decide +kernel), List.mem_of_getElem? (i := 1596) (by decide +kernel)⟩
theorem lw_p70 : lw_okq (⟨"PaperWayModel", "drive", "(III[I[I)I"⟩, 69) := ⟨⟨by decide +kernel, by decide +kernel⟩, List.mem_of_getElem? (i := 1238) (by decide +kernel), List.mem_of_getElem? (i := 1599) (by decide +kernel), List.mem_of_getElem? (i := 1600) (by decide +kernel)⟩
theorem lw_p71 : lw_okq (⟨"PaperWayModel", "ahead", "(I)I"⟩, 69) := ⟨⟨by decide +kernel, by decide +kernel⟩, List.mem_of_getElem? (i := 1238) (by decide +kernel), List.mem_of_getElem? (i := 1606) (by decide +kernel), List.mem_of_getElem? (i := 1607) (by decide +kernel)⟩
theorem lw_p72 : lw_okq (⟨"PaperWayModel", "comesBack", "()V"⟩, 69) := ⟨⟨by decide +kernel, by decide +kernel⟩, List.mem_of_getElem? (i := 1238) (by decide +kernel), List.mem_of_getElem? (i := 1610) (by decide +kernel), List.mem_of_getElem? (i := 1611) (by decide +kernel)⟩
theorem lw_p73 : lw_okq (⟨"PaperWayModel", "looks", "()V"⟩, 69) := ⟨⟨by decide +kernel, by decide +kernel⟩, List.mem_of_getElem? (i := 1238) (by decide +kernel), List.mem_of_getElem? (i := 1614) (by decide +kernel), List.mem_of_getElem? (i := 1615) (by decide +kernel)⟩
theorem lw_p74 : lw_okq (⟨"PaperWayModel", "isEye", "(I)Z"⟩, 69) := ⟨⟨by decide +kernel, by decide +kernel⟩, List.mem_of_getElem? (i := 1238) (by decide +kernel), List.mem_of_getElem? (i := 1630) (by decide +kernel), List.mem_of_getElem? (i := 1631) (by decide +kernel)⟩
theorem lw_p75 : lw_okq (⟨"PaperWayModel", "observed", "()I"⟩, 69) := ⟨⟨by decide +kernel, by decide +kernel⟩, List.mem_of_getElem? (i := 1238) (by decide +kernel), List.mem_of_getElem? (i := 1647) (by decide +kernel), List.mem_of_getElem? (i := 1648) (by decide +kernel)⟩
theorem lw_p76 : lw_okq (⟨"PaperWayModel", "explains", "(III)Z"⟩, 69) := ⟨⟨by decide +kernel, by decide +kernel⟩, List.mem_of_getElem? (i := 1238) (by decide +kernel), List.mem_of_getElem? (i := 1655) (by decide +kernel), List.mem_of_getElem? (i := 1656) (by decide +kernel)⟩
theorem lw_p77 : lw_okq (⟨"PaperWayModel", "takesCause", "(I)V"⟩, 69) := ⟨⟨by decide +kernel, by decide +kernel⟩, List.mem_of_getElem? (i := 1238) (by decide +kernel), List.mem_of_getElem? (i := 1659) (by decide +kernel), List.mem_of_getElem? (i := 1660) (by decide +kernel)⟩
theorem lw_p78 : lw_okq (⟨"PaperWayModel", "looksAlone", "(I)V"⟩, 69) := ⟨⟨by decide +kernel, by decide +kernel⟩, List.mem_of_getElem? (i := 1238) (by decide +kernel), List.mem_of_getElem? (i := 1663) (by decide +kernel), List.mem_of_getElem? (i := 1664) (by decide +kernel)⟩
theorem lw_p79 : lw_okq (⟨"PaperWayModel", "goesAlone", "(II)V"⟩, 69) := ⟨⟨by decide +kernel, by decide +kernel⟩, List.mem_of_getElem? (i := 1238) (by decide +kernel), List.mem_of_getElem? (i := 1667) (by decide +kernel), List.mem_of_getElem? (i := 1668) (by decide +kernel)⟩
def lw_privs_5 : List (MethodName × Nat) := [(⟨"PaperWayModel", "tail", "(I)I"⟩, 69), (⟨"PaperWayModel", "ticks", "()V"⟩, 69), (⟨"PaperWayModel", "goes", "(I)V"⟩, 69), (⟨"PaperWayModel", "waits", "(I)Z"⟩, 69), (⟨"PaperWayModel", "waitsNow", "(I)V"⟩, 69), (⟨"PaperWayModel", "inPocket", "()I"⟩, 69), (⟨"PaperWayModel", "drive", "(III[I[I)I"⟩, 69), (⟨"PaperWayModel", "ahead", "(I)I"⟩, 69), (⟨"PaperWayModel", "comesBack", "()V"⟩, 69), (⟨"PaperWayModel", "looks", "()V"⟩, 69), (⟨"PaperWayModel", "isEye", "(I)Z"⟩, 69), (⟨"PaperWayModel", "observed", "()I"⟩, 69), (⟨"PaperWayModel", "explains", "(III)Z"⟩, 69), (⟨"PaperWayModel", "takesCause", "(I)V"⟩, 69), (⟨"PaperWayModel", "looksAlone", "(I)V"⟩, 69), (⟨"PaperWayModel", "goesAlone", "(II)V"⟩, 69)]
theorem lw_r5 : ∀ q ∈ lw_privs_5, lw_okq q := List.forall_mem_cons.mpr ⟨lw_p64, List.forall_mem_cons.mpr ⟨lw_p65, List.forall_mem_cons.mpr ⟨lw_p66, List.forall_mem_cons.mpr ⟨lw_p67, List.forall_mem_cons.mpr ⟨lw_p68, List.forall_mem_cons.mpr ⟨lw_p69, List.forall_mem_cons.mpr ⟨lw_p70, List.forall_mem_cons.mpr ⟨lw_p71, List.forall_mem_cons.mpr ⟨lw_p72, List.forall_mem_cons.mpr ⟨lw_p73, List.forall_mem_cons.mpr ⟨lw_p74, List.forall_mem_cons.mpr ⟨lw_p75, List.forall_mem_cons.mpr ⟨lw_p76, List.forall_mem_cons.mpr ⟨lw_p77, List.forall_mem_cons.mpr ⟨lw_p78, List.forall_mem_cons.mpr ⟨lw_p79, fun _ h => absurd h List.not_mem_nil⟩⟩⟩⟩⟩⟩⟩⟩⟩⟩⟩⟩⟩⟩⟩⟩
theorem lw_p80 : lw_okq (⟨"PaperWayModel", "isCause", "(I)Z"⟩, 69) := ⟨⟨by decide +kernel, by decide +kernel⟩, List.mem_of_getElem? (i := 1238) (by decide +kernel), List.mem_of_getElem? (i := 1671) (by decide +kernel), List.mem_of_getElem? (i := 1672) (by decide +kernel)⟩
theorem lw_p81 : lw_okq (⟨"PaperWayModel", "isOutAlone", "(II)Z"⟩, 69) := ⟨⟨by decide +kernel, by decide +kernel⟩, List.mem_of_getElem? (i := 1238) (by decide +kernel), List.mem_of_getElem? (i := 1680) (by decide +kernel), List.mem_of_getElem? (i := 1681) (by decide +kernel)⟩
theorem lw_p82 : lw_okq (⟨"PaperWayModel", "creaseOf", "(III)I"⟩, 69) := ⟨⟨by decide +kernel, by decide +kernel⟩, List.mem_of_getElem? (i := 1238) (by decide +kernel), List.mem_of_getElem? (i := 1689) (by decide +kernel), List.mem_of_getElem? (i := 1690) (by decide +kernel)⟩
theorem lw_p83 : lw_okq (⟨"PaperWayModel", "finds", "()Z"⟩, 69) := ⟨⟨by decide +kernel, by decide +kernel⟩, List.mem_of_getElem? (i := 1238) (by decide +kernel), List.mem_of_getElem? (i := 1716) (by decide +kernel), List.mem_of_getElem? (i := 1717) (by decide +kernel)⟩
theorem lw_p84 : lw_okq (⟨"PaperWayModel", "adds", "(III)V"⟩, 69) := ⟨⟨by decide +kernel, by decide +kernel⟩, List.mem_of_getElem? (i := 1238) (by decide +kernel), List.mem_of_getElem? (i := 1723) (by decide +kernel), List.mem_of_getElem? (i := 1724) (by decide +kernel)⟩
theorem lw_p85 : lw_okq (⟨"PaperWayModel", "isOut", "(I)Z"⟩, 69) := ⟨⟨by decide +kernel, by decide +kernel⟩, List.mem_of_getElem? (i := 1238) (by decide +kernel), List.mem_of_getElem? (i := 1727) (by decide +kernel), List.mem_of_getElem? (i := 1728) (by decide +kernel)⟩
theorem lw_p86 : lw_okq (⟨"PaperWayModel", "opens", "(I)V"⟩, 69) := ⟨⟨by decide +kernel, by decide +kernel⟩, List.mem_of_getElem? (i := 1238) (by decide +kernel), List.mem_of_getElem? (i := 1731) (by decide +kernel), List.mem_of_getElem? (i := 1732) (by decide +kernel)⟩
theorem lw_p87 : lw_okq (⟨"PaperWayModel", "lain", "(I)I"⟩, 69) := ⟨⟨by decide +kernel, by decide +kernel⟩, List.mem_of_getElem? (i := 1238) (by decide +kernel), List.mem_of_getElem? (i := 1735) (by decide +kernel), List.mem_of_getElem? (i := 1736) (by decide +kernel)⟩
theorem lw_p88 : lw_okq (⟨"PaperWayModel", "pairs", "()V"⟩, 69) := ⟨⟨by decide +kernel, by decide +kernel⟩, List.mem_of_getElem? (i := 1238) (by decide +kernel), List.mem_of_getElem? (i := 1756) (by decide +kernel), List.mem_of_getElem? (i := 1757) (by decide +kernel)⟩
theorem lw_p89 : lw_okq (⟨"PaperWayModel", "wanted", "()I"⟩, 69) := ⟨⟨by decide +kernel, by decide +kernel⟩, List.mem_of_getElem? (i := 1238) (by decide +kernel), List.mem_of_getElem? (i := 1760) (by decide +kernel), List.mem_of_getElem? (i := 1761) (by decide +kernel)⟩
theorem lw_p90 : lw_okq (⟨"PaperWayModel", "mostAt", "(II)I"⟩, 69) := ⟨⟨by decide +kernel, by decide +kernel⟩, List.mem_of_getElem? (i := 1238) (by decide +kernel), List.mem_of_getElem? (i := 1764) (by decide +kernel), List.mem_of_getElem? (i := 1765) (by decide +kernel)⟩
theorem lw_p91 : lw_okq (⟨"PaperWayModel", "serves", "(III)Z"⟩, 69) := ⟨⟨by decide +kernel, by decide +kernel⟩, List.mem_of_getElem? (i := 1238) (by decide +kernel), List.mem_of_getElem? (i := 1792) (by decide +kernel), List.mem_of_getElem? (i := 1793) (by decide +kernel)⟩
theorem lw_p92 : lw_okq (⟨"PaperWayModel", "renewals", "(III)I"⟩, 69) := ⟨⟨by decide +kernel, by decide +kernel⟩, List.mem_of_getElem? (i := 1238) (by decide +kernel), List.mem_of_getElem? (i := 1796) (by decide +kernel), List.mem_of_getElem? (i := 1797) (by decide +kernel)⟩
def lw_privs_6 : List (MethodName × Nat) := [(⟨"PaperWayModel", "isCause", "(I)Z"⟩, 69), (⟨"PaperWayModel", "isOutAlone", "(II)Z"⟩, 69), (⟨"PaperWayModel", "creaseOf", "(III)I"⟩, 69), (⟨"PaperWayModel", "finds", "()Z"⟩, 69), (⟨"PaperWayModel", "adds", "(III)V"⟩, 69), (⟨"PaperWayModel", "isOut", "(I)Z"⟩, 69), (⟨"PaperWayModel", "opens", "(I)V"⟩, 69), (⟨"PaperWayModel", "lain", "(I)I"⟩, 69), (⟨"PaperWayModel", "pairs", "()V"⟩, 69), (⟨"PaperWayModel", "wanted", "()I"⟩, 69), (⟨"PaperWayModel", "mostAt", "(II)I"⟩, 69), (⟨"PaperWayModel", "serves", "(III)Z"⟩, 69), (⟨"PaperWayModel", "renewals", "(III)I"⟩, 69)]
theorem lw_r6 : ∀ q ∈ lw_privs_6, lw_okq q := List.forall_mem_cons.mpr ⟨lw_p80, List.forall_mem_cons.mpr ⟨lw_p81, List.forall_mem_cons.mpr ⟨lw_p82, List.forall_mem_cons.mpr ⟨lw_p83, List.forall_mem_cons.mpr ⟨lw_p84, List.forall_mem_cons.mpr ⟨lw_p85, List.forall_mem_cons.mpr ⟨lw_p86, List.forall_mem_cons.mpr ⟨lw_p87, List.forall_mem_cons.mpr ⟨lw_p88, List.forall_mem_cons.mpr ⟨lw_p89, List.forall_mem_cons.mpr ⟨lw_p90, List.forall_mem_cons.mpr ⟨lw_p91, List.forall_mem_cons.mpr ⟨lw_p92, fun _ h => absurd h List.not_mem_nil⟩⟩⟩⟩⟩⟩⟩⟩⟩⟩⟩⟩⟩
def lw_privs : List (MethodName × Nat) := lw_privs_1 ++ (lw_privs_2 ++ (lw_privs_3 ++ (lw_privs_4 ++ (lw_privs_5 ++ (lw_privs_6)))))
def lw_tbl : List Cond := k2_sels lw_privs ++ tables_1
theorem lw_privs_ok : ∀ q ∈ lw_privs, lw_okq q := by
  show ∀ q ∈ lw_privs_1 ++ (lw_privs_2 ++ (lw_privs_3 ++ (lw_privs_4 ++ (lw_privs_5 ++ (lw_privs_6))))), lw_okq q
  exact List.forall_mem_append.mpr ⟨lw_r1, List.forall_mem_append.mpr ⟨lw_r2, List.forall_mem_append.mpr ⟨lw_r3, List.forall_mem_append.mpr ⟨lw_r4, List.forall_mem_append.mpr ⟨lw_r5, lw_r6⟩⟩⟩⟩⟩
-- ===== end of PART A; then your names; then what follows =====
end
section
/-- the array class over arrays of t is there -/
def zAOA (t : FieldType) (U : State) : Prop := (Cond.arrayOver (.array t)).before #[] U = true
theorem zAOA.use {t : FieldType} {A : Array Value} {U : State} (h : zAOA t U) : (Cond.arrayOver (.array t)).before A U = true := h
theorem zAOA.of {t : FieldType} {A : Array Value} {U : State} (h : (Cond.arrayOver (.array t)).before A U = true) : zAOA t U := h
theorem zAOA.moved {t : FieldType} {u U : State} (hvm : u.vm.Alike U.vm) (h : zAOA t u) : zAOA t U := by
  obtain ⟨comp, c, k, h1, h2, h3, h4, h5⟩ := arrayOverA_spec h
  obtain ⟨k', hk', he⟩ := hvm.2.2 _ _ h3
  have hi : (U.vm.classes.findIdx? fun (x : Class) => match x.kind with | .array component _ => component == comp | _ => false) = some c := by
    refine (va_idx_bare U.vm comp).symm.trans ?_
    have hb : U.vm.bare = u.vm.bare := by first | exact hvm.bare_eq | exact hvm.bare_eq.symm
    rw [hb]
    exact (va_idx_bare u.vm comp).trans h2
  have hkind : k'.kind = .array comp (.array t) := by rw [he]; exact h4
  have f1 : U.vm.findClass (FieldType.array t).toString = some comp := by rw [hvm.findClass]; exact h1
  have f2 : U.vm.findClass ("[" ++ (FieldType.array t).toString) = some c := by rw [hvm.findClass]; exact h5
  unfold zAOA Cond.before Cond.holds
  simp only [Cond.value]
  rw [f1, Option.bind_some]
  refine (congrArg (fun o : Option Nat => (o.bind (fun c => (U.vm.classes[c]?).map fun (k : Class) => match k.kind with | .array _ ty => decide (ty = FieldType.array t) && decide (U.vm.findClass ("[" ++ (FieldType.array t).toString) = some c) | _ => false) == some true)) hi).trans ?_
  simp [hk', hkind, f2]
/-! ===== BEGIN words of one list among another's, by their places ===== -/
theorem goodIn_r {big : List Cond} (ws : List Cond) (ps : List Nat) (hp : ws = ps.filterMap (fun i => big[i]?)) (h : ws.all goodWord = true) : GoodIn big ws := by
  intro w hw
  have h1 := List.all_eq_true.mp h w hw
  rw [hp] at hw
  obtain ⟨i, -, hi⟩ := List.mem_filterMap.mp hw
  have hm : w ∈ big := by first | exact List.mem_of_getElem? hi | exact List.getElem?_mem hi
  exact ⟨hm, good_of_word h1⟩
theorem goodIn_app {big a b : List Cond} (ha : GoodIn big a) (hb : GoodIn big b) : GoodIn big (a ++ b) := fun w h => (List.mem_append.mp h).elim (ha w) (hb w)
theorem goodIn_ca {big a b : List Cond} {c : Cond} (ha : GoodIn big (c :: a)) (hb : GoodIn big b) : GoodIn big (c :: (a ++ b)) := fun w h => (List.mem_cons.mp h).elim (fun e => ha w (List.mem_cons.mpr (Or.inl e))) (fun h => (List.mem_append.mp h).elim (fun h => ha w (List.mem_cons.mpr (Or.inr h))) (hb w))
theorem goodIn_sub {big ws : List Cond} (hm : ∀ w ∈ ws, w ∈ big) (h : ws.all goodWord = true) : GoodIn big ws := fun w hw => ⟨hm w hw, good_of_word (List.all_eq_true.mp h w hw)⟩
/-! ===== END ===== -/

/-! ===== BEGIN new T[n][m]: the outer array a place, the inner ones among the pooled ===== -/
/-- f, but v at every address of l -/
def vr_up {α : Type} (f : Nat → α) (l : List Nat) (v : α) : Nat → α := fun a => if a ∈ l then v else f a
theorem vr_up_in {α : Type} {f : Nat → α} {l : List Nat} {v : α} {a : Nat} (h : a ∈ l) : vr_up f l v a = v := if_pos h
theorem vr_up_ne {α : Type} {f : Nat → α} {l : List Nat} {v : α} {a : Nat} (h : a ∉ l) : vr_up f l v a = f a := if_neg h
theorem vr_rows {L l : List Nat} {f : Nat → va_E} {e : va_E} (h : ∀ a, a ∈ l → a ∉ L) : va_pl L f ++ l.map (fun a => (a, e)) = va_pl (L ++ l) (vr_up f l e) := by
  unfold va_pl
  rw [List.map_append]
  congr 1
  · apply List.map_congr_left
    intro a ha
    rw [vr_up_ne (fun q => h a q ha)]
  · apply List.map_congr_left
    intro a ha
    rw [vr_up_in ha]
theorem vr_lay {X rows : va_W} {x : Nat × va_E} {pl : va_W} {D : va_G} {cl : List vw_C} {H : Heap} (hP : va_P D cl (((X ++ pl) ++ [x]) ++ rows) H) : va_P D cl ((X ++ [x]) ++ (pl ++ rows)) H := by
  rw [List.append_assoc (X ++ pl)] at hP
  have h := va_P.swap hP
  rw [← List.append_assoc X] at h
  have h2 := va_P.swap h
  rw [List.append_assoc (X ++ [x])] at h2
  exact h2
theorem vr_layD {X rows : va_W} {x : Nat × va_E} {pl : va_W} {A : Nat → Prop} (hD : va_D A (((X ++ pl) ++ [x]) ++ rows)) : va_D A ((X ++ [x]) ++ (pl ++ rows)) := by
  rw [List.append_assoc (X ++ pl)] at hD
  have h := va_D.swap hD
  rw [← List.append_assoc X] at h
  have h2 := va_D.swap h
  rw [List.append_assoc (X ++ [x])] at h2
  exact h2
theorem vr_outer (c : ClassId) (N h0 : Nat) : ∀ i : Nat, Jvm.Free.Multi.outerC c N h0 i = arrV c N (fun j => va_rf (if j < i then some (h0 + 1 + j) else none))
  | 0 => by
    show ({ cls := c, slots := Array.replicate N .null, vm := .none } : Cell) = _
    rw [arrV_new]
    refine congrArg (arrV c N) (funext fun j => ?_)
    simp [va_rf]
  | i + 1 => by
    show (Jvm.Free.Multi.outerC c N h0 i).setSlot i (.ref (h0 + 1 + i)) = _
    rw [vr_outer c N h0 i, arrV_store]
    refine congrArg (arrV c N) (funext fun j => ?_)
    by_cases e : j = i
    · subst e
      simp [updV, va_rf]
    · by_cases h : j < i
      · simp [updV, e, h, Nat.lt_succ_of_lt h]
      · simp [updV, e, h, show ¬ j < i + 1 by omega]
section VGM
variable {p : Program} {l : Launch} {e : Env} {R : Room} {s : State} {m : MethodId} {args : Array Value} {below : List Frame} {meth : Method} {c : Code} {H : Heap} {locs : List Loc} {cells slots : Nat} {Q : State → Prop}
variable {cc : ByteArray} {pc : Nat} {ls : Array Slot} {rest : List Value} {D : va_G} {cl : List vw_C} {A : Nat → Prop} {a : Nat} {tys : List (ClassId × FieldType)} {ws : va_W} {H0 : Heap}
theorem va_mna {X : va_W} {L : List Nat} {f : Nat → va_E} {cc : ByteArray} (hexec : p.tables.exec = Jvm.exec) (hb : c.code = cc) {own : String} {index : Nat} {ty : FieldType} {cy : ClassId} (hown : s.vm.findClass own = some m.cls) (hclink : (Cond.classLink own index ("[" ++ (FieldType.array ty).toString)).before args s = true) (hover : zAOA ty s) (harr : (Cond.arrayClass ty).before args s = true) (hcy : s.vm.findClass (FieldType.array ty).toString = some cy)
    (hK : va_K D cl tys s) (hP : va_P D cl (X ++ va_pl L f) H) (hD : va_D A (X ++ va_pl L f)) (hS : va_S A H0 H locs) (hA : ∀ q, H0.size ≤ q → A q) {n k : Int32} {N' K' : Nat} {z : vp_A} (hn : ¬ n < 0) (hk : ¬ k < 0) (hN : n.toNatClampNeg = N') (hM : k.toNatClampNeg = K')
    (hb1 : N' * 4 ≤ 536870912) (hb2 : K' * componentBytes ty ≤ 536870912) (hb3 : K' ≤ 536870912) (hdf : fits ty (defaultValue ty) = true) (hdd : (defaultValue ty).isDefault = true) (hcells : cells + (1 + N') ≤ R.cells) (hslots : slots + (N' + N' * K') ≤ R.slots) (hz : ∀ c : ClassId, Jvm.Free.Multi.innerC c K' (defaultValue ty) = vp_cell c z) (hdg : decode cc pc = .ok (.multianewarray index 2, 4))
    (kk : ∀ (q : Nat) (r : Nat → Nat) (cA : ClassId) (H1 : Heap), (∀ i j : Nat, i < N' → j < N' → r i = r j → i = j) → (∀ i : Nat, i < N' → r i ∉ L) → va_K D cl (tys ++ [(cA, .array ty)]) s →
      va_P D cl ((X ++ [(q, .inl (cA, N', .inr (.inr (.inr (.inr (fun i => if i < N' then some (r i) else none))))))]) ++ va_pl (L ++ (List.range N').map r) (vr_up f ((List.range N').map r) (.inl (cy, z)))) H1 → va_D A ((X ++ [(q, .inl (cA, N', .inr (.inr (.inr (.inr (fun i => if i < N' then some (r i) else none))))))]) ++ va_pl (L ++ (List.range N').map r) (vr_up f ((List.range N').map r) (.inl (cy, z)))) → va_S A H0 H1 locs →
      W p l e R s m args below meth c H1 locs (cells + 1 + N') (slots + N' + N' * K') Q (F0 m (pc + 4) ls (.ref q :: rest))) : W p l e R s m args below meth c H locs cells slots Q (F0 m pc ls (.int k :: .int n :: rest)) := by
  subst hN
  subst hM
  intro T hT Xs
  obtain ⟨vm₁, cA, comp, -, fA, fC, hO, -, X', step⟩ := Xs.multianewarray2F hexec hown hclink (zAOA.use hover) harr (g := F0 m pc ls (.int k :: .int n :: rest)) rfl (by rw [hb]; exact hdg) rfl hn hk hb1 hb2 hb3 hdf hdd hcells hslots
  have ec : some cy = some comp := hcy.symm.trans fC
  cases ec
  generalize hF : Jvm.Free.Multi.fill (T.setVm vm₁) cA cy n.toNatClampNeg k.toNatClampNeg (defaultValue ty) n.toNatClampNeg = F at X' step
  have hTh : (T.setVm vm₁).heap = H := hT
  obtain ⟨f1, f2, -, -⟩ := Jvm.Free.Multi.fill_facts (T.setVm vm₁) cA cy n.toNatClampNeg k.toNatClampNeg (defaultValue ty) n.toNatClampNeg
  rw [hF, hTh] at f1 f2
  have hold : ∀ x : Nat, x < H.size → F.heap[x]? = H[x]? := fun x hx => by
    have := Jvm.Free.Multi.fill_old (T.setVm vm₁) cA cy n.toNatClampNeg k.toNatClampNeg (defaultValue ty) (a := x) (by rw [hTh]; exact hx) n.toNatClampNeg
    rw [hF, hTh] at this
    exact this
  have hrow : ∀ j : Nat, j < n.toNatClampNeg → F.heap[H.size + 1 + j]? = some (vp_cell cy z) := fun j hj => by
    have := Jvm.Free.Multi.fill_inner (T.setVm vm₁) cA cy n.toNatClampNeg k.toNatClampNeg (defaultValue ty) n.toNatClampNeg j hj
    rw [hF, hTh, hz] at this
    exact this
  have hout : Jvm.Free.Multi.outerC cA n.toNatClampNeg H.size n.toNatClampNeg = vp_cell cA (n.toNatClampNeg, .inr (.inr (.inr (.inr (fun i => if i < n.toNatClampNeg then some (H.size + 1 + i) else none))))) := by
    rw [vp_cell_q]
    exact vr_outer cA n.toNatClampNeg H.size n.toNatClampNeg
  rw [hout] at f2
  have hlt : ∀ a, a ∈ L → a < H.size := fun a ha => by
    obtain ⟨k9, hk9⟩ := va_pl_get (X := X) (f := f) ha
    exact (hP k9 _ hk9).lt
  have hnl : ∀ i : Nat, i < n.toNatClampNeg → H.size + 1 + i ∉ L := fun i _ h => by
    have := hlt _ h
    omega
  have hnm : ∀ a, a ∈ (List.range n.toNatClampNeg).map (fun i => H.size + 1 + i) → a ∉ L := fun a ha h => by
    obtain ⟨i, -, rfl⟩ := List.mem_map.mp ha
    have := hlt _ h
    omega
  have hP0 : va_P D cl (X ++ va_pl L f) F.heap := hP.kept (fun k9 x hx => hold x.1 ((hP k9 x hx).lt))
  have hP1 : va_P D cl ((X ++ va_pl L f) ++ [(H.size, .inl (cA, n.toNatClampNeg, .inr (.inr (.inr (.inr (fun i => if i < n.toNatClampNeg then some (H.size + 1 + i) else none))))))]) F.heap := hP0.app (fun k9 x hx => by
    have h0 : k9 < 1 := (List.getElem?_eq_some_iff.mp hx).1
    rw [show k9 = 0 by omega] at hx
    cases hx
    exact f2)
  have hP2 : va_P D cl (((X ++ va_pl L f) ++ [(H.size, .inl (cA, n.toNatClampNeg, .inr (.inr (.inr (.inr (fun i => if i < n.toNatClampNeg then some (H.size + 1 + i) else none))))))]) ++ ((List.range n.toNatClampNeg).map (fun i => H.size + 1 + i)).map (fun a => (a, .inl (cy, z)))) F.heap := hP1.app (fun k9 x hx => by
    obtain ⟨a, ha, rfl⟩ := List.mem_map.mp (List.mem_of_getElem? hx)
    obtain ⟨i, hi, rfl⟩ := List.mem_map.mp ha
    exact hrow i (List.mem_range.mp hi))
  have hD2 : va_D A (((X ++ va_pl L f) ++ [(H.size, .inl (cA, n.toNatClampNeg, .inr (.inr (.inr (.inr (fun i => if i < n.toNatClampNeg then some (H.size + 1 + i) else none))))))]) ++ ((List.range n.toNatClampNeg).map (fun i => H.size + 1 + i)).map (fun a => (a, .inl (cy, z)))) := by
    have hD1 := hD.push (e := .inl (cA, n.toNatClampNeg, .inr (.inr (.inr (.inr (fun i => if i < n.toNatClampNeg then some (H.size + 1 + i) else none)))))) hP rfl (hA _ hS.1)
    generalize hW1 : (X ++ va_pl L f) ++ [(H.size, .inl (cA, n.toNatClampNeg, .inr (.inr (.inr (.inr (fun i => if i < n.toNatClampNeg then some (H.size + 1 + i) else none))))))] = W1 at hD1 hP1 ⊢
    have hle : ∀ (k9 : Nat) (x : Nat × va_E), W1[k9]? = some x → x.1 ≤ H.size := fun k9 x hx => by
      rw [← hW1] at hx
      by_cases hl : k9 < (X ++ va_pl L f).length
      · rw [List.getElem?_append_left hl] at hx
        exact Nat.le_of_lt ((hP k9 x hx).lt)
      · rw [List.getElem?_append_right (by omega)] at hx
        have h0 : k9 - (X ++ va_pl L f).length < 1 := (List.getElem?_eq_some_iff.mp hx).1
        rw [show k9 - (X ++ va_pl L f).length = 0 by omega] at hx
        cases hx
        exact Nat.le_refl _
    have hr : ∀ (k9 : Nat) (x : Nat × va_E), (((List.range n.toNatClampNeg).map (fun i => H.size + 1 + i)).map (fun a => ((a, .inl (cy, z)) : Nat × va_E)))[k9]? = some x → x.1 = H.size + 1 + k9 := fun k9 x hx => by
      rw [List.getElem?_map, List.getElem?_map] at hx
      by_cases h9 : k9 < n.toNatClampNeg
      · rw [List.getElem?_range h9] at hx
        cases hx
        rfl
      · have hn0 : (List.range n.toNatClampNeg)[k9]? = none := List.getElem?_eq_none (by rw [List.length_range]; omega)
        rw [hn0] at hx
        cases hx
    refine ⟨fun i j x y hi hj hxy => ?_, fun k9 x hx => ?_⟩
    · by_cases h1 : i < W1.length <;> by_cases h2 : j < W1.length
      · rw [List.getElem?_append_left h1] at hi
        rw [List.getElem?_append_left h2] at hj
        exact hD1.1 i j x y hi hj hxy
      · rw [List.getElem?_append_left h1] at hi
        rw [List.getElem?_append_right (by omega)] at hj
        have := hle _ _ hi
        have := hr _ _ hj
        omega
      · rw [List.getElem?_append_right (by omega)] at hi
        rw [List.getElem?_append_left h2] at hj
        have := hle _ _ hj
        have := hr _ _ hi
        omega
      · rw [List.getElem?_append_right (by omega)] at hi hj
        have := hr _ _ hi
        have := hr _ _ hj
        omega
    · by_cases h1 : k9 < W1.length
      · rw [List.getElem?_append_left h1] at hx
        exact hD1.2 k9 x hx
      · rw [List.getElem?_append_right (by omega)] at hx
        have := hr _ _ hx
        exact hA _ (by have := hS.1; omega)
  have hAr : ArrOfT s cA (.array ty) := fun N9 z9 => by
    obtain ⟨-, k9, hk9, cm9, hkk9⟩ := (hO 0 0 0).1
    exact ⟨(fun q hq => by cases hq), k9, hk9, cm9, hkk9⟩
  have hK2 : va_K D cl (tys ++ [(cA, .array ty)]) s := ⟨hK.1, fun k9 x hx => by
    by_cases hl : k9 < tys.length
    · rw [List.getElem?_append_left hl] at hx
      exact hK.2 k9 x hx
    · rw [List.getElem?_append_right (by omega)] at hx
      have h0 : k9 - tys.length < 1 := (List.getElem?_eq_some_iff.mp hx).1
      rw [show k9 - tys.length = 0 by omega] at hx
      cases hx
      exact ⟨hAr, fA⟩⟩
  obtain ⟨t, a1, b1⟩ := kk H.size (fun i => H.size + 1 + i) cA F.heap (fun i j _ _ h => by have h9 : H.size + 1 + i = H.size + 1 + j := h; omega) hnl hK2 (by rw [← vr_rows hnm]; exact vr_lay hP2) (by rw [← vr_rows hnm]; exact vr_layD hD2) ⟨by rw [f1]; have := hS.1; omega, fun x h1 h2 => (hold x (Nat.lt_of_lt_of_le h1 hS.1)).trans (hS.2.1 x h1 h2), hS.2.2⟩ F rfl X'
  refine ⟨t, step t ?_, b1⟩
  have e : T.heap.size = H.size := by rw [hT]
  rw [e]
  exact a1
end VGM
/-! ===== END ===== -/

/-! ===== BEGIN printed: names, fields, word lists, decode rows ===== -/
def RX0 : String := "PaperWay$Causes"
def TX0 : u_T := fun k => match k with
  | 0 => ("PaperWay$Causes", "observed", "I", false)
  | 1 => ("PaperWay$Causes", "found", "I", false)
  | 2 => ("PaperWay$Causes", "first", "I", false)
  | 3 => ("PaperWay$Causes", "second", "I", false)
  | 4 => ("PaperWay$Causes", "told", "[Z", true)
  | 5 => ("PaperWay$Causes", "on", "[I", true)
  | 6 => ("PaperWay$Causes", "off", "[I", true)
  | 7 => ("PaperWay$Causes", "reach", "[I", true)
  | 8 => ("PaperWay$Causes", "trial", "LPaperWay$Traffic;", true)
  | 9 => ("PaperWay$Causes", "trialFlaws", "LPaperWay$Flaws;", true)
  | _ => ("PaperWay$Causes", "soughtLength", "I", false)
def tyX0 : Nat → FieldType := fun k => match k with
  | 0 => .int
  | 1 => .int
  | 2 => .int
  | 3 => .int
  | 4 => .array .boolean
  | 5 => .array .int
  | 6 => .array .int
  | 7 => .array .int
  | 8 => .object "PaperWay$Traffic"
  | 9 => .object "PaperWay$Flaws"
  | _ => .int
abbrev wsX00 : List Cond := u_ws RX0 TX0 11
theorem nmX0 : ∀ a, a < 11 → ∀ b, b < 11 → a ≠ b → (TX0 a).2.1 ≠ (TX0 b).2.1 := by decide +kernel
theorem tyX0_ok : ∀ k, k < 11 → parseFieldDescriptor (TX0 k).2.2.1 = some (tyX0 k) := by decide +kernel
abbrev cX0_init : ByteArray := prog_2_method_1_code
def yX0_init : MethodName := ⟨RX0, "<init>", "()V"⟩
abbrev cX0_observe : ByteArray := prog_2_method_2_code
def yX0_observe : MethodName := ⟨RX0, "observe", "(III)Z"⟩
abbrev cX0_canBe : ByteArray := prog_2_method_3_code
def yX0_canBe : MethodName := ⟨RX0, "canBe", "(II)Z"⟩
abbrev cX0_dropObserved : ByteArray := prog_2_method_4_code
def yX0_dropObserved : MethodName := ⟨RX0, "dropObserved", "()I"⟩
abbrev cX0_seek : ByteArray := prog_2_method_5_code
def yX0_seek : MethodName := ⟨RX0, "seek", "(LPaperWay$Way;I)V"⟩
abbrev cX0_isWorthTrying : ByteArray := prog_2_method_6_code
def yX0_isWorthTrying : MethodName := ⟨RX0, "isWorthTrying", "(LPaperWay$Way;I)Z"⟩
abbrev cX0_canMatter : ByteArray := prog_2_method_7_code
def yX0_canMatter : MethodName := ⟨RX0, "canMatter", "(LPaperWay$Way;II)Z"⟩
abbrev cX0_explains : ByteArray := prog_2_method_8_code
def yX0_explains : MethodName := ⟨RX0, "explains", "(LPaperWay$Way;III)Z"⟩
abbrev cX0_putFlaw : ByteArray := prog_2_method_9_code
def yX0_putFlaw : MethodName := ⟨RX0, "putFlaw", "(LPaperWay$Way;I)V"⟩
abbrev cX0_isSeenSo : ByteArray := prog_2_method_10_code
def yX0_isSeenSo : MethodName := ⟨RX0, "isSeenSo", "(LPaperWay$Way;III)Z"⟩
abbrev cX0_allSeenBy : ByteArray := prog_2_method_11_code
def yX0_allSeenBy : MethodName := ⟨RX0, "allSeenBy", "(LPaperWay$Way;I)Z"⟩
abbrev cX0_firstToFail : ByteArray := prog_2_method_12_code
def yX0_firstToFail : MethodName := ⟨RX0, "firstToFail", "(LPaperWay$Way;LPaperWay$Flaws;III)I"⟩
def RX1 : String := "PaperWay$Flaws"
def TX1 : u_T := fun k => match k with
  | 0 => ("PaperWay$Flaws", "wear", "[I", true)
  | 1 => ("PaperWay$Flaws", "beat", "[I", true)
  | 2 => ("PaperWay$Flaws", "cornerPlace", "[I", true)
  | _ => ("PaperWay$Flaws", "corners", "I", false)
def tyX1 : Nat → FieldType := fun k => match k with
  | 0 => .array .int
  | 1 => .array .int
  | 2 => .array .int
  | _ => .int
abbrev wsX10 : List Cond := u_ws RX1 TX1 4
theorem nmX1 : ∀ a, a < 4 → ∀ b, b < 4 → a ≠ b → (TX1 a).2.1 ≠ (TX1 b).2.1 := by decide +kernel
theorem tyX1_ok : ∀ k, k < 4 → parseFieldDescriptor (TX1 k).2.2.1 = some (tyX1 k) := by decide +kernel
abbrev cX1_init : ByteArray := prog_3_method_1_code
def yX1_init : MethodName := ⟨RX1, "<init>", "()V"⟩
abbrev cX1_reset : ByteArray := prog_3_method_2_code
def yX1_reset : MethodName := ⟨RX1, "reset", "()V"⟩
abbrev cX1_becomeLike : ByteArray := prog_3_method_3_code
def yX1_becomeLike : MethodName := ⟨RX1, "becomeLike", "(LPaperWay$Flaws;)V"⟩
abbrev cX1_changeWear : ByteArray := prog_3_method_4_code
def yX1_changeWear : MethodName := ⟨RX1, "changeWear", "(II)I"⟩
abbrev cX1_changeBeat : ByteArray := prog_3_method_5_code
def yX1_changeBeat : MethodName := ⟨RX1, "changeBeat", "(II)I"⟩
abbrev cX1_leaveCorner : ByteArray := prog_3_method_6_code
def yX1_leaveCorner : MethodName := ⟨RX1, "leaveCorner", "(I)Z"⟩
abbrev cX1_takeCorner : ByteArray := prog_3_method_7_code
def yX1_takeCorner : MethodName := ⟨RX1, "takeCorner", "(I)Z"⟩
abbrev cX1_cornerAt : ByteArray := prog_3_method_8_code
def yX1_cornerAt : MethodName := ⟨RX1, "cornerAt", "(I)I"⟩
abbrev cX1_cornerLimit : ByteArray := prog_3_method_9_code
def yX1_cornerLimit : MethodName := ⟨RX1, "cornerLimit", "(I)I"⟩
abbrev cX1_driveOf : ByteArray := prog_3_method_10_code
def yX1_driveOf : MethodName := ⟨RX1, "driveOf", "(LPaperWay$Way;III)I"⟩
def RX2 : String := "PaperWay$Job"
def TX2 : u_T := fun k => match k with
  | 0 => ("PaperWay$Job", "pages", "I", false)
  | 1 => ("PaperWay$Job", "pageKind", "[I", true)
  | 2 => ("PaperWay$Job", "pageBoth", "[Z", true)
  | 3 => ("PaperWay$Job", "trayKind", "[I", true)
  | 4 => ("PaperWay$Job", "trayPaper", "[Z", true)
  | 5 => ("PaperWay$Job", "hold", "I", false)
  | 6 => ("PaperWay$Job", "rest", "I", false)
  | 7 => ("PaperWay$Job", "heatFirst", "I", false)
  | 8 => ("PaperWay$Job", "heatNeed", "I", false)
  | 9 => ("PaperWay$Job", "heatCost", "I", false)
  | 10 => ("PaperWay$Job", "heatGain", "I", false)
  | 11 => ("PaperWay$Job", "copyNumber", "I", false)
  | 12 => ("PaperWay$Job", "stacked", "I", false)
  | 13 => ("PaperWay$Job", "stack", "[I", true)
  | 14 => ("PaperWay$Job", "partCost", "[I", true)
  | 15 => ("PaperWay$Job", "partWeeks", "[I", true)
  | 16 => ("PaperWay$Job", "partAge", "[I", true)
  | _ => ("PaperWay$Job", "partTold", "[Z", true)
def tyX2 : Nat → FieldType := fun k => match k with
  | 0 => .int
  | 1 => .array .int
  | 2 => .array .boolean
  | 3 => .array .int
  | 4 => .array .boolean
  | 5 => .int
  | 6 => .int
  | 7 => .int
  | 8 => .int
  | 9 => .int
  | 10 => .int
  | 11 => .int
  | 12 => .int
  | 13 => .array .int
  | 14 => .array .int
  | 15 => .array .int
  | 16 => .array .int
  | _ => .array .boolean
abbrev wsX20 : List Cond := u_ws RX2 TX2 18
theorem nmX2 : ∀ a, a < 18 → ∀ b, b < 18 → a ≠ b → (TX2 a).2.1 ≠ (TX2 b).2.1 := by decide +kernel
theorem tyX2_ok : ∀ k, k < 18 → parseFieldDescriptor (TX2 k).2.2.1 = some (tyX2 k) := by decide +kernel
abbrev cX2_init : ByteArray := prog_4_method_1_code
def yX2_init : MethodName := ⟨RX2, "<init>", "()V"⟩
abbrev cX2_addPage : ByteArray := prog_4_method_2_code
def yX2_addPage : MethodName := ⟨RX2, "addPage", "(IZ)I"⟩
abbrev cX2_stackSides : ByteArray := prog_4_method_3_code
def yX2_stackSides : MethodName := ⟨RX2, "stackSides", "()I"⟩
abbrev cX2_becomeLike : ByteArray := prog_4_method_4_code
def yX2_becomeLike : MethodName := ⟨RX2, "becomeLike", "(LPaperWay$Job;)V"⟩
def RX3 : String := "PaperWay$Keeper"
def TX3 : u_T := fun k => match k with
  | 0 => ("PaperWay$Keeper", "fresh", "Z", false)
  | 1 => ("PaperWay$Keeper", "wanted", "I", false)
  | 2 => ("PaperWay$Keeper", "pairs", "I", false)
  | 3 => ("PaperWay$Keeper", "paired", "[I", true)
  | _ => ("PaperWay$Keeper", "room", "[I", true)
def tyX3 : Nat → FieldType := fun k => match k with
  | 0 => .boolean
  | 1 => .int
  | 2 => .int
  | 3 => .array .int
  | _ => .array .int
abbrev wsX30 : List Cond := u_ws RX3 TX3 5
theorem nmX3 : ∀ a, a < 5 → ∀ b, b < 5 → a ≠ b → (TX3 a).2.1 ≠ (TX3 b).2.1 := by decide +kernel
theorem tyX3_ok : ∀ k, k < 5 → parseFieldDescriptor (TX3 k).2.2.1 = some (tyX3 k) := by decide +kernel
abbrev cX3_init : ByteArray := prog_5_method_1_code
def yX3_init : MethodName := ⟨RX3, "<init>", "()V"⟩
abbrev cX3_pair : ByteArray := prog_5_method_2_code
def yX3_pair : MethodName := ⟨RX3, "pair", "(LPaperWay$Job;)V"⟩
abbrev cX3_measureRoom : ByteArray := prog_5_method_3_code
def yX3_measureRoom : MethodName := ⟨RX3, "measureRoom", "(LPaperWay$Job;)V"⟩
abbrev cX3_lastPlaceBelow : ByteArray := prog_5_method_4_code
def yX3_lastPlaceBelow : MethodName := ⟨RX3, "lastPlaceBelow", "(III)I"⟩
abbrev cX3_pairInOrder : ByteArray := prog_5_method_5_code
def yX3_pairInOrder : MethodName := ⟨RX3, "pairInOrder", "(LPaperWay$Job;)V"⟩
abbrev cX3_earliest : ByteArray := prog_5_method_6_code
def yX3_earliest : MethodName := ⟨RX3, "earliest", "(LPaperWay$Job;II)I"⟩
abbrev cX3_lackingPlace : ByteArray := prog_5_method_7_code
def yX3_lackingPlace : MethodName := ⟨RX3, "lackingPlace", "(I)I"⟩
abbrev cX3_wholeCopies : ByteArray := prog_5_method_8_code
def yX3_wholeCopies : MethodName := ⟨RX3, "wholeCopies", "(LPaperWay$Job;)I"⟩
def RX4 : String := "PaperWay$Memory"
def TX4 : u_T := fun k => match k with
  | 0 => ("PaperWay$Memory", "number", "[[J", true)
  | 1 => ("PaperWay$Memory", "sort", "[I", true)
  | _ => ("PaperWay$Memory", "size", "[I", true)
def tyX4 : Nat → FieldType := fun k => match k with
  | 0 => .array (.array .long)
  | 1 => .array .int
  | _ => .array .int
abbrev wsX40 : List Cond := u_ws RX4 TX4 3
theorem nmX4 : ∀ a, a < 3 → ∀ b, b < 3 → a ≠ b → (TX4 a).2.1 ≠ (TX4 b).2.1 := by decide +kernel
theorem tyX4_ok : ∀ k, k < 3 → parseFieldDescriptor (TX4 k).2.2.1 = some (tyX4 k) := by decide +kernel
abbrev cX4_init : ByteArray := prog_6_method_1_code
def yX4_init : MethodName := ⟨RX4, "<init>", "()V"⟩
abbrev cX4_make : ByteArray := prog_6_method_2_code
def yX4_make : MethodName := ⟨RX4, "make", "(III)V"⟩
abbrev cX4_cut : ByteArray := prog_6_method_3_code
def yX4_cut : MethodName := ⟨RX4, "cut", "(JI)J"⟩
abbrev cX4_tellsPages : ByteArray := prog_6_method_4_code
def yX4_tellsPages : MethodName := ⟨RX4, "tellsPages", "(III)Z"⟩
def RX5 : String := "PaperWay$Planner"
def TX5 : u_T := fun k => match k with
  | 0 => ("PaperWay$Planner", "fresh", "Z", false)
  | 1 => ("PaperWay$Planner", "slots", "I", false)
  | 2 => ("PaperWay$Planner", "acts", "[I", true)
  | 3 => ("PaperWay$Planner", "queue", "[J", true)
  | 4 => ("PaperWay$Planner", "met", "[J", true)
  | 5 => ("PaperWay$Planner", "queued", "I", false)
  | 6 => ("PaperWay$Planner", "goal", "I", false)
  | 7 => ("PaperWay$Planner", "job", "LPaperWay$Job;", false)
  | 8 => ("PaperWay$Planner", "fed", "I", false)
  | 9 => ("PaperWay$Planner", "young", "I", false)
  | 10 => ("PaperWay$Planner", "ripe", "I", false)
  | 11 => ("PaperWay$Planner", "heatNow", "I", false)
  | 12 => ("PaperWay$Planner", "lastTray", "I", false)
  | _ => ("PaperWay$Planner", "stopAhead", "Z", false)
def tyX5 : Nat → FieldType := fun k => match k with
  | 0 => .boolean
  | 1 => .int
  | 2 => .array .int
  | 3 => .array .long
  | 4 => .array .long
  | 5 => .int
  | 6 => .int
  | 7 => .object "PaperWay$Job"
  | 8 => .int
  | 9 => .int
  | 10 => .int
  | 11 => .int
  | 12 => .int
  | _ => .boolean
abbrev wsX50 : List Cond := u_ws RX5 TX5 14
theorem nmX5 : ∀ a, a < 14 → ∀ b, b < 14 → a ≠ b → (TX5 a).2.1 ≠ (TX5 b).2.1 := by decide +kernel
theorem tyX5_ok : ∀ k, k < 14 → parseFieldDescriptor (TX5 k).2.2.1 = some (tyX5 k) := by decide +kernel
abbrev cX5_init : ByteArray := prog_7_method_1_code
def yX5_init : MethodName := ⟨RX5, "<init>", "()V"⟩
abbrev cX5_seek : ByteArray := prog_7_method_2_code
def yX5_seek : MethodName := ⟨RX5, "seek", "(LPaperWay$Job;)V"⟩
abbrev cX5_hasPaperForAll : ByteArray := prog_7_method_3_code
def yX5_hasPaperForAll : MethodName := ⟨RX5, "hasPaperForAll", "()Z"⟩
abbrev cX5_gives : ByteArray := prog_7_method_4_code
def yX5_gives : MethodName := ⟨RX5, "gives", "(II)Z"⟩
abbrev cX5_leave : ByteArray := prog_7_method_5_code
def yX5_leave : MethodName := ⟨RX5, "leave", "(I)V"⟩
abbrev cX5_takesNext : ByteArray := prog_7_method_6_code
def yX5_takesNext : MethodName := ⟨RX5, "takesNext", "()Z"⟩
abbrev cX5_feedFromEach : ByteArray := prog_7_method_7_code
def yX5_feedFromEach : MethodName := ⟨RX5, "feedFromEach", "(IIJ)V"⟩
abbrev cX5_agedPocket : ByteArray := prog_7_method_8_code
def yX5_agedPocket : MethodName := ⟨RX5, "agedPocket", "(II)I"⟩
abbrev cX5_unpack : ByteArray := prog_7_method_9_code
def yX5_unpack : MethodName := ⟨RX5, "unpack", "(I)V"⟩
abbrev cX5_meet : ByteArray := prog_7_method_10_code
def yX5_meet : MethodName := ⟨RX5, "meet", "(IIIIIJ)V"⟩
abbrev cX5_traceBack : ByteArray := prog_7_method_11_code
def yX5_traceBack : MethodName := ⟨RX5, "traceBack", "()V"⟩
abbrev cX5_parentOf : ByteArray := prog_7_method_12_code
def yX5_parentOf : MethodName := ⟨RX5, "parentOf", "(I)I"⟩
def RX6 : String := "PaperWay$Reader"
def TX6 : u_T := fun k => match k with
  | 0 => ("PaperWay$Reader", "tape", "[B", true)
  | 1 => ("PaperWay$Reader", "size", "I", false)
  | 2 => ("PaperWay$Reader", "faultKind", "I", false)
  | 3 => ("PaperWay$Reader", "faultPlace", "I", false)
  | 4 => ("PaperWay$Reader", "kind", "[I", true)
  | 5 => ("PaperWay$Reader", "place", "[I", true)
  | 6 => ("PaperWay$Reader", "value", "[I", true)
  | 7 => ("PaperWay$Reader", "tokens", "I", false)
  | 8 => ("PaperWay$Reader", "current", "I", false)
  | 9 => ("PaperWay$Reader", "end", "I", false)
  | _ => ("PaperWay$Reader", "at", "I", false)
def tyX6 : Nat → FieldType := fun k => match k with
  | 0 => .array .byte
  | 1 => .int
  | 2 => .int
  | 3 => .int
  | 4 => .array .int
  | 5 => .array .int
  | 6 => .array .int
  | 7 => .int
  | 8 => .int
  | 9 => .int
  | _ => .int
abbrev wsX60 : List Cond := u_ws RX6 TX6 11
theorem nmX6 : ∀ a, a < 11 → ∀ b, b < 11 → a ≠ b → (TX6 a).2.1 ≠ (TX6 b).2.1 := by decide +kernel
theorem tyX6_ok : ∀ k, k < 11 → parseFieldDescriptor (TX6 k).2.2.1 = some (tyX6 k) := by decide +kernel
abbrev cX6_init : ByteArray := prog_8_method_1_code
def yX6_init : MethodName := ⟨RX6, "<init>", "()V"⟩
abbrev cX6_hasRoomForFive : ByteArray := prog_8_method_2_code
def yX6_hasRoomForFive : MethodName := ⟨RX6, "hasRoomForFive", "()Z"⟩
abbrev cX6_append : ByteArray := prog_8_method_3_code
def yX6_append : MethodName := ⟨RX6, "append", "(I)V"⟩
abbrev cX6_readWay : ByteArray := prog_8_method_4_code
def yX6_readWay : MethodName := ⟨RX6, "readWay", "(LPaperWay$Way;I)I"⟩
abbrev cX6_splitTokens : ByteArray := prog_8_method_5_code
def yX6_splitTokens : MethodName := ⟨RX6, "splitTokens", "(I)V"⟩
abbrev cX6_nextKind : ByteArray := prog_8_method_6_code
def yX6_nextKind : MethodName := ⟨RX6, "nextKind", "()I"⟩
abbrev cX6_nextNumber : ByteArray := prog_8_method_7_code
def yX6_nextNumber : MethodName := ⟨RX6, "nextNumber", "()I"⟩
abbrev cX6_nextWord : ByteArray := prog_8_method_8_code
def yX6_nextWord : MethodName := ⟨RX6, "nextWord", "()I"⟩
abbrev cX6_wordOfFour : ByteArray := prog_8_method_9_code
def yX6_wordOfFour : MethodName := ⟨RX6, "wordOfFour", "(I)I"⟩
abbrev cX6_isAt : ByteArray := prog_8_method_10_code
def yX6_isAt : MethodName := ⟨RX6, "isAt", "(ILjava/lang/String;)Z"⟩
abbrev cX6_readLine : ByteArray := prog_8_method_11_code
def yX6_readLine : MethodName := ⟨RX6, "readLine", "(LPaperWay$Way;Z)V"⟩
abbrev cX6_readRoller : ByteArray := prog_8_method_12_code
def yX6_readRoller : MethodName := ⟨RX6, "readRoller", "(LPaperWay$Way;)V"⟩
abbrev cX6_readEye : ByteArray := prog_8_method_13_code
def yX6_readEye : MethodName := ⟨RX6, "readEye", "(LPaperWay$Way;)V"⟩
abbrev cX6_readTurn : ByteArray := prog_8_method_14_code
def yX6_readTurn : MethodName := ⟨RX6, "readTurn", "(LPaperWay$Way;)V"⟩
abbrev cX6_readDamp : ByteArray := prog_8_method_15_code
def yX6_readDamp : MethodName := ⟨RX6, "readDamp", "(LPaperWay$Way;)V"⟩
abbrev cX6_readNumber : ByteArray := prog_8_method_16_code
def yX6_readNumber : MethodName := ⟨RX6, "readNumber", "(II)I"⟩
abbrev cX6_want : ByteArray := prog_8_method_17_code
def yX6_want : MethodName := ⟨RX6, "want", "(I)V"⟩
abbrev cX6_goOn : ByteArray := prog_8_method_18_code
def yX6_goOn : MethodName := ⟨RX6, "goOn", "()V"⟩
abbrev cX6_blame : ByteArray := prog_8_method_19_code
def yX6_blame : MethodName := ⟨RX6, "blame", "(I)V"⟩
abbrev cX6_isBlank : ByteArray := prog_8_method_20_code
def yX6_isBlank : MethodName := ⟨RX6, "isBlank", "(B)Z"⟩
abbrev cX6_isLetter : ByteArray := prog_8_method_21_code
def yX6_isLetter : MethodName := ⟨RX6, "isLetter", "(B)Z"⟩
abbrev cX6_isDigit : ByteArray := prog_8_method_22_code
def yX6_isDigit : MethodName := ⟨RX6, "isDigit", "(B)Z"⟩
def RX7 : String := "PaperWay$Rounds"
def TX7 : u_T := fun k => match k with
  | 0 => ("PaperWay$Rounds", "weeks", "I", false)
  | 1 => ("PaperWay$Rounds", "total", "I", false)
  | 2 => ("PaperWay$Rounds", "visits", "I", false)
  | 3 => ("PaperWay$Rounds", "renewed", "I", false)
  | 4 => ("PaperWay$Rounds", "priceSought", "I", false)
  | _ => ("PaperWay$Rounds", "newOnes", "I", false)
def tyX7 : Nat → FieldType := fun k => match k with
  | 0 => .int
  | 1 => .int
  | 2 => .int
  | 3 => .int
  | 4 => .int
  | _ => .int
abbrev wsX70 : List Cond := u_ws RX7 TX7 6
theorem nmX7 : ∀ a, a < 6 → ∀ b, b < 6 → a ≠ b → (TX7 a).2.1 ≠ (TX7 b).2.1 := by decide +kernel
theorem tyX7_ok : ∀ k, k < 6 → parseFieldDescriptor (TX7 k).2.2.1 = some (tyX7 k) := by decide +kernel
abbrev cX7_init : ByteArray := prog_9_method_1_code
def yX7_init : MethodName := ⟨RX7, "<init>", "()V"⟩
abbrev cX7_seek : ByteArray := prog_9_method_2_code
def yX7_seek : MethodName := ⟨RX7, "seek", "(LPaperWay$Job;II)V"⟩
abbrev cX7_isBetter : ByteArray := prog_9_method_3_code
def yX7_isBetter : MethodName := ⟨RX7, "isBetter", "(II)Z"⟩
abbrev cX7_costOfNewOnes : ByteArray := prog_9_method_4_code
def yX7_costOfNewOnes : MethodName := ⟨RX7, "costOfNewOnes", "(LPaperWay$Job;II)I"⟩
abbrev cX7_timesNew : ByteArray := prog_9_method_5_code
def yX7_timesNew : MethodName := ⟨RX7, "timesNew", "(IIII)I"⟩
def RX8 : String := "PaperWay$Traffic"
def TX8 : u_T := fun k => match k with
  | 0 => ("PaperWay$Traffic", "watch", "LPaperWay$Watch;", true)
  | 1 => ("PaperWay$Traffic", "sheets", "I", false)
  | 2 => ("PaperWay$Traffic", "now", "I", false)
  | 3 => ("PaperWay$Traffic", "jammed", "I", false)
  | 4 => ("PaperWay$Traffic", "pocketed", "I", false)
  | 5 => ("PaperWay$Traffic", "state", "[I", true)
  | 6 => ("PaperWay$Traffic", "head", "[I", true)
  | 7 => ("PaperWay$Traffic", "side", "[I", true)
  | 8 => ("PaperWay$Traffic", "stood", "[I", true)
  | 9 => ("PaperWay$Traffic", "tenths", "[I", true)
  | 10 => ("PaperWay$Traffic", "came", "[I", true)
  | 11 => ("PaperWay$Traffic", "turned", "[Z", true)
  | 12 => ("PaperWay$Traffic", "line", "[I", true)
  | 13 => ("PaperWay$Traffic", "lined", "I", false)
  | 14 => ("PaperWay$Traffic", "pocketRow", "[I", true)
  | 15 => ("PaperWay$Traffic", "way", "LPaperWay$Way;", false)
  | _ => ("PaperWay$Traffic", "flaws", "LPaperWay$Flaws;", false)
def tyX8 : Nat → FieldType := fun k => match k with
  | 0 => .object "PaperWay$Watch"
  | 1 => .int
  | 2 => .int
  | 3 => .int
  | 4 => .int
  | 5 => .array .int
  | 6 => .array .int
  | 7 => .array .int
  | 8 => .array .int
  | 9 => .array .int
  | 10 => .array .int
  | 11 => .array .boolean
  | 12 => .array .int
  | 13 => .int
  | 14 => .array .int
  | 15 => .object "PaperWay$Way"
  | _ => .object "PaperWay$Flaws"
abbrev wsX80 : List Cond := u_ws RX8 TX8 17
theorem nmX8 : ∀ a, a < 17 → ∀ b, b < 17 → a ≠ b → (TX8 a).2.1 ≠ (TX8 b).2.1 := by decide +kernel
theorem tyX8_ok : ∀ k, k < 17 → parseFieldDescriptor (TX8 k).2.2.1 = some (tyX8 k) := by decide +kernel
abbrev cX8_init : ByteArray := prog_10_method_1_code
def yX8_init : MethodName := ⟨RX8, "<init>", "()V"⟩
abbrev cX8_start : ByteArray := prog_10_method_2_code
def yX8_start : MethodName := ⟨RX8, "start", "(LPaperWay$Way;LPaperWay$Flaws;)V"⟩
abbrev cX8_isFull : ByteArray := prog_10_method_3_code
def yX8_isFull : MethodName := ⟨RX8, "isFull", "()Z"⟩
abbrev cX8_tailOf : ByteArray := prog_10_method_4_code
def yX8_tailOf : MethodName := ⟨RX8, "tailOf", "(I)I"⟩
abbrev cX8_isFreeFor : ByteArray := prog_10_method_5_code
def yX8_isFreeFor : MethodName := ⟨RX8, "isFreeFor", "(I)Z"⟩
abbrev cX8_begin : ByteArray := prog_10_method_6_code
def yX8_begin : MethodName := ⟨RX8, "begin", "(IZ)I"⟩
abbrev cX8_liesFree : ByteArray := prog_10_method_7_code
def yX8_liesFree : MethodName := ⟨RX8, "liesFree", "(II)Z"⟩
abbrev cX8_putOnWay : ByteArray := prog_10_method_8_code
def yX8_putOnWay : MethodName := ⟨RX8, "putOnWay", "(III)V"⟩
abbrev cX8_goOnce : ByteArray := prog_10_method_9_code
def yX8_goOnce : MethodName := ⟨RX8, "goOnce", "()V"⟩
abbrev cX8_carryOn : ByteArray := prog_10_method_10_code
def yX8_carryOn : MethodName := ⟨RX8, "carryOn", "()V"⟩
abbrev cX8_move : ByteArray := prog_10_method_11_code
def yX8_move : MethodName := ⟨RX8, "move", "(II)V"⟩
abbrev cX8_waits : ByteArray := prog_10_method_12_code
def yX8_waits : MethodName := ⟨RX8, "waits", "(I)Z"⟩
abbrev cX8_drive : ByteArray := prog_10_method_13_code
def yX8_drive : MethodName := ⟨RX8, "drive", "(II)V"⟩
abbrev cX8_enterPocket : ByteArray := prog_10_method_14_code
def yX8_enterPocket : MethodName := ⟨RX8, "enterPocket", "(I)V"⟩
abbrev cX8_findJam : ByteArray := prog_10_method_15_code
def yX8_findJam : MethodName := ⟨RX8, "findJam", "()V"⟩
abbrev cX8_comeBack : ByteArray := prog_10_method_16_code
def yX8_comeBack : MethodName := ⟨RX8, "comeBack", "()V"⟩
abbrev cX8_isUnderEye : ByteArray := prog_10_method_17_code
def yX8_isUnderEye : MethodName := ⟨RX8, "isUnderEye", "(I)Z"⟩
abbrev cX8_takeAll : ByteArray := prog_10_method_18_code
def yX8_takeAll : MethodName := ⟨RX8, "takeAll", "()I"⟩
def RX9 : String := "PaperWay$Watch"
def TX9 : u_T := fun k => match k with
  | 0 => ("PaperWay$Watch", "seeing", "[Z", true)
  | 1 => ("PaperWay$Watch", "passings", "[I", true)
  | 2 => ("PaperWay$Watch", "from", "[I", true)
  | 3 => ("PaperWay$Watch", "to", "[I", true)
  | _ => ("PaperWay$Watch", "open", "[I", true)
def tyX9 : Nat → FieldType := fun k => match k with
  | 0 => .array .boolean
  | 1 => .array .int
  | 2 => .array .int
  | 3 => .array .int
  | _ => .array .int
abbrev wsX90 : List Cond := u_ws RX9 TX9 5
theorem nmX9 : ∀ a, a < 5 → ∀ b, b < 5 → a ≠ b → (TX9 a).2.1 ≠ (TX9 b).2.1 := by decide +kernel
theorem tyX9_ok : ∀ k, k < 5 → parseFieldDescriptor (TX9 k).2.2.1 = some (tyX9 k) := by decide +kernel
abbrev cX9_init : ByteArray := prog_11_method_1_code
def yX9_init : MethodName := ⟨RX9, "<init>", "()V"⟩
abbrev cX9_reset : ByteArray := prog_11_method_2_code
def yX9_reset : MethodName := ⟨RX9, "reset", "()V"⟩
abbrev cX9_cutOff : ByteArray := prog_11_method_3_code
def yX9_cutOff : MethodName := ⟨RX9, "cutOff", "()V"⟩
abbrev cX9_look : ByteArray := prog_11_method_4_code
def yX9_look : MethodName := ⟨RX9, "look", "(IZI)V"⟩
abbrev cX9_close : ByteArray := prog_11_method_5_code
def yX9_close : MethodName := ⟨RX9, "close", "(II)V"⟩
def RX10 : String := "PaperWay$Way"
def TX10 : u_T := fun k => match k with
  | 0 => ("PaperWay$Way", "length", "I", false)
  | 1 => ("PaperWay$Way", "rollers", "I", false)
  | 2 => ("PaperWay$Way", "rollerPlace", "[I", true)
  | 3 => ("PaperWay$Way", "speed", "[I", true)
  | 4 => ("PaperWay$Way", "eyes", "I", false)
  | 5 => ("PaperWay$Way", "eyePlace", "[I", true)
  | 6 => ("PaperWay$Way", "turn", "I", false)
  | 7 => ("PaperWay$Way", "back", "I", false)
  | 8 => ("PaperWay$Way", "hold", "I", false)
  | 9 => ("PaperWay$Way", "rest", "I", false)
  | 10 => ("PaperWay$Way", "damp", "I", false)
  | _ => ("PaperWay$Way", "dampTold", "Z", false)
def tyX10 : Nat → FieldType := fun k => match k with
  | 0 => .int
  | 1 => .int
  | 2 => .array .int
  | 3 => .array .int
  | 4 => .int
  | 5 => .array .int
  | 6 => .int
  | 7 => .int
  | 8 => .int
  | 9 => .int
  | 10 => .int
  | _ => .boolean
abbrev wsX100 : List Cond := u_ws RX10 TX10 12
theorem nmX10 : ∀ a, a < 12 → ∀ b, b < 12 → a ≠ b → (TX10 a).2.1 ≠ (TX10 b).2.1 := by decide +kernel
theorem tyX10_ok : ∀ k, k < 12 → parseFieldDescriptor (TX10 k).2.2.1 = some (tyX10 k) := by decide +kernel
abbrev cX10_init : ByteArray := prog_12_method_1_code
def yX10_init : MethodName := ⟨RX10, "<init>", "()V"⟩
abbrev cX10_reset : ByteArray := prog_12_method_2_code
def yX10_reset : MethodName := ⟨RX10, "reset", "()V"⟩
abbrev cX10_hasRoller : ByteArray := prog_12_method_3_code
def yX10_hasRoller : MethodName := ⟨RX10, "hasRoller", "(I)Z"⟩
abbrev cX10_hasEye : ByteArray := prog_12_method_4_code
def yX10_hasEye : MethodName := ⟨RX10, "hasEye", "(I)Z"⟩
abbrev cX10_lastRollerPlace : ByteArray := prog_12_method_5_code
def yX10_lastRollerPlace : MethodName := ⟨RX10, "lastRollerPlace", "()I"⟩
abbrev cX10_lastEyePlace : ByteArray := prog_12_method_6_code
def yX10_lastEyePlace : MethodName := ⟨RX10, "lastEyePlace", "()I"⟩
abbrev cX10_creasesAre : ByteArray := prog_12_method_7_code
def yX10_creasesAre : MethodName := ⟨RX10, "creasesAre", "(IIIII)Z"⟩
def RX11 : String := "PaperWay"
def TX11 : u_T := fun k => match k with
  | 0 => ("PaperWay", "reader", "LPaperWay$Reader;", true)
  | 1 => ("PaperWay", "flaws", "LPaperWay$Flaws;", true)
  | 2 => ("PaperWay", "traffic", "LPaperWay$Traffic;", true)
  | 3 => ("PaperWay", "causes", "LPaperWay$Causes;", true)
  | 4 => ("PaperWay", "job", "LPaperWay$Job;", true)
  | 5 => ("PaperWay", "images", "[LPaperWay$Job;", true)
  | 6 => ("PaperWay", "imageMade", "[Z", true)
  | 7 => ("PaperWay", "planner", "LPaperWay$Planner;", true)
  | 8 => ("PaperWay", "keeper", "LPaperWay$Keeper;", true)
  | 9 => ("PaperWay", "rounds", "LPaperWay$Rounds;", true)
  | 10 => ("PaperWay", "memory", "LPaperWay$Memory;", true)
  | 11 => ("PaperWay", "way", "LPaperWay$Way;", false)
  | _ => ("PaperWay", "spareWay", "LPaperWay$Way;", false)
def tyX11 : Nat → FieldType := fun k => match k with
  | 0 => .object "PaperWay$Reader"
  | 1 => .object "PaperWay$Flaws"
  | 2 => .object "PaperWay$Traffic"
  | 3 => .object "PaperWay$Causes"
  | 4 => .object "PaperWay$Job"
  | 5 => .array (.object "PaperWay$Job")
  | 6 => .array .boolean
  | 7 => .object "PaperWay$Planner"
  | 8 => .object "PaperWay$Keeper"
  | 9 => .object "PaperWay$Rounds"
  | 10 => .object "PaperWay$Memory"
  | 11 => .object "PaperWay$Way"
  | _ => .object "PaperWay$Way"
abbrev wsX110 : List Cond := u_ws RX11 TX11 13
theorem nmX11 : ∀ a, a < 13 → ∀ b, b < 13 → a ≠ b → (TX11 a).2.1 ≠ (TX11 b).2.1 := by decide +kernel
theorem tyX11_ok : ∀ k, k < 13 → parseFieldDescriptor (TX11 k).2.2.1 = some (tyX11 k) := by decide +kernel
abbrev cX11_init : ByteArray := prog_1_method_1_code
def yX11_init : MethodName := ⟨RX11, "<init>", "()V"⟩
abbrev cX11_feed : ByteArray := prog_1_method_2_code
def yX11_feed : MethodName := ⟨RX11, "feed", "(IIIII)I"⟩
abbrev cX11_text : ByteArray := prog_1_method_3_code
def yX11_text : MethodName := ⟨RX11, "text", "(I)I"⟩
abbrev cX11_fault : ByteArray := prog_1_method_4_code
def yX11_fault : MethodName := ⟨RX11, "fault", "(I)I"⟩
abbrev cX11_set : ByteArray := prog_1_method_5_code
def yX11_set : MethodName := ⟨RX11, "set", "(III)I"⟩
abbrev cX11_corner : ByteArray := prog_1_method_6_code
def yX11_corner : MethodName := ⟨RX11, "corner", "(IZ)Z"⟩
abbrev cX11_lay : ByteArray := prog_1_method_7_code
def yX11_lay : MethodName := ⟨RX11, "lay", "(IZ)I"⟩
abbrev cX11_tick : ByteArray := prog_1_method_8_code
def yX11_tick : MethodName := ⟨RX11, "tick", "(I)I"⟩
abbrev cX11_sheet : ByteArray := prog_1_method_9_code
def yX11_sheet : MethodName := ⟨RX11, "sheet", "(II)I"⟩
abbrev cX11_clear : ByteArray := prog_1_method_10_code
def yX11_clear : MethodName := ⟨RX11, "clear", "(Z)I"⟩
abbrev cX11_sees : ByteArray := prog_1_method_11_code
def yX11_sees : MethodName := ⟨RX11, "sees", "(I)I"⟩
abbrev cX11_passing : ByteArray := prog_1_method_12_code
def yX11_passing : MethodName := ⟨RX11, "passing", "(III)I"⟩
abbrev cX11_saw : ByteArray := prog_1_method_13_code
def yX11_saw : MethodName := ⟨RX11, "saw", "(III)Z"⟩
abbrev cX11_forget : ByteArray := prog_1_method_14_code
def yX11_forget : MethodName := ⟨RX11, "forget", "()I"⟩
abbrev cX11_explain : ByteArray := prog_1_method_15_code
def yX11_explain : MethodName := ⟨RX11, "explain", "(II)I"⟩
abbrev cX11_foretold : ByteArray := prog_1_method_16_code
def yX11_foretold : MethodName := ⟨RX11, "foretold", "(III)I"⟩
abbrev cX11_crease : ByteArray := prog_1_method_17_code
def yX11_crease : MethodName := ⟨RX11, "crease", "(IIIII)I"⟩
abbrev cX11_page : ByteArray := prog_1_method_18_code
def yX11_page : MethodName := ⟨RX11, "page", "(IZ)I"⟩
abbrev cX11_tray : ByteArray := prog_1_method_19_code
def yX11_tray : MethodName := ⟨RX11, "tray", "(IIZ)Z"⟩
abbrev cX11_pocket : ByteArray := prog_1_method_20_code
def yX11_pocket : MethodName := ⟨RX11, "pocket", "(II)Z"⟩
abbrev cX11_heat : ByteArray := prog_1_method_21_code
def yX11_heat : MethodName := ⟨RX11, "heat", "(IIII)Z"⟩
abbrev cX11_plan : ByteArray := prog_1_method_22_code
def yX11_plan : MethodName := ⟨RX11, "plan", "(I)I"⟩
abbrev cX11_copies : ByteArray := prog_1_method_23_code
def yX11_copies : MethodName := ⟨RX11, "copies", "(I)I"⟩
abbrev cX11_out : ByteArray := prog_1_method_24_code
def yX11_out : MethodName := ⟨RX11, "out", "(I)I"⟩
abbrev cX11_empty : ByteArray := prog_1_method_25_code
def yX11_empty : MethodName := ⟨RX11, "empty", "()I"⟩
abbrev cX11_again : ByteArray := prog_1_method_26_code
def yX11_again : MethodName := ⟨RX11, "again", "(I)I"⟩
abbrev cX11_lack : ByteArray := prog_1_method_27_code
def yX11_lack : MethodName := ⟨RX11, "lack", "(I)I"⟩
abbrev cX11_kept : ByteArray := prog_1_method_28_code
def yX11_kept : MethodName := ⟨RX11, "kept", "(I)I"⟩
abbrev cX11_pay : ByteArray := prog_1_method_29_code
def yX11_pay : MethodName := ⟨RX11, "pay", "(III)I"⟩
abbrev cX11_part : ByteArray := prog_1_method_30_code
def yX11_part : MethodName := ⟨RX11, "part", "(IIII)Z"⟩
abbrev cX11_service : ByteArray := prog_1_method_31_code
def yX11_service : MethodName := ⟨RX11, "service", "(III)I"⟩
abbrev cX11_row : ByteArray := prog_1_method_32_code
def yX11_row : MethodName := ⟨RX11, "row", "(III)I"⟩
abbrev cX11_write : ByteArray := prog_1_method_33_code
def yX11_write : MethodName := ⟨RX11, "write", "(IIJ)J"⟩
abbrev cX11_save : ByteArray := prog_1_method_34_code
def yX11_save : MethodName := ⟨RX11, "save", "(I)I"⟩
abbrev cX11_load : ByteArray := prog_1_method_35_code
def yX11_load : MethodName := ⟨RX11, "load", "(II)I"⟩
abbrev cX11_image : ByteArray := prog_1_method_36_code
def yX11_image : MethodName := ⟨RX11, "image", "(I)Z"⟩
abbrev cX11_restore : ByteArray := prog_1_method_37_code
def yX11_restore : MethodName := ⟨RX11, "restore", "(I)Z"⟩
abbrev cX11_count : ByteArray := prog_1_method_38_code
def yX11_count : MethodName := ⟨RX11, "count", "(I)I"⟩
abbrev cX11_countOfSet : ByteArray := prog_1_method_39_code
def yX11_countOfSet : MethodName := ⟨RX11, "countOfSet", "(I)I"⟩
abbrev cX11_isSheetLength : ByteArray := prog_1_method_40_code
def yX11_isSheetLength : MethodName := ⟨RX11, "isSheetLength", "(I)Z"⟩
abbrev cX11_isCreaseRow : ByteArray := prog_1_method_41_code
def yX11_isCreaseRow : MethodName := ⟨RX11, "isCreaseRow", "(III)Z"⟩
abbrev cX11_isCrease : ByteArray := prog_1_method_42_code
def yX11_isCrease : MethodName := ⟨RX11, "isCrease", "(I)Z"⟩
abbrev cX11_falls : ByteArray := prog_1_method_43_code
def yX11_falls : MethodName := ⟨RX11, "falls", "(II)Z"⟩
def RX12 : String := "PaperWayModel"
def TX12 : u_T := fun k => match k with
  | 0 => ("PaperWayModel", "thrown", "I", false)
  | 1 => ("PaperWayModel", "tape", "[I", true)
  | 2 => ("PaperWayModel", "taped", "I", false)
  | 3 => ("PaperWayModel", "way", "[I", true)
  | 4 => ("PaperWayModel", "told", "[I", true)
  | 5 => ("PaperWayModel", "roller", "[I", true)
  | 6 => ("PaperWayModel", "speed", "[I", true)
  | 7 => ("PaperWayModel", "toldRoller", "[I", true)
  | 8 => ("PaperWayModel", "toldSpeed", "[I", true)
  | 9 => ("PaperWayModel", "eye", "[I", true)
  | 10 => ("PaperWayModel", "toldEye", "[I", true)
  | 11 => ("PaperWayModel", "at", "I", false)
  | 12 => ("PaperWayModel", "behind", "I", false)
  | 13 => ("PaperWayModel", "size", "I", false)
  | 14 => ("PaperWayModel", "kind", "I", false)
  | 15 => ("PaperWayModel", "number", "I", false)
  | 16 => ("PaperWayModel", "wrong", "I", false)
  | 17 => ("PaperWayModel", "wrongAt", "I", false)
  | 18 => ("PaperWayModel", "lines", "I", false)
  | 19 => ("PaperWayModel", "hasTurn", "Z", false)
  | 20 => ("PaperWayModel", "hasDamp", "Z", false)
  | 21 => ("PaperWayModel", "faultKind", "I", false)
  | 22 => ("PaperWayModel", "faultPlace", "I", false)
  | 23 => ("PaperWayModel", "wear", "[I", true)
  | 24 => ("PaperWayModel", "beat", "[I", true)
  | 25 => ("PaperWayModel", "cornerAt", "[I", true)
  | 26 => ("PaperWayModel", "cornerMany", "I", false)
  | 27 => ("PaperWayModel", "sheets", "I", false)
  | 28 => ("PaperWayModel", "now", "I", false)
  | 29 => ("PaperWayModel", "jammed", "I", false)
  | 30 => ("PaperWayModel", "sheetLong", "[I", true)
  | 31 => ("PaperWayModel", "head", "[I", true)
  | 32 => ("PaperWayModel", "state", "[I", true)
  | 33 => ("PaperWayModel", "side", "[I", true)
  | 34 => ("PaperWayModel", "stood", "[I", true)
  | 35 => ("PaperWayModel", "came", "[I", true)
  | 36 => ("PaperWayModel", "isTurned", "[Z", true)
  | 37 => ("PaperWayModel", "isSeen", "[Z", true)
  | 38 => ("PaperWayModel", "seeing", "[Z", true)
  | 39 => ("PaperWayModel", "isKept", "[Z", true)
  | 40 => ("PaperWayModel", "passings", "[I", true)
  | 41 => ("PaperWayModel", "passOn", "[I", true)
  | 42 => ("PaperWayModel", "passOff", "[I", true)
  | 43 => ("PaperWayModel", "seenOn", "[I", true)
  | 44 => ("PaperWayModel", "seenOff", "[I", true)
  | 45 => ("PaperWayModel", "went", "[Z", true)
  | 46 => ("PaperWayModel", "tryWear", "[I", true)
  | 47 => ("PaperWayModel", "tryBeat", "[I", true)
  | 48 => ("PaperWayModel", "tryCorner", "[I", true)
  | 49 => ("PaperWayModel", "firstOn", "[I", true)
  | 50 => ("PaperWayModel", "firstOff", "[I", true)
  | 51 => ("PaperWayModel", "tryCorners", "I", false)
  | 52 => ("PaperWayModel", "tryHead", "I", false)
  | 53 => ("PaperWayModel", "tryStood", "I", false)
  | 54 => ("PaperWayModel", "all", "[I", true)
  | 55 => ("PaperWayModel", "hasImage", "[Z", true)
  | 56 => ("PaperWayModel", "isMet", "[J", true)
  | 57 => ("PaperWayModel", "line", "[I", true)
  | 58 => ("PaperWayModel", "lineFrom", "[I", true)
  | 59 => ("PaperWayModel", "lineAct", "[I", true)
  | 60 => ("PaperWayModel", "lined", "I", false)
  | 61 => ("PaperWayModel", "goal", "I", false)
  | 62 => ("PaperWayModel", "most", "[I", true)
  | 63 => ("PaperWayModel", "pairOf", "[I", true)
  | 64 => ("PaperWayModel", "serviceCost", "I", false)
  | 65 => ("PaperWayModel", "serviceNew", "I", false)
  | 66 => ("PaperWayModel", "rowSort", "[I", true)
  | 67 => ("PaperWayModel", "rowMany", "[I", true)
  | _ => ("PaperWayModel", "cells", "[J", true)
def tyX12 : Nat → FieldType := fun k => match k with
  | 0 => .int
  | 1 => .array .int
  | 2 => .int
  | 3 => .array .int
  | 4 => .array .int
  | 5 => .array .int
  | 6 => .array .int
  | 7 => .array .int
  | 8 => .array .int
  | 9 => .array .int
  | 10 => .array .int
  | 11 => .int
  | 12 => .int
  | 13 => .int
  | 14 => .int
  | 15 => .int
  | 16 => .int
  | 17 => .int
  | 18 => .int
  | 19 => .boolean
  | 20 => .boolean
  | 21 => .int
  | 22 => .int
  | 23 => .array .int
  | 24 => .array .int
  | 25 => .array .int
  | 26 => .int
  | 27 => .int
  | 28 => .int
  | 29 => .int
  | 30 => .array .int
  | 31 => .array .int
  | 32 => .array .int
  | 33 => .array .int
  | 34 => .array .int
  | 35 => .array .int
  | 36 => .array .boolean
  | 37 => .array .boolean
  | 38 => .array .boolean
  | 39 => .array .boolean
  | 40 => .array .int
  | 41 => .array .int
  | 42 => .array .int
  | 43 => .array .int
  | 44 => .array .int
  | 45 => .array .boolean
  | 46 => .array .int
  | 47 => .array .int
  | 48 => .array .int
  | 49 => .array .int
  | 50 => .array .int
  | 51 => .int
  | 52 => .int
  | 53 => .int
  | 54 => .array .int
  | 55 => .array .boolean
  | 56 => .array .long
  | 57 => .array .int
  | 58 => .array .int
  | 59 => .array .int
  | 60 => .int
  | 61 => .int
  | 62 => .array .int
  | 63 => .array .int
  | 64 => .int
  | 65 => .int
  | 66 => .array .int
  | 67 => .array .int
  | _ => .array .long
abbrev wsX120 : List Cond := u_ws RX12 TX12 69
theorem nmX12 : ∀ a, a < 69 → ∀ b, b < 69 → a ≠ b → (TX12 a).2.1 ≠ (TX12 b).2.1 := by decide +kernel
theorem tyX12_ok : ∀ k, k < 69 → parseFieldDescriptor (TX12 k).2.2.1 = some (tyX12 k) := by decide +kernel
abbrev cX12_within : ByteArray := prog_14_method_2_code
def yX12_within : MethodName := ⟨RX12, "within", "(JJJ)Z"⟩
abbrev cX12_init : ByteArray := prog_14_method_3_code
def yX12_init : MethodName := ⟨RX12, "<init>", "()V"⟩
abbrev cX12_begins : ByteArray := prog_14_method_4_code
def yX12_begins : MethodName := ⟨RX12, "begins", "()V"⟩
abbrev cX12_becomes : ByteArray := prog_14_method_5_code
def yX12_becomes : MethodName := ⟨RX12, "becomes", "()V"⟩
abbrev cX12_feed : ByteArray := prog_14_method_6_code
def yX12_feed : MethodName := ⟨RX12, "feed", "(IIIII)I"⟩
abbrev cX12_see : ByteArray := prog_14_method_7_code
def yX12_see : MethodName := ⟨RX12, "see", "(I)I"⟩
abbrev cX12_isSmall : ByteArray := prog_14_method_8_code
def yX12_isSmall : MethodName := ⟨RX12, "isSmall", "(I)Z"⟩
abbrev cX12_isDigit : ByteArray := prog_14_method_9_code
def yX12_isDigit : MethodName := ⟨RX12, "isDigit", "(I)Z"⟩
abbrev cX12_keyAt : ByteArray := prog_14_method_10_code
def yX12_keyAt : MethodName := ⟨RX12, "keyAt", "()I"⟩
abbrev cX12_next : ByteArray := prog_14_method_11_code
def yX12_next : MethodName := ⟨RX12, "next", "()V"⟩
abbrev cX12_fails : ByteArray := prog_14_method_12_code
def yX12_fails : MethodName := ⟨RX12, "fails", "(I)V"⟩
abbrev cX12_is : ByteArray := prog_14_method_13_code
def yX12_is : MethodName := ⟨RX12, "is", "(I)Z"⟩
abbrev cX12_needs : ByteArray := prog_14_method_14_code
def yX12_needs : MethodName := ⟨RX12, "needs", "(I)V"⟩
abbrev cX12_reads : ByteArray := prog_14_method_15_code
def yX12_reads : MethodName := ⟨RX12, "reads", "(II)I"⟩
abbrev cX12_readsRoller : ByteArray := prog_14_method_16_code
def yX12_readsRoller : MethodName := ⟨RX12, "readsRoller", "()V"⟩
abbrev cX12_readsEye : ByteArray := prog_14_method_17_code
def yX12_readsEye : MethodName := ⟨RX12, "readsEye", "()V"⟩
abbrev cX12_readsTurn : ByteArray := prog_14_method_18_code
def yX12_readsTurn : MethodName := ⟨RX12, "readsTurn", "()V"⟩
abbrev cX12_readsDamp : ByteArray := prog_14_method_19_code
def yX12_readsDamp : MethodName := ⟨RX12, "readsDamp", "()V"⟩
abbrev cX12_text : ByteArray := prog_14_method_20_code
def yX12_text : MethodName := ⟨RX12, "text", "(I)I"⟩
abbrev cX12_fault : ByteArray := prog_14_method_21_code
def yX12_fault : MethodName := ⟨RX12, "fault", "(I)I"⟩
abbrev cX12_isRoller : ByteArray := prog_14_method_22_code
def yX12_isRoller : MethodName := ⟨RX12, "isRoller", "(I)Z"⟩
abbrev cX12_isEye : ByteArray := prog_14_method_23_code
def yX12_isEye : MethodName := ⟨RX12, "isEye", "(I)Z"⟩
abbrev cX12_set : ByteArray := prog_14_method_24_code
def yX12_set : MethodName := ⟨RX12, "set", "(III)I"⟩
abbrev cX12_cornerOf : ByteArray := prog_14_method_25_code
def yX12_cornerOf : MethodName := ⟨RX12, "cornerOf", "(I)I"⟩
abbrev cX12_leaves : ByteArray := prog_14_method_26_code
def yX12_leaves : MethodName := ⟨RX12, "leaves", "(I)Z"⟩
abbrev cX12_corner : ByteArray := prog_14_method_27_code
def yX12_corner : MethodName := ⟨RX12, "corner", "(IZ)Z"⟩
abbrev cX12_isGoing : ByteArray := prog_14_method_28_code
def yX12_isGoing : MethodName := ⟨RX12, "isGoing", "(I)Z"⟩
abbrev cX12_tail : ByteArray := prog_14_method_29_code
def yX12_tail : MethodName := ⟨RX12, "tail", "(I)I"⟩
abbrev cX12_isOver : ByteArray := prog_14_method_30_code
def yX12_isOver : MethodName := ⟨RX12, "isOver", "(II)Z"⟩
abbrev cX12_lay : ByteArray := prog_14_method_31_code
def yX12_lay : MethodName := ⟨RX12, "lay", "(IZ)I"⟩
abbrev cX12_drive : ByteArray := prog_14_method_32_code
def yX12_drive : MethodName := ⟨RX12, "drive", "(III[I[I)I"⟩
abbrev cX12_bound : ByteArray := prog_14_method_33_code
def yX12_bound : MethodName := ⟨RX12, "bound", "(II[II)I"⟩
abbrev cX12_ahead : ByteArray := prog_14_method_34_code
def yX12_ahead : MethodName := ⟨RX12, "ahead", "(I)I"⟩
abbrev cX12_inPocket : ByteArray := prog_14_method_35_code
def yX12_inPocket : MethodName := ⟨RX12, "inPocket", "()I"⟩
abbrev cX12_waits : ByteArray := prog_14_method_36_code
def yX12_waits : MethodName := ⟨RX12, "waits", "(I)Z"⟩
abbrev cX12_waitsNow : ByteArray := prog_14_method_37_code
def yX12_waitsNow : MethodName := ⟨RX12, "waitsNow", "(I)V"⟩
abbrev cX12_goes : ByteArray := prog_14_method_38_code
def yX12_goes : MethodName := ⟨RX12, "goes", "(I)V"⟩
abbrev cX12_ticks : ByteArray := prog_14_method_39_code
def yX12_ticks : MethodName := ⟨RX12, "ticks", "()V"⟩
abbrev cX12_comesBack : ByteArray := prog_14_method_40_code
def yX12_comesBack : MethodName := ⟨RX12, "comesBack", "()V"⟩
abbrev cX12_looks : ByteArray := prog_14_method_41_code
def yX12_looks : MethodName := ⟨RX12, "looks", "()V"⟩
abbrev cX12_tick : ByteArray := prog_14_method_42_code
def yX12_tick : MethodName := ⟨RX12, "tick", "(I)I"⟩
abbrev cX12_sheet : ByteArray := prog_14_method_43_code
def yX12_sheet : MethodName := ⟨RX12, "sheet", "(II)I"⟩
abbrev cX12_clear : ByteArray := prog_14_method_44_code
def yX12_clear : MethodName := ⟨RX12, "clear", "(Z)I"⟩
abbrev cX12_sees : ByteArray := prog_14_method_45_code
def yX12_sees : MethodName := ⟨RX12, "sees", "(I)I"⟩
abbrev cX12_passing : ByteArray := prog_14_method_46_code
def yX12_passing : MethodName := ⟨RX12, "passing", "(III)I"⟩
abbrev cX12_goesAlone : ByteArray := prog_14_method_47_code
def yX12_goesAlone : MethodName := ⟨RX12, "goesAlone", "(II)V"⟩
abbrev cX12_isOutAlone : ByteArray := prog_14_method_48_code
def yX12_isOutAlone : MethodName := ⟨RX12, "isOutAlone", "(II)Z"⟩
abbrev cX12_looksAlone : ByteArray := prog_14_method_49_code
def yX12_looksAlone : MethodName := ⟨RX12, "looksAlone", "(I)V"⟩
abbrev cX12_saw : ByteArray := prog_14_method_50_code
def yX12_saw : MethodName := ⟨RX12, "saw", "(III)Z"⟩
abbrev cX12_observed : ByteArray := prog_14_method_51_code
def yX12_observed : MethodName := ⟨RX12, "observed", "()I"⟩
abbrev cX12_forget : ByteArray := prog_14_method_52_code
def yX12_forget : MethodName := ⟨RX12, "forget", "()I"⟩
abbrev cX12_isCause : ByteArray := prog_14_method_53_code
def yX12_isCause : MethodName := ⟨RX12, "isCause", "(I)Z"⟩
abbrev cX12_takesCause : ByteArray := prog_14_method_54_code
def yX12_takesCause : MethodName := ⟨RX12, "takesCause", "(I)V"⟩
abbrev cX12_explains : ByteArray := prog_14_method_55_code
def yX12_explains : MethodName := ⟨RX12, "explains", "(III)Z"⟩
abbrev cX12_explain : ByteArray := prog_14_method_56_code
def yX12_explain : MethodName := ⟨RX12, "explain", "(II)I"⟩
abbrev cX12_foretold : ByteArray := prog_14_method_57_code
def yX12_foretold : MethodName := ⟨RX12, "foretold", "(III)I"⟩
abbrev cX12_creaseOf : ByteArray := prog_14_method_58_code
def yX12_creaseOf : MethodName := ⟨RX12, "creaseOf", "(III)I"⟩
abbrev cX12_crease : ByteArray := prog_14_method_59_code
def yX12_crease : MethodName := ⟨RX12, "crease", "(IIIII)I"⟩
abbrev cX12_setsOut : ByteArray := prog_14_method_60_code
def yX12_setsOut : MethodName := ⟨RX12, "setsOut", "()V"⟩
abbrev cX12_page : ByteArray := prog_14_method_61_code
def yX12_page : MethodName := ⟨RX12, "page", "(IZ)I"⟩
abbrev cX12_tray : ByteArray := prog_14_method_62_code
def yX12_tray : MethodName := ⟨RX12, "tray", "(IIZ)Z"⟩
abbrev cX12_pocket : ByteArray := prog_14_method_63_code
def yX12_pocket : MethodName := ⟨RX12, "pocket", "(II)Z"⟩
abbrev cX12_heat : ByteArray := prog_14_method_64_code
def yX12_heat : MethodName := ⟨RX12, "heat", "(IIII)Z"⟩
abbrev cX12_stateOf : ByteArray := prog_14_method_65_code
def yX12_stateOf : MethodName := ⟨RX12, "stateOf", "(IIIIIII)I"⟩
abbrev cX12_adds : ByteArray := prog_14_method_66_code
def yX12_adds : MethodName := ⟨RX12, "adds", "(III)V"⟩
abbrev cX12_lain : ByteArray := prog_14_method_67_code
def yX12_lain : MethodName := ⟨RX12, "lain", "(I)I"⟩
abbrev cX12_isOut : ByteArray := prog_14_method_68_code
def yX12_isOut : MethodName := ⟨RX12, "isOut", "(I)Z"⟩
abbrev cX12_opens : ByteArray := prog_14_method_69_code
def yX12_opens : MethodName := ⟨RX12, "opens", "(I)V"⟩
abbrev cX12_finds : ByteArray := prog_14_method_70_code
def yX12_finds : MethodName := ⟨RX12, "finds", "()Z"⟩
abbrev cX12_plan : ByteArray := prog_14_method_71_code
def yX12_plan : MethodName := ⟨RX12, "plan", "(I)I"⟩
abbrev cX12_copies : ByteArray := prog_14_method_72_code
def yX12_copies : MethodName := ⟨RX12, "copies", "(I)I"⟩
abbrev cX12_out : ByteArray := prog_14_method_73_code
def yX12_out : MethodName := ⟨RX12, "out", "(I)I"⟩
abbrev cX12_empty : ByteArray := prog_14_method_74_code
def yX12_empty : MethodName := ⟨RX12, "empty", "()I"⟩
abbrev cX12_wanted : ByteArray := prog_14_method_75_code
def yX12_wanted : MethodName := ⟨RX12, "wanted", "()I"⟩
abbrev cX12_mostAt : ByteArray := prog_14_method_76_code
def yX12_mostAt : MethodName := ⟨RX12, "mostAt", "(II)I"⟩
abbrev cX12_pairs : ByteArray := prog_14_method_77_code
def yX12_pairs : MethodName := ⟨RX12, "pairs", "()V"⟩
abbrev cX12_again : ByteArray := prog_14_method_78_code
def yX12_again : MethodName := ⟨RX12, "again", "(I)I"⟩
abbrev cX12_lack : ByteArray := prog_14_method_79_code
def yX12_lack : MethodName := ⟨RX12, "lack", "(I)I"⟩
abbrev cX12_kept : ByteArray := prog_14_method_80_code
def yX12_kept : MethodName := ⟨RX12, "kept", "(I)I"⟩
abbrev cX12_pay : ByteArray := prog_14_method_81_code
def yX12_pay : MethodName := ⟨RX12, "pay", "(III)I"⟩
abbrev cX12_part : ByteArray := prog_14_method_82_code
def yX12_part : MethodName := ⟨RX12, "part", "(IIII)Z"⟩
abbrev cX12_renewals : ByteArray := prog_14_method_83_code
def yX12_renewals : MethodName := ⟨RX12, "renewals", "(III)I"⟩
abbrev cX12_serves : ByteArray := prog_14_method_84_code
def yX12_serves : MethodName := ⟨RX12, "serves", "(III)Z"⟩
abbrev cX12_ones : ByteArray := prog_14_method_85_code
def yX12_ones : MethodName := ⟨RX12, "ones", "(I)I"⟩
abbrev cX12_service : ByteArray := prog_14_method_86_code
def yX12_service : MethodName := ⟨RX12, "service", "(III)I"⟩
abbrev cX12_cut : ByteArray := prog_14_method_87_code
def yX12_cut : MethodName := ⟨RX12, "cut", "(JI)J"⟩
abbrev cX12_row : ByteArray := prog_14_method_88_code
def yX12_row : MethodName := ⟨RX12, "row", "(III)I"⟩
abbrev cX12_write : ByteArray := prog_14_method_89_code
def yX12_write : MethodName := ⟨RX12, "write", "(IIJ)J"⟩
abbrev cX12_save : ByteArray := prog_14_method_90_code
def yX12_save : MethodName := ⟨RX12, "save", "(I)I"⟩
abbrev cX12_load : ByteArray := prog_14_method_91_code
def yX12_load : MethodName := ⟨RX12, "load", "(II)I"⟩
abbrev cX12_image : ByteArray := prog_14_method_92_code
def yX12_image : MethodName := ⟨RX12, "image", "(I)Z"⟩
abbrev cX12_restore : ByteArray := prog_14_method_93_code
def yX12_restore : MethodName := ⟨RX12, "restore", "(I)Z"⟩
abbrev cX12_count : ByteArray := prog_14_method_94_code
def yX12_count : MethodName := ⟨RX12, "count", "(I)I"⟩
def RJx145de : String := "java/io/Serializable"
def TJx145de : u_T := fun k => match k with
  | _ => ("", "", "", false)
def tyJx145de : Nat → FieldType := fun k => match k with
  | _ => .int
abbrev wsJx145de0 : List Cond := u_ws RJx145de TJx145de 0
theorem nmJx145de : ∀ a, a < 0 → ∀ b, b < 0 → a ≠ b → (TJx145de a).2.1 ≠ (TJx145de b).2.1 := by decide +kernel
theorem tyJx145de_ok : ∀ k, k < 0 → parseFieldDescriptor (TJx145de k).2.2.1 = some (tyJx145de k) := by decide +kernel
def RJx9f9b0 : String := "java/lang/CharSequence"
def TJx9f9b0 : u_T := fun k => match k with
  | _ => ("", "", "", false)
def tyJx9f9b0 : Nat → FieldType := fun k => match k with
  | _ => .int
abbrev wsJx9f9b00 : List Cond := u_ws RJx9f9b0 TJx9f9b0 0
theorem nmJx9f9b0 : ∀ a, a < 0 → ∀ b, b < 0 → a ≠ b → (TJx9f9b0 a).2.1 ≠ (TJx9f9b0 b).2.1 := by decide +kernel
theorem tyJx9f9b0_ok : ∀ k, k < 0 → parseFieldDescriptor (TJx9f9b0 k).2.2.1 = some (tyJx9f9b0 k) := by decide +kernel
def RJxb160c : String := "java/lang/Comparable"
def TJxb160c : u_T := fun k => match k with
  | _ => ("", "", "", false)
def tyJxb160c : Nat → FieldType := fun k => match k with
  | _ => .int
abbrev wsJxb160c0 : List Cond := u_ws RJxb160c TJxb160c 0
theorem nmJxb160c : ∀ a, a < 0 → ∀ b, b < 0 → a ≠ b → (TJxb160c a).2.1 ≠ (TJxb160c b).2.1 := by decide +kernel
theorem tyJxb160c_ok : ∀ k, k < 0 → parseFieldDescriptor (TJxb160c k).2.2.1 = some (tyJxb160c k) := by decide +kernel
def RJ6 : String := "java/lang/Integer"
def TJ6 : u_T := fun k => match k with
  | _ => ("", "", "", false)
def tyJ6 : Nat → FieldType := fun k => match k with
  | _ => .int
abbrev wsJ60 : List Cond := u_ws RJ6 TJ6 0
theorem nmJ6 : ∀ a, a < 0 → ∀ b, b < 0 → a ≠ b → (TJ6 a).2.1 ≠ (TJ6 b).2.1 := by decide +kernel
theorem tyJ6_ok : ∀ k, k < 0 → parseFieldDescriptor (TJ6 k).2.2.1 = some (tyJ6 k) := by decide +kernel
abbrev cJ6_bitCount_0f7a4 : ByteArray := prog_15_method_49_code
def yJ6_bitCount_0f7a4 : MethodName := ⟨RJ6, "bitCount", "(I)I"⟩
def RJ9 : String := "java/lang/Math"
def TJ9 : u_T := fun k => match k with
  | _ => ("", "", "", false)
def tyJ9 : Nat → FieldType := fun k => match k with
  | _ => .int
abbrev wsJ90 : List Cond := u_ws RJ9 TJ9 0
theorem nmJ9 : ∀ a, a < 0 → ∀ b, b < 0 → a ≠ b → (TJ9 a).2.1 ≠ (TJ9 b).2.1 := by decide +kernel
theorem tyJ9_ok : ∀ k, k < 0 → parseFieldDescriptor (TJ9 k).2.2.1 = some (tyJ9 k) := by decide +kernel
abbrev cJ9_max_7cf53 : ByteArray := prog_16_method_65_code
def yJ9_max_7cf53 : MethodName := ⟨RJ9, "max", "(II)I"⟩
abbrev cJ9_min_7cf53 : ByteArray := prog_16_method_69_code
def yJ9_min_7cf53 : MethodName := ⟨RJ9, "min", "(II)I"⟩
def RJ0 : String := "java/lang/String"
def TJ0 : u_T := fun k => match k with
  | _ => ("", "", "", false)
def tyJ0 : Nat → FieldType := fun k => match k with
  | _ => .int
abbrev wsJ00 : List Cond := u_ws RJ0 TJ0 0
theorem nmJ0 : ∀ a, a < 0 → ∀ b, b < 0 → a ≠ b → (TJ0 a).2.1 ≠ (TJ0 b).2.1 := by decide +kernel
theorem tyJ0_ok : ∀ k, k < 0 → parseFieldDescriptor (TJ0 k).2.2.1 = some (tyJ0 k) := by decide +kernel
abbrev cJ0_length_8abf5 : ByteArray := prog_17_method_54_code
def yJ0_length_8abf5 : MethodName := ⟨RJ0, "length", "()I"⟩
abbrev cJ0_charAt_5068e : ByteArray := prog_17_method_56_code
def yJ0_charAt_5068e : MethodName := ⟨RJ0, "charAt", "(I)C"⟩
abbrev cJ0_coder_7d493 : ByteArray := prog_17_method_152_code
def yJ0_coder_7d493 : MethodName := ⟨RJ0, "coder", "()B"⟩
abbrev cJ0_isLatin1_aae02 : ByteArray := prog_17_method_154_code
def yJ0_isLatin1_aae02 : MethodName := ⟨RJ0, "isLatin1", "()Z"⟩
abbrev cJ0_checkIndex_df160 : ByteArray := prog_17_method_155_code
def yJ0_checkIndex_df160 : MethodName := ⟨RJ0, "checkIndex", "(II)V"⟩
def RJ1 : String := "java/lang/StringLatin1"
def TJ1 : u_T := fun k => match k with
  | _ => ("", "", "", false)
def tyJ1 : Nat → FieldType := fun k => match k with
  | _ => .int
abbrev wsJ10 : List Cond := u_ws RJ1 TJ1 0
theorem nmJ1 : ∀ a, a < 0 → ∀ b, b < 0 → a ≠ b → (TJ1 a).2.1 ≠ (TJ1 b).2.1 := by decide +kernel
theorem tyJ1_ok : ∀ k, k < 0 → parseFieldDescriptor (TJ1 k).2.2.1 = some (tyJ1 k) := by decide +kernel
abbrev cJ1_charAt_3b067 : ByteArray := prog_18_method_2_code
def yJ1_charAt_3b067 : MethodName := ⟨RJ1, "charAt", "([BI)C"⟩
def RJ2 : String := "java/lang/StringUTF16"
def TJ2 : u_T := fun k => match k with
  | _ => ("", "", "", false)
def tyJ2 : Nat → FieldType := fun k => match k with
  | _ => .int
abbrev wsJ20 : List Cond := u_ws RJ2 TJ2 0
theorem nmJ2 : ∀ a, a < 0 → ∀ b, b < 0 → a ≠ b → (TJ2 a).2.1 ≠ (TJ2 b).2.1 := by decide +kernel
theorem tyJ2_ok : ∀ k, k < 0 → parseFieldDescriptor (TJ2 k).2.2.1 = some (tyJ2 k) := by decide +kernel
abbrev cJ2_getChar_3b067 : ByteArray := prog_19_method_5_code
def yJ2_getChar_3b067 : MethodName := ⟨RJ2, "getChar", "([BI)C"⟩
abbrev cJ2_length_9d52b : ByteArray := prog_19_method_6_code
def yJ2_length_9d52b : MethodName := ⟨RJ2, "length", "([B)I"⟩
abbrev cJ2_charAt_3b067 : ByteArray := prog_19_method_83_code
def yJ2_charAt_3b067 : MethodName := ⟨RJ2, "charAt", "([BI)C"⟩
abbrev cJ2_checkIndex_2214a : ByteArray := prog_19_method_91_code
def yJ2_checkIndex_2214a : MethodName := ⟨RJ2, "checkIndex", "(I[B)V"⟩
def RJ10 : String := "java/lang/System"
def TJ10 : u_T := fun k => match k with
  | _ => ("", "", "", false)
def tyJ10 : Nat → FieldType := fun k => match k with
  | _ => .int
abbrev wsJ100 : List Cond := u_ws RJ10 TJ10 0
theorem nmJ10 : ∀ a, a < 0 → ∀ b, b < 0 → a ≠ b → (TJ10 a).2.1 ≠ (TJ10 b).2.1 := by decide +kernel
theorem tyJ10_ok : ∀ k, k < 0 → parseFieldDescriptor (TJ10 k).2.2.1 = some (tyJ10 k) := by decide +kernel
def RJxfd54e : String := "java/lang/constant/Constable"
def TJxfd54e : u_T := fun k => match k with
  | _ => ("", "", "", false)
def tyJxfd54e : Nat → FieldType := fun k => match k with
  | _ => .int
abbrev wsJxfd54e0 : List Cond := u_ws RJxfd54e TJxfd54e 0
theorem nmJxfd54e : ∀ a, a < 0 → ∀ b, b < 0 → a ≠ b → (TJxfd54e a).2.1 ≠ (TJxfd54e b).2.1 := by decide +kernel
theorem tyJxfd54e_ok : ∀ k, k < 0 → parseFieldDescriptor (TJxfd54e k).2.2.1 = some (tyJxfd54e k) := by decide +kernel
def RJx3cf43 : String := "java/lang/constant/ConstantDesc"
def TJx3cf43 : u_T := fun k => match k with
  | _ => ("", "", "", false)
def tyJx3cf43 : Nat → FieldType := fun k => match k with
  | _ => .int
abbrev wsJx3cf430 : List Cond := u_ws RJx3cf43 TJx3cf43 0
theorem nmJx3cf43 : ∀ a, a < 0 → ∀ b, b < 0 → a ≠ b → (TJx3cf43 a).2.1 ≠ (TJx3cf43 b).2.1 := by decide +kernel
theorem tyJx3cf43_ok : ∀ k, k < 0 → parseFieldDescriptor (TJx3cf43 k).2.2.1 = some (tyJx3cf43 k) := by decide +kernel
def RJ7 : String := "java/util/Arrays"
def TJ7 : u_T := fun k => match k with
  | _ => ("", "", "", false)
def tyJ7 : Nat → FieldType := fun k => match k with
  | _ => .int
abbrev wsJ70 : List Cond := u_ws RJ7 TJ7 0
theorem nmJ7 : ∀ a, a < 0 → ∀ b, b < 0 → a ≠ b → (TJ7 a).2.1 ≠ (TJ7 b).2.1 := by decide +kernel
theorem tyJ7_ok : ∀ k, k < 0 → parseFieldDescriptor (TJ7 k).2.2.1 = some (tyJ7 k) := by decide +kernel
abbrev cJ7_fill_d0a16 : ByteArray := prog_21_method_101_code
def yJ7_fill_d0a16 : MethodName := ⟨RJ7, "fill", "([JJ)V"⟩
abbrev cJ7_fill_53178 : ByteArray := prog_21_method_103_code
def yJ7_fill_53178 : MethodName := ⟨RJ7, "fill", "([II)V"⟩
def RJ3 : String := "jdk/internal/util/Preconditions"
def TJ3 : u_T := fun k => match k with
  | _ => ("", "", "", false)
def tyJ3 : Nat → FieldType := fun k => match k with
  | _ => .int
abbrev wsJ30 : List Cond := u_ws RJ3 TJ3 0
theorem nmJ3 : ∀ a, a < 0 → ∀ b, b < 0 → a ≠ b → (TJ3 a).2.1 ≠ (TJ3 b).2.1 := by decide +kernel
theorem tyJ3_ok : ∀ k, k < 0 → parseFieldDescriptor (TJ3 k).2.2.1 = some (tyJ3 k) := by decide +kernel
abbrev cJ3_checkIndex_8e157 : ByteArray := prog_22_method_11_code
def yJ3_checkIndex_8e157 : MethodName := ⟨RJ3, "checkIndex", "(IILjava/util/function/BiFunction;)I"⟩
def RL : String := "PaperWayLaw"
abbrev cL_law : ByteArray := code
def yL_law : MethodName := ⟨RL, "law", "([I)Z"⟩
abbrev vwCl : List vw_C := [(RX0, TX0, 11), (RX1, TX1, 4), (RX2, TX2, 18), (RX3, TX3, 5), (RX4, TX4, 3), (RX5, TX5, 14), (RX6, TX6, 11), (RX7, TX7, 6), (RX8, TX8, 17), (RX9, TX9, 5), (RX10, TX10, 12), (RX11, TX11, 13), (RX12, TX12, 69)]
end
section
/-! A machine of numbers over named cells: values, memory, one step, a method's run. The rows behind it (04) show that the JVM's machine does the same. -/
/-- a value: an int, a long, or (tag, name): 0 null, 1 a cell (r, o), 2 nothing, 4 a String constant, 5 its bytes, 6 some reference -/
abbrev ZV : Type := Int ⊕ (Int ⊕ (Nat × Nat × Nat))
abbrev zi (n : Int) : ZV := .inl n
abbrev zl (n : Int) : ZV := .inr (.inl n)
abbrev zx (t r o : Nat) : ZV := .inr (.inr (t, r, o))
abbrev zr (r o : Nat) : ZV := .inr (.inr (1, r, o))
abbrev zu : ZV := .inr (.inr (2, 0, 0))
abbrev zn : ZV := .inr (.inr (0, 0, 0))
abbrev ZK : Type := Nat → Nat → Option (Nat × Nat)
abbrev ZF : Type := Nat → Nat → Nat → ZV
abbrev ZA : Type := Nat → Nat → Nat → Int
abbrev ZW : Type := List (Nat × Nat) × Nat × Nat
/-- memory: kinds and sizes; fields and rows of references; rows of numbers; names for new cells, how many cells and slots were made -/
abbrev ZM : Type := ZK × ZF × ZA × ZW
def zuf (f : ZF) (r o k : Nat) (v : ZV) : ZF := fun r' o' k' => if r' = r ∧ o' = o ∧ k' = k then v else f r' o' k'
def zua (a : ZA) (r o k : Nat) (v : Int) : ZA := fun r' o' k' => if r' = r ∧ o' = o ∧ k' = k then v else a r' o' k'
def zuk (q : ZK) (r o : Nat) (v : Nat × Nat) : ZK := fun r' o' => if r' = r ∧ o' = o then some v else q r' o'
def zuF (f : ZF) (r o : Nat) (g : Nat → ZV) : ZF := fun r' o' k' => if r' = r ∧ o' = o then g k' else f r' o' k'
def zuA (a : ZA) (r o : Nat) (g : Nat → Int) : ZA := fun r' o' k' => if r' = r ∧ o' = o then g k' else a r' o' k'
-- numbers as the machine counts them
def zadd (x y : Int) : Int := (Int32.ofInt x + Int32.ofInt y).toInt
def zsub (x y : Int) : Int := (Int32.ofInt x - Int32.ofInt y).toInt
def zmul (x y : Int) : Int := (Int32.ofInt x * Int32.ofInt y).toInt
def zdiv (x y : Int) : Int := (Int32.ofInt x / Int32.ofInt y).toInt
def zrem (x y : Int) : Int := (Int32.ofInt x - Int32.ofInt x / Int32.ofInt y * Int32.ofInt y).toInt
def zneg (x : Int) : Int := (-Int32.ofInt x).toInt
def zand (x y : Int) : Int := (Int32.ofInt x &&& Int32.ofInt y).toInt
def zor (x y : Int) : Int := (Int32.ofInt x ||| Int32.ofInt y).toInt
def zshl (x y : Int) : Int := (Int32.ofInt x <<< (Int32.ofInt y &&& 31)).toInt
def zshr (x y : Int) : Int := (Int32.ofInt x >>> (Int32.ofInt y &&& 31)).toInt
def zushr (x y : Int) : Int := ((Int32.ofInt x).toUInt32 >>> ((Int32.ofInt y).toUInt32 &&& Int32.toUInt32 31)).toInt32.toInt
def zland (x y : Int) : Int := (Int64.ofInt x &&& Int64.ofInt y).toInt
def zlor (x y : Int) : Int := (Int64.ofInt x ||| Int64.ofInt y).toInt
def zlshl (x y : Int) : Int := (Int64.ofInt x <<< ((Int32.ofInt y).toInt64 &&& 63)).toInt
def zlshr (x y : Int) : Int := (Int64.ofInt x >>> ((Int32.ofInt y).toInt64 &&& 63)).toInt
def zl2i (x : Int) : Int := (Int64.ofInt x).toInt32.toInt
def zi2b (x : Int) : Int := (Int32.ofInt x).toInt8.toInt32.toInt
def zi2s (x : Int) : Int := (Int32.ofInt x).toInt16.toInt32.toInt
def zi2c (x : Int) : Int := ((Int32.ofInt x).toUInt32 % 65536).toInt32.toInt
def zlcmp (x y : Int) : Int := if x < y then -1 else if x = y then 0 else 1
def zislong : ZV → Bool
  | .inr (.inl _) => true
  | _ => false
def zcat : ZV → Nat
  | .inr (.inl _) => 2
  | _ => 1
def zst1 : List ZV → Nat → ZV → List ZV
  | [], _, _ => []
  | _ :: t, 0, v => v :: t
  | h :: t, i + 1, v => (bif i == 0 && zislong h then zu else h) :: zst1 t i v
def zst2 : List ZV → Nat → ZV → List ZV
  | [], _, _ => []
  | _ :: [], 0, _ => []
  | _ :: _ :: t, 0, v => v :: zu :: t
  | h :: t, i + 1, v => (bif i == 0 && zislong h then zu else h) :: zst2 t i v
def zgetI (ls : List ZV) (i : Nat) : Option Int := match ls[i]? with
  | some (.inl x) => some x
  | _ => none
def zstrs : List (List Int) := [[119, 97, 121], [101, 121, 101], [115, 112, 101, 101, 100], [114, 111, 108, 108, 101, 114], [116, 117, 114, 110], [98, 97, 99, 107], [104, 111, 108, 100], [114, 101, 115, 116], [100, 97, 109, 112],
  [32, 119, 97, 121, 32, 114, 111, 108, 108, 101, 114, 32, 115, 112, 101, 101, 100, 32, 101, 121, 101, 32, 116, 117, 114, 110, 32, 98, 97, 99, 107, 32, 104, 111, 108, 100, 32, 114, 101, 115, 116, 32, 100, 97, 109, 112, 32]]
def zstr (k : Nat) : List Int := zstrs.getD k []
abbrev ZP : Type := Nat × Nat × Int
abbrev ZR : Type := Option (List ZV × List ZV × ZM)
/-- loads: 1 an int, 2 a long, 3 a reference -/
def zldI (i : Nat) (ls st : List ZV) (μ : ZM) : ZR := match ls[i]? with
  | some (.inl x) => some (ls, .inl x :: st, μ)
  | _ => none
def zldL (i : Nat) (ls st : List ZV) (μ : ZM) : ZR := match ls[i]? with
  | some (.inr (.inl x)) => some (ls, .inr (.inl x) :: st, μ)
  | _ => none
def zldA (i : Nat) (ls st : List ZV) (μ : ZM) : ZR := match ls[i]? with
  | some (.inr (.inr (t, r, o))) => if t = 1 ∨ ((t = 4 ∨ t = 5) ∧ r < 10) then some (ls, .inr (.inr (t, r, o)) :: st, μ) else none
  | _ => none
def zstI (i : Nat) (ls st : List ZV) (μ : ZM) : ZR := match st with
  | .inl x :: st' => if i < ls.length then some (zst1 ls i (.inl x), st', μ) else none
  | _ => none
def zstL (i : Nat) (ls st : List ZV) (μ : ZM) : ZR := match st with
  | .inr (.inl x) :: st' => if i + 1 < ls.length then some (zst2 ls i (.inr (.inl x)), st', μ) else none
  | _ => none
def zstA (i : Nat) (ls st : List ZV) (μ : ZM) : ZR := match st with
  | .inr (.inr (t, r, o)) :: st' => if i < ls.length ∧ t = 1 then some (zst1 ls i (.inr (.inr (t, r, o))), st', μ) else none
  | _ => none
/-- loads and stores of rows: kd the kind -/
def zaldN (kd : Nat) (lg : Bool) (st : List ZV) (ls : List ZV) (μ : ZM) : ZR := match st with
  | .inl i :: .inr (.inr (t, r, o)) :: st' =>
    match t, μ.1 r o with
    | 1, some (k, n) => if (k = kd ∨ (kd = 0 ∧ k = 6)) ∧ 0 ≤ i ∧ i < (n : Int) then some (ls, (bif lg then .inr (.inl (μ.2.2.1 r o i.toNat)) else .inl (μ.2.2.1 r o i.toNat)) :: st', μ) else none
    | _, _ => none
  | _ => none
def zbald (st : List ZV) (ls : List ZV) (μ : ZM) : ZR := match st with
  | .inl i :: .inr (.inr (t, r, o)) :: st' =>
    match t with
    | 5 => if 0 ≤ i ∧ i < ((zstr r).length : Int) ∧ r < 10 then some (ls, .inl ((zstr r).getD i.toNat 0) :: st', μ) else none
    | 1 => match μ.1 r o with
      | some (k, n) => if (k = 1 ∨ k = 2) ∧ 0 ≤ i ∧ i < (n : Int) then some (ls, .inl (μ.2.2.1 r o i.toNat) :: st', μ) else none
      | _ => none
    | _ => none
  | _ => none
def zaald (st : List ZV) (ls : List ZV) (μ : ZM) : ZR := match st with
  | .inl i :: .inr (.inr (t, r, o)) :: st' =>
    match t, μ.1 r o with
    | 1, some (k, n) => if (k = 4 ∨ k = 5) ∧ 0 ≤ i ∧ i < (n : Int) then some (ls, μ.2.1 r o i.toNat :: st', μ) else none
    | _, _ => none
  | _ => none
def zastI (st : List ZV) (ls : List ZV) (μ : ZM) : ZR := match st with
  | .inl x :: .inl i :: .inr (.inr (t, r, o)) :: st' =>
    match t, μ.1 r o with
    | 1, some (k, n) => if k = 0 ∧ 0 ≤ i ∧ i < (n : Int) then some (ls, st', (μ.1, μ.2.1, zua μ.2.2.1 r o i.toNat x, μ.2.2.2)) else none
    | _, _ => none
  | _ => none
def zastB (st : List ZV) (ls : List ZV) (μ : ZM) : ZR := match st with
  | .inl x :: .inl i :: .inr (.inr (t, r, o)) :: st' =>
    match t, μ.1 r o with
    | 1, some (k, n) => if ((k = 1 ∧ (x = 0 ∨ x = 1)) ∨ (k = 2 ∧ -128 ≤ x ∧ x < 128)) ∧ 0 ≤ i ∧ i < (n : Int) then some (ls, st', (μ.1, μ.2.1, zua μ.2.2.1 r o i.toNat x, μ.2.2.2)) else none
    | _, _ => none
  | _ => none
def zastL (st : List ZV) (ls : List ZV) (μ : ZM) : ZR := match st with
  | .inr (.inl x) :: .inl i :: .inr (.inr (t, r, o)) :: st' =>
    match t, μ.1 r o with
    | 1, some (k, n) => if k = 3 ∧ 0 ≤ i ∧ i < (n : Int) then some (ls, st', (μ.1, μ.2.1, zua μ.2.2.1 r o i.toNat x, μ.2.2.2)) else none
    | _, _ => none
  | _ => none
/-- aastore, of objects of the class of kind 12 into a row of kind 4 -/
def zaast (st : List ZV) (ls : List ZV) (μ : ZM) : ZR := match st with
  | .inr (.inr (t', r', o')) :: .inl i :: .inr (.inr (t, r, o)) :: st' =>
    match t, t', μ.1 r o, μ.1 r' o' with
    | 1, 1, some (k, n), some (k', _) => if k = 4 ∧ k' = 12 ∧ 0 ≤ i ∧ i < (n : Int) then some (ls, st', (μ.1, zuf μ.2.1 r o i.toNat (.inr (.inr (1, r', o'))), μ.2.2)) else none
    | _, _, _, _ => none
  | _ => none
def zalen (st : List ZV) (ls : List ZV) (μ : ZM) : ZR := match st with
  | .inr (.inr (t, r, o)) :: st' =>
    match t with
    | 5 => if r < 10 then some (ls, .inl ((zstr r).length : Int) :: st', μ) else none
    | 1 => match μ.1 r o with
      | some (k, n) => if k < 7 ∧ n < 2147483648 then some (ls, .inl (n : Int) :: st', μ) else none
      | _ => none
    | _ => none
  | _ => none
/-- getfield: the class's number and the field's; 50, 51: value and coder of a String constant -/
def zgetf (p : ZP) (st : List ZV) (ls : List ZV) (μ : ZM) : ZR := match st with
  | .inr (.inr (t, r, o)) :: st' =>
    match t with
    | 4 => if p.1 = 50 ∧ r < 10 then some (ls, .inr (.inr (5, r, 0)) :: st', μ) else if p.1 = 51 ∧ r < 10 then some (ls, .inl 0 :: st', μ) else none
    | 1 => match μ.1 r o with
      | some (k, n) => if k = p.1 + 10 ∧ p.1 < 13 ∧ p.2.1 < n then some (ls, μ.2.1 r o p.2.1 :: st', μ) else none
      | _ => none
    | _ => none
  | _ => none
/-- the sort of a field: 0 int, 1 boolean, 2 a reference -/
def zfits (srt : Int) (v : ZV) : Bool := match v with
  | .inl x => srt == 0 || (srt == 1 && (x == 0 || x == 1))
  | .inr (.inl _) => false
  | .inr (.inr (t, _, _)) => srt == 2 && t == 1
def zputf (p : ZP) (st : List ZV) (ls : List ZV) (μ : ZM) : ZR := match st with
  | v :: .inr (.inr (t, r, o)) :: st' =>
    match t, μ.1 r o with
    | 1, some (k, n) => if k = p.1 + 10 ∧ p.1 < 13 ∧ p.2.1 < n ∧ zfits p.2.2 v = true then some (ls, st', (μ.1, zuf μ.2.1 r o p.2.1 v, μ.2.2)) else none
    | _, _ => none
  | _ => none
/-- the next name, if it is free -/
def znew (kd n : Nat) (g : Nat → ZV) (μ : ZM) : Option ((Nat × Nat) × ZM) := match μ with
  | (q, f, a, (r, o) :: ns, c, s) => if q r o = none then some ((r, o), (zuk q r o (kd, n), zuF f r o g, zuA a r o (fun _ => 0), ns, c + 1, s + n)) else none
  | _ => none
def zdfl (ci : Nat) (srts : Nat → Int) : Nat → ZV := fun k => if srts k = 2 then zn else .inl 0
def znewa (kd : Nat) (st ls : List ZV) (μ : ZM) : ZR := match st with
  | .inl n :: st' => if 0 ≤ n ∧ n ≤ 1000000 then (match znew kd n.toNat (fun _ => zn) μ with
    | some ((r, o), μ') => some (ls, .inr (.inr (1, r, o)) :: st', μ')
    | none => none) else none
  | _ => none
def zakind : ClassFile.ArrayType → Nat
  | .int => 0
  | .boolean => 1
  | .byte => 2
  | .long => 3
  | _ => 99
def zbin (st ls : List ZV) (μ : ZM) (g : Int → Int → Int) : ZR := match st with
  | .inl y :: .inl x :: st' => some (ls, .inl (g x y) :: st', μ)
  | _ => none
def zbind (st ls : List ZV) (μ : ZM) (g : Int → Int → Int) : ZR := match st with
  | .inl y :: .inl x :: st' => if y = 0 then none else some (ls, .inl (g x y) :: st', μ)
  | _ => none
def zun (st ls : List ZV) (μ : ZM) (g : Int → Int) : ZR := match st with
  | .inl x :: st' => some (ls, .inl (g x) :: st', μ)
  | _ => none
def zlbin (st ls : List ZV) (μ : ZM) (g : Int → Int → Int) : ZR := match st with
  | .inr (.inl y) :: .inr (.inl x) :: st' => some (ls, .inr (.inl (g x y)) :: st', μ)
  | _ => none
def zlsh (st ls : List ZV) (μ : ZM) (g : Int → Int → Int) : ZR := match st with
  | .inl y :: .inr (.inl x) :: st' => some (ls, .inr (.inl (g x y)) :: st', μ)
  | _ => none
/-- new long[4][60], by five names -/
def zmulti (st ls : List ZV) (μ : ZM) : ZR := match st, μ with
  | .inl k :: .inl n :: st', (q, f, a, (r0, o0) :: (r1, o1) :: (r2, o2) :: (r3, o3) :: (r4, o4) :: ns, c, s) =>
    if n = 4 ∧ k = 60 ∧ q r0 o0 = none ∧ q r1 o1 = none ∧ q r2 o2 = none ∧ q r3 o3 = none ∧ q r4 o4 = none ∧ [(r0, o0), (r1, o1), (r2, o2), (r3, o3), (r4, o4)].Nodup then
      some (ls, .inr (.inr (1, r0, o0)) :: st', (zuk (zuk (zuk (zuk (zuk q r1 o1 (3, 60)) r2 o2 (3, 60)) r3 o3 (3, 60)) r4 o4 (3, 60)) r0 o0 (5, 4),
        zuF (zuF (zuF (zuF (zuF f r1 o1 (fun _ => zn)) r2 o2 (fun _ => zn)) r3 o3 (fun _ => zn)) r4 o4 (fun _ => zn)) r0 o0 (fun i => if i = 0 then zr r1 o1 else if i = 1 then zr r2 o2 else if i = 2 then zr r3 o3 else if i = 3 then zr r4 o4 else zn),
        zuA (zuA (zuA (zuA (zuA a r1 o1 (fun _ => 0)) r2 o2 (fun _ => 0)) r3 o3 (fun _ => 0)) r4 o4 (fun _ => 0)) r0 o0 (fun _ => 0), ns, c + 5, s + 244))
    else none
  | _, _ => none
/-- the sorts of the classes' fields: 0 int, 1 boolean, 2 a reference -/
def zsrt (ci k : Nat) : Int := match ci with
  | 0 => (match tyX0 k with | .int => 0 | .boolean => 1 | _ => 2)
  | 1 => (match tyX1 k with | .int => 0 | .boolean => 1 | _ => 2)
  | 2 => (match tyX2 k with | .int => 0 | .boolean => 1 | _ => 2)
  | 3 => (match tyX3 k with | .int => 0 | .boolean => 1 | _ => 2)
  | 4 => (match tyX4 k with | .int => 0 | .boolean => 1 | _ => 2)
  | 5 => (match tyX5 k with | .int => 0 | .boolean => 1 | _ => 2)
  | 6 => (match tyX6 k with | .int => 0 | .boolean => 1 | _ => 2)
  | 7 => (match tyX7 k with | .int => 0 | .boolean => 1 | _ => 2)
  | 8 => (match tyX8 k with | .int => 0 | .boolean => 1 | _ => 2)
  | 9 => (match tyX9 k with | .int => 0 | .boolean => 1 | _ => 2)
  | 10 => (match tyX10 k with | .int => 0 | .boolean => 1 | _ => 2)
  | 11 => (match tyX11 k with | .int => 0 | .boolean => 1 | _ => 2)
  | _ => (match tyX12 k with | .int => 0 | .boolean => 1 | _ => 2)
def znewo (p : ZP) (st ls : List ZV) (μ : ZM) : ZR := if p.1 < 13 then (match znew (p.1 + 10) p.2.1 (zdfl p.1 (zsrt p.1)) μ with
  | some ((r, o), μ') => some (ls, .inr (.inr (1, r, o)) :: st, μ')
  | none => none) else none
/-- System.arraycopy of ints or booleans, from one row to another -/
def zcopy (st ls : List ZV) (μ : ZM) : ZR := match st with
  | .inl n :: .inl dp :: .inr (.inr (1, r2, o2)) :: .inl sp :: .inr (.inr (1, r1, o1)) :: st' =>
    match μ.1 r1 o1, μ.1 r2 o2 with
    | some (k1, n1), some (k2, n2) => if k1 = k2 ∧ k1 < 2 ∧ ¬(r1 = r2 ∧ o1 = o2) ∧ 0 ≤ n ∧ 0 ≤ sp ∧ 0 ≤ dp ∧ sp + n ≤ n1 ∧ dp + n ≤ n2 then
        some (ls, st', (μ.1, μ.2.1, (fun r o j => if r = r2 ∧ o = o2 ∧ dp.toNat ≤ j ∧ j < dp.toNat + n.toNat then μ.2.2.1 r1 o1 (sp.toNat + (j - dp.toNat)) else μ.2.2.1 r o j), μ.2.2.2)) else none
    | _, _ => none
  | _ => none
def zmax (x y : Int) : Int := if x < y then y else x
def zmin (x y : Int) : Int := if y < x then y else x
/-- the static methods that are one step here: Math.max, Math.min, System.arraycopy -/
def zistat (p : ZP) (st ls : List ZV) (μ : ZM) : ZR := if (st.map zcat).sum ≤ 13 then (match p.2.2 with
  | 3 => zbin st ls μ zmax
  | 4 => zbin st ls μ zmin
  | _ => zcopy st ls μ) else none
/-- one instruction that neither jumps, calls nor ends -/
def zop (i : Instr) (p : ZP) (ls st : List ZV) (μ : ZM) : ZR := match i with
  | .aload n => zldA n ls st μ
  | .aload_n n => zldA n.val ls st μ
  | .iload n => zldI n ls st μ
  | .iload_n n => zldI n.val ls st μ
  | .lload n => zldL n ls st μ
  | .lload_n n => zldL n.val ls st μ
  | .istore n => zstI n ls st μ
  | .istore_n n => zstI n.val ls st μ
  | .lstore n => zstL n ls st μ
  | .lstore_n n => zstL n.val ls st μ
  | .astore n => zstA n ls st μ
  | .astore_n n => zstA n.val ls st μ
  | .iinc n c => match ls[n]? with
    | some (.inl x) => some (zst1 ls n (.inl (zadd x c)), st, μ)
    | _ => none
  | .iconst n => some (ls, .inl n :: st, μ)
  | .bipush n => some (ls, .inl n :: st, μ)
  | .sipush n => some (ls, .inl n :: st, μ)
  | .lconst n => some (ls, .inr (.inl (n.val : Int)) :: st, μ)
  | .ldc _ => match p.1 with
    | 0 => some (ls, .inl p.2.2 :: st, μ)
    | _ => if p.2.1 < 10 then some (ls, .inr (.inr (4, p.2.1, 0)) :: st, μ) else none
  | .ldc_w _ => some (ls, .inl p.2.2 :: st, μ)
  | .ldc2_w _ => some (ls, .inr (.inl p.2.2) :: st, μ)
  | .getfield _ => zgetf p st ls μ
  | .putfield _ => zputf p st ls μ
  | .getstatic _ => match p.1 with
    | 0 => some (ls, .inl 1 :: st, μ)
    | _ => some (ls, .inr (.inr (6, 0, 0)) :: st, μ)
  | .iaload => zaldN 0 false st ls μ
  | .laload => zaldN 3 true st ls μ
  | .baload => zbald st ls μ
  | .aaload => zaald st ls μ
  | .iastore => zastI st ls μ
  | .bastore => zastB st ls μ
  | .lastore => zastL st ls μ
  | .aastore => zaast st ls μ
  | .arraylength => zalen st ls μ
  | .newarray t => znewa (zakind t) st ls μ
  | .anewarray _ => znewa 4 st ls μ
  | .multianewarray _ _ => zmulti st ls μ
  | .new _ => znewo p st ls μ
  | .iadd => zbin st ls μ zadd
  | .isub => zbin st ls μ zsub
  | .imul => zbin st ls μ zmul
  | .idiv => zbind st ls μ zdiv
  | .irem => zbind st ls μ zrem
  | .ineg => zun st ls μ zneg
  | .iand => zbin st ls μ zand
  | .ior => zbin st ls μ zor
  | .ishl => zbin st ls μ zshl
  | .ishr => zbin st ls μ zshr
  | .iushr => zbin st ls μ zushr
  | .land => zlbin st ls μ zland
  | .lor => zlbin st ls μ zlor
  | .lshl => zlsh st ls μ zlshl
  | .lshr => zlsh st ls μ zlshr
  | .lcmp => match st with
    | .inr (.inl y) :: .inr (.inl x) :: st' => some (ls, .inl (zlcmp x y) :: st', μ)
    | _ => none
  | .i2l => match st with
    | .inl x :: st' => some (ls, .inr (.inl x) :: st', μ)
    | _ => none
  | .l2i => match st with
    | .inr (.inl x) :: st' => some (ls, .inl (zl2i x) :: st', μ)
    | _ => none
  | .i2b => zun st ls μ zi2b
  | .i2s => zun st ls μ zi2s
  | .i2c => zun st ls μ zi2c
  | .dup => match st with
    | v :: st' => if zislong v = true then none else some (ls, v :: v :: st', μ)
    | _ => none
  | .dup2 => match st with
    | v :: w :: st' => if zislong v = true ∨ zislong w = true then none else some (ls, v :: w :: v :: w :: st', μ)
    | _ => none
  | .pop => match st with
    | v :: st' => if zislong v = true then none else some (ls, st', μ)
    | _ => none
  | .invokespecial _ => match st with
    | .inr (.inr (1, _, _)) :: st' => if (st'.map zcat).sum ≤ 8 then some (ls, st', μ) else none
    | _ => none
  | .invokestatic _ => zistat p st ls μ
  | _ => none
/-- where a switch goes: pc the switch's own place -/
def zsw (pc : Nat) (d lo hi : Int) (offs : Array Int) (x : Int) : Nat := if x < lo ∨ hi < x then ((pc : Int) + d).toNat else ((pc : Int) + (offs[(x - lo).toNat]?.getD d)).toNat
def zlsw (pc : Nat) (d : Int) (ps : List (Int × Int)) (x : Int) : Nat := match ps with
  | [] => ((pc : Int) + d).toNat
  | (k, o) :: t => if x = k then ((pc : Int) + o).toNat else zlsw pc d t x
abbrev ZN : Type := Instr × Nat × ZP
abbrev ZO : Type := Option (Option ZV × ZM)
/-- a stretch of code: 'call' what methods do, 'rec' what comes behind a jump -/
def zexec (call : Nat → List ZV → ZM → ZO) (rec : Nat → List ZV → List ZV → ZM → ZO) : List ZN → List ZV → List ZV → ZM → ZO
  | [], _, _, _ => none
  | (i, _, p) :: k, ls, st, μ => match i with
    | .nop => rec p.1 ls st μ
    | .goto _ => rec p.1 ls st μ
    | .ifCond c _ => (match st with
      | .inl x :: st' => (match c with
        | .eq => if x = 0 then rec p.1 ls st' μ else zexec call rec k ls st' μ
        | .ne => if x = 0 then zexec call rec k ls st' μ else rec p.1 ls st' μ
        | .lt => if x < 0 then rec p.1 ls st' μ else zexec call rec k ls st' μ
        | .ge => if x < 0 then zexec call rec k ls st' μ else rec p.1 ls st' μ
        | .gt => if 0 < x then rec p.1 ls st' μ else zexec call rec k ls st' μ
        | .le => if 0 < x then zexec call rec k ls st' μ else rec p.1 ls st' μ)
      | _ => none)
    | .if_icmp c _ => (match st with
      | .inl y :: .inl x :: st' => (match c with
        | .eq => if x = y then rec p.1 ls st' μ else zexec call rec k ls st' μ
        | .ne => if x = y then zexec call rec k ls st' μ else rec p.1 ls st' μ
        | .lt => if x < y then rec p.1 ls st' μ else zexec call rec k ls st' μ
        | .ge => if x < y then zexec call rec k ls st' μ else rec p.1 ls st' μ
        | .gt => if y < x then rec p.1 ls st' μ else zexec call rec k ls st' μ
        | .le => if y < x then zexec call rec k ls st' μ else rec p.1 ls st' μ)
      | _ => none)
    | .tableswitch d lo hi offs => (match st with
      | .inl x :: st' => rec (zsw p.1 d lo hi offs x) ls st' μ
      | _ => none)
    | .lookupswitch d ps => (match st with
      | .inl x :: st' => rec (zlsw p.1 d ps.toList x) ls st' μ
      | _ => none)
    | .ireturn => (match st with
      | .inl x :: [] => if p.1 = 0 ∨ (p.1 = 1 ∧ (x = 0 ∨ x = 1)) ∨ (p.1 = 2 ∧ -128 ≤ x ∧ x < 128) ∨ (p.1 = 3 ∧ 0 ≤ x ∧ x < 65536) then some (some (.inl x), μ) else none
      | _ => none)
    | .lreturn => (match st with
      | .inr (.inl x) :: [] => some (some (.inr (.inl x)), μ)
      | _ => none)
    | .return_ => (match st with
      | [] => some (none, μ)
      | _ => none)
    | .invokestatic _ | .invokevirtual _ | .invokespecial _ =>
      (match p.2.2 with
      | 0 => if p.2.1 ≤ st.length ∧ ((st.drop p.2.1).map zcat).sum ≤ 8 then (match call p.1 ((st.take p.2.1).reverse) μ with
        | some (none, μ') => zexec call rec k ls (st.drop p.2.1) μ'
        | some (some v, μ') => zexec call rec k ls (v :: st.drop p.2.1) μ'
        | none => none) else none
      | _ => (match zop i p ls st μ with
        | some (ls', st', μ') => zexec call rec k ls' st' μ'
        | none => none))
    | i => (match zop i p ls st μ with
      | some (ls', st', μ') => zexec call rec k ls' st' μ'
      | none => none)
/-- a method's run, by at most so many jumps -/
def zrunF (call : Nat → List ZV → ZM → ZO) (seg : Nat → List ZN) : Nat → Nat → List ZV → List ZV → ZM → ZO
  | 0, _, _, _, _ => none
  | n + 1, l, ls, st, μ => zexec call (zrunF call seg n) (seg l) ls st μ
theorem zexec_mono {call : Nat → List ZV → ZM → ZO} {r1 r2 : Nat → List ZV → List ZV → ZM → ZO} (h : ∀ l ls st μ x, r1 l ls st μ = some x → r2 l ls st μ = some x) :
    ∀ (k : List ZN) (ls st : List ZV) (μ : ZM) (x : Option ZV × ZM), zexec call r1 k ls st μ = some x → zexec call r2 k ls st μ = some x
  | [], _, _, _, _, hx => by simp [zexec] at hx
  | (i, n, p) :: k, ls, st, μ, x, hx => by
    have ih := zexec_mono (call := call) h k
    revert hx
    unfold zexec
    repeat' split
    all_goals first
      | exact fun hx => hx
      | exact fun hx => h _ _ _ _ _ hx
      | exact fun hx => ih _ _ _ _ hx
theorem zexec_fin {call : Nat → List ZV → ZM → ZO} {r : Nat → List ZV → List ZV → ZM → ZO} {F : Nat → Nat → List ZV → List ZV → ZM → ZO} (h : ∀ l ls st μ x, r l ls st μ = some x → ∃ n, F n l ls st μ = some x) :
    ∀ (k : List ZN) (ls st : List ZV) (μ : ZM) (x : Option ZV × ZM), zexec call r k ls st μ = some x → ∃ n, zexec call (F n) k ls st μ = some x
  | [], _, _, _, _, hx => by simp [zexec] at hx
  | (i, n, p) :: k, ls, st, μ, x, hx => by
    have ih := zexec_fin (call := call) h k
    revert hx
    unfold zexec
    repeat' split
    all_goals first
      | exact fun hx => ⟨0, hx⟩
      | exact fun hx => h _ _ _ _ _ hx
      | exact fun hx => ih _ _ _ _ hx
theorem zrunF_succ {call : Nat → List ZV → ZM → ZO} {seg : Nat → List ZN} : ∀ (n : Nat) (l : Nat) (ls st : List ZV) (μ : ZM) (x : Option ZV × ZM), zrunF call seg n l ls st μ = some x → zrunF call seg (n + 1) l ls st μ = some x
  | 0, _, _, _, _, _, h => by simp [zrunF] at h
  | n + 1, l, ls, st, μ, x, h => zexec_mono (zrunF_succ n) (seg l) ls st μ x h
theorem zrunF_le {call : Nat → List ZV → ZM → ZO} {seg : Nat → List ZN} {n l : Nat} {ls st : List ZV} {μ : ZM} {x : Option ZV × ZM} (h : zrunF call seg n l ls st μ = some x) : ∀ d, zrunF call seg (n + d) l ls st μ = some x
  | 0 => h
  | d + 1 => zrunF_succ _ _ _ _ _ _ (zrunF_le h d)
/-- a method's run from a place: what it comes to, if it ends -/
noncomputable def zrun (call : Nat → List ZV → ZM → ZO) (seg : Nat → List ZN) (l : Nat) (ls st : List ZV) (μ : ZM) : ZO :=
  match Classical.propDecidable (∃ n x, zrunF call seg n l ls st μ = some x) with
  | .isTrue h => some (Classical.choose (Classical.choose_spec h))
  | .isFalse _ => none
theorem zrun_iff {call : Nat → List ZV → ZM → ZO} {seg : Nat → List ZN} {l : Nat} {ls st : List ZV} {μ : ZM} {x : Option ZV × ZM} : zrun call seg l ls st μ = some x ↔ ∃ n, zrunF call seg n l ls st μ = some x := by
  unfold zrun
  split
  · rename_i h _
    have h1 := Classical.choose_spec (Classical.choose_spec h)
    constructor
    · intro e
      cases e
      exact ⟨_, h1⟩
    · intro ⟨n, hn⟩
      have a := zrunF_le hn (Classical.choose h)
      have b := zrunF_le h1 n
      rw [Nat.add_comm] at b
      exact (b.symm.trans a)
  · rename_i h _
    constructor
    · intro e; cases e
    · intro ⟨n, hn⟩
      exact absurd ⟨n, x, hn⟩ h
theorem zo_ext {a b : ZO} (h : ∀ x, a = some x ↔ b = some x) : a = b := by
  cases a with
  | none => cases b with
    | none => rfl
    | some y => exact ((h y).mpr rfl)
  | some y => exact ((h y).mp rfl).symm
theorem zrun_eq {call : Nat → List ZV → ZM → ZO} {seg : Nat → List ZN} {l : Nat} {ls st : List ZV} {μ : ZM} : zrun call seg l ls st μ = zexec call (zrun call seg) (seg l) ls st μ := by
  apply zo_ext
  intro x
  rw [zrun_iff]
  constructor
  · intro ⟨n, hn⟩
    cases n with
    | zero => simp [zrunF] at hn
    | succ n => exact zexec_mono (fun l ls st μ x h => zrun_iff.mpr ⟨n, h⟩) _ _ _ _ _ hn
  · intro h
    obtain ⟨n, hn⟩ := zexec_fin (F := zrunF call seg) (fun l ls st μ x h => zrun_iff.mp h) _ _ _ _ _ h
    exact ⟨n + 1, hn⟩
/-- the locals with which a method begins -/
def zloc : List ZV → Nat → List ZV
  | [], n => List.replicate n zu
  | v :: t, n => bif zislong v then v :: zu :: zloc t (n - 2) else v :: zloc t (n - 1)
/-- what method j does, by at most d calls within one another -/
noncomputable def zcall (seg : Nat → Nat → List ZN) (maxL : Nat → Nat) : Nat → Nat → List ZV → ZM → ZO
  | 0, _, _, _ => none
  | d + 1, j, as, μ => zrun (zcall seg maxL d) (seg j) 0 (zloc as (maxL j)) [] μ
end
section
noncomputable section
/-! the program: by wip/whole/gen.py out of the printed names; a stretch of code a definition, a method its list -/
abbrev j_J6_bitCount_0f7a4 : Nat := 0
abbrev j_J0_length_8abf5 : Nat := 1
abbrev j_J0_charAt_5068e : Nat := 2
abbrev j_J0_coder_7d493 : Nat := 3
abbrev j_J0_isLatin1_aae02 : Nat := 4
abbrev j_J0_checkIndex_df160 : Nat := 5
abbrev j_J1_charAt_3b067 : Nat := 6
abbrev j_J7_fill_d0a16 : Nat := 7
abbrev j_J7_fill_53178 : Nat := 8
abbrev j_J3_checkIndex_8e157 : Nat := 9
abbrev j_X0_init : Nat := 10
abbrev j_X0_observe : Nat := 11
abbrev j_X0_canBe : Nat := 12
abbrev j_X0_dropObserved : Nat := 13
abbrev j_X0_seek : Nat := 14
abbrev j_X0_isWorthTrying : Nat := 15
abbrev j_X0_canMatter : Nat := 16
abbrev j_X0_explains : Nat := 17
abbrev j_X0_putFlaw : Nat := 18
abbrev j_X0_isSeenSo : Nat := 19
abbrev j_X0_allSeenBy : Nat := 20
abbrev j_X0_firstToFail : Nat := 21
abbrev j_X1_init : Nat := 22
abbrev j_X1_reset : Nat := 23
abbrev j_X1_becomeLike : Nat := 24
abbrev j_X1_changeWear : Nat := 25
abbrev j_X1_changeBeat : Nat := 26
abbrev j_X1_leaveCorner : Nat := 27
abbrev j_X1_takeCorner : Nat := 28
abbrev j_X1_cornerAt : Nat := 29
abbrev j_X1_cornerLimit : Nat := 30
abbrev j_X1_driveOf : Nat := 31
abbrev j_X2_init : Nat := 32
abbrev j_X2_addPage : Nat := 33
abbrev j_X2_stackSides : Nat := 34
abbrev j_X2_becomeLike : Nat := 35
abbrev j_X3_init : Nat := 36
abbrev j_X3_pair : Nat := 37
abbrev j_X3_measureRoom : Nat := 38
abbrev j_X3_lastPlaceBelow : Nat := 39
abbrev j_X3_pairInOrder : Nat := 40
abbrev j_X3_earliest : Nat := 41
abbrev j_X3_lackingPlace : Nat := 42
abbrev j_X3_wholeCopies : Nat := 43
abbrev j_X4_init : Nat := 44
abbrev j_X4_make : Nat := 45
abbrev j_X4_cut : Nat := 46
abbrev j_X4_tellsPages : Nat := 47
abbrev j_X5_init : Nat := 48
abbrev j_X5_seek : Nat := 49
abbrev j_X5_hasPaperForAll : Nat := 50
abbrev j_X5_gives : Nat := 51
abbrev j_X5_leave : Nat := 52
abbrev j_X5_takesNext : Nat := 53
abbrev j_X5_feedFromEach : Nat := 54
abbrev j_X5_agedPocket : Nat := 55
abbrev j_X5_unpack : Nat := 56
abbrev j_X5_meet : Nat := 57
abbrev j_X5_traceBack : Nat := 58
abbrev j_X5_parentOf : Nat := 59
abbrev j_X6_init : Nat := 60
abbrev j_X6_hasRoomForFive : Nat := 61
abbrev j_X6_append : Nat := 62
abbrev j_X6_readWay : Nat := 63
abbrev j_X6_splitTokens : Nat := 64
abbrev j_X6_nextKind : Nat := 65
abbrev j_X6_nextNumber : Nat := 66
abbrev j_X6_nextWord : Nat := 67
abbrev j_X6_wordOfFour : Nat := 68
abbrev j_X6_isAt : Nat := 69
abbrev j_X6_readLine : Nat := 70
abbrev j_X6_readRoller : Nat := 71
abbrev j_X6_readEye : Nat := 72
abbrev j_X6_readTurn : Nat := 73
abbrev j_X6_readDamp : Nat := 74
abbrev j_X6_readNumber : Nat := 75
abbrev j_X6_want : Nat := 76
abbrev j_X6_goOn : Nat := 77
abbrev j_X6_blame : Nat := 78
abbrev j_X6_isBlank : Nat := 79
abbrev j_X6_isLetter : Nat := 80
abbrev j_X6_isDigit : Nat := 81
abbrev j_X7_init : Nat := 82
abbrev j_X7_seek : Nat := 83
abbrev j_X7_isBetter : Nat := 84
abbrev j_X7_costOfNewOnes : Nat := 85
abbrev j_X7_timesNew : Nat := 86
abbrev j_X8_init : Nat := 87
abbrev j_X8_start : Nat := 88
abbrev j_X8_isFull : Nat := 89
abbrev j_X8_tailOf : Nat := 90
abbrev j_X8_isFreeFor : Nat := 91
abbrev j_X8_begin : Nat := 92
abbrev j_X8_liesFree : Nat := 93
abbrev j_X8_putOnWay : Nat := 94
abbrev j_X8_goOnce : Nat := 95
abbrev j_X8_carryOn : Nat := 96
abbrev j_X8_move : Nat := 97
abbrev j_X8_waits : Nat := 98
abbrev j_X8_drive : Nat := 99
abbrev j_X8_enterPocket : Nat := 100
abbrev j_X8_findJam : Nat := 101
abbrev j_X8_comeBack : Nat := 102
abbrev j_X8_isUnderEye : Nat := 103
abbrev j_X8_takeAll : Nat := 104
abbrev j_X9_init : Nat := 105
abbrev j_X9_reset : Nat := 106
abbrev j_X9_cutOff : Nat := 107
abbrev j_X9_look : Nat := 108
abbrev j_X9_close : Nat := 109
abbrev j_X10_init : Nat := 110
abbrev j_X10_reset : Nat := 111
abbrev j_X10_hasRoller : Nat := 112
abbrev j_X10_hasEye : Nat := 113
abbrev j_X10_lastRollerPlace : Nat := 114
abbrev j_X10_lastEyePlace : Nat := 115
abbrev j_X10_creasesAre : Nat := 116
abbrev j_X11_init : Nat := 117
abbrev j_X11_feed : Nat := 118
abbrev j_X11_text : Nat := 119
abbrev j_X11_fault : Nat := 120
abbrev j_X11_set : Nat := 121
abbrev j_X11_corner : Nat := 122
abbrev j_X11_lay : Nat := 123
abbrev j_X11_tick : Nat := 124
abbrev j_X11_sheet : Nat := 125
abbrev j_X11_clear : Nat := 126
abbrev j_X11_sees : Nat := 127
abbrev j_X11_passing : Nat := 128
abbrev j_X11_saw : Nat := 129
abbrev j_X11_forget : Nat := 130
abbrev j_X11_explain : Nat := 131
abbrev j_X11_foretold : Nat := 132
abbrev j_X11_crease : Nat := 133
abbrev j_X11_page : Nat := 134
abbrev j_X11_tray : Nat := 135
abbrev j_X11_pocket : Nat := 136
abbrev j_X11_heat : Nat := 137
abbrev j_X11_plan : Nat := 138
abbrev j_X11_copies : Nat := 139
abbrev j_X11_out : Nat := 140
abbrev j_X11_empty : Nat := 141
abbrev j_X11_again : Nat := 142
abbrev j_X11_lack : Nat := 143
abbrev j_X11_kept : Nat := 144
abbrev j_X11_pay : Nat := 145
abbrev j_X11_part : Nat := 146
abbrev j_X11_service : Nat := 147
abbrev j_X11_row : Nat := 148
abbrev j_X11_write : Nat := 149
abbrev j_X11_save : Nat := 150
abbrev j_X11_load : Nat := 151
abbrev j_X11_image : Nat := 152
abbrev j_X11_restore : Nat := 153
abbrev j_X11_count : Nat := 154
abbrev j_X11_countOfSet : Nat := 155
abbrev j_X11_isSheetLength : Nat := 156
abbrev j_X11_isCreaseRow : Nat := 157
abbrev j_X11_isCrease : Nat := 158
abbrev j_X11_falls : Nat := 159
abbrev j_X12_within : Nat := 160
abbrev j_X12_init : Nat := 161
abbrev j_X12_begins : Nat := 162
abbrev j_X12_becomes : Nat := 163
abbrev j_X12_feed : Nat := 164
abbrev j_X12_see : Nat := 165
abbrev j_X12_isSmall : Nat := 166
abbrev j_X12_isDigit : Nat := 167
abbrev j_X12_keyAt : Nat := 168
abbrev j_X12_next : Nat := 169
abbrev j_X12_fails : Nat := 170
abbrev j_X12_is : Nat := 171
abbrev j_X12_needs : Nat := 172
abbrev j_X12_reads : Nat := 173
abbrev j_X12_readsRoller : Nat := 174
abbrev j_X12_readsEye : Nat := 175
abbrev j_X12_readsTurn : Nat := 176
abbrev j_X12_readsDamp : Nat := 177
abbrev j_X12_text : Nat := 178
abbrev j_X12_fault : Nat := 179
abbrev j_X12_isRoller : Nat := 180
abbrev j_X12_isEye : Nat := 181
abbrev j_X12_set : Nat := 182
abbrev j_X12_cornerOf : Nat := 183
abbrev j_X12_leaves : Nat := 184
abbrev j_X12_corner : Nat := 185
abbrev j_X12_isGoing : Nat := 186
abbrev j_X12_tail : Nat := 187
abbrev j_X12_isOver : Nat := 188
abbrev j_X12_lay : Nat := 189
abbrev j_X12_drive : Nat := 190
abbrev j_X12_bound : Nat := 191
abbrev j_X12_ahead : Nat := 192
abbrev j_X12_inPocket : Nat := 193
abbrev j_X12_waits : Nat := 194
abbrev j_X12_waitsNow : Nat := 195
abbrev j_X12_goes : Nat := 196
abbrev j_X12_ticks : Nat := 197
abbrev j_X12_comesBack : Nat := 198
abbrev j_X12_looks : Nat := 199
abbrev j_X12_tick : Nat := 200
abbrev j_X12_sheet : Nat := 201
abbrev j_X12_clear : Nat := 202
abbrev j_X12_sees : Nat := 203
abbrev j_X12_passing : Nat := 204
abbrev j_X12_goesAlone : Nat := 205
abbrev j_X12_isOutAlone : Nat := 206
abbrev j_X12_looksAlone : Nat := 207
abbrev j_X12_saw : Nat := 208
abbrev j_X12_observed : Nat := 209
abbrev j_X12_forget : Nat := 210
abbrev j_X12_isCause : Nat := 211
abbrev j_X12_takesCause : Nat := 212
abbrev j_X12_explains : Nat := 213
abbrev j_X12_explain : Nat := 214
abbrev j_X12_foretold : Nat := 215
abbrev j_X12_creaseOf : Nat := 216
abbrev j_X12_crease : Nat := 217
abbrev j_X12_setsOut : Nat := 218
abbrev j_X12_page : Nat := 219
abbrev j_X12_tray : Nat := 220
abbrev j_X12_pocket : Nat := 221
abbrev j_X12_heat : Nat := 222
abbrev j_X12_stateOf : Nat := 223
abbrev j_X12_adds : Nat := 224
abbrev j_X12_lain : Nat := 225
abbrev j_X12_isOut : Nat := 226
abbrev j_X12_opens : Nat := 227
abbrev j_X12_finds : Nat := 228
abbrev j_X12_plan : Nat := 229
abbrev j_X12_copies : Nat := 230
abbrev j_X12_out : Nat := 231
abbrev j_X12_empty : Nat := 232
abbrev j_X12_wanted : Nat := 233
abbrev j_X12_mostAt : Nat := 234
abbrev j_X12_pairs : Nat := 235
abbrev j_X12_again : Nat := 236
abbrev j_X12_lack : Nat := 237
abbrev j_X12_kept : Nat := 238
abbrev j_X12_pay : Nat := 239
abbrev j_X12_part : Nat := 240
abbrev j_X12_renewals : Nat := 241
abbrev j_X12_serves : Nat := 242
abbrev j_X12_ones : Nat := 243
abbrev j_X12_service : Nat := 244
abbrev j_X12_cut : Nat := 245
abbrev j_X12_row : Nat := 246
abbrev j_X12_write : Nat := 247
abbrev j_X12_save : Nat := 248
abbrev j_X12_load : Nat := 249
abbrev j_X12_image : Nat := 250
abbrev j_X12_restore : Nat := 251
abbrev j_X12_count : Nat := 252
abbrev j_L_law : Nat := 253
def s_J6_bitCount_0f7a4_0 : List ZN := [(.iload_n 0, 1, (0, 0, 0)), (.iload_n 0, 1, (0, 0, 0)), (.iconst 1, 1, (0, 0, 0)), (.iushr, 1, (0, 0, 0)), (.ldc_w 265, 3, (0, 0, 1431655765)), (.iand, 1, (0, 0, 0)), (.isub, 1, (0, 0, 0)), (.istore_n 0, 1, (0, 0, 0)), (.iload_n 0, 1, (0, 0, 0)), (.ldc_w 266, 3, (0, 0, 858993459)), (.iand, 1, (0, 0, 0)), (.iload_n 0, 1, (0, 0, 0)), (.iconst 2, 1, (0, 0, 0)), (.iushr, 1, (0, 0, 0)), (.ldc_w 266, 3, (0, 0, 858993459)), (.iand, 1, (0, 0, 0)), (.iadd, 1, (0, 0, 0)), (.istore_n 0, 1, (0, 0, 0)), (.iload_n 0, 1, (0, 0, 0)), (.iload_n 0, 1, (0, 0, 0)), (.iconst 4, 1, (0, 0, 0)), (.iushr, 1, (0, 0, 0)), (.iadd, 1, (0, 0, 0)), (.ldc_w 267, 3, (0, 0, 252645135)), (.iand, 1, (0, 0, 0)), (.istore_n 0, 1, (0, 0, 0)), (.iload_n 0, 1, (0, 0, 0)), (.iload_n 0, 1, (0, 0, 0)), (.bipush 8, 2, (0, 0, 0)), (.iushr, 1, (0, 0, 0)), (.iadd, 1, (0, 0, 0)), (.istore_n 0, 1, (0, 0, 0)), (.iload_n 0, 1, (0, 0, 0)), (.iload_n 0, 1, (0, 0, 0)), (.bipush 16, 2, (0, 0, 0)), (.iushr, 1, (0, 0, 0)), (.iadd, 1, (0, 0, 0)), (.istore_n 0, 1, (0, 0, 0)), (.iload_n 0, 1, (0, 0, 0)), (.bipush 63, 2, (0, 0, 0)), (.iand, 1, (0, 0, 0)), (.ireturn, 1, (0, 0, 0))]
def p_J6_bitCount_0f7a4 : List (Nat × List ZN) := [(0, s_J6_bitCount_0f7a4_0)]
def s_J0_length_8abf5_0 : List ZN := [(.aload_n 0, 1, (0, 0, 0)), (.getfield 9, 3, (50, 0, 0)), (.arraylength, 1, (0, 0, 0)), (.aload_n 0, 1, (0, 0, 0)), (.invokevirtual 335, 3, (j_J0_coder_7d493, 1, 0)), (.ishr, 1, (0, 0, 0)), (.ireturn, 1, (0, 0, 0))]
def p_J0_length_8abf5 : List (Nat × List ZN) := [(0, s_J0_length_8abf5_0)]
def s_J0_charAt_5068e_0 : List ZN := [(.aload_n 0, 1, (0, 0, 0)), (.invokevirtual 492, 3, (j_J0_isLatin1_aae02, 1, 0)), (.ifCond .eq 12, 3, (16, 0, 0)), (.aload_n 0, 1, (0, 0, 0)), (.getfield 9, 3, (50, 0, 0)), (.iload_n 1, 1, (0, 0, 0)), (.invokestatic 495, 3, (j_J1_charAt_3b067, 2, 0)), (.ireturn, 1, (3, 0, 0))]
def p_J0_charAt_5068e : List (Nat × List ZN) := [(0, s_J0_charAt_5068e_0)]
def s_J0_coder_7d493_0 : List ZN := [(.getstatic 38, 3, (0, 0, 0)), (.ifCond .eq 10, 3, (13, 0, 0)), (.aload_n 0, 1, (0, 0, 0)), (.getfield 15, 3, (51, 0, 0)), (.goto 4, 3, (14, 0, 0))]
def s_J0_coder_7d493_13 : List ZN := [(.iconst 1, 1, (0, 0, 0)), (.nop, 0, (14, 0, 0))]
def s_J0_coder_7d493_14 : List ZN := [(.ireturn, 1, (2, 0, 0))]
def p_J0_coder_7d493 : List (Nat × List ZN) := [(0, s_J0_coder_7d493_0), (13, s_J0_coder_7d493_13), (14, s_J0_coder_7d493_14)]
def s_J0_isLatin1_aae02_0 : List ZN := [(.getstatic 38, 3, (0, 0, 0)), (.ifCond .eq 14, 3, (17, 0, 0)), (.aload_n 0, 1, (0, 0, 0)), (.getfield 15, 3, (51, 0, 0)), (.ifCond .ne 7, 3, (17, 0, 0)), (.iconst 1, 1, (0, 0, 0)), (.goto 4, 3, (18, 0, 0))]
def s_J0_isLatin1_aae02_17 : List ZN := [(.iconst 0, 1, (0, 0, 0)), (.nop, 0, (18, 0, 0))]
def s_J0_isLatin1_aae02_18 : List ZN := [(.ireturn, 1, (1, 0, 0))]
def p_J0_isLatin1_aae02 : List (Nat × List ZN) := [(0, s_J0_isLatin1_aae02_0), (17, s_J0_isLatin1_aae02_17), (18, s_J0_isLatin1_aae02_18)]
def s_J0_checkIndex_df160_0 : List ZN := [(.iload_n 0, 1, (0, 0, 0)), (.iload_n 1, 1, (0, 0, 0)), (.getstatic 1053, 3, (1, 0, 0)), (.invokestatic 1059, 3, (j_J3_checkIndex_8e157, 3, 0)), (.pop, 1, (0, 0, 0)), (.return_, 1, (0, 0, 0))]
def p_J0_checkIndex_df160 : List (Nat × List ZN) := [(0, s_J0_checkIndex_df160_0)]
def s_J1_charAt_3b067_0 : List ZN := [(.iload_n 1, 1, (0, 0, 0)), (.aload_n 0, 1, (0, 0, 0)), (.arraylength, 1, (0, 0, 0)), (.invokestatic 9, 3, (j_J0_checkIndex_df160, 2, 0)), (.aload_n 0, 1, (0, 0, 0)), (.iload_n 1, 1, (0, 0, 0)), (.baload, 1, (0, 0, 0)), (.sipush 255, 3, (0, 0, 0)), (.iand, 1, (0, 0, 0)), (.i2c, 1, (0, 0, 0)), (.ireturn, 1, (3, 0, 0))]
def p_J1_charAt_3b067 : List (Nat × List ZN) := [(0, s_J1_charAt_3b067_0)]
def s_J7_fill_d0a16_0 : List ZN := [(.iconst 0, 1, (0, 0, 0)), (.istore_n 3, 1, (0, 0, 0)), (.aload_n 0, 1, (0, 0, 0)), (.arraylength, 1, (0, 0, 0)), (.istore 4, 2, (0, 0, 0)), (.nop, 0, (6, 0, 0))]
def s_J7_fill_d0a16_6 : List ZN := [(.iload_n 3, 1, (0, 0, 0)), (.iload 4, 2, (0, 0, 0)), (.if_icmp .ge 13, 3, (22, 0, 0)), (.aload_n 0, 1, (0, 0, 0)), (.iload_n 3, 1, (0, 0, 0)), (.lload_n 1, 1, (0, 0, 0)), (.lastore, 1, (0, 0, 0)), (.iinc 3 1, 3, (0, 0, 0)), (.goto (-13), 3, (6, 0, 0))]
def s_J7_fill_d0a16_22 : List ZN := [(.return_, 1, (0, 0, 0))]
def p_J7_fill_d0a16 : List (Nat × List ZN) := [(0, s_J7_fill_d0a16_0), (6, s_J7_fill_d0a16_6), (22, s_J7_fill_d0a16_22)]
def s_J7_fill_53178_0 : List ZN := [(.iconst 0, 1, (0, 0, 0)), (.istore_n 2, 1, (0, 0, 0)), (.aload_n 0, 1, (0, 0, 0)), (.arraylength, 1, (0, 0, 0)), (.istore_n 3, 1, (0, 0, 0)), (.nop, 0, (5, 0, 0))]
def s_J7_fill_53178_5 : List ZN := [(.iload_n 2, 1, (0, 0, 0)), (.iload_n 3, 1, (0, 0, 0)), (.if_icmp .ge 13, 3, (20, 0, 0)), (.aload_n 0, 1, (0, 0, 0)), (.iload_n 2, 1, (0, 0, 0)), (.iload_n 1, 1, (0, 0, 0)), (.iastore, 1, (0, 0, 0)), (.iinc 2 1, 3, (0, 0, 0)), (.goto (-12), 3, (5, 0, 0))]
def s_J7_fill_53178_20 : List ZN := [(.return_, 1, (0, 0, 0))]
def p_J7_fill_53178 : List (Nat × List ZN) := [(0, s_J7_fill_53178_0), (5, s_J7_fill_53178_5), (20, s_J7_fill_53178_20)]
def s_J3_checkIndex_8e157_0 : List ZN := [(.iload_n 0, 1, (0, 0, 0)), (.ifCond .lt 8, 3, (9, 0, 0)), (.iload_n 0, 1, (0, 0, 0)), (.iload_n 1, 1, (0, 0, 0)), (.if_icmp .lt 10, 3, (16, 0, 0)), (.nop, 0, (9, 0, 0))]
def s_J3_checkIndex_8e157_16 : List ZN := [(.iload_n 0, 1, (0, 0, 0)), (.ireturn, 1, (0, 0, 0))]
def p_J3_checkIndex_8e157 : List (Nat × List ZN) := [(0, s_J3_checkIndex_8e157_0), (16, s_J3_checkIndex_8e157_16)]
def s_X0_init_0 : List ZN := [(.aload_n 0, 1, (0, 0, 0)), (.invokespecial 7, 3, (0, 1, 1)), (.aload_n 0, 1, (0, 0, 0)), (.bipush 19, 2, (0, 0, 0)), (.newarray .boolean, 2, (0, 0, 0)), (.putfield 13, 3, (0, 4, 2)), (.aload_n 0, 1, (0, 0, 0)), (.bipush 19, 2, (0, 0, 0)), (.newarray .int, 2, (0, 0, 0)), (.putfield 17, 3, (0, 5, 2)), (.aload_n 0, 1, (0, 0, 0)), (.bipush 19, 2, (0, 0, 0)), (.newarray .int, 2, (0, 0, 0)), (.putfield 21, 3, (0, 6, 2)), (.aload_n 0, 1, (0, 0, 0)), (.bipush 69, 2, (0, 0, 0)), (.newarray .int, 2, (0, 0, 0)), (.putfield 24, 3, (0, 7, 2)), (.aload_n 0, 1, (0, 0, 0)), (.new 27, 3, (8, 17, 0)), (.dup, 1, (0, 0, 0)), (.invokespecial 29, 3, (j_X8_init, 1, 0)), (.putfield 30, 3, (0, 8, 2)), (.aload_n 0, 1, (0, 0, 0)), (.new 34, 3, (1, 4, 0)), (.dup, 1, (0, 0, 0)), (.invokespecial 36, 3, (j_X1_init, 1, 0)), (.putfield 37, 3, (0, 9, 2)), (.aload_n 0, 1, (0, 0, 0)), (.iconst (-1), 1, (0, 0, 0)), (.putfield 41, 3, (0, 10, 0)), (.return_, 1, (0, 0, 0))]
def p_X0_init : List (Nat × List ZN) := [(0, s_X0_init_0)]
def s_X0_observe_0 : List ZN := [(.iload_n 2, 1, (0, 0, 0)), (.iload_n 3, 1, (0, 0, 0)), (.invokestatic 45, 3, (j_X0_canBe, 2, 0)), (.ifCond .ne 5, 3, (10, 0, 0)), (.iconst 0, 1, (0, 0, 0)), (.ireturn, 1, (1, 0, 0))]
def s_X0_observe_10 : List ZN := [(.aload_n 0, 1, (0, 0, 0)), (.getfield 13, 3, (0, 4, 2)), (.iload_n 1, 1, (0, 0, 0)), (.baload, 1, (0, 0, 0)), (.ifCond .ne 20, 3, (36, 0, 0)), (.aload_n 0, 1, (0, 0, 0)), (.getfield 13, 3, (0, 4, 2)), (.iload_n 1, 1, (0, 0, 0)), (.iconst 1, 1, (0, 0, 0)), (.bastore, 1, (0, 0, 0)), (.aload_n 0, 1, (0, 0, 0)), (.dup, 1, (0, 0, 0)), (.getfield 49, 3, (0, 0, 0)), (.iconst 1, 1, (0, 0, 0)), (.iadd, 1, (0, 0, 0)), (.putfield 49, 3, (0, 0, 0)), (.nop, 0, (36, 0, 0))]
def s_X0_observe_36 : List ZN := [(.aload_n 0, 1, (0, 0, 0)), (.getfield 17, 3, (0, 5, 2)), (.iload_n 1, 1, (0, 0, 0)), (.iload_n 2, 1, (0, 0, 0)), (.iastore, 1, (0, 0, 0)), (.aload_n 0, 1, (0, 0, 0)), (.getfield 21, 3, (0, 6, 2)), (.iload_n 1, 1, (0, 0, 0)), (.iload_n 3, 1, (0, 0, 0)), (.iastore, 1, (0, 0, 0)), (.aload_n 0, 1, (0, 0, 0)), (.iconst (-1), 1, (0, 0, 0)), (.putfield 41, 3, (0, 10, 0)), (.iconst 1, 1, (0, 0, 0)), (.ireturn, 1, (1, 0, 0))]
def p_X0_observe : List (Nat × List ZN) := [(0, s_X0_observe_0), (10, s_X0_observe_10), (36, s_X0_observe_36)]
def s_X0_canBe_0 : List ZN := [(.iload_n 0, 1, (0, 0, 0)), (.iconst (-1), 1, (0, 0, 0)), (.if_icmp .ne 14, 3, (16, 0, 0)), (.iload_n 1, 1, (0, 0, 0)), (.iconst (-1), 1, (0, 0, 0)), (.if_icmp .ne 7, 3, (14, 0, 0)), (.iconst 1, 1, (0, 0, 0)), (.goto 4, 3, (15, 0, 0))]
def s_X0_canBe_14 : List ZN := [(.iconst 0, 1, (0, 0, 0)), (.nop, 0, (15, 0, 0))]
def s_X0_canBe_15 : List ZN := [(.ireturn, 1, (1, 0, 0))]
def s_X0_canBe_16 : List ZN := [(.iload_n 0, 1, (0, 0, 0)), (.iconst 1, 1, (0, 0, 0)), (.if_icmp .lt 13, 3, (31, 0, 0)), (.iload_n 0, 1, (0, 0, 0)), (.bipush 120, 2, (0, 0, 0)), (.if_icmp .gt 7, 3, (31, 0, 0)), (.iconst 1, 1, (0, 0, 0)), (.goto 4, 3, (32, 0, 0))]
def s_X0_canBe_31 : List ZN := [(.iconst 0, 1, (0, 0, 0)), (.nop, 0, (32, 0, 0))]
def s_X0_canBe_32 : List ZN := [(.istore_n 2, 1, (0, 0, 0)), (.iload_n 2, 1, (0, 0, 0)), (.ifCond .eq 23, 3, (57, 0, 0)), (.iload_n 1, 1, (0, 0, 0)), (.iconst (-1), 1, (0, 0, 0)), (.if_icmp .eq 14, 3, (53, 0, 0)), (.iload_n 1, 1, (0, 0, 0)), (.iload_n 0, 1, (0, 0, 0)), (.if_icmp .le 13, 3, (57, 0, 0)), (.iload_n 1, 1, (0, 0, 0)), (.bipush 120, 2, (0, 0, 0)), (.if_icmp .gt 7, 3, (57, 0, 0)), (.nop, 0, (53, 0, 0))]
def s_X0_canBe_53 : List ZN := [(.iconst 1, 1, (0, 0, 0)), (.goto 4, 3, (58, 0, 0))]
def s_X0_canBe_57 : List ZN := [(.iconst 0, 1, (0, 0, 0)), (.nop, 0, (58, 0, 0))]
def s_X0_canBe_58 : List ZN := [(.ireturn, 1, (1, 0, 0))]
def p_X0_canBe : List (Nat × List ZN) := [(0, s_X0_canBe_0), (14, s_X0_canBe_14), (15, s_X0_canBe_15), (16, s_X0_canBe_16), (31, s_X0_canBe_31), (32, s_X0_canBe_32), (53, s_X0_canBe_53), (57, s_X0_canBe_57), (58, s_X0_canBe_58)]
def s_X0_dropObserved_0 : List ZN := [(.aload_n 0, 1, (0, 0, 0)), (.getfield 49, 3, (0, 0, 0)), (.istore_n 1, 1, (0, 0, 0)), (.iconst 0, 1, (0, 0, 0)), (.istore_n 2, 1, (0, 0, 0)), (.nop, 0, (7, 0, 0))]
def s_X0_dropObserved_7 : List ZN := [(.iload_n 2, 1, (0, 0, 0)), (.bipush 19, 2, (0, 0, 0)), (.if_icmp .ge 16, 3, (26, 0, 0)), (.aload_n 0, 1, (0, 0, 0)), (.getfield 13, 3, (0, 4, 2)), (.iload_n 2, 1, (0, 0, 0)), (.iconst 0, 1, (0, 0, 0)), (.bastore, 1, (0, 0, 0)), (.iinc 2 1, 3, (0, 0, 0)), (.goto (-16), 3, (7, 0, 0))]
def s_X0_dropObserved_26 : List ZN := [(.aload_n 0, 1, (0, 0, 0)), (.iconst 0, 1, (0, 0, 0)), (.putfield 49, 3, (0, 0, 0)), (.aload_n 0, 1, (0, 0, 0)), (.iconst (-1), 1, (0, 0, 0)), (.putfield 41, 3, (0, 10, 0)), (.iload_n 1, 1, (0, 0, 0)), (.ireturn, 1, (0, 0, 0))]
def p_X0_dropObserved : List (Nat × List ZN) := [(0, s_X0_dropObserved_0), (7, s_X0_dropObserved_7), (26, s_X0_dropObserved_26)]
def s_X0_seek_0 : List ZN := [(.aload_n 0, 1, (0, 0, 0)), (.getfield 41, 3, (0, 10, 0)), (.iload_n 2, 1, (0, 0, 0)), (.if_icmp .ne 4, 3, (9, 0, 0)), (.return_, 1, (0, 0, 0))]
def s_X0_seek_9 : List ZN := [(.aload_n 0, 1, (0, 0, 0)), (.iload_n 2, 1, (0, 0, 0)), (.putfield 41, 3, (0, 10, 0)), (.aload_n 0, 1, (0, 0, 0)), (.iconst 0, 1, (0, 0, 0)), (.putfield 52, 3, (0, 1, 0)), (.aload_n 0, 1, (0, 0, 0)), (.aload_n 1, 1, (0, 0, 0)), (.iload_n 2, 1, (0, 0, 0)), (.iconst (-1), 1, (0, 0, 0)), (.iconst (-1), 1, (0, 0, 0)), (.invokevirtual 55, 3, (j_X0_explains, 5, 0)), (.ifCond .eq 4, 3, (31, 0, 0)), (.return_, 1, (0, 0, 0))]
def s_X0_seek_31 : List ZN := [(.aload_n 0, 1, (0, 0, 0)), (.getfield 30, 3, (0, 8, 2)), (.getfield 59, 3, (8, 6, 2)), (.iconst 0, 1, (0, 0, 0)), (.iaload, 1, (0, 0, 0)), (.istore_n 3, 1, (0, 0, 0)), (.aload_n 0, 1, (0, 0, 0)), (.iconst 1, 1, (0, 0, 0)), (.putfield 52, 3, (0, 1, 0)), (.iconst 0, 1, (0, 0, 0)), (.istore 4, 2, (0, 0, 0)), (.nop, 0, (49, 0, 0))]
def s_X0_seek_49 : List ZN := [(.iload 4, 2, (0, 0, 0)), (.bipush 69, 2, (0, 0, 0)), (.if_icmp .ge 72, 3, (125, 0, 0)), (.aload_n 0, 1, (0, 0, 0)), (.getfield 24, 3, (0, 7, 2)), (.iload 4, 2, (0, 0, 0)), (.iload_n 3, 1, (0, 0, 0)), (.iastore, 1, (0, 0, 0)), (.aload_n 0, 1, (0, 0, 0)), (.aload_n 1, 1, (0, 0, 0)), (.iload 4, 2, (0, 0, 0)), (.invokevirtual 62, 3, (j_X0_isWorthTrying, 3, 0)), (.ifCond .eq 48, 3, (119, 0, 0)), (.aload_n 1, 1, (0, 0, 0)), (.iload 4, 2, (0, 0, 0)), (.iload_n 3, 1, (0, 0, 0)), (.invokestatic 66, 3, (j_X0_canMatter, 3, 0)), (.ifCond .eq 38, 3, (119, 0, 0)), (.aload_n 0, 1, (0, 0, 0)), (.iload 4, 2, (0, 0, 0)), (.putfield 70, 3, (0, 2, 0)), (.aload_n 0, 1, (0, 0, 0)), (.aload_n 1, 1, (0, 0, 0)), (.iload_n 2, 1, (0, 0, 0)), (.iload 4, 2, (0, 0, 0)), (.iconst (-1), 1, (0, 0, 0)), (.invokevirtual 55, 3, (j_X0_explains, 5, 0)), (.ifCond .eq 4, 3, (103, 0, 0)), (.return_, 1, (0, 0, 0))]
def s_X0_seek_103 : List ZN := [(.aload_n 0, 1, (0, 0, 0)), (.getfield 24, 3, (0, 7, 2)), (.iload 4, 2, (0, 0, 0)), (.aload_n 0, 1, (0, 0, 0)), (.getfield 30, 3, (0, 8, 2)), (.getfield 59, 3, (8, 6, 2)), (.iconst 0, 1, (0, 0, 0)), (.iaload, 1, (0, 0, 0)), (.iastore, 1, (0, 0, 0)), (.nop, 0, (119, 0, 0))]
def s_X0_seek_119 : List ZN := [(.iinc 4 1, 3, (0, 0, 0)), (.goto (-73), 3, (49, 0, 0))]
def s_X0_seek_125 : List ZN := [(.aload_n 0, 1, (0, 0, 0)), (.iconst 2, 1, (0, 0, 0)), (.putfield 52, 3, (0, 1, 0)), (.iconst 0, 1, (0, 0, 0)), (.istore 4, 2, (0, 0, 0)), (.nop, 0, (133, 0, 0))]
def s_X0_seek_133 : List ZN := [(.iload 4, 2, (0, 0, 0)), (.bipush 69, 2, (0, 0, 0)), (.if_icmp .ge 123, 3, (260, 0, 0)), (.aload_n 0, 1, (0, 0, 0)), (.iload 4, 2, (0, 0, 0)), (.putfield 70, 3, (0, 2, 0)), (.aload_n 0, 1, (0, 0, 0)), (.aload_n 1, 1, (0, 0, 0)), (.iload 4, 2, (0, 0, 0)), (.invokevirtual 62, 3, (j_X0_isWorthTrying, 3, 0)), (.ifCond .eq 10, 3, (163, 0, 0)), (.iload 4, 2, (0, 0, 0)), (.iconst 1, 1, (0, 0, 0)), (.iadd, 1, (0, 0, 0)), (.goto 5, 3, (165, 0, 0))]
def s_X0_seek_163 : List ZN := [(.bipush 69, 2, (0, 0, 0)), (.nop, 0, (165, 0, 0))]
def s_X0_seek_165 : List ZN := [(.istore 5, 2, (0, 0, 0)), (.nop, 0, (167, 0, 0))]
def s_X0_seek_167 : List ZN := [(.iload 5, 2, (0, 0, 0)), (.bipush 69, 2, (0, 0, 0)), (.if_icmp .ge 83, 3, (254, 0, 0)), (.aload_n 0, 1, (0, 0, 0)), (.iload 5, 2, (0, 0, 0)), (.putfield 73, 3, (0, 3, 0)), (.aload_n 0, 1, (0, 0, 0)), (.aload_n 1, 1, (0, 0, 0)), (.iload 5, 2, (0, 0, 0)), (.invokevirtual 62, 3, (j_X0_isWorthTrying, 3, 0)), (.ifCond .eq 39, 3, (226, 0, 0)), (.aload_n 1, 1, (0, 0, 0)), (.iload 5, 2, (0, 0, 0)), (.aload_n 0, 1, (0, 0, 0)), (.getfield 24, 3, (0, 7, 2)), (.iload 4, 2, (0, 0, 0)), (.iaload, 1, (0, 0, 0)), (.invokestatic 66, 3, (j_X0_canMatter, 3, 0)), (.ifCond .eq 23, 3, (226, 0, 0)), (.aload_n 1, 1, (0, 0, 0)), (.iload 4, 2, (0, 0, 0)), (.aload_n 0, 1, (0, 0, 0)), (.getfield 24, 3, (0, 7, 2)), (.iload 5, 2, (0, 0, 0)), (.iaload, 1, (0, 0, 0)), (.invokestatic 66, 3, (j_X0_canMatter, 3, 0)), (.ifCond .eq 7, 3, (226, 0, 0)), (.iconst 1, 1, (0, 0, 0)), (.goto 4, 3, (227, 0, 0))]
def s_X0_seek_226 : List ZN := [(.iconst 0, 1, (0, 0, 0)), (.nop, 0, (227, 0, 0))]
def s_X0_seek_227 : List ZN := [(.istore 6, 2, (0, 0, 0)), (.iload 6, 2, (0, 0, 0)), (.ifCond .eq 17, 3, (248, 0, 0)), (.aload_n 0, 1, (0, 0, 0)), (.aload_n 1, 1, (0, 0, 0)), (.iload_n 2, 1, (0, 0, 0)), (.iload 4, 2, (0, 0, 0)), (.iload 5, 2, (0, 0, 0)), (.invokevirtual 55, 3, (j_X0_explains, 5, 0)), (.ifCond .eq 4, 3, (248, 0, 0)), (.return_, 1, (0, 0, 0))]
def s_X0_seek_248 : List ZN := [(.iinc 5 1, 3, (0, 0, 0)), (.goto (-84), 3, (167, 0, 0))]
def s_X0_seek_254 : List ZN := [(.iinc 4 1, 3, (0, 0, 0)), (.goto (-124), 3, (133, 0, 0))]
def s_X0_seek_260 : List ZN := [(.aload_n 0, 1, (0, 0, 0)), (.iconst (-1), 1, (0, 0, 0)), (.putfield 52, 3, (0, 1, 0)), (.return_, 1, (0, 0, 0))]
def p_X0_seek : List (Nat × List ZN) := [(0, s_X0_seek_0), (9, s_X0_seek_9), (31, s_X0_seek_31), (49, s_X0_seek_49), (103, s_X0_seek_103), (119, s_X0_seek_119), (125, s_X0_seek_125), (133, s_X0_seek_133), (163, s_X0_seek_163), (165, s_X0_seek_165), (167, s_X0_seek_167), (226, s_X0_seek_226), (227, s_X0_seek_227), (248, s_X0_seek_248), (254, s_X0_seek_254), (260, s_X0_seek_260)]
def s_X0_isWorthTrying_0 : List ZN := [(.iload_n 2, 1, (0, 0, 0)), (.bipush 30, 2, (0, 0, 0)), (.if_icmp .ge 12, 3, (15, 0, 0)), (.aload_n 1, 1, (0, 0, 0)), (.iload_n 2, 1, (0, 0, 0)), (.bipush 10, 2, (0, 0, 0)), (.irem, 1, (0, 0, 0)), (.invokevirtual 76, 3, (j_X10_hasRoller, 2, 0)), (.ireturn, 1, (1, 0, 0))]
def s_X0_isWorthTrying_15 : List ZN := [(.iload_n 2, 1, (0, 0, 0)), (.bipush 49, 2, (0, 0, 0)), (.if_icmp .ge 41, 3, (59, 0, 0)), (.iload_n 2, 1, (0, 0, 0)), (.bipush 30, 2, (0, 0, 0)), (.isub, 1, (0, 0, 0)), (.istore_n 3, 1, (0, 0, 0)), (.aload_n 1, 1, (0, 0, 0)), (.iload_n 3, 1, (0, 0, 0)), (.invokevirtual 80, 3, (j_X10_hasEye, 2, 0)), (.ifCond .eq 26, 3, (57, 0, 0)), (.aload_n 0, 1, (0, 0, 0)), (.getfield 13, 3, (0, 4, 2)), (.iload_n 3, 1, (0, 0, 0)), (.baload, 1, (0, 0, 0)), (.ifCond .eq 17, 3, (57, 0, 0)), (.aload_n 0, 1, (0, 0, 0)), (.getfield 17, 3, (0, 5, 2)), (.iload_n 3, 1, (0, 0, 0)), (.iaload, 1, (0, 0, 0)), (.iconst (-1), 1, (0, 0, 0)), (.if_icmp .ne 7, 3, (57, 0, 0)), (.iconst 1, 1, (0, 0, 0)), (.goto 4, 3, (58, 0, 0))]
def s_X0_isWorthTrying_57 : List ZN := [(.iconst 0, 1, (0, 0, 0)), (.nop, 0, (58, 0, 0))]
def s_X0_isWorthTrying_58 : List ZN := [(.ireturn, 1, (1, 0, 0))]
def s_X0_isWorthTrying_59 : List ZN := [(.iload_n 2, 1, (0, 0, 0)), (.bipush 49, 2, (0, 0, 0)), (.if_icmp .ne 5, 3, (67, 0, 0)), (.iconst 1, 1, (0, 0, 0)), (.ireturn, 1, (1, 0, 0))]
def s_X0_isWorthTrying_67 : List ZN := [(.iload_n 2, 1, (0, 0, 0)), (.bipush 50, 2, (0, 0, 0)), (.isub, 1, (0, 0, 0)), (.istore_n 3, 1, (0, 0, 0)), (.aload_n 1, 1, (0, 0, 0)), (.iload_n 3, 1, (0, 0, 0)), (.invokevirtual 80, 3, (j_X10_hasEye, 2, 0)), (.ifCond .eq 22, 3, (99, 0, 0)), (.aload_n 1, 1, (0, 0, 0)), (.getfield 83, 3, (10, 5, 2)), (.iload_n 3, 1, (0, 0, 0)), (.iaload, 1, (0, 0, 0)), (.iconst 2, 1, (0, 0, 0)), (.iadd, 1, (0, 0, 0)), (.aload_n 1, 1, (0, 0, 0)), (.getfield 86, 3, (10, 0, 0)), (.if_icmp .gt 7, 3, (99, 0, 0)), (.iconst 1, 1, (0, 0, 0)), (.goto 4, 3, (100, 0, 0))]
def s_X0_isWorthTrying_99 : List ZN := [(.iconst 0, 1, (0, 0, 0)), (.nop, 0, (100, 0, 0))]
def s_X0_isWorthTrying_100 : List ZN := [(.ireturn, 1, (1, 0, 0))]
def p_X0_isWorthTrying : List (Nat × List ZN) := [(0, s_X0_isWorthTrying_0), (15, s_X0_isWorthTrying_15), (57, s_X0_isWorthTrying_57), (58, s_X0_isWorthTrying_58), (59, s_X0_isWorthTrying_59), (67, s_X0_isWorthTrying_67), (99, s_X0_isWorthTrying_99), (100, s_X0_isWorthTrying_100)]
def s_X0_canMatter_0 : List ZN := [(.iload_n 1, 1, (0, 0, 0)), (.bipush 30, 2, (0, 0, 0)), (.if_icmp .ge 25, 3, (28, 0, 0)), (.iload_n 2, 1, (0, 0, 0)), (.aload_n 0, 1, (0, 0, 0)), (.getfield 89, 3, (10, 2, 2)), (.iload_n 1, 1, (0, 0, 0)), (.bipush 10, 2, (0, 0, 0)), (.irem, 1, (0, 0, 0)), (.iaload, 1, (0, 0, 0)), (.bipush 10, 2, (0, 0, 0)), (.imul, 1, (0, 0, 0)), (.if_icmp .lt 7, 3, (26, 0, 0)), (.iconst 1, 1, (0, 0, 0)), (.goto 4, 3, (27, 0, 0))]
def s_X0_canMatter_26 : List ZN := [(.iconst 0, 1, (0, 0, 0)), (.nop, 0, (27, 0, 0))]
def s_X0_canMatter_27 : List ZN := [(.ireturn, 1, (1, 0, 0))]
def s_X0_canMatter_28 : List ZN := [(.iload_n 1, 1, (0, 0, 0)), (.bipush 49, 2, (0, 0, 0)), (.if_icmp .ge 25, 3, (56, 0, 0)), (.iload_n 2, 1, (0, 0, 0)), (.aload_n 0, 1, (0, 0, 0)), (.getfield 83, 3, (10, 5, 2)), (.iload_n 1, 1, (0, 0, 0)), (.bipush 30, 2, (0, 0, 0)), (.isub, 1, (0, 0, 0)), (.iaload, 1, (0, 0, 0)), (.bipush 10, 2, (0, 0, 0)), (.imul, 1, (0, 0, 0)), (.if_icmp .lt 7, 3, (54, 0, 0)), (.iconst 1, 1, (0, 0, 0)), (.goto 4, 3, (55, 0, 0))]
def s_X0_canMatter_54 : List ZN := [(.iconst 0, 1, (0, 0, 0)), (.nop, 0, (55, 0, 0))]
def s_X0_canMatter_55 : List ZN := [(.ireturn, 1, (1, 0, 0))]
def s_X0_canMatter_56 : List ZN := [(.iload_n 1, 1, (0, 0, 0)), (.bipush 49, 2, (0, 0, 0)), (.if_icmp .eq 21, 3, (80, 0, 0)), (.iload_n 2, 1, (0, 0, 0)), (.aload_n 0, 1, (0, 0, 0)), (.getfield 83, 3, (10, 5, 2)), (.iload_n 1, 1, (0, 0, 0)), (.bipush 50, 2, (0, 0, 0)), (.isub, 1, (0, 0, 0)), (.iaload, 1, (0, 0, 0)), (.iconst 2, 1, (0, 0, 0)), (.iadd, 1, (0, 0, 0)), (.bipush 10, 2, (0, 0, 0)), (.imul, 1, (0, 0, 0)), (.if_icmp .le 7, 3, (84, 0, 0)), (.nop, 0, (80, 0, 0))]
def s_X0_canMatter_80 : List ZN := [(.iconst 1, 1, (0, 0, 0)), (.goto 4, 3, (85, 0, 0))]
def s_X0_canMatter_84 : List ZN := [(.iconst 0, 1, (0, 0, 0)), (.nop, 0, (85, 0, 0))]
def s_X0_canMatter_85 : List ZN := [(.ireturn, 1, (1, 0, 0))]
def p_X0_canMatter : List (Nat × List ZN) := [(0, s_X0_canMatter_0), (26, s_X0_canMatter_26), (27, s_X0_canMatter_27), (28, s_X0_canMatter_28), (54, s_X0_canMatter_54), (55, s_X0_canMatter_55), (56, s_X0_canMatter_56), (80, s_X0_canMatter_80), (84, s_X0_canMatter_84), (85, s_X0_canMatter_85)]
def s_X0_explains_0 : List ZN := [(.aload_n 0, 1, (0, 0, 0)), (.getfield 37, 3, (0, 9, 2)), (.invokevirtual 92, 3, (j_X1_reset, 1, 0)), (.aload_n 0, 1, (0, 0, 0)), (.aload_n 1, 1, (0, 0, 0)), (.iload_n 3, 1, (0, 0, 0)), (.invokevirtual 95, 3, (j_X0_putFlaw, 3, 0)), (.aload_n 0, 1, (0, 0, 0)), (.aload_n 1, 1, (0, 0, 0)), (.iload 4, 2, (0, 0, 0)), (.invokevirtual 95, 3, (j_X0_putFlaw, 3, 0)), (.aload_n 0, 1, (0, 0, 0)), (.getfield 30, 3, (0, 8, 2)), (.aload_n 1, 1, (0, 0, 0)), (.aload_n 0, 1, (0, 0, 0)), (.getfield 37, 3, (0, 9, 2)), (.invokevirtual 99, 3, (j_X8_start, 3, 0)), (.aload_n 0, 1, (0, 0, 0)), (.getfield 30, 3, (0, 8, 2)), (.iload_n 3, 1, (0, 0, 0)), (.bipush 49, 2, (0, 0, 0)), (.if_icmp .eq 10, 3, (49, 0, 0)), (.iload 4, 2, (0, 0, 0)), (.bipush 49, 2, (0, 0, 0)), (.if_icmp .ne 10, 3, (56, 0, 0)), (.nop, 0, (49, 0, 0))]
def s_X0_explains_49 : List ZN := [(.iload_n 2, 1, (0, 0, 0)), (.bipush 10, 2, (0, 0, 0)), (.iadd, 1, (0, 0, 0)), (.goto 4, 3, (57, 0, 0))]
def s_X0_explains_56 : List ZN := [(.iload_n 2, 1, (0, 0, 0)), (.nop, 0, (57, 0, 0))]
def s_X0_explains_57 : List ZN := [(.iconst 0, 1, (0, 0, 0)), (.invokevirtual 103, 3, (j_X8_begin, 3, 0)), (.pop, 1, (0, 0, 0)), (.iconst 1, 1, (0, 0, 0)), (.istore 5, 2, (0, 0, 0)), (.nop, 0, (65, 0, 0))]
def s_X0_explains_65 : List ZN := [(.iload 5, 2, (0, 0, 0)), (.bipush 120, 2, (0, 0, 0)), (.if_icmp .gt 51, 3, (120, 0, 0)), (.aload_n 0, 1, (0, 0, 0)), (.getfield 30, 3, (0, 8, 2)), (.invokevirtual 107, 3, (j_X8_carryOn, 1, 0)), (.aload_n 0, 1, (0, 0, 0)), (.aload_n 1, 1, (0, 0, 0)), (.iload 5, 2, (0, 0, 0)), (.iload_n 3, 1, (0, 0, 0)), (.iload 4, 2, (0, 0, 0)), (.invokevirtual 110, 3, (j_X0_isSeenSo, 5, 0)), (.ifCond .ne 5, 3, (94, 0, 0)), (.iconst 0, 1, (0, 0, 0)), (.ireturn, 1, (1, 0, 0))]
def s_X0_explains_94 : List ZN := [(.aload_n 0, 1, (0, 0, 0)), (.getfield 30, 3, (0, 8, 2)), (.getfield 113, 3, (8, 5, 2)), (.iconst 0, 1, (0, 0, 0)), (.iaload, 1, (0, 0, 0)), (.ifCond .eq 11, 3, (114, 0, 0)), (.aload_n 0, 1, (0, 0, 0)), (.aload_n 1, 1, (0, 0, 0)), (.iload 5, 2, (0, 0, 0)), (.invokevirtual 116, 3, (j_X0_allSeenBy, 3, 0)), (.ireturn, 1, (1, 0, 0))]
def s_X0_explains_114 : List ZN := [(.iinc 5 1, 3, (0, 0, 0)), (.goto (-52), 3, (65, 0, 0))]
def s_X0_explains_120 : List ZN := [(.iconst 1, 1, (0, 0, 0)), (.ireturn, 1, (1, 0, 0))]
def p_X0_explains : List (Nat × List ZN) := [(0, s_X0_explains_0), (49, s_X0_explains_49), (56, s_X0_explains_56), (57, s_X0_explains_57), (65, s_X0_explains_65), (94, s_X0_explains_94), (114, s_X0_explains_114), (120, s_X0_explains_120)]
def s_X0_putFlaw_0 : List ZN := [(.iload_n 2, 1, (0, 0, 0)), (.iconst (-1), 1, (0, 0, 0)), (.if_icmp .eq 9, 3, (11, 0, 0)), (.iload_n 2, 1, (0, 0, 0)), (.bipush 49, 2, (0, 0, 0)), (.if_icmp .ne 4, 3, (12, 0, 0)), (.nop, 0, (11, 0, 0))]
def s_X0_putFlaw_11 : List ZN := [(.return_, 1, (0, 0, 0))]
def s_X0_putFlaw_12 : List ZN := [(.iload_n 2, 1, (0, 0, 0)), (.bipush 50, 2, (0, 0, 0)), (.if_icmp .lt 25, 3, (40, 0, 0)), (.aload_n 0, 1, (0, 0, 0)), (.getfield 37, 3, (0, 9, 2)), (.aload_n 1, 1, (0, 0, 0)), (.getfield 83, 3, (10, 5, 2)), (.iload_n 2, 1, (0, 0, 0)), (.bipush 50, 2, (0, 0, 0)), (.isub, 1, (0, 0, 0)), (.iaload, 1, (0, 0, 0)), (.iconst 2, 1, (0, 0, 0)), (.iadd, 1, (0, 0, 0)), (.invokevirtual 119, 3, (j_X1_leaveCorner, 2, 0)), (.pop, 1, (0, 0, 0)), (.goto 79, 3, (116, 0, 0))]
def s_X0_putFlaw_40 : List ZN := [(.iload_n 2, 1, (0, 0, 0)), (.bipush 10, 2, (0, 0, 0)), (.if_icmp .ge 30, 3, (73, 0, 0)), (.aload_n 0, 1, (0, 0, 0)), (.getfield 37, 3, (0, 9, 2)), (.getfield 122, 3, (1, 0, 2)), (.iload_n 2, 1, (0, 0, 0)), (.aload_n 0, 1, (0, 0, 0)), (.getfield 37, 3, (0, 9, 2)), (.getfield 122, 3, (1, 0, 2)), (.iload_n 2, 1, (0, 0, 0)), (.iaload, 1, (0, 0, 0)), (.sipush 200, 3, (0, 0, 0)), (.invokestatic 125, 3, (0, 2, 3)), (.iastore, 1, (0, 0, 0)), (.goto 46, 3, (116, 0, 0))]
def s_X0_putFlaw_73 : List ZN := [(.iload_n 2, 1, (0, 0, 0)), (.bipush 20, 2, (0, 0, 0)), (.if_icmp .ge 21, 3, (97, 0, 0)), (.aload_n 0, 1, (0, 0, 0)), (.getfield 37, 3, (0, 9, 2)), (.getfield 122, 3, (1, 0, 2)), (.iload_n 2, 1, (0, 0, 0)), (.bipush 10, 2, (0, 0, 0)), (.isub, 1, (0, 0, 0)), (.sipush 500, 3, (0, 0, 0)), (.iastore, 1, (0, 0, 0)), (.goto 22, 3, (116, 0, 0))]
def s_X0_putFlaw_97 : List ZN := [(.iload_n 2, 1, (0, 0, 0)), (.bipush 30, 2, (0, 0, 0)), (.if_icmp .ge 16, 3, (116, 0, 0)), (.aload_n 0, 1, (0, 0, 0)), (.getfield 37, 3, (0, 9, 2)), (.getfield 131, 3, (1, 1, 2)), (.iload_n 2, 1, (0, 0, 0)), (.bipush 20, 2, (0, 0, 0)), (.isub, 1, (0, 0, 0)), (.iconst 3, 1, (0, 0, 0)), (.iastore, 1, (0, 0, 0)), (.nop, 0, (116, 0, 0))]
def s_X0_putFlaw_116 : List ZN := [(.return_, 1, (0, 0, 0))]
def p_X0_putFlaw : List (Nat × List ZN) := [(0, s_X0_putFlaw_0), (11, s_X0_putFlaw_11), (12, s_X0_putFlaw_12), (40, s_X0_putFlaw_40), (73, s_X0_putFlaw_73), (97, s_X0_putFlaw_97), (116, s_X0_putFlaw_116)]
def s_X0_isSeenSo_0 : List ZN := [(.iconst 0, 1, (0, 0, 0)), (.istore 5, 2, (0, 0, 0)), (.nop, 0, (3, 0, 0))]
def s_X0_isSeenSo_3 : List ZN := [(.iload 5, 2, (0, 0, 0)), (.aload_n 1, 1, (0, 0, 0)), (.getfield 134, 3, (10, 4, 0)), (.if_icmp .ge 133, 3, (142, 0, 0)), (.aload_n 0, 1, (0, 0, 0)), (.getfield 13, 3, (0, 4, 2)), (.iload 5, 2, (0, 0, 0)), (.baload, 1, (0, 0, 0)), (.ifCond .eq 117, 3, (136, 0, 0)), (.aload_n 0, 1, (0, 0, 0)), (.getfield 17, 3, (0, 5, 2)), (.iload 5, 2, (0, 0, 0)), (.iaload, 1, (0, 0, 0)), (.iconst (-1), 1, (0, 0, 0)), (.if_icmp .eq 40, 3, (70, 0, 0)), (.iload_n 2, 1, (0, 0, 0)), (.aload_n 0, 1, (0, 0, 0)), (.getfield 17, 3, (0, 5, 2)), (.iload 5, 2, (0, 0, 0)), (.iaload, 1, (0, 0, 0)), (.if_icmp .lt 29, 3, (70, 0, 0)), (.aload_n 0, 1, (0, 0, 0)), (.getfield 21, 3, (0, 6, 2)), (.iload 5, 2, (0, 0, 0)), (.iaload, 1, (0, 0, 0)), (.iconst (-1), 1, (0, 0, 0)), (.if_icmp .eq 14, 3, (66, 0, 0)), (.iload_n 2, 1, (0, 0, 0)), (.aload_n 0, 1, (0, 0, 0)), (.getfield 21, 3, (0, 6, 2)), (.iload 5, 2, (0, 0, 0)), (.iaload, 1, (0, 0, 0)), (.if_icmp .ge 7, 3, (70, 0, 0)), (.nop, 0, (66, 0, 0))]
def s_X0_isSeenSo_66 : List ZN := [(.iconst 1, 1, (0, 0, 0)), (.goto 4, 3, (71, 0, 0))]
def s_X0_isSeenSo_70 : List ZN := [(.iconst 0, 1, (0, 0, 0)), (.nop, 0, (71, 0, 0))]
def s_X0_isSeenSo_71 : List ZN := [(.istore 6, 2, (0, 0, 0)), (.iload_n 3, 1, (0, 0, 0)), (.bipush 30, 2, (0, 0, 0)), (.iload 5, 2, (0, 0, 0)), (.iadd, 1, (0, 0, 0)), (.if_icmp .eq 13, 3, (92, 0, 0)), (.iload 4, 2, (0, 0, 0)), (.bipush 30, 2, (0, 0, 0)), (.iload 5, 2, (0, 0, 0)), (.iadd, 1, (0, 0, 0)), (.if_icmp .ne 7, 3, (96, 0, 0)), (.nop, 0, (92, 0, 0))]
def s_X0_isSeenSo_92 : List ZN := [(.iconst 1, 1, (0, 0, 0)), (.goto 4, 3, (97, 0, 0))]
def s_X0_isSeenSo_96 : List ZN := [(.iconst 0, 1, (0, 0, 0)), (.nop, 0, (97, 0, 0))]
def s_X0_isSeenSo_97 : List ZN := [(.istore 7, 2, (0, 0, 0)), (.iload 6, 2, (0, 0, 0)), (.iload 7, 2, (0, 0, 0)), (.ifCond .ne 27, 3, (130, 0, 0)), (.aload_n 0, 1, (0, 0, 0)), (.getfield 30, 3, (0, 8, 2)), (.aload_n 1, 1, (0, 0, 0)), (.getfield 83, 3, (10, 5, 2)), (.iload 5, 2, (0, 0, 0)), (.iaload, 1, (0, 0, 0)), (.bipush 10, 2, (0, 0, 0)), (.imul, 1, (0, 0, 0)), (.invokevirtual 137, 3, (j_X8_isUnderEye, 2, 0)), (.ifCond .eq 7, 3, (130, 0, 0)), (.iconst 1, 1, (0, 0, 0)), (.goto 4, 3, (131, 0, 0))]
def s_X0_isSeenSo_130 : List ZN := [(.iconst 0, 1, (0, 0, 0)), (.nop, 0, (131, 0, 0))]
def s_X0_isSeenSo_131 : List ZN := [(.if_icmp .eq 5, 3, (136, 0, 0)), (.iconst 0, 1, (0, 0, 0)), (.ireturn, 1, (1, 0, 0))]
def s_X0_isSeenSo_136 : List ZN := [(.iinc 5 1, 3, (0, 0, 0)), (.goto (-136), 3, (3, 0, 0))]
def s_X0_isSeenSo_142 : List ZN := [(.iconst 1, 1, (0, 0, 0)), (.ireturn, 1, (1, 0, 0))]
def p_X0_isSeenSo : List (Nat × List ZN) := [(0, s_X0_isSeenSo_0), (3, s_X0_isSeenSo_3), (66, s_X0_isSeenSo_66), (70, s_X0_isSeenSo_70), (71, s_X0_isSeenSo_71), (92, s_X0_isSeenSo_92), (96, s_X0_isSeenSo_96), (97, s_X0_isSeenSo_97), (130, s_X0_isSeenSo_130), (131, s_X0_isSeenSo_131), (136, s_X0_isSeenSo_136), (142, s_X0_isSeenSo_142)]
def s_X0_allSeenBy_0 : List ZN := [(.iconst 0, 1, (0, 0, 0)), (.istore_n 3, 1, (0, 0, 0)), (.nop, 0, (2, 0, 0))]
def s_X0_allSeenBy_2 : List ZN := [(.iload_n 3, 1, (0, 0, 0)), (.aload_n 1, 1, (0, 0, 0)), (.getfield 134, 3, (10, 4, 0)), (.if_icmp .ge 40, 3, (47, 0, 0)), (.aload_n 0, 1, (0, 0, 0)), (.getfield 13, 3, (0, 4, 2)), (.iload_n 3, 1, (0, 0, 0)), (.baload, 1, (0, 0, 0)), (.ifCond .eq 25, 3, (41, 0, 0)), (.aload_n 0, 1, (0, 0, 0)), (.getfield 17, 3, (0, 5, 2)), (.iload_n 3, 1, (0, 0, 0)), (.iaload, 1, (0, 0, 0)), (.iload_n 2, 1, (0, 0, 0)), (.if_icmp .gt 13, 3, (39, 0, 0)), (.aload_n 0, 1, (0, 0, 0)), (.getfield 21, 3, (0, 6, 2)), (.iload_n 3, 1, (0, 0, 0)), (.iaload, 1, (0, 0, 0)), (.iload_n 2, 1, (0, 0, 0)), (.if_icmp .le 5, 3, (41, 0, 0)), (.nop, 0, (39, 0, 0))]
def s_X0_allSeenBy_39 : List ZN := [(.iconst 0, 1, (0, 0, 0)), (.ireturn, 1, (1, 0, 0))]
def s_X0_allSeenBy_41 : List ZN := [(.iinc 3 1, 3, (0, 0, 0)), (.goto (-42), 3, (2, 0, 0))]
def s_X0_allSeenBy_47 : List ZN := [(.iconst 1, 1, (0, 0, 0)), (.ireturn, 1, (1, 0, 0))]
def p_X0_allSeenBy : List (Nat × List ZN) := [(0, s_X0_allSeenBy_0), (2, s_X0_allSeenBy_2), (39, s_X0_allSeenBy_39), (41, s_X0_allSeenBy_41), (47, s_X0_allSeenBy_47)]
def s_X0_firstToFail_0 : List ZN := [(.aload_n 0, 1, (0, 0, 0)), (.getfield 37, 3, (0, 9, 2)), (.aload_n 2, 1, (0, 0, 0)), (.invokevirtual 140, 3, (j_X1_becomeLike, 2, 0)), (.iconst 1, 1, (0, 0, 0)), (.istore 6, 2, (0, 0, 0)), (.nop, 0, (11, 0, 0))]
def s_X0_firstToFail_11 : List ZN := [(.iload 6, 2, (0, 0, 0)), (.bipush 60, 2, (0, 0, 0)), (.if_icmp .gt 111, 3, (126, 0, 0)), (.aload_n 0, 1, (0, 0, 0)), (.getfield 37, 3, (0, 9, 2)), (.getfield 122, 3, (1, 0, 2)), (.iload_n 3, 1, (0, 0, 0)), (.sipush 1000, 3, (0, 0, 0)), (.aload_n 0, 1, (0, 0, 0)), (.getfield 37, 3, (0, 9, 2)), (.getfield 122, 3, (1, 0, 2)), (.iload_n 3, 1, (0, 0, 0)), (.iaload, 1, (0, 0, 0)), (.iload 4, 2, (0, 0, 0)), (.iadd, 1, (0, 0, 0)), (.invokestatic 144, 3, (0, 2, 4)), (.iastore, 1, (0, 0, 0)), (.aload_n 0, 1, (0, 0, 0)), (.getfield 30, 3, (0, 8, 2)), (.aload_n 1, 1, (0, 0, 0)), (.aload_n 0, 1, (0, 0, 0)), (.getfield 37, 3, (0, 9, 2)), (.invokevirtual 99, 3, (j_X8_start, 3, 0)), (.aload_n 0, 1, (0, 0, 0)), (.getfield 30, 3, (0, 8, 2)), (.iload 5, 2, (0, 0, 0)), (.iconst 0, 1, (0, 0, 0)), (.invokevirtual 103, 3, (j_X8_begin, 3, 0)), (.pop, 1, (0, 0, 0)), (.iconst 0, 1, (0, 0, 0)), (.istore 7, 2, (0, 0, 0)), (.nop, 0, (71, 0, 0))]
def s_X0_firstToFail_71 : List ZN := [(.iload 7, 2, (0, 0, 0)), (.sipush 400, 3, (0, 0, 0)), (.if_icmp .ge 28, 3, (104, 0, 0)), (.aload_n 0, 1, (0, 0, 0)), (.getfield 30, 3, (0, 8, 2)), (.getfield 113, 3, (8, 5, 2)), (.iconst 0, 1, (0, 0, 0)), (.iaload, 1, (0, 0, 0)), (.ifCond .ne 16, 3, (104, 0, 0)), (.aload_n 0, 1, (0, 0, 0)), (.getfield 30, 3, (0, 8, 2)), (.invokevirtual 107, 3, (j_X8_carryOn, 1, 0)), (.iinc 7 1, 3, (0, 0, 0)), (.goto (-30), 3, (71, 0, 0))]
def s_X0_firstToFail_104 : List ZN := [(.aload_n 0, 1, (0, 0, 0)), (.getfield 30, 3, (0, 8, 2)), (.getfield 113, 3, (8, 5, 2)), (.iconst 0, 1, (0, 0, 0)), (.iaload, 1, (0, 0, 0)), (.iconst 2, 1, (0, 0, 0)), (.if_icmp .eq 6, 3, (120, 0, 0)), (.iload 6, 2, (0, 0, 0)), (.ireturn, 1, (0, 0, 0))]
def s_X0_firstToFail_120 : List ZN := [(.iinc 6 1, 3, (0, 0, 0)), (.goto (-112), 3, (11, 0, 0))]
def s_X0_firstToFail_126 : List ZN := [(.iconst (-1), 1, (0, 0, 0)), (.ireturn, 1, (0, 0, 0))]
def p_X0_firstToFail : List (Nat × List ZN) := [(0, s_X0_firstToFail_0), (11, s_X0_firstToFail_11), (71, s_X0_firstToFail_71), (104, s_X0_firstToFail_104), (120, s_X0_firstToFail_120), (126, s_X0_firstToFail_126)]
def s_X1_init_0 : List ZN := [(.aload_n 0, 1, (0, 0, 0)), (.invokespecial 3, 3, (0, 1, 1)), (.aload_n 0, 1, (0, 0, 0)), (.bipush 10, 2, (0, 0, 0)), (.newarray .int, 2, (0, 0, 0)), (.putfield 11, 3, (1, 0, 2)), (.aload_n 0, 1, (0, 0, 0)), (.bipush 10, 2, (0, 0, 0)), (.newarray .int, 2, (0, 0, 0)), (.putfield 17, 3, (1, 1, 2)), (.aload_n 0, 1, (0, 0, 0)), (.iconst 3, 1, (0, 0, 0)), (.newarray .int, 2, (0, 0, 0)), (.putfield 20, 3, (1, 2, 2)), (.return_, 1, (0, 0, 0))]
def p_X1_init : List (Nat × List ZN) := [(0, s_X1_init_0)]
def s_X1_reset_0 : List ZN := [(.aload_n 0, 1, (0, 0, 0)), (.getfield 11, 3, (1, 0, 2)), (.iconst 0, 1, (0, 0, 0)), (.invokestatic 23, 3, (j_J7_fill_53178, 2, 0)), (.aload_n 0, 1, (0, 0, 0)), (.getfield 17, 3, (1, 1, 2)), (.iconst 0, 1, (0, 0, 0)), (.invokestatic 23, 3, (j_J7_fill_53178, 2, 0)), (.aload_n 0, 1, (0, 0, 0)), (.iconst 0, 1, (0, 0, 0)), (.putfield 29, 3, (1, 3, 0)), (.return_, 1, (0, 0, 0))]
def p_X1_reset : List (Nat × List ZN) := [(0, s_X1_reset_0)]
def s_X1_becomeLike_0 : List ZN := [(.aload_n 1, 1, (0, 0, 0)), (.getfield 11, 3, (1, 0, 2)), (.iconst 0, 1, (0, 0, 0)), (.aload_n 0, 1, (0, 0, 0)), (.getfield 11, 3, (1, 0, 2)), (.iconst 0, 1, (0, 0, 0)), (.aload_n 0, 1, (0, 0, 0)), (.getfield 11, 3, (1, 0, 2)), (.arraylength, 1, (0, 0, 0)), (.invokestatic 33, 3, (0, 5, 2)), (.aload_n 1, 1, (0, 0, 0)), (.getfield 17, 3, (1, 1, 2)), (.iconst 0, 1, (0, 0, 0)), (.aload_n 0, 1, (0, 0, 0)), (.getfield 17, 3, (1, 1, 2)), (.iconst 0, 1, (0, 0, 0)), (.aload_n 0, 1, (0, 0, 0)), (.getfield 17, 3, (1, 1, 2)), (.arraylength, 1, (0, 0, 0)), (.invokestatic 33, 3, (0, 5, 2)), (.aload_n 1, 1, (0, 0, 0)), (.getfield 20, 3, (1, 2, 2)), (.iconst 0, 1, (0, 0, 0)), (.aload_n 0, 1, (0, 0, 0)), (.getfield 20, 3, (1, 2, 2)), (.iconst 0, 1, (0, 0, 0)), (.aload_n 0, 1, (0, 0, 0)), (.getfield 20, 3, (1, 2, 2)), (.arraylength, 1, (0, 0, 0)), (.invokestatic 33, 3, (0, 5, 2)), (.aload_n 0, 1, (0, 0, 0)), (.aload_n 1, 1, (0, 0, 0)), (.getfield 29, 3, (1, 3, 0)), (.putfield 29, 3, (1, 3, 0)), (.return_, 1, (0, 0, 0))]
def p_X1_becomeLike : List (Nat × List ZN) := [(0, s_X1_becomeLike_0)]
def s_X1_changeWear_0 : List ZN := [(.iload_n 2, 1, (0, 0, 0)), (.ifCond .lt 10, 3, (11, 0, 0)), (.iload_n 2, 1, (0, 0, 0)), (.sipush 1000, 3, (0, 0, 0)), (.if_icmp .le 6, 3, (14, 0, 0)), (.nop, 0, (11, 0, 0))]
def s_X1_changeWear_11 : List ZN := [(.bipush (-3), 2, (0, 0, 0)), (.ireturn, 1, (0, 0, 0))]
def s_X1_changeWear_14 : List ZN := [(.aload_n 0, 1, (0, 0, 0)), (.getfield 11, 3, (1, 0, 2)), (.iload_n 1, 1, (0, 0, 0)), (.iaload, 1, (0, 0, 0)), (.istore_n 3, 1, (0, 0, 0)), (.aload_n 0, 1, (0, 0, 0)), (.getfield 11, 3, (1, 0, 2)), (.iload_n 1, 1, (0, 0, 0)), (.iload_n 2, 1, (0, 0, 0)), (.iastore, 1, (0, 0, 0)), (.iload_n 3, 1, (0, 0, 0)), (.ireturn, 1, (0, 0, 0))]
def p_X1_changeWear : List (Nat × List ZN) := [(0, s_X1_changeWear_0), (11, s_X1_changeWear_11), (14, s_X1_changeWear_14)]
def s_X1_changeBeat_0 : List ZN := [(.iload_n 2, 1, (0, 0, 0)), (.ifCond .eq 17, 3, (18, 0, 0)), (.iload_n 2, 1, (0, 0, 0)), (.iconst 2, 1, (0, 0, 0)), (.if_icmp .lt 9, 3, (15, 0, 0)), (.iload_n 2, 1, (0, 0, 0)), (.bipush 20, 2, (0, 0, 0)), (.if_icmp .le 6, 3, (18, 0, 0)), (.nop, 0, (15, 0, 0))]
def s_X1_changeBeat_15 : List ZN := [(.bipush (-3), 2, (0, 0, 0)), (.ireturn, 1, (0, 0, 0))]
def s_X1_changeBeat_18 : List ZN := [(.aload_n 0, 1, (0, 0, 0)), (.getfield 17, 3, (1, 1, 2)), (.iload_n 1, 1, (0, 0, 0)), (.iaload, 1, (0, 0, 0)), (.istore_n 3, 1, (0, 0, 0)), (.aload_n 0, 1, (0, 0, 0)), (.getfield 17, 3, (1, 1, 2)), (.iload_n 1, 1, (0, 0, 0)), (.iload_n 2, 1, (0, 0, 0)), (.iastore, 1, (0, 0, 0)), (.iload_n 3, 1, (0, 0, 0)), (.ireturn, 1, (0, 0, 0))]
def p_X1_changeBeat : List (Nat × List ZN) := [(0, s_X1_changeBeat_0), (15, s_X1_changeBeat_15), (18, s_X1_changeBeat_18)]
def s_X1_leaveCorner_0 : List ZN := [(.aload_n 0, 1, (0, 0, 0)), (.getfield 29, 3, (1, 3, 0)), (.iconst 3, 1, (0, 0, 0)), (.if_icmp .ge 12, 3, (17, 0, 0)), (.aload_n 0, 1, (0, 0, 0)), (.iload_n 1, 1, (0, 0, 0)), (.invokevirtual 39, 3, (j_X1_cornerAt, 2, 0)), (.iconst (-1), 1, (0, 0, 0)), (.if_icmp .eq 5, 3, (19, 0, 0)), (.nop, 0, (17, 0, 0))]
def s_X1_leaveCorner_17 : List ZN := [(.iconst 0, 1, (0, 0, 0)), (.ireturn, 1, (1, 0, 0))]
def s_X1_leaveCorner_19 : List ZN := [(.aload_n 0, 1, (0, 0, 0)), (.getfield 20, 3, (1, 2, 2)), (.aload_n 0, 1, (0, 0, 0)), (.getfield 29, 3, (1, 3, 0)), (.iload_n 1, 1, (0, 0, 0)), (.iastore, 1, (0, 0, 0)), (.aload_n 0, 1, (0, 0, 0)), (.dup, 1, (0, 0, 0)), (.getfield 29, 3, (1, 3, 0)), (.iconst 1, 1, (0, 0, 0)), (.iadd, 1, (0, 0, 0)), (.putfield 29, 3, (1, 3, 0)), (.iconst 1, 1, (0, 0, 0)), (.ireturn, 1, (1, 0, 0))]
def p_X1_leaveCorner : List (Nat × List ZN) := [(0, s_X1_leaveCorner_0), (17, s_X1_leaveCorner_17), (19, s_X1_leaveCorner_19)]
def s_X1_takeCorner_0 : List ZN := [(.aload_n 0, 1, (0, 0, 0)), (.iload_n 1, 1, (0, 0, 0)), (.invokevirtual 39, 3, (j_X1_cornerAt, 2, 0)), (.istore_n 2, 1, (0, 0, 0)), (.iload_n 2, 1, (0, 0, 0)), (.iconst (-1), 1, (0, 0, 0)), (.if_icmp .ne 5, 3, (13, 0, 0)), (.iconst 0, 1, (0, 0, 0)), (.ireturn, 1, (1, 0, 0))]
def s_X1_takeCorner_13 : List ZN := [(.aload_n 0, 1, (0, 0, 0)), (.dup, 1, (0, 0, 0)), (.getfield 29, 3, (1, 3, 0)), (.iconst 1, 1, (0, 0, 0)), (.isub, 1, (0, 0, 0)), (.putfield 29, 3, (1, 3, 0)), (.aload_n 0, 1, (0, 0, 0)), (.getfield 20, 3, (1, 2, 2)), (.iload_n 2, 1, (0, 0, 0)), (.aload_n 0, 1, (0, 0, 0)), (.getfield 20, 3, (1, 2, 2)), (.aload_n 0, 1, (0, 0, 0)), (.getfield 29, 3, (1, 3, 0)), (.iaload, 1, (0, 0, 0)), (.iastore, 1, (0, 0, 0)), (.iconst 1, 1, (0, 0, 0)), (.ireturn, 1, (1, 0, 0))]
def p_X1_takeCorner : List (Nat × List ZN) := [(0, s_X1_takeCorner_0), (13, s_X1_takeCorner_13)]
def s_X1_cornerAt_0 : List ZN := [(.iconst 0, 1, (0, 0, 0)), (.istore_n 2, 1, (0, 0, 0)), (.nop, 0, (2, 0, 0))]
def s_X1_cornerAt_2 : List ZN := [(.iload_n 2, 1, (0, 0, 0)), (.aload_n 0, 1, (0, 0, 0)), (.getfield 29, 3, (1, 3, 0)), (.if_icmp .ge 21, 3, (28, 0, 0)), (.aload_n 0, 1, (0, 0, 0)), (.getfield 20, 3, (1, 2, 2)), (.iload_n 2, 1, (0, 0, 0)), (.iaload, 1, (0, 0, 0)), (.iload_n 1, 1, (0, 0, 0)), (.if_icmp .ne 5, 3, (22, 0, 0)), (.iload_n 2, 1, (0, 0, 0)), (.ireturn, 1, (0, 0, 0))]
def s_X1_cornerAt_22 : List ZN := [(.iinc 2 1, 3, (0, 0, 0)), (.goto (-23), 3, (2, 0, 0))]
def s_X1_cornerAt_28 : List ZN := [(.iconst (-1), 1, (0, 0, 0)), (.ireturn, 1, (0, 0, 0))]
def p_X1_cornerAt : List (Nat × List ZN) := [(0, s_X1_cornerAt_0), (2, s_X1_cornerAt_2), (22, s_X1_cornerAt_22), (28, s_X1_cornerAt_28)]
def s_X1_cornerLimit_0 : List ZN := [(.ldc 43, 2, (0, 0, 1000000)), (.istore_n 2, 1, (0, 0, 0)), (.iconst 0, 1, (0, 0, 0)), (.istore_n 3, 1, (0, 0, 0)), (.nop, 0, (5, 0, 0))]
def s_X1_cornerLimit_5 : List ZN := [(.iload_n 3, 1, (0, 0, 0)), (.aload_n 0, 1, (0, 0, 0)), (.getfield 29, 3, (1, 3, 0)), (.if_icmp .ge 35, 3, (45, 0, 0)), (.aload_n 0, 1, (0, 0, 0)), (.getfield 20, 3, (1, 2, 2)), (.iload_n 3, 1, (0, 0, 0)), (.iaload, 1, (0, 0, 0)), (.bipush 10, 2, (0, 0, 0)), (.imul, 1, (0, 0, 0)), (.istore 4, 2, (0, 0, 0)), (.iload 4, 2, (0, 0, 0)), (.iload_n 1, 1, (0, 0, 0)), (.if_icmp .lt 12, 3, (39, 0, 0)), (.iload 4, 2, (0, 0, 0)), (.iload_n 2, 1, (0, 0, 0)), (.if_icmp .ge 6, 3, (39, 0, 0)), (.iload 4, 2, (0, 0, 0)), (.istore_n 2, 1, (0, 0, 0)), (.nop, 0, (39, 0, 0))]
def s_X1_cornerLimit_39 : List ZN := [(.iinc 3 1, 3, (0, 0, 0)), (.goto (-37), 3, (5, 0, 0))]
def s_X1_cornerLimit_45 : List ZN := [(.iload_n 2, 1, (0, 0, 0)), (.ireturn, 1, (0, 0, 0))]
def p_X1_cornerLimit : List (Nat × List ZN) := [(0, s_X1_cornerLimit_0), (5, s_X1_cornerLimit_5), (39, s_X1_cornerLimit_39), (45, s_X1_cornerLimit_45)]
def s_X1_driveOf_0 : List ZN := [(.iconst 0, 1, (0, 0, 0)), (.istore 5, 2, (0, 0, 0)), (.iconst 0, 1, (0, 0, 0)), (.istore 6, 2, (0, 0, 0)), (.nop, 0, (6, 0, 0))]
def s_X1_driveOf_6 : List ZN := [(.iload 6, 2, (0, 0, 0)), (.aload_n 1, 1, (0, 0, 0)), (.getfield 44, 3, (10, 1, 0)), (.if_icmp .ge 112, 3, (124, 0, 0)), (.aload_n 1, 1, (0, 0, 0)), (.getfield 47, 3, (10, 2, 2)), (.iload 6, 2, (0, 0, 0)), (.iaload, 1, (0, 0, 0)), (.bipush 10, 2, (0, 0, 0)), (.imul, 1, (0, 0, 0)), (.istore 7, 2, (0, 0, 0)), (.aload_n 0, 1, (0, 0, 0)), (.getfield 17, 3, (1, 1, 2)), (.iload 6, 2, (0, 0, 0)), (.iaload, 1, (0, 0, 0)), (.ifCond .eq 20, 3, (54, 0, 0)), (.iload 4, 2, (0, 0, 0)), (.aload_n 0, 1, (0, 0, 0)), (.getfield 17, 3, (1, 1, 2)), (.iload 6, 2, (0, 0, 0)), (.iaload, 1, (0, 0, 0)), (.irem, 1, (0, 0, 0)), (.ifCond .ne 7, 3, (54, 0, 0)), (.iconst 1, 1, (0, 0, 0)), (.goto 4, 3, (55, 0, 0))]
def s_X1_driveOf_54 : List ZN := [(.iconst 0, 1, (0, 0, 0)), (.nop, 0, (55, 0, 0))]
def s_X1_driveOf_55 : List ZN := [(.istore 8, 2, (0, 0, 0)), (.bipush 10, 2, (0, 0, 0)), (.aload_n 1, 1, (0, 0, 0)), (.getfield 50, 3, (10, 3, 2)), (.iload 6, 2, (0, 0, 0)), (.iaload, 1, (0, 0, 0)), (.imul, 1, (0, 0, 0)), (.sipush 1000, 3, (0, 0, 0)), (.aload_n 0, 1, (0, 0, 0)), (.getfield 11, 3, (1, 0, 2)), (.iload 6, 2, (0, 0, 0)), (.iaload, 1, (0, 0, 0)), (.isub, 1, (0, 0, 0)), (.aload_n 1, 1, (0, 0, 0)), (.getfield 53, 3, (10, 10, 0)), (.isub, 1, (0, 0, 0)), (.imul, 1, (0, 0, 0)), (.sipush 1000, 3, (0, 0, 0)), (.idiv, 1, (0, 0, 0)), (.istore 9, 2, (0, 0, 0)), (.iload 7, 2, (0, 0, 0)), (.iload_n 3, 1, (0, 0, 0)), (.if_icmp .le 25, 3, (118, 0, 0)), (.iload 7, 2, (0, 0, 0)), (.iload_n 2, 1, (0, 0, 0)), (.if_icmp .gt 19, 3, (118, 0, 0)), (.iload 8, 2, (0, 0, 0)), (.ifCond .ne 14, 3, (118, 0, 0)), (.iload 9, 2, (0, 0, 0)), (.iload 5, 2, (0, 0, 0)), (.if_icmp .le 7, 3, (118, 0, 0)), (.iload 9, 2, (0, 0, 0)), (.istore 5, 2, (0, 0, 0)), (.nop, 0, (118, 0, 0))]
def s_X1_driveOf_118 : List ZN := [(.iinc 6 1, 3, (0, 0, 0)), (.goto (-115), 3, (6, 0, 0))]
def s_X1_driveOf_124 : List ZN := [(.iload 5, 2, (0, 0, 0)), (.ireturn, 1, (0, 0, 0))]
def p_X1_driveOf : List (Nat × List ZN) := [(0, s_X1_driveOf_0), (6, s_X1_driveOf_6), (54, s_X1_driveOf_54), (55, s_X1_driveOf_55), (118, s_X1_driveOf_118), (124, s_X1_driveOf_124)]
def s_X2_init_0 : List ZN := [(.aload_n 0, 1, (0, 0, 0)), (.invokespecial 3, 3, (0, 1, 1)), (.aload_n 0, 1, (0, 0, 0)), (.bipush 8, 2, (0, 0, 0)), (.newarray .int, 2, (0, 0, 0)), (.putfield 11, 3, (2, 1, 2)), (.aload_n 0, 1, (0, 0, 0)), (.bipush 8, 2, (0, 0, 0)), (.newarray .boolean, 2, (0, 0, 0)), (.putfield 15, 3, (2, 2, 2)), (.aload_n 0, 1, (0, 0, 0)), (.iconst 4, 1, (0, 0, 0)), (.newarray .int, 2, (0, 0, 0)), (.putfield 19, 3, (2, 3, 2)), (.aload_n 0, 1, (0, 0, 0)), (.iconst 4, 1, (0, 0, 0)), (.newarray .boolean, 2, (0, 0, 0)), (.putfield 22, 3, (2, 4, 2)), (.aload_n 0, 1, (0, 0, 0)), (.iconst 1, 1, (0, 0, 0)), (.putfield 25, 3, (2, 5, 0)), (.aload_n 0, 1, (0, 0, 0)), (.bipush 30, 2, (0, 0, 0)), (.putfield 29, 3, (2, 7, 0)), (.aload_n 0, 1, (0, 0, 0)), (.iconst 1, 1, (0, 0, 0)), (.putfield 32, 3, (2, 10, 0)), (.aload_n 0, 1, (0, 0, 0)), (.iconst 1, 1, (0, 0, 0)), (.putfield 35, 3, (2, 11, 0)), (.aload_n 0, 1, (0, 0, 0)), (.bipush 60, 2, (0, 0, 0)), (.newarray .int, 2, (0, 0, 0)), (.putfield 38, 3, (2, 13, 2)), (.aload_n 0, 1, (0, 0, 0)), (.bipush 10, 2, (0, 0, 0)), (.newarray .int, 2, (0, 0, 0)), (.putfield 41, 3, (2, 14, 2)), (.aload_n 0, 1, (0, 0, 0)), (.bipush 10, 2, (0, 0, 0)), (.newarray .int, 2, (0, 0, 0)), (.putfield 44, 3, (2, 15, 2)), (.aload_n 0, 1, (0, 0, 0)), (.bipush 10, 2, (0, 0, 0)), (.newarray .int, 2, (0, 0, 0)), (.putfield 47, 3, (2, 16, 2)), (.aload_n 0, 1, (0, 0, 0)), (.bipush 10, 2, (0, 0, 0)), (.newarray .boolean, 2, (0, 0, 0)), (.putfield 50, 3, (2, 17, 2)), (.return_, 1, (0, 0, 0))]
def p_X2_init : List (Nat × List ZN) := [(0, s_X2_init_0)]
def s_X2_addPage_0 : List ZN := [(.aload_n 0, 1, (0, 0, 0)), (.getfield 53, 3, (2, 0, 0)), (.bipush 8, 2, (0, 0, 0)), (.if_icmp .lt 6, 3, (12, 0, 0)), (.bipush (-4), 2, (0, 0, 0)), (.ireturn, 1, (0, 0, 0))]
def s_X2_addPage_12 : List ZN := [(.aload_n 0, 1, (0, 0, 0)), (.getfield 11, 3, (2, 1, 2)), (.aload_n 0, 1, (0, 0, 0)), (.getfield 53, 3, (2, 0, 0)), (.iload_n 1, 1, (0, 0, 0)), (.iastore, 1, (0, 0, 0)), (.aload_n 0, 1, (0, 0, 0)), (.getfield 15, 3, (2, 2, 2)), (.aload_n 0, 1, (0, 0, 0)), (.getfield 53, 3, (2, 0, 0)), (.iload_n 2, 1, (0, 0, 0)), (.bastore, 1, (0, 0, 0)), (.aload_n 0, 1, (0, 0, 0)), (.dup, 1, (0, 0, 0)), (.getfield 53, 3, (2, 0, 0)), (.iconst 1, 1, (0, 0, 0)), (.iadd, 1, (0, 0, 0)), (.putfield 53, 3, (2, 0, 0)), (.aload_n 0, 1, (0, 0, 0)), (.getfield 53, 3, (2, 0, 0)), (.iconst 1, 1, (0, 0, 0)), (.isub, 1, (0, 0, 0)), (.ireturn, 1, (0, 0, 0))]
def p_X2_addPage : List (Nat × List ZN) := [(0, s_X2_addPage_0), (12, s_X2_addPage_12)]
def s_X2_stackSides_0 : List ZN := [(.iconst 0, 1, (0, 0, 0)), (.istore_n 1, 1, (0, 0, 0)), (.iconst 0, 1, (0, 0, 0)), (.istore_n 2, 1, (0, 0, 0)), (.nop, 0, (4, 0, 0))]
def s_X2_stackSides_4 : List ZN := [(.iload_n 2, 1, (0, 0, 0)), (.aload_n 0, 1, (0, 0, 0)), (.getfield 56, 3, (2, 12, 0)), (.if_icmp .ge 31, 3, (40, 0, 0)), (.iload_n 1, 1, (0, 0, 0)), (.aload_n 0, 1, (0, 0, 0)), (.getfield 15, 3, (2, 2, 2)), (.aload_n 0, 1, (0, 0, 0)), (.getfield 38, 3, (2, 13, 2)), (.iload_n 2, 1, (0, 0, 0)), (.iaload, 1, (0, 0, 0)), (.baload, 1, (0, 0, 0)), (.ifCond .eq 7, 3, (31, 0, 0)), (.iconst 2, 1, (0, 0, 0)), (.goto 4, 3, (32, 0, 0))]
def s_X2_stackSides_31 : List ZN := [(.iconst 1, 1, (0, 0, 0)), (.nop, 0, (32, 0, 0))]
def s_X2_stackSides_32 : List ZN := [(.iadd, 1, (0, 0, 0)), (.istore_n 1, 1, (0, 0, 0)), (.iinc 2 1, 3, (0, 0, 0)), (.goto (-33), 3, (4, 0, 0))]
def s_X2_stackSides_40 : List ZN := [(.iload_n 1, 1, (0, 0, 0)), (.ireturn, 1, (0, 0, 0))]
def p_X2_stackSides : List (Nat × List ZN) := [(0, s_X2_stackSides_0), (4, s_X2_stackSides_4), (31, s_X2_stackSides_31), (32, s_X2_stackSides_32), (40, s_X2_stackSides_40)]
def s_X2_becomeLike_0 : List ZN := [(.aload_n 0, 1, (0, 0, 0)), (.aload_n 1, 1, (0, 0, 0)), (.getfield 53, 3, (2, 0, 0)), (.putfield 53, 3, (2, 0, 0)), (.aload_n 1, 1, (0, 0, 0)), (.getfield 11, 3, (2, 1, 2)), (.iconst 0, 1, (0, 0, 0)), (.aload_n 0, 1, (0, 0, 0)), (.getfield 11, 3, (2, 1, 2)), (.iconst 0, 1, (0, 0, 0)), (.bipush 8, 2, (0, 0, 0)), (.invokestatic 59, 3, (0, 5, 2)), (.aload_n 1, 1, (0, 0, 0)), (.getfield 15, 3, (2, 2, 2)), (.iconst 0, 1, (0, 0, 0)), (.aload_n 0, 1, (0, 0, 0)), (.getfield 15, 3, (2, 2, 2)), (.iconst 0, 1, (0, 0, 0)), (.bipush 8, 2, (0, 0, 0)), (.invokestatic 59, 3, (0, 5, 2)), (.aload_n 1, 1, (0, 0, 0)), (.getfield 19, 3, (2, 3, 2)), (.iconst 0, 1, (0, 0, 0)), (.aload_n 0, 1, (0, 0, 0)), (.getfield 19, 3, (2, 3, 2)), (.iconst 0, 1, (0, 0, 0)), (.iconst 4, 1, (0, 0, 0)), (.invokestatic 59, 3, (0, 5, 2)), (.aload_n 1, 1, (0, 0, 0)), (.getfield 22, 3, (2, 4, 2)), (.iconst 0, 1, (0, 0, 0)), (.aload_n 0, 1, (0, 0, 0)), (.getfield 22, 3, (2, 4, 2)), (.iconst 0, 1, (0, 0, 0)), (.iconst 4, 1, (0, 0, 0)), (.invokestatic 59, 3, (0, 5, 2)), (.aload_n 0, 1, (0, 0, 0)), (.aload_n 1, 1, (0, 0, 0)), (.getfield 25, 3, (2, 5, 0)), (.putfield 25, 3, (2, 5, 0)), (.aload_n 0, 1, (0, 0, 0)), (.aload_n 1, 1, (0, 0, 0)), (.getfield 65, 3, (2, 6, 0)), (.putfield 65, 3, (2, 6, 0)), (.aload_n 0, 1, (0, 0, 0)), (.aload_n 1, 1, (0, 0, 0)), (.getfield 29, 3, (2, 7, 0)), (.putfield 29, 3, (2, 7, 0)), (.aload_n 0, 1, (0, 0, 0)), (.aload_n 1, 1, (0, 0, 0)), (.getfield 68, 3, (2, 8, 0)), (.putfield 68, 3, (2, 8, 0)), (.aload_n 0, 1, (0, 0, 0)), (.aload_n 1, 1, (0, 0, 0)), (.getfield 71, 3, (2, 9, 0)), (.putfield 71, 3, (2, 9, 0)), (.aload_n 0, 1, (0, 0, 0)), (.aload_n 1, 1, (0, 0, 0)), (.getfield 32, 3, (2, 10, 0)), (.putfield 32, 3, (2, 10, 0)), (.aload_n 0, 1, (0, 0, 0)), (.aload_n 1, 1, (0, 0, 0)), (.getfield 35, 3, (2, 11, 0)), (.putfield 35, 3, (2, 11, 0)), (.aload_n 0, 1, (0, 0, 0)), (.aload_n 1, 1, (0, 0, 0)), (.getfield 56, 3, (2, 12, 0)), (.putfield 56, 3, (2, 12, 0)), (.aload_n 1, 1, (0, 0, 0)), (.getfield 38, 3, (2, 13, 2)), (.iconst 0, 1, (0, 0, 0)), (.aload_n 0, 1, (0, 0, 0)), (.getfield 38, 3, (2, 13, 2)), (.iconst 0, 1, (0, 0, 0)), (.bipush 60, 2, (0, 0, 0)), (.invokestatic 59, 3, (0, 5, 2)), (.aload_n 1, 1, (0, 0, 0)), (.getfield 41, 3, (2, 14, 2)), (.iconst 0, 1, (0, 0, 0)), (.aload_n 0, 1, (0, 0, 0)), (.getfield 41, 3, (2, 14, 2)), (.iconst 0, 1, (0, 0, 0)), (.bipush 10, 2, (0, 0, 0)), (.invokestatic 59, 3, (0, 5, 2)), (.aload_n 1, 1, (0, 0, 0)), (.getfield 44, 3, (2, 15, 2)), (.iconst 0, 1, (0, 0, 0)), (.aload_n 0, 1, (0, 0, 0)), (.getfield 44, 3, (2, 15, 2)), (.iconst 0, 1, (0, 0, 0)), (.bipush 10, 2, (0, 0, 0)), (.invokestatic 59, 3, (0, 5, 2)), (.aload_n 1, 1, (0, 0, 0)), (.getfield 47, 3, (2, 16, 2)), (.iconst 0, 1, (0, 0, 0)), (.aload_n 0, 1, (0, 0, 0)), (.getfield 47, 3, (2, 16, 2)), (.iconst 0, 1, (0, 0, 0)), (.bipush 10, 2, (0, 0, 0)), (.invokestatic 59, 3, (0, 5, 2)), (.aload_n 1, 1, (0, 0, 0)), (.getfield 50, 3, (2, 17, 2)), (.iconst 0, 1, (0, 0, 0)), (.aload_n 0, 1, (0, 0, 0)), (.getfield 50, 3, (2, 17, 2)), (.iconst 0, 1, (0, 0, 0)), (.bipush 10, 2, (0, 0, 0)), (.invokestatic 59, 3, (0, 5, 2)), (.return_, 1, (0, 0, 0))]
def p_X2_becomeLike : List (Nat × List ZN) := [(0, s_X2_becomeLike_0)]
def s_X3_init_0 : List ZN := [(.aload_n 0, 1, (0, 0, 0)), (.invokespecial 5, 3, (0, 1, 1)), (.aload_n 0, 1, (0, 0, 0)), (.sipush 320, 3, (0, 0, 0)), (.newarray .int, 2, (0, 0, 0)), (.putfield 11, 3, (3, 3, 2)), (.aload_n 0, 1, (0, 0, 0)), (.sipush 3721, 3, (0, 0, 0)), (.newarray .int, 2, (0, 0, 0)), (.putfield 17, 3, (3, 4, 2)), (.return_, 1, (0, 0, 0))]
def p_X3_init : List (Nat × List ZN) := [(0, s_X3_init_0)]
def s_X3_pair_0 : List ZN := [(.aload_n 0, 1, (0, 0, 0)), (.getfield 20, 3, (3, 0, 1)), (.ifCond .eq 4, 3, (8, 0, 0)), (.return_, 1, (0, 0, 0))]
def s_X3_pair_8 : List ZN := [(.aload_n 0, 1, (0, 0, 0)), (.iconst 1, 1, (0, 0, 0)), (.putfield 20, 3, (3, 0, 1)), (.aload_n 0, 1, (0, 0, 0)), (.aload_n 1, 1, (0, 0, 0)), (.getfield 24, 3, (2, 0, 0)), (.aload_n 1, 1, (0, 0, 0)), (.getfield 28, 3, (2, 11, 0)), (.imul, 1, (0, 0, 0)), (.putfield 31, 3, (3, 1, 0)), (.aload_n 0, 1, (0, 0, 0)), (.aload_n 1, 1, (0, 0, 0)), (.invokevirtual 34, 3, (j_X3_measureRoom, 2, 0)), (.aload_n 0, 1, (0, 0, 0)), (.iconst 0, 1, (0, 0, 0)), (.putfield 38, 3, (3, 2, 0)), (.nop, 0, (36, 0, 0))]
def s_X3_pair_36 : List ZN := [(.aload_n 0, 1, (0, 0, 0)), (.getfield 38, 3, (3, 2, 0)), (.aload_n 1, 1, (0, 0, 0)), (.getfield 41, 3, (2, 12, 0)), (.if_icmp .ge 31, 3, (75, 0, 0)), (.aload_n 0, 1, (0, 0, 0)), (.getfield 17, 3, (3, 4, 2)), (.aload_n 0, 1, (0, 0, 0)), (.getfield 38, 3, (3, 2, 0)), (.iconst 1, 1, (0, 0, 0)), (.iadd, 1, (0, 0, 0)), (.iaload, 1, (0, 0, 0)), (.iconst (-1), 1, (0, 0, 0)), (.if_icmp .eq 16, 3, (75, 0, 0)), (.aload_n 0, 1, (0, 0, 0)), (.dup, 1, (0, 0, 0)), (.getfield 38, 3, (3, 2, 0)), (.iconst 1, 1, (0, 0, 0)), (.iadd, 1, (0, 0, 0)), (.putfield 38, 3, (3, 2, 0)), (.goto (-36), 3, (36, 0, 0))]
def s_X3_pair_75 : List ZN := [(.aload_n 0, 1, (0, 0, 0)), (.aload_n 1, 1, (0, 0, 0)), (.invokevirtual 44, 3, (j_X3_pairInOrder, 2, 0)), (.return_, 1, (0, 0, 0))]
def p_X3_pair : List (Nat × List ZN) := [(0, s_X3_pair_0), (8, s_X3_pair_8), (36, s_X3_pair_36), (75, s_X3_pair_75)]
def s_X3_measureRoom_0 : List ZN := [(.aload_n 1, 1, (0, 0, 0)), (.getfield 41, 3, (2, 12, 0)), (.istore_n 2, 1, (0, 0, 0)), (.aload_n 0, 1, (0, 0, 0)), (.getfield 17, 3, (3, 4, 2)), (.iconst (-1), 1, (0, 0, 0)), (.invokestatic 47, 3, (j_J7_fill_53178, 2, 0)), (.aload_n 0, 1, (0, 0, 0)), (.getfield 17, 3, (3, 4, 2)), (.iload_n 2, 1, (0, 0, 0)), (.bipush 61, 2, (0, 0, 0)), (.imul, 1, (0, 0, 0)), (.aload_n 0, 1, (0, 0, 0)), (.getfield 31, 3, (3, 1, 0)), (.iastore, 1, (0, 0, 0)), (.iload_n 2, 1, (0, 0, 0)), (.iconst 1, 1, (0, 0, 0)), (.isub, 1, (0, 0, 0)), (.istore_n 3, 1, (0, 0, 0)), (.nop, 0, (30, 0, 0))]
def s_X3_measureRoom_30 : List ZN := [(.iload_n 3, 1, (0, 0, 0)), (.ifCond .lt 102, 3, (133, 0, 0)), (.iload_n 3, 1, (0, 0, 0)), (.bipush 61, 2, (0, 0, 0)), (.imul, 1, (0, 0, 0)), (.istore 4, 2, (0, 0, 0)), (.iload 4, 2, (0, 0, 0)), (.bipush 61, 2, (0, 0, 0)), (.iadd, 1, (0, 0, 0)), (.istore 5, 2, (0, 0, 0)), (.aload_n 0, 1, (0, 0, 0)), (.getfield 17, 3, (3, 4, 2)), (.iload 4, 2, (0, 0, 0)), (.aload_n 0, 1, (0, 0, 0)), (.getfield 31, 3, (3, 1, 0)), (.iastore, 1, (0, 0, 0)), (.iconst 1, 1, (0, 0, 0)), (.istore 6, 2, (0, 0, 0)), (.nop, 0, (61, 0, 0))]
def s_X3_measureRoom_61 : List ZN := [(.iload 6, 2, (0, 0, 0)), (.iload_n 2, 1, (0, 0, 0)), (.iload_n 3, 1, (0, 0, 0)), (.isub, 1, (0, 0, 0)), (.if_icmp .gt 61, 3, (127, 0, 0)), (.aload_n 0, 1, (0, 0, 0)), (.getfield 17, 3, (3, 4, 2)), (.iload 5, 2, (0, 0, 0)), (.iload 6, 2, (0, 0, 0)), (.iadd, 1, (0, 0, 0)), (.iconst 1, 1, (0, 0, 0)), (.isub, 1, (0, 0, 0)), (.iaload, 1, (0, 0, 0)), (.aload_n 1, 1, (0, 0, 0)), (.getfield 53, 3, (2, 13, 2)), (.iload_n 3, 1, (0, 0, 0)), (.iaload, 1, (0, 0, 0)), (.aload_n 1, 1, (0, 0, 0)), (.getfield 24, 3, (2, 0, 0)), (.invokestatic 56, 3, (j_X3_lastPlaceBelow, 3, 0)), (.istore 7, 2, (0, 0, 0)), (.aload_n 0, 1, (0, 0, 0)), (.getfield 17, 3, (3, 4, 2)), (.iload 4, 2, (0, 0, 0)), (.iload 6, 2, (0, 0, 0)), (.iadd, 1, (0, 0, 0)), (.aload_n 0, 1, (0, 0, 0)), (.getfield 17, 3, (3, 4, 2)), (.iload 5, 2, (0, 0, 0)), (.iload 6, 2, (0, 0, 0)), (.iadd, 1, (0, 0, 0)), (.iaload, 1, (0, 0, 0)), (.iload 7, 2, (0, 0, 0)), (.invokestatic 60, 3, (0, 2, 3)), (.iastore, 1, (0, 0, 0)), (.iinc 6 1, 3, (0, 0, 0)), (.goto (-63), 3, (61, 0, 0))]
def s_X3_measureRoom_127 : List ZN := [(.iinc 3 (-1), 3, (0, 0, 0)), (.goto (-100), 3, (30, 0, 0))]
def s_X3_measureRoom_133 : List ZN := [(.return_, 1, (0, 0, 0))]
def p_X3_measureRoom : List (Nat × List ZN) := [(0, s_X3_measureRoom_0), (30, s_X3_measureRoom_30), (61, s_X3_measureRoom_61), (127, s_X3_measureRoom_127), (133, s_X3_measureRoom_133)]
def s_X3_lastPlaceBelow_0 : List ZN := [(.iload_n 0, 1, (0, 0, 0)), (.iload_n 1, 1, (0, 0, 0)), (.if_icmp .le 7, 3, (9, 0, 0)), (.iload_n 2, 1, (0, 0, 0)), (.ifCond .ne 5, 3, (11, 0, 0)), (.nop, 0, (9, 0, 0))]
def s_X3_lastPlaceBelow_9 : List ZN := [(.iconst (-1), 1, (0, 0, 0)), (.ireturn, 1, (0, 0, 0))]
def s_X3_lastPlaceBelow_11 : List ZN := [(.iload_n 0, 1, (0, 0, 0)), (.iconst 1, 1, (0, 0, 0)), (.isub, 1, (0, 0, 0)), (.iload_n 0, 1, (0, 0, 0)), (.iconst 1, 1, (0, 0, 0)), (.isub, 1, (0, 0, 0)), (.iload_n 1, 1, (0, 0, 0)), (.isub, 1, (0, 0, 0)), (.iload_n 2, 1, (0, 0, 0)), (.irem, 1, (0, 0, 0)), (.isub, 1, (0, 0, 0)), (.ireturn, 1, (0, 0, 0))]
def p_X3_lastPlaceBelow : List (Nat × List ZN) := [(0, s_X3_lastPlaceBelow_0), (9, s_X3_lastPlaceBelow_9), (11, s_X3_lastPlaceBelow_11)]
def s_X3_pairInOrder_0 : List ZN := [(.iconst 0, 1, (0, 0, 0)), (.istore_n 2, 1, (0, 0, 0)), (.aload_n 0, 1, (0, 0, 0)), (.getfield 38, 3, (3, 2, 0)), (.istore_n 3, 1, (0, 0, 0)), (.iconst (-1), 1, (0, 0, 0)), (.istore 4, 2, (0, 0, 0)), (.iconst 0, 1, (0, 0, 0)), (.istore 5, 2, (0, 0, 0)), (.nop, 0, (13, 0, 0))]
def s_X3_pairInOrder_13 : List ZN := [(.iload 5, 2, (0, 0, 0)), (.aload_n 0, 1, (0, 0, 0)), (.getfield 31, 3, (3, 1, 0)), (.if_icmp .ge 99, 3, (118, 0, 0)), (.iload 4, 2, (0, 0, 0)), (.iconst 1, 1, (0, 0, 0)), (.iadd, 1, (0, 0, 0)), (.aload_n 1, 1, (0, 0, 0)), (.getfield 24, 3, (2, 0, 0)), (.if_icmp .ge 10, 3, (40, 0, 0)), (.iload 4, 2, (0, 0, 0)), (.iconst 1, 1, (0, 0, 0)), (.iadd, 1, (0, 0, 0)), (.goto 4, 3, (41, 0, 0))]
def s_X3_pairInOrder_40 : List ZN := [(.iconst 0, 1, (0, 0, 0)), (.nop, 0, (41, 0, 0))]
def s_X3_pairInOrder_41 : List ZN := [(.istore 4, 2, (0, 0, 0)), (.aload_n 0, 1, (0, 0, 0)), (.getfield 11, 3, (3, 3, 2)), (.iload 5, 2, (0, 0, 0)), (.iconst (-1), 1, (0, 0, 0)), (.iastore, 1, (0, 0, 0)), (.iload_n 3, 1, (0, 0, 0)), (.ifCond .le 13, 3, (65, 0, 0)), (.aload_n 1, 1, (0, 0, 0)), (.iload_n 2, 1, (0, 0, 0)), (.iload 4, 2, (0, 0, 0)), (.invokestatic 66, 3, (j_X3_earliest, 3, 0)), (.goto 4, 3, (66, 0, 0))]
def s_X3_pairInOrder_65 : List ZN := [(.iconst (-1), 1, (0, 0, 0)), (.nop, 0, (66, 0, 0))]
def s_X3_pairInOrder_66 : List ZN := [(.istore 6, 2, (0, 0, 0)), (.iload 6, 2, (0, 0, 0)), (.iconst (-1), 1, (0, 0, 0)), (.if_icmp .eq 41, 3, (112, 0, 0)), (.aload_n 0, 1, (0, 0, 0)), (.getfield 17, 3, (3, 4, 2)), (.iload 6, 2, (0, 0, 0)), (.iconst 1, 1, (0, 0, 0)), (.iadd, 1, (0, 0, 0)), (.bipush 61, 2, (0, 0, 0)), (.imul, 1, (0, 0, 0)), (.iload_n 3, 1, (0, 0, 0)), (.iadd, 1, (0, 0, 0)), (.iconst 1, 1, (0, 0, 0)), (.isub, 1, (0, 0, 0)), (.iaload, 1, (0, 0, 0)), (.iload 5, 2, (0, 0, 0)), (.if_icmp .le 20, 3, (112, 0, 0)), (.aload_n 0, 1, (0, 0, 0)), (.getfield 11, 3, (3, 3, 2)), (.iload 5, 2, (0, 0, 0)), (.iload 6, 2, (0, 0, 0)), (.iastore, 1, (0, 0, 0)), (.iload 6, 2, (0, 0, 0)), (.iconst 1, 1, (0, 0, 0)), (.iadd, 1, (0, 0, 0)), (.istore_n 2, 1, (0, 0, 0)), (.iinc 3 (-1), 3, (0, 0, 0)), (.nop, 0, (112, 0, 0))]
def s_X3_pairInOrder_112 : List ZN := [(.iinc 5 1, 3, (0, 0, 0)), (.goto (-102), 3, (13, 0, 0))]
def s_X3_pairInOrder_118 : List ZN := [(.return_, 1, (0, 0, 0))]
def p_X3_pairInOrder : List (Nat × List ZN) := [(0, s_X3_pairInOrder_0), (13, s_X3_pairInOrder_13), (40, s_X3_pairInOrder_40), (41, s_X3_pairInOrder_41), (65, s_X3_pairInOrder_65), (66, s_X3_pairInOrder_66), (112, s_X3_pairInOrder_112), (118, s_X3_pairInOrder_118)]
def s_X3_earliest_0 : List ZN := [(.iload_n 1, 1, (0, 0, 0)), (.istore_n 3, 1, (0, 0, 0)), (.nop, 0, (2, 0, 0))]
def s_X3_earliest_2 : List ZN := [(.iload_n 3, 1, (0, 0, 0)), (.aload_n 0, 1, (0, 0, 0)), (.getfield 41, 3, (2, 12, 0)), (.if_icmp .ge 21, 3, (28, 0, 0)), (.aload_n 0, 1, (0, 0, 0)), (.getfield 53, 3, (2, 13, 2)), (.iload_n 3, 1, (0, 0, 0)), (.iaload, 1, (0, 0, 0)), (.iload_n 2, 1, (0, 0, 0)), (.if_icmp .ne 5, 3, (22, 0, 0)), (.iload_n 3, 1, (0, 0, 0)), (.ireturn, 1, (0, 0, 0))]
def s_X3_earliest_22 : List ZN := [(.iinc 3 1, 3, (0, 0, 0)), (.goto (-23), 3, (2, 0, 0))]
def s_X3_earliest_28 : List ZN := [(.iconst (-1), 1, (0, 0, 0)), (.ireturn, 1, (0, 0, 0))]
def p_X3_earliest : List (Nat × List ZN) := [(0, s_X3_earliest_0), (2, s_X3_earliest_2), (22, s_X3_earliest_22), (28, s_X3_earliest_28)]
def s_X3_lackingPlace_0 : List ZN := [(.iconst 0, 1, (0, 0, 0)), (.istore_n 2, 1, (0, 0, 0)), (.iconst 0, 1, (0, 0, 0)), (.istore_n 3, 1, (0, 0, 0)), (.nop, 0, (4, 0, 0))]
def s_X3_lackingPlace_4 : List ZN := [(.iload_n 3, 1, (0, 0, 0)), (.aload_n 0, 1, (0, 0, 0)), (.getfield 31, 3, (3, 1, 0)), (.if_icmp .ge 29, 3, (38, 0, 0)), (.aload_n 0, 1, (0, 0, 0)), (.getfield 11, 3, (3, 3, 2)), (.iload_n 3, 1, (0, 0, 0)), (.iaload, 1, (0, 0, 0)), (.iconst (-1), 1, (0, 0, 0)), (.if_icmp .ne 13, 3, (32, 0, 0)), (.iload_n 2, 1, (0, 0, 0)), (.iload_n 1, 1, (0, 0, 0)), (.if_icmp .ne 5, 3, (29, 0, 0)), (.iload_n 3, 1, (0, 0, 0)), (.ireturn, 1, (0, 0, 0))]
def s_X3_lackingPlace_29 : List ZN := [(.iinc 2 1, 3, (0, 0, 0)), (.nop, 0, (32, 0, 0))]
def s_X3_lackingPlace_32 : List ZN := [(.iinc 3 1, 3, (0, 0, 0)), (.goto (-31), 3, (4, 0, 0))]
def s_X3_lackingPlace_38 : List ZN := [(.iconst (-1), 1, (0, 0, 0)), (.ireturn, 1, (0, 0, 0))]
def p_X3_lackingPlace : List (Nat × List ZN) := [(0, s_X3_lackingPlace_0), (4, s_X3_lackingPlace_4), (29, s_X3_lackingPlace_29), (32, s_X3_lackingPlace_32), (38, s_X3_lackingPlace_38)]
def s_X3_wholeCopies_0 : List ZN := [(.iconst 0, 1, (0, 0, 0)), (.istore_n 2, 1, (0, 0, 0)), (.iconst 0, 1, (0, 0, 0)), (.istore_n 3, 1, (0, 0, 0)), (.nop, 0, (4, 0, 0))]
def s_X3_wholeCopies_4 : List ZN := [(.iload_n 3, 1, (0, 0, 0)), (.aload_n 1, 1, (0, 0, 0)), (.getfield 28, 3, (2, 11, 0)), (.if_icmp .ge 73, 3, (82, 0, 0)), (.iconst 1, 1, (0, 0, 0)), (.istore 4, 2, (0, 0, 0)), (.iconst 0, 1, (0, 0, 0)), (.istore 5, 2, (0, 0, 0)), (.nop, 0, (18, 0, 0))]
def s_X3_wholeCopies_18 : List ZN := [(.iload 5, 2, (0, 0, 0)), (.aload_n 1, 1, (0, 0, 0)), (.getfield 24, 3, (2, 0, 0)), (.if_icmp .ge 39, 3, (63, 0, 0)), (.iload 4, 2, (0, 0, 0)), (.ifCond .eq 25, 3, (54, 0, 0)), (.aload_n 0, 1, (0, 0, 0)), (.getfield 11, 3, (3, 3, 2)), (.iload_n 3, 1, (0, 0, 0)), (.aload_n 1, 1, (0, 0, 0)), (.getfield 24, 3, (2, 0, 0)), (.imul, 1, (0, 0, 0)), (.iload 5, 2, (0, 0, 0)), (.iadd, 1, (0, 0, 0)), (.iaload, 1, (0, 0, 0)), (.iconst (-1), 1, (0, 0, 0)), (.if_icmp .eq 7, 3, (54, 0, 0)), (.iconst 1, 1, (0, 0, 0)), (.goto 4, 3, (55, 0, 0))]
def s_X3_wholeCopies_54 : List ZN := [(.iconst 0, 1, (0, 0, 0)), (.nop, 0, (55, 0, 0))]
def s_X3_wholeCopies_55 : List ZN := [(.istore 4, 2, (0, 0, 0)), (.iinc 5 1, 3, (0, 0, 0)), (.goto (-42), 3, (18, 0, 0))]
def s_X3_wholeCopies_63 : List ZN := [(.iload_n 2, 1, (0, 0, 0)), (.iload 4, 2, (0, 0, 0)), (.ifCond .eq 7, 3, (73, 0, 0)), (.iconst 1, 1, (0, 0, 0)), (.goto 4, 3, (74, 0, 0))]
def s_X3_wholeCopies_73 : List ZN := [(.iconst 0, 1, (0, 0, 0)), (.nop, 0, (74, 0, 0))]
def s_X3_wholeCopies_74 : List ZN := [(.iadd, 1, (0, 0, 0)), (.istore_n 2, 1, (0, 0, 0)), (.iinc 3 1, 3, (0, 0, 0)), (.goto (-75), 3, (4, 0, 0))]
def s_X3_wholeCopies_82 : List ZN := [(.iload_n 2, 1, (0, 0, 0)), (.ireturn, 1, (0, 0, 0))]
def p_X3_wholeCopies : List (Nat × List ZN) := [(0, s_X3_wholeCopies_0), (4, s_X3_wholeCopies_4), (18, s_X3_wholeCopies_18), (54, s_X3_wholeCopies_54), (55, s_X3_wholeCopies_55), (63, s_X3_wholeCopies_63), (73, s_X3_wholeCopies_73), (74, s_X3_wholeCopies_74), (82, s_X3_wholeCopies_82)]
def s_X4_init_0 : List ZN := [(.aload_n 0, 1, (0, 0, 0)), (.invokespecial 3, 3, (0, 1, 1)), (.aload_n 0, 1, (0, 0, 0)), (.iconst 4, 1, (0, 0, 0)), (.bipush 60, 2, (0, 0, 0)), (.multianewarray 11 2, 4, (0, 0, 0)), (.putfield 13, 3, (4, 0, 2)), (.aload_n 0, 1, (0, 0, 0)), (.iconst 4, 1, (0, 0, 0)), (.newarray .int, 2, (0, 0, 0)), (.putfield 16, 3, (4, 1, 2)), (.aload_n 0, 1, (0, 0, 0)), (.iconst 4, 1, (0, 0, 0)), (.newarray .int, 2, (0, 0, 0)), (.dup, 1, (0, 0, 0)), (.iconst 0, 1, (0, 0, 0)), (.iconst (-1), 1, (0, 0, 0)), (.iastore, 1, (0, 0, 0)), (.dup, 1, (0, 0, 0)), (.iconst 1, 1, (0, 0, 0)), (.iconst (-1), 1, (0, 0, 0)), (.iastore, 1, (0, 0, 0)), (.dup, 1, (0, 0, 0)), (.iconst 2, 1, (0, 0, 0)), (.iconst (-1), 1, (0, 0, 0)), (.iastore, 1, (0, 0, 0)), (.dup, 1, (0, 0, 0)), (.iconst 3, 1, (0, 0, 0)), (.iconst (-1), 1, (0, 0, 0)), (.iastore, 1, (0, 0, 0)), (.putfield 20, 3, (4, 2, 2)), (.return_, 1, (0, 0, 0))]
def p_X4_init : List (Nat × List ZN) := [(0, s_X4_init_0)]
def s_X4_make_0 : List ZN := [(.aload_n 0, 1, (0, 0, 0)), (.getfield 16, 3, (4, 1, 2)), (.iload_n 1, 1, (0, 0, 0)), (.iload_n 2, 1, (0, 0, 0)), (.iastore, 1, (0, 0, 0)), (.aload_n 0, 1, (0, 0, 0)), (.getfield 20, 3, (4, 2, 2)), (.iload_n 1, 1, (0, 0, 0)), (.iload_n 3, 1, (0, 0, 0)), (.iastore, 1, (0, 0, 0)), (.aload_n 0, 1, (0, 0, 0)), (.getfield 13, 3, (4, 0, 2)), (.iload_n 1, 1, (0, 0, 0)), (.aaload, 1, (0, 0, 0)), (.lconst 0, 1, (0, 0, 0)), (.invokestatic 23, 3, (j_J7_fill_d0a16, 2, 0)), (.return_, 1, (0, 0, 0))]
def p_X4_make : List (Nat × List ZN) := [(0, s_X4_make_0)]
def s_X4_cut_0 : List ZN := [(.iload_n 2, 1, (0, 0, 0)), (.tableswitch 41 0 2 #[27, 32, 37], 27, (1, 0, 0))]
def s_X4_cut_28 : List ZN := [(.lload_n 0, 1, (0, 0, 0)), (.l2i, 1, (0, 0, 0)), (.i2b, 1, (0, 0, 0)), (.i2l, 1, (0, 0, 0)), (.lreturn, 1, (0, 0, 0))]
def s_X4_cut_33 : List ZN := [(.lload_n 0, 1, (0, 0, 0)), (.l2i, 1, (0, 0, 0)), (.i2s, 1, (0, 0, 0)), (.i2l, 1, (0, 0, 0)), (.lreturn, 1, (0, 0, 0))]
def s_X4_cut_38 : List ZN := [(.lload_n 0, 1, (0, 0, 0)), (.l2i, 1, (0, 0, 0)), (.i2l, 1, (0, 0, 0)), (.lreturn, 1, (0, 0, 0))]
def s_X4_cut_42 : List ZN := [(.lload_n 0, 1, (0, 0, 0)), (.lreturn, 1, (0, 0, 0))]
def p_X4_cut : List (Nat × List ZN) := [(0, s_X4_cut_0), (28, s_X4_cut_28), (33, s_X4_cut_33), (38, s_X4_cut_38), (42, s_X4_cut_42)]
def s_X4_tellsPages_0 : List ZN := [(.iconst 0, 1, (0, 0, 0)), (.istore 4, 2, (0, 0, 0)), (.nop, 0, (3, 0, 0))]
def s_X4_tellsPages_3 : List ZN := [(.iload 4, 2, (0, 0, 0)), (.iload_n 2, 1, (0, 0, 0)), (.if_icmp .ge 40, 3, (46, 0, 0)), (.aload_n 0, 1, (0, 0, 0)), (.getfield 13, 3, (4, 0, 2)), (.iload_n 1, 1, (0, 0, 0)), (.aaload, 1, (0, 0, 0)), (.iload 4, 2, (0, 0, 0)), (.laload, 1, (0, 0, 0)), (.lconst 0, 1, (0, 0, 0)), (.lcmp, 1, (0, 0, 0)), (.ifCond .lt 18, 3, (38, 0, 0)), (.aload_n 0, 1, (0, 0, 0)), (.getfield 13, 3, (4, 0, 2)), (.iload_n 1, 1, (0, 0, 0)), (.aaload, 1, (0, 0, 0)), (.iload 4, 2, (0, 0, 0)), (.laload, 1, (0, 0, 0)), (.iload_n 3, 1, (0, 0, 0)), (.i2l, 1, (0, 0, 0)), (.lcmp, 1, (0, 0, 0)), (.ifCond .lt 5, 3, (40, 0, 0)), (.nop, 0, (38, 0, 0))]
def s_X4_tellsPages_38 : List ZN := [(.iconst 0, 1, (0, 0, 0)), (.ireturn, 1, (1, 0, 0))]
def s_X4_tellsPages_40 : List ZN := [(.iinc 4 1, 3, (0, 0, 0)), (.goto (-40), 3, (3, 0, 0))]
def s_X4_tellsPages_46 : List ZN := [(.iconst 1, 1, (0, 0, 0)), (.ireturn, 1, (1, 0, 0))]
def p_X4_tellsPages : List (Nat × List ZN) := [(0, s_X4_tellsPages_0), (3, s_X4_tellsPages_3), (38, s_X4_tellsPages_38), (40, s_X4_tellsPages_40), (46, s_X4_tellsPages_46)]
def s_X5_init_0 : List ZN := [(.aload_n 0, 1, (0, 0, 0)), (.invokespecial 7, 3, (0, 1, 1)), (.aload_n 0, 1, (0, 0, 0)), (.sipush 256, 3, (0, 0, 0)), (.newarray .int, 2, (0, 0, 0)), (.putfield 13, 3, (5, 2, 2)), (.aload_n 0, 1, (0, 0, 0)), (.ldc 17, 2, (0, 0, 65536)), (.newarray .long, 2, (0, 0, 0)), (.putfield 18, 3, (5, 3, 2)), (.aload_n 0, 1, (0, 0, 0)), (.sipush 2791, 3, (0, 0, 0)), (.newarray .long, 2, (0, 0, 0)), (.putfield 22, 3, (5, 4, 2)), (.aload_n 0, 1, (0, 0, 0)), (.new 1, 3, (2, 18, 0)), (.dup, 1, (0, 0, 0)), (.invokespecial 25, 3, (j_X2_init, 1, 0)), (.putfield 26, 3, (5, 7, 2)), (.return_, 1, (0, 0, 0))]
def p_X5_init : List (Nat × List ZN) := [(0, s_X5_init_0)]
def s_X5_seek_0 : List ZN := [(.aload_n 0, 1, (0, 0, 0)), (.getfield 30, 3, (5, 0, 1)), (.ifCond .eq 4, 3, (8, 0, 0)), (.return_, 1, (0, 0, 0))]
def s_X5_seek_8 : List ZN := [(.aload_n 0, 1, (0, 0, 0)), (.aload_n 1, 1, (0, 0, 0)), (.putfield 26, 3, (5, 7, 2)), (.aload_n 0, 1, (0, 0, 0)), (.iconst 1, 1, (0, 0, 0)), (.putfield 30, 3, (5, 0, 1)), (.aload_n 0, 1, (0, 0, 0)), (.iconst (-1), 1, (0, 0, 0)), (.putfield 34, 3, (5, 1, 0)), (.aload_n 0, 1, (0, 0, 0)), (.iconst (-1), 1, (0, 0, 0)), (.putfield 38, 3, (5, 6, 0)), (.aload_n 0, 1, (0, 0, 0)), (.invokevirtual 41, 3, (j_X5_hasPaperForAll, 1, 0)), (.ifCond .ne 4, 3, (36, 0, 0)), (.return_, 1, (0, 0, 0))]
def s_X5_seek_36 : List ZN := [(.aload_n 0, 1, (0, 0, 0)), (.getfield 22, 3, (5, 4, 2)), (.lconst 0, 1, (0, 0, 0)), (.invokestatic 45, 3, (j_J7_fill_d0a16, 2, 0)), (.aload_n 0, 1, (0, 0, 0)), (.iconst 0, 1, (0, 0, 0)), (.putfield 51, 3, (5, 5, 0)), (.aload_n 0, 1, (0, 0, 0)), (.iconst 0, 1, (0, 0, 0)), (.iconst 0, 1, (0, 0, 0)), (.aload_n 0, 1, (0, 0, 0)), (.getfield 26, 3, (5, 7, 2)), (.getfield 54, 3, (2, 8, 0)), (.ifCond .ne 7, 3, (66, 0, 0)), (.iconst 0, 1, (0, 0, 0)), (.goto 10, 3, (73, 0, 0))]
def s_X5_seek_66 : List ZN := [(.aload_n 0, 1, (0, 0, 0)), (.getfield 26, 3, (5, 7, 2)), (.getfield 57, 3, (2, 7, 0)), (.nop, 0, (73, 0, 0))]
def s_X5_seek_73 : List ZN := [(.iconst 4, 1, (0, 0, 0)), (.iconst 0, 1, (0, 0, 0)), (.lconst 0, 1, (0, 0, 0)), (.invokevirtual 60, 3, (j_X5_meet, 7, 0)), (.iconst 0, 1, (0, 0, 0)), (.istore_n 2, 1, (0, 0, 0)), (.nop, 0, (81, 0, 0))]
def s_X5_seek_81 : List ZN := [(.iload_n 2, 1, (0, 0, 0)), (.aload_n 0, 1, (0, 0, 0)), (.getfield 51, 3, (5, 5, 0)), (.if_icmp .ge 28, 3, (114, 0, 0)), (.iload_n 2, 1, (0, 0, 0)), (.ldc 17, 2, (0, 0, 65536)), (.if_icmp .ge 22, 3, (114, 0, 0)), (.aload_n 0, 1, (0, 0, 0)), (.getfield 38, 3, (5, 6, 0)), (.iconst (-1), 1, (0, 0, 0)), (.if_icmp .ne 14, 3, (114, 0, 0)), (.aload_n 0, 1, (0, 0, 0)), (.iload_n 2, 1, (0, 0, 0)), (.invokevirtual 64, 3, (j_X5_leave, 2, 0)), (.iinc 2 1, 3, (0, 0, 0)), (.goto (-30), 3, (81, 0, 0))]
def s_X5_seek_114 : List ZN := [(.aload_n 0, 1, (0, 0, 0)), (.getfield 38, 3, (5, 6, 0)), (.iconst (-1), 1, (0, 0, 0)), (.if_icmp .eq 7, 3, (126, 0, 0)), (.aload_n 0, 1, (0, 0, 0)), (.invokevirtual 68, 3, (j_X5_traceBack, 1, 0)), (.nop, 0, (126, 0, 0))]
def s_X5_seek_126 : List ZN := [(.return_, 1, (0, 0, 0))]
def p_X5_seek : List (Nat × List ZN) := [(0, s_X5_seek_0), (8, s_X5_seek_8), (36, s_X5_seek_36), (66, s_X5_seek_66), (73, s_X5_seek_73), (81, s_X5_seek_81), (114, s_X5_seek_114), (126, s_X5_seek_126)]
def s_X5_hasPaperForAll_0 : List ZN := [(.iconst 0, 1, (0, 0, 0)), (.istore_n 1, 1, (0, 0, 0)), (.nop, 0, (2, 0, 0))]
def s_X5_hasPaperForAll_2 : List ZN := [(.iload_n 1, 1, (0, 0, 0)), (.aload_n 0, 1, (0, 0, 0)), (.getfield 26, 3, (5, 7, 2)), (.getfield 71, 3, (2, 0, 0)), (.if_icmp .ge 49, 3, (59, 0, 0)), (.iconst 0, 1, (0, 0, 0)), (.istore_n 2, 1, (0, 0, 0)), (.iconst 0, 1, (0, 0, 0)), (.istore_n 3, 1, (0, 0, 0)), (.nop, 0, (17, 0, 0))]
def s_X5_hasPaperForAll_17 : List ZN := [(.iload_n 3, 1, (0, 0, 0)), (.iconst 4, 1, (0, 0, 0)), (.if_icmp .ge 28, 3, (47, 0, 0)), (.iload_n 2, 1, (0, 0, 0)), (.ifCond .ne 12, 3, (35, 0, 0)), (.aload_n 0, 1, (0, 0, 0)), (.iload_n 3, 1, (0, 0, 0)), (.iload_n 1, 1, (0, 0, 0)), (.invokevirtual 74, 3, (j_X5_gives, 3, 0)), (.ifCond .eq 7, 3, (39, 0, 0)), (.nop, 0, (35, 0, 0))]
def s_X5_hasPaperForAll_35 : List ZN := [(.iconst 1, 1, (0, 0, 0)), (.goto 4, 3, (40, 0, 0))]
def s_X5_hasPaperForAll_39 : List ZN := [(.iconst 0, 1, (0, 0, 0)), (.nop, 0, (40, 0, 0))]
def s_X5_hasPaperForAll_40 : List ZN := [(.istore_n 2, 1, (0, 0, 0)), (.iinc 3 1, 3, (0, 0, 0)), (.goto (-27), 3, (17, 0, 0))]
def s_X5_hasPaperForAll_47 : List ZN := [(.iload_n 2, 1, (0, 0, 0)), (.ifCond .ne 5, 3, (53, 0, 0)), (.iconst 0, 1, (0, 0, 0)), (.ireturn, 1, (1, 0, 0))]
def s_X5_hasPaperForAll_53 : List ZN := [(.iinc 1 1, 3, (0, 0, 0)), (.goto (-54), 3, (2, 0, 0))]
def s_X5_hasPaperForAll_59 : List ZN := [(.iconst 1, 1, (0, 0, 0)), (.ireturn, 1, (1, 0, 0))]
def p_X5_hasPaperForAll : List (Nat × List ZN) := [(0, s_X5_hasPaperForAll_0), (2, s_X5_hasPaperForAll_2), (17, s_X5_hasPaperForAll_17), (35, s_X5_hasPaperForAll_35), (39, s_X5_hasPaperForAll_39), (40, s_X5_hasPaperForAll_40), (47, s_X5_hasPaperForAll_47), (53, s_X5_hasPaperForAll_53), (59, s_X5_hasPaperForAll_59)]
def s_X5_gives_0 : List ZN := [(.aload_n 0, 1, (0, 0, 0)), (.getfield 26, 3, (5, 7, 2)), (.getfield 78, 3, (2, 4, 2)), (.iload_n 1, 1, (0, 0, 0)), (.baload, 1, (0, 0, 0)), (.ifCond .eq 28, 3, (37, 0, 0)), (.aload_n 0, 1, (0, 0, 0)), (.getfield 26, 3, (5, 7, 2)), (.getfield 82, 3, (2, 3, 2)), (.iload_n 1, 1, (0, 0, 0)), (.iaload, 1, (0, 0, 0)), (.aload_n 0, 1, (0, 0, 0)), (.getfield 26, 3, (5, 7, 2)), (.getfield 85, 3, (2, 1, 2)), (.iload_n 2, 1, (0, 0, 0)), (.iaload, 1, (0, 0, 0)), (.if_icmp .ne 7, 3, (37, 0, 0)), (.iconst 1, 1, (0, 0, 0)), (.goto 4, 3, (38, 0, 0))]
def s_X5_gives_37 : List ZN := [(.iconst 0, 1, (0, 0, 0)), (.nop, 0, (38, 0, 0))]
def s_X5_gives_38 : List ZN := [(.ireturn, 1, (1, 0, 0))]
def p_X5_gives : List (Nat × List ZN) := [(0, s_X5_gives_0), (37, s_X5_gives_37), (38, s_X5_gives_38)]
def s_X5_leave_0 : List ZN := [(.aload_n 0, 1, (0, 0, 0)), (.aload_n 0, 1, (0, 0, 0)), (.getfield 18, 3, (5, 3, 2)), (.iload_n 1, 1, (0, 0, 0)), (.laload, 1, (0, 0, 0)), (.ldc2_w 88, 3, (0, 0, 16777215)), (.land, 1, (0, 0, 0)), (.l2i, 1, (0, 0, 0)), (.invokevirtual 90, 3, (j_X5_unpack, 2, 0)), (.iload_n 1, 1, (0, 0, 0)), (.i2l, 1, (0, 0, 0)), (.bipush 32, 2, (0, 0, 0)), (.lshl, 1, (0, 0, 0)), (.lstore_n 2, 1, (0, 0, 0)), (.aload_n 0, 1, (0, 0, 0)), (.aload_n 0, 1, (0, 0, 0)), (.getfield 93, 3, (5, 10, 0)), (.iconst 0, 1, (0, 0, 0)), (.invokevirtual 96, 3, (j_X5_agedPocket, 3, 0)), (.istore 4, 2, (0, 0, 0)), (.bipush 30, 2, (0, 0, 0)), (.aload_n 0, 1, (0, 0, 0)), (.getfield 100, 3, (5, 11, 0)), (.aload_n 0, 1, (0, 0, 0)), (.getfield 26, 3, (5, 7, 2)), (.getfield 103, 3, (2, 10, 0)), (.iadd, 1, (0, 0, 0)), (.invokestatic 106, 3, (0, 2, 4)), (.istore 5, 2, (0, 0, 0)), (.aload_n 0, 1, (0, 0, 0)), (.aload_n 0, 1, (0, 0, 0)), (.getfield 111, 3, (5, 8, 0)), (.iload 4, 2, (0, 0, 0)), (.aload_n 0, 1, (0, 0, 0)), (.getfield 26, 3, (5, 7, 2)), (.getfield 54, 3, (2, 8, 0)), (.ifCond .ne 7, 3, (72, 0, 0)), (.iconst 0, 1, (0, 0, 0)), (.goto 5, 3, (74, 0, 0))]
def s_X5_leave_72 : List ZN := [(.iload 5, 2, (0, 0, 0)), (.nop, 0, (74, 0, 0))]
def s_X5_leave_74 : List ZN := [(.aload_n 0, 1, (0, 0, 0)), (.getfield 114, 3, (5, 12, 0)), (.iconst 1, 1, (0, 0, 0)), (.lload_n 2, 1, (0, 0, 0)), (.lconst 0, 1, (0, 0, 0)), (.lor, 1, (0, 0, 0)), (.invokevirtual 60, 3, (j_X5_meet, 7, 0)), (.aload_n 0, 1, (0, 0, 0)), (.getfield 100, 3, (5, 11, 0)), (.aload_n 0, 1, (0, 0, 0)), (.getfield 26, 3, (5, 7, 2)), (.getfield 54, 3, (2, 8, 0)), (.if_icmp .ge 4, 3, (100, 0, 0)), (.return_, 1, (0, 0, 0))]
def s_X5_leave_100 : List ZN := [(.iconst 0, 1, (0, 0, 0)), (.aload_n 0, 1, (0, 0, 0)), (.getfield 100, 3, (5, 11, 0)), (.aload_n 0, 1, (0, 0, 0)), (.getfield 26, 3, (5, 7, 2)), (.getfield 117, 3, (2, 9, 0)), (.isub, 1, (0, 0, 0)), (.invokestatic 120, 3, (0, 2, 3)), (.istore 6, 2, (0, 0, 0)), (.aload_n 0, 1, (0, 0, 0)), (.getfield 93, 3, (5, 10, 0)), (.ifCond .le 38, 3, (160, 0, 0)), (.ldc2_w 123, 3, (0, 0, 16777216)), (.lstore 7, 2, (0, 0, 0)), (.aload_n 0, 1, (0, 0, 0)), (.aload_n 0, 1, (0, 0, 0)), (.getfield 111, 3, (5, 8, 0)), (.aload_n 0, 1, (0, 0, 0)), (.aload_n 0, 1, (0, 0, 0)), (.getfield 93, 3, (5, 10, 0)), (.iconst 1, 1, (0, 0, 0)), (.isub, 1, (0, 0, 0)), (.iconst 0, 1, (0, 0, 0)), (.invokevirtual 96, 3, (j_X5_agedPocket, 3, 0)), (.iload 6, 2, (0, 0, 0)), (.aload_n 0, 1, (0, 0, 0)), (.getfield 114, 3, (5, 12, 0)), (.iconst 0, 1, (0, 0, 0)), (.lload_n 2, 1, (0, 0, 0)), (.lload 7, 2, (0, 0, 0)), (.lor, 1, (0, 0, 0)), (.invokevirtual 60, 3, (j_X5_meet, 7, 0)), (.nop, 0, (160, 0, 0))]
def s_X5_leave_160 : List ZN := [(.aload_n 0, 1, (0, 0, 0)), (.getfield 111, 3, (5, 8, 0)), (.aload_n 0, 1, (0, 0, 0)), (.getfield 26, 3, (5, 7, 2)), (.getfield 71, 3, (2, 0, 0)), (.if_icmp .ge 50, 3, (221, 0, 0)), (.aload_n 0, 1, (0, 0, 0)), (.invokevirtual 125, 3, (j_X5_takesNext, 1, 0)), (.ifCond .eq 43, 3, (221, 0, 0)), (.aload_n 0, 1, (0, 0, 0)), (.getfield 26, 3, (5, 7, 2)), (.getfield 128, 3, (2, 2, 2)), (.aload_n 0, 1, (0, 0, 0)), (.getfield 111, 3, (5, 8, 0)), (.baload, 1, (0, 0, 0)), (.ifCond .eq 15, 3, (208, 0, 0)), (.aload_n 0, 1, (0, 0, 0)), (.aload_n 0, 1, (0, 0, 0)), (.getfield 93, 3, (5, 10, 0)), (.iconst 1, 1, (0, 0, 0)), (.invokevirtual 96, 3, (j_X5_agedPocket, 3, 0)), (.goto 5, 3, (210, 0, 0))]
def s_X5_leave_208 : List ZN := [(.iload 4, 2, (0, 0, 0)), (.nop, 0, (210, 0, 0))]
def s_X5_leave_210 : List ZN := [(.istore 7, 2, (0, 0, 0)), (.aload_n 0, 1, (0, 0, 0)), (.iload 7, 2, (0, 0, 0)), (.iload 6, 2, (0, 0, 0)), (.lload_n 2, 1, (0, 0, 0)), (.invokevirtual 131, 3, (j_X5_feedFromEach, 4, 0)), (.nop, 0, (221, 0, 0))]
def s_X5_leave_221 : List ZN := [(.return_, 1, (0, 0, 0))]
def p_X5_leave : List (Nat × List ZN) := [(0, s_X5_leave_0), (72, s_X5_leave_72), (74, s_X5_leave_74), (100, s_X5_leave_100), (160, s_X5_leave_160), (208, s_X5_leave_208), (210, s_X5_leave_210), (221, s_X5_leave_221)]
def s_X5_takesNext_0 : List ZN := [(.aload_n 0, 1, (0, 0, 0)), (.getfield 93, 3, (5, 10, 0)), (.aload_n 0, 1, (0, 0, 0)), (.getfield 135, 3, (5, 9, 0)), (.invokestatic 138, 3, (j_J6_bitCount_0f7a4, 1, 0)), (.iadd, 1, (0, 0, 0)), (.istore_n 1, 1, (0, 0, 0)), (.aload_n 0, 1, (0, 0, 0)), (.getfield 26, 3, (5, 7, 2)), (.getfield 128, 3, (2, 2, 2)), (.aload_n 0, 1, (0, 0, 0)), (.getfield 111, 3, (5, 8, 0)), (.baload, 1, (0, 0, 0)), (.ifCond .eq 22, 3, (47, 0, 0)), (.iload_n 1, 1, (0, 0, 0)), (.aload_n 0, 1, (0, 0, 0)), (.getfield 26, 3, (5, 7, 2)), (.getfield 144, 3, (2, 5, 0)), (.if_icmp .ge 7, 3, (43, 0, 0)), (.iconst 1, 1, (0, 0, 0)), (.goto 16, 3, (56, 0, 0))]
def s_X5_takesNext_43 : List ZN := [(.iconst 0, 1, (0, 0, 0)), (.goto 12, 3, (56, 0, 0))]
def s_X5_takesNext_47 : List ZN := [(.iload_n 1, 1, (0, 0, 0)), (.ifCond .ne 7, 3, (55, 0, 0)), (.iconst 1, 1, (0, 0, 0)), (.goto 4, 3, (56, 0, 0))]
def s_X5_takesNext_55 : List ZN := [(.iconst 0, 1, (0, 0, 0)), (.nop, 0, (56, 0, 0))]
def s_X5_takesNext_56 : List ZN := [(.ireturn, 1, (1, 0, 0))]
def p_X5_takesNext : List (Nat × List ZN) := [(0, s_X5_takesNext_0), (43, s_X5_takesNext_43), (47, s_X5_takesNext_47), (55, s_X5_takesNext_55), (56, s_X5_takesNext_56)]
def s_X5_feedFromEach_0 : List ZN := [(.iconst 0, 1, (0, 0, 0)), (.istore 5, 2, (0, 0, 0)), (.nop, 0, (3, 0, 0))]
def s_X5_feedFromEach_3 : List ZN := [(.iload 5, 2, (0, 0, 0)), (.iconst 4, 1, (0, 0, 0)), (.if_icmp .ge 87, 3, (93, 0, 0)), (.aload_n 0, 1, (0, 0, 0)), (.getfield 147, 3, (5, 13, 1)), (.ifCond .ne 20, 3, (33, 0, 0)), (.aload_n 0, 1, (0, 0, 0)), (.getfield 114, 3, (5, 12, 0)), (.iload 5, 2, (0, 0, 0)), (.if_icmp .eq 11, 3, (33, 0, 0)), (.aload_n 0, 1, (0, 0, 0)), (.getfield 114, 3, (5, 12, 0)), (.iconst 4, 1, (0, 0, 0)), (.if_icmp .ne 7, 3, (37, 0, 0)), (.nop, 0, (33, 0, 0))]
def s_X5_feedFromEach_33 : List ZN := [(.iconst 1, 1, (0, 0, 0)), (.goto 4, 3, (38, 0, 0))]
def s_X5_feedFromEach_37 : List ZN := [(.iconst 0, 1, (0, 0, 0)), (.nop, 0, (38, 0, 0))]
def s_X5_feedFromEach_38 : List ZN := [(.istore 6, 2, (0, 0, 0)), (.iload 6, 2, (0, 0, 0)), (.ifCond .eq 45, 3, (87, 0, 0)), (.aload_n 0, 1, (0, 0, 0)), (.iload 5, 2, (0, 0, 0)), (.aload_n 0, 1, (0, 0, 0)), (.getfield 111, 3, (5, 8, 0)), (.invokevirtual 74, 3, (j_X5_gives, 3, 0)), (.ifCond .eq 32, 3, (87, 0, 0)), (.iconst 2, 1, (0, 0, 0)), (.iload 5, 2, (0, 0, 0)), (.iadd, 1, (0, 0, 0)), (.i2l, 1, (0, 0, 0)), (.bipush 24, 2, (0, 0, 0)), (.lshl, 1, (0, 0, 0)), (.lstore 7, 2, (0, 0, 0)), (.aload_n 0, 1, (0, 0, 0)), (.aload_n 0, 1, (0, 0, 0)), (.getfield 111, 3, (5, 8, 0)), (.iconst 1, 1, (0, 0, 0)), (.iadd, 1, (0, 0, 0)), (.iload_n 1, 1, (0, 0, 0)), (.iload_n 2, 1, (0, 0, 0)), (.iload 5, 2, (0, 0, 0)), (.iconst 0, 1, (0, 0, 0)), (.lload_n 3, 1, (0, 0, 0)), (.lload 7, 2, (0, 0, 0)), (.lor, 1, (0, 0, 0)), (.invokevirtual 60, 3, (j_X5_meet, 7, 0)), (.nop, 0, (87, 0, 0))]
def s_X5_feedFromEach_87 : List ZN := [(.iinc 5 1, 3, (0, 0, 0)), (.goto (-87), 3, (3, 0, 0))]
def s_X5_feedFromEach_93 : List ZN := [(.return_, 1, (0, 0, 0))]
def p_X5_feedFromEach : List (Nat × List ZN) := [(0, s_X5_feedFromEach_0), (3, s_X5_feedFromEach_3), (33, s_X5_feedFromEach_33), (37, s_X5_feedFromEach_37), (38, s_X5_feedFromEach_38), (87, s_X5_feedFromEach_87), (93, s_X5_feedFromEach_93)]
def s_X5_agedPocket_0 : List ZN := [(.aload_n 0, 1, (0, 0, 0)), (.getfield 135, 3, (5, 9, 0)), (.iconst 1, 1, (0, 0, 0)), (.ishl, 1, (0, 0, 0)), (.iload_n 2, 1, (0, 0, 0)), (.ior, 1, (0, 0, 0)), (.istore_n 3, 1, (0, 0, 0)), (.iload_n 3, 1, (0, 0, 0)), (.aload_n 0, 1, (0, 0, 0)), (.getfield 26, 3, (5, 7, 2)), (.getfield 150, 3, (2, 6, 0)), (.ishr, 1, (0, 0, 0)), (.iconst 1, 1, (0, 0, 0)), (.iand, 1, (0, 0, 0)), (.istore 4, 2, (0, 0, 0)), (.iload_n 3, 1, (0, 0, 0)), (.iconst 1, 1, (0, 0, 0)), (.aload_n 0, 1, (0, 0, 0)), (.getfield 26, 3, (5, 7, 2)), (.getfield 150, 3, (2, 6, 0)), (.ishl, 1, (0, 0, 0)), (.iconst 1, 1, (0, 0, 0)), (.isub, 1, (0, 0, 0)), (.iand, 1, (0, 0, 0)), (.istore 5, 2, (0, 0, 0)), (.iload_n 1, 1, (0, 0, 0)), (.iload 4, 2, (0, 0, 0)), (.iadd, 1, (0, 0, 0)), (.bipush 16, 2, (0, 0, 0)), (.imul, 1, (0, 0, 0)), (.iload 5, 2, (0, 0, 0)), (.iadd, 1, (0, 0, 0)), (.ireturn, 1, (0, 0, 0))]
def p_X5_agedPocket : List (Nat × List ZN) := [(0, s_X5_agedPocket_0)]
def s_X5_unpack_0 : List ZN := [(.iload_n 1, 1, (0, 0, 0)), (.istore_n 2, 1, (0, 0, 0)), (.aload_n 0, 1, (0, 0, 0)), (.iload_n 2, 1, (0, 0, 0)), (.iconst 2, 1, (0, 0, 0)), (.irem, 1, (0, 0, 0)), (.iconst 1, 1, (0, 0, 0)), (.if_icmp .ne 7, 3, (14, 0, 0)), (.iconst 1, 1, (0, 0, 0)), (.goto 4, 3, (15, 0, 0))]
def s_X5_unpack_14 : List ZN := [(.iconst 0, 1, (0, 0, 0)), (.nop, 0, (15, 0, 0))]
def s_X5_unpack_15 : List ZN := [(.putfield 147, 3, (5, 13, 1)), (.iload_n 2, 1, (0, 0, 0)), (.iconst 2, 1, (0, 0, 0)), (.idiv, 1, (0, 0, 0)), (.istore_n 2, 1, (0, 0, 0)), (.aload_n 0, 1, (0, 0, 0)), (.iload_n 2, 1, (0, 0, 0)), (.iconst 5, 1, (0, 0, 0)), (.irem, 1, (0, 0, 0)), (.putfield 114, 3, (5, 12, 0)), (.iload_n 2, 1, (0, 0, 0)), (.iconst 5, 1, (0, 0, 0)), (.idiv, 1, (0, 0, 0)), (.istore_n 2, 1, (0, 0, 0)), (.aload_n 0, 1, (0, 0, 0)), (.iload_n 2, 1, (0, 0, 0)), (.bipush 31, 2, (0, 0, 0)), (.irem, 1, (0, 0, 0)), (.putfield 100, 3, (5, 11, 0)), (.iload_n 2, 1, (0, 0, 0)), (.bipush 31, 2, (0, 0, 0)), (.idiv, 1, (0, 0, 0)), (.istore_n 2, 1, (0, 0, 0)), (.aload_n 0, 1, (0, 0, 0)), (.iload_n 2, 1, (0, 0, 0)), (.bipush 16, 2, (0, 0, 0)), (.irem, 1, (0, 0, 0)), (.putfield 135, 3, (5, 9, 0)), (.aload_n 0, 1, (0, 0, 0)), (.iload_n 2, 1, (0, 0, 0)), (.bipush 64, 2, (0, 0, 0)), (.irem, 1, (0, 0, 0)), (.bipush 16, 2, (0, 0, 0)), (.idiv, 1, (0, 0, 0)), (.putfield 93, 3, (5, 10, 0)), (.aload_n 0, 1, (0, 0, 0)), (.iload_n 2, 1, (0, 0, 0)), (.bipush 64, 2, (0, 0, 0)), (.idiv, 1, (0, 0, 0)), (.putfield 111, 3, (5, 8, 0)), (.return_, 1, (0, 0, 0))]
def p_X5_unpack : List (Nat × List ZN) := [(0, s_X5_unpack_0), (14, s_X5_unpack_14), (15, s_X5_unpack_15)]
def s_X5_meet_0 : List ZN := [(.iload_n 1, 1, (0, 0, 0)), (.bipush 64, 2, (0, 0, 0)), (.imul, 1, (0, 0, 0)), (.iload_n 2, 1, (0, 0, 0)), (.iadd, 1, (0, 0, 0)), (.bipush 31, 2, (0, 0, 0)), (.imul, 1, (0, 0, 0)), (.iload_n 3, 1, (0, 0, 0)), (.iadd, 1, (0, 0, 0)), (.iconst 5, 1, (0, 0, 0)), (.imul, 1, (0, 0, 0)), (.iload 4, 2, (0, 0, 0)), (.iadd, 1, (0, 0, 0)), (.iconst 2, 1, (0, 0, 0)), (.imul, 1, (0, 0, 0)), (.iload 5, 2, (0, 0, 0)), (.iadd, 1, (0, 0, 0)), (.istore 8, 2, (0, 0, 0)), (.iload 8, 2, (0, 0, 0)), (.ifCond .lt 27, 3, (52, 0, 0)), (.iload 8, 2, (0, 0, 0)), (.ldc 153, 2, (0, 0, 178560)), (.if_icmp .ge 20, 3, (52, 0, 0)), (.aload_n 0, 1, (0, 0, 0)), (.getfield 51, 3, (5, 5, 0)), (.ldc 17, 2, (0, 0, 65536)), (.if_icmp .ge 11, 3, (52, 0, 0)), (.aload_n 0, 1, (0, 0, 0)), (.getfield 38, 3, (5, 6, 0)), (.iconst (-1), 1, (0, 0, 0)), (.if_icmp .eq 4, 3, (53, 0, 0)), (.nop, 0, (52, 0, 0))]
def s_X5_meet_52 : List ZN := [(.return_, 1, (0, 0, 0))]
def s_X5_meet_53 : List ZN := [(.lconst 1, 1, (0, 0, 0)), (.iload 8, 2, (0, 0, 0)), (.bipush 63, 2, (0, 0, 0)), (.iand, 1, (0, 0, 0)), (.lshl, 1, (0, 0, 0)), (.lstore 9, 2, (0, 0, 0)), (.aload_n 0, 1, (0, 0, 0)), (.getfield 22, 3, (5, 4, 2)), (.iload 8, 2, (0, 0, 0)), (.bipush 6, 2, (0, 0, 0)), (.ishr, 1, (0, 0, 0)), (.laload, 1, (0, 0, 0)), (.lload 9, 2, (0, 0, 0)), (.land, 1, (0, 0, 0)), (.lconst 0, 1, (0, 0, 0)), (.lcmp, 1, (0, 0, 0)), (.ifCond .eq 4, 3, (81, 0, 0)), (.return_, 1, (0, 0, 0))]
def s_X5_meet_81 : List ZN := [(.aload_n 0, 1, (0, 0, 0)), (.getfield 22, 3, (5, 4, 2)), (.iload 8, 2, (0, 0, 0)), (.bipush 6, 2, (0, 0, 0)), (.ishr, 1, (0, 0, 0)), (.dup2, 1, (0, 0, 0)), (.laload, 1, (0, 0, 0)), (.lload 9, 2, (0, 0, 0)), (.lor, 1, (0, 0, 0)), (.lastore, 1, (0, 0, 0)), (.aload_n 0, 1, (0, 0, 0)), (.getfield 18, 3, (5, 3, 2)), (.aload_n 0, 1, (0, 0, 0)), (.getfield 51, 3, (5, 5, 0)), (.lload 6, 2, (0, 0, 0)), (.iload 8, 2, (0, 0, 0)), (.i2l, 1, (0, 0, 0)), (.lor, 1, (0, 0, 0)), (.lastore, 1, (0, 0, 0)), (.iload_n 1, 1, (0, 0, 0)), (.aload_n 0, 1, (0, 0, 0)), (.getfield 26, 3, (5, 7, 2)), (.getfield 71, 3, (2, 0, 0)), (.if_icmp .ne 15, 3, (134, 0, 0)), (.iload_n 2, 1, (0, 0, 0)), (.ifCond .ne 11, 3, (134, 0, 0)), (.aload_n 0, 1, (0, 0, 0)), (.aload_n 0, 1, (0, 0, 0)), (.getfield 51, 3, (5, 5, 0)), (.putfield 38, 3, (5, 6, 0)), (.nop, 0, (134, 0, 0))]
def s_X5_meet_134 : List ZN := [(.aload_n 0, 1, (0, 0, 0)), (.dup, 1, (0, 0, 0)), (.getfield 51, 3, (5, 5, 0)), (.iconst 1, 1, (0, 0, 0)), (.iadd, 1, (0, 0, 0)), (.putfield 51, 3, (5, 5, 0)), (.return_, 1, (0, 0, 0))]
def p_X5_meet : List (Nat × List ZN) := [(0, s_X5_meet_0), (52, s_X5_meet_52), (53, s_X5_meet_53), (81, s_X5_meet_81), (134, s_X5_meet_134)]
def s_X5_traceBack_0 : List ZN := [(.iconst 0, 1, (0, 0, 0)), (.istore_n 1, 1, (0, 0, 0)), (.aload_n 0, 1, (0, 0, 0)), (.getfield 38, 3, (5, 6, 0)), (.istore_n 2, 1, (0, 0, 0)), (.nop, 0, (7, 0, 0))]
def s_X5_traceBack_7 : List ZN := [(.iload_n 2, 1, (0, 0, 0)), (.ifCond .le 22, 3, (30, 0, 0)), (.iload_n 1, 1, (0, 0, 0)), (.sipush 256, 3, (0, 0, 0)), (.if_icmp .ge 15, 3, (30, 0, 0)), (.iinc 1 1, 3, (0, 0, 0)), (.aload_n 0, 1, (0, 0, 0)), (.iload_n 2, 1, (0, 0, 0)), (.invokevirtual 154, 3, (j_X5_parentOf, 2, 0)), (.istore_n 2, 1, (0, 0, 0)), (.goto (-20), 3, (7, 0, 0))]
def s_X5_traceBack_30 : List ZN := [(.aload_n 0, 1, (0, 0, 0)), (.iload_n 1, 1, (0, 0, 0)), (.putfield 34, 3, (5, 1, 0)), (.aload_n 0, 1, (0, 0, 0)), (.getfield 38, 3, (5, 6, 0)), (.istore_n 2, 1, (0, 0, 0)), (.iload_n 1, 1, (0, 0, 0)), (.iconst 1, 1, (0, 0, 0)), (.isub, 1, (0, 0, 0)), (.istore_n 3, 1, (0, 0, 0)), (.nop, 0, (44, 0, 0))]
def s_X5_traceBack_44 : List ZN := [(.iload_n 3, 1, (0, 0, 0)), (.ifCond .lt 34, 3, (79, 0, 0)), (.aload_n 0, 1, (0, 0, 0)), (.getfield 13, 3, (5, 2, 2)), (.iload_n 3, 1, (0, 0, 0)), (.aload_n 0, 1, (0, 0, 0)), (.getfield 18, 3, (5, 3, 2)), (.iload_n 2, 1, (0, 0, 0)), (.laload, 1, (0, 0, 0)), (.bipush 24, 2, (0, 0, 0)), (.lshr, 1, (0, 0, 0)), (.l2i, 1, (0, 0, 0)), (.bipush 7, 2, (0, 0, 0)), (.iand, 1, (0, 0, 0)), (.iastore, 1, (0, 0, 0)), (.aload_n 0, 1, (0, 0, 0)), (.iload_n 2, 1, (0, 0, 0)), (.invokevirtual 154, 3, (j_X5_parentOf, 2, 0)), (.istore_n 2, 1, (0, 0, 0)), (.iinc 3 (-1), 3, (0, 0, 0)), (.goto (-32), 3, (44, 0, 0))]
def s_X5_traceBack_79 : List ZN := [(.return_, 1, (0, 0, 0))]
def p_X5_traceBack : List (Nat × List ZN) := [(0, s_X5_traceBack_0), (7, s_X5_traceBack_7), (30, s_X5_traceBack_30), (44, s_X5_traceBack_44), (79, s_X5_traceBack_79)]
def s_X5_parentOf_0 : List ZN := [(.aload_n 0, 1, (0, 0, 0)), (.getfield 18, 3, (5, 3, 2)), (.iload_n 1, 1, (0, 0, 0)), (.laload, 1, (0, 0, 0)), (.bipush 32, 2, (0, 0, 0)), (.lshr, 1, (0, 0, 0)), (.l2i, 1, (0, 0, 0)), (.ireturn, 1, (0, 0, 0))]
def p_X5_parentOf : List (Nat × List ZN) := [(0, s_X5_parentOf_0)]
def s_X6_init_0 : List ZN := [(.aload_n 0, 1, (0, 0, 0)), (.invokespecial 3, 3, (0, 1, 1)), (.aload_n 0, 1, (0, 0, 0)), (.sipush 400, 3, (0, 0, 0)), (.newarray .byte, 2, (0, 0, 0)), (.putfield 11, 3, (6, 0, 2)), (.aload_n 0, 1, (0, 0, 0)), (.iconst (-1), 1, (0, 0, 0)), (.putfield 15, 3, (6, 3, 0)), (.aload_n 0, 1, (0, 0, 0)), (.sipush 401, 3, (0, 0, 0)), (.newarray .int, 2, (0, 0, 0)), (.putfield 19, 3, (6, 4, 2)), (.aload_n 0, 1, (0, 0, 0)), (.sipush 401, 3, (0, 0, 0)), (.newarray .int, 2, (0, 0, 0)), (.putfield 23, 3, (6, 5, 2)), (.aload_n 0, 1, (0, 0, 0)), (.sipush 401, 3, (0, 0, 0)), (.newarray .int, 2, (0, 0, 0)), (.putfield 26, 3, (6, 6, 2)), (.return_, 1, (0, 0, 0))]
def p_X6_init : List (Nat × List ZN) := [(0, s_X6_init_0)]
def s_X6_hasRoomForFive_0 : List ZN := [(.aload_n 0, 1, (0, 0, 0)), (.getfield 29, 3, (6, 1, 0)), (.sipush 380, 3, (0, 0, 0)), (.if_icmp .gt 7, 3, (14, 0, 0)), (.iconst 1, 1, (0, 0, 0)), (.goto 4, 3, (15, 0, 0))]
def s_X6_hasRoomForFive_14 : List ZN := [(.iconst 0, 1, (0, 0, 0)), (.nop, 0, (15, 0, 0))]
def s_X6_hasRoomForFive_15 : List ZN := [(.ireturn, 1, (1, 0, 0))]
def p_X6_hasRoomForFive : List (Nat × List ZN) := [(0, s_X6_hasRoomForFive_0), (14, s_X6_hasRoomForFive_14), (15, s_X6_hasRoomForFive_15)]
def s_X6_append_0 : List ZN := [(.bipush 24, 2, (0, 0, 0)), (.istore_n 2, 1, (0, 0, 0)), (.nop, 0, (3, 0, 0))]
def s_X6_append_3 : List ZN := [(.iload_n 2, 1, (0, 0, 0)), (.ifCond .lt 42, 3, (46, 0, 0)), (.aload_n 0, 1, (0, 0, 0)), (.getfield 29, 3, (6, 1, 0)), (.sipush 400, 3, (0, 0, 0)), (.if_icmp .ge 26, 3, (40, 0, 0)), (.aload_n 0, 1, (0, 0, 0)), (.getfield 11, 3, (6, 0, 2)), (.aload_n 0, 1, (0, 0, 0)), (.getfield 29, 3, (6, 1, 0)), (.iload_n 1, 1, (0, 0, 0)), (.iload_n 2, 1, (0, 0, 0)), (.ishr, 1, (0, 0, 0)), (.i2b, 1, (0, 0, 0)), (.bastore, 1, (0, 0, 0)), (.aload_n 0, 1, (0, 0, 0)), (.dup, 1, (0, 0, 0)), (.getfield 29, 3, (6, 1, 0)), (.iconst 1, 1, (0, 0, 0)), (.iadd, 1, (0, 0, 0)), (.putfield 29, 3, (6, 1, 0)), (.nop, 0, (40, 0, 0))]
def s_X6_append_40 : List ZN := [(.iinc 2 (-8), 3, (0, 0, 0)), (.goto (-40), 3, (3, 0, 0))]
def s_X6_append_46 : List ZN := [(.return_, 1, (0, 0, 0))]
def p_X6_append : List (Nat × List ZN) := [(0, s_X6_append_0), (3, s_X6_append_3), (40, s_X6_append_40), (46, s_X6_append_46)]
def s_X6_readWay_0 : List ZN := [(.aload_n 0, 1, (0, 0, 0)), (.iload_n 2, 1, (0, 0, 0)), (.aload_n 0, 1, (0, 0, 0)), (.getfield 29, 3, (6, 1, 0)), (.invokestatic 32, 3, (0, 2, 4)), (.invokevirtual 38, 3, (j_X6_splitTokens, 2, 0)), (.aload_n 0, 1, (0, 0, 0)), (.iconst 0, 1, (0, 0, 0)), (.putfield 42, 3, (6, 8, 0)), (.aload_n 0, 1, (0, 0, 0)), (.iconst 0, 1, (0, 0, 0)), (.putfield 45, 3, (6, 2, 0)), (.aload_n 0, 1, (0, 0, 0)), (.iconst (-1), 1, (0, 0, 0)), (.putfield 15, 3, (6, 3, 0)), (.iconst 0, 1, (0, 0, 0)), (.istore_n 3, 1, (0, 0, 0)), (.nop, 0, (29, 0, 0))]
def s_X6_readWay_29 : List ZN := [(.iload_n 3, 1, (0, 0, 0)), (.aload_n 0, 1, (0, 0, 0)), (.getfield 48, 3, (6, 7, 0)), (.if_icmp .ge 42, 3, (76, 0, 0)), (.aload_n 0, 1, (0, 0, 0)), (.getfield 45, 3, (6, 2, 0)), (.ifCond .ne 35, 3, (76, 0, 0)), (.aload_n 0, 1, (0, 0, 0)), (.getfield 19, 3, (6, 4, 2)), (.aload_n 0, 1, (0, 0, 0)), (.getfield 42, 3, (6, 8, 0)), (.iaload, 1, (0, 0, 0)), (.ifCond .eq 23, 3, (76, 0, 0)), (.aload_n 0, 1, (0, 0, 0)), (.aload_n 1, 1, (0, 0, 0)), (.iload_n 3, 1, (0, 0, 0)), (.ifCond .ne 7, 3, (66, 0, 0)), (.iconst 1, 1, (0, 0, 0)), (.goto 4, 3, (67, 0, 0))]
def s_X6_readWay_66 : List ZN := [(.iconst 0, 1, (0, 0, 0)), (.nop, 0, (67, 0, 0))]
def s_X6_readWay_67 : List ZN := [(.invokevirtual 51, 3, (j_X6_readLine, 3, 0)), (.iinc 3 1, 3, (0, 0, 0)), (.goto (-44), 3, (29, 0, 0))]
def s_X6_readWay_76 : List ZN := [(.aload_n 1, 1, (0, 0, 0)), (.getfield 55, 3, (10, 1, 0)), (.ifCond .ne 8, 3, (88, 0, 0)), (.aload_n 0, 1, (0, 0, 0)), (.iconst 2, 1, (0, 0, 0)), (.invokevirtual 60, 3, (j_X6_blame, 2, 0)), (.nop, 0, (88, 0, 0))]
def s_X6_readWay_88 : List ZN := [(.iload_n 3, 1, (0, 0, 0)), (.ireturn, 1, (0, 0, 0))]
def p_X6_readWay : List (Nat × List ZN) := [(0, s_X6_readWay_0), (29, s_X6_readWay_29), (66, s_X6_readWay_66), (67, s_X6_readWay_67), (76, s_X6_readWay_76), (88, s_X6_readWay_88)]
def s_X6_splitTokens_0 : List ZN := [(.aload_n 0, 1, (0, 0, 0)), (.iload_n 1, 1, (0, 0, 0)), (.putfield 63, 3, (6, 9, 0)), (.aload_n 0, 1, (0, 0, 0)), (.iconst 0, 1, (0, 0, 0)), (.putfield 66, 3, (6, 10, 0)), (.aload_n 0, 1, (0, 0, 0)), (.iconst 0, 1, (0, 0, 0)), (.putfield 48, 3, (6, 7, 0)), (.iconst 1, 1, (0, 0, 0)), (.istore_n 2, 1, (0, 0, 0)), (.nop, 0, (17, 0, 0))]
def s_X6_splitTokens_17 : List ZN := [(.iload_n 2, 1, (0, 0, 0)), (.ifCond .eq 122, 3, (140, 0, 0)), (.aload_n 0, 1, (0, 0, 0)), (.getfield 48, 3, (6, 7, 0)), (.sipush 400, 3, (0, 0, 0)), (.if_icmp .gt 112, 3, (140, 0, 0)), (.nop, 0, (31, 0, 0))]
def s_X6_splitTokens_31 : List ZN := [(.aload_n 0, 1, (0, 0, 0)), (.getfield 66, 3, (6, 10, 0)), (.aload_n 0, 1, (0, 0, 0)), (.getfield 63, 3, (6, 9, 0)), (.if_icmp .ge 31, 3, (70, 0, 0)), (.aload_n 0, 1, (0, 0, 0)), (.getfield 11, 3, (6, 0, 2)), (.aload_n 0, 1, (0, 0, 0)), (.getfield 66, 3, (6, 10, 0)), (.baload, 1, (0, 0, 0)), (.invokestatic 69, 3, (j_X6_isBlank, 1, 0)), (.ifCond .eq 16, 3, (70, 0, 0)), (.aload_n 0, 1, (0, 0, 0)), (.dup, 1, (0, 0, 0)), (.getfield 66, 3, (6, 10, 0)), (.iconst 1, 1, (0, 0, 0)), (.iadd, 1, (0, 0, 0)), (.putfield 66, 3, (6, 10, 0)), (.goto (-36), 3, (31, 0, 0))]
def s_X6_splitTokens_70 : List ZN := [(.aload_n 0, 1, (0, 0, 0)), (.getfield 23, 3, (6, 5, 2)), (.aload_n 0, 1, (0, 0, 0)), (.getfield 48, 3, (6, 7, 0)), (.aload_n 0, 1, (0, 0, 0)), (.getfield 66, 3, (6, 10, 0)), (.iastore, 1, (0, 0, 0)), (.aload_n 0, 1, (0, 0, 0)), (.getfield 19, 3, (6, 4, 2)), (.aload_n 0, 1, (0, 0, 0)), (.getfield 48, 3, (6, 7, 0)), (.aload_n 0, 1, (0, 0, 0)), (.invokevirtual 73, 3, (j_X6_nextKind, 1, 0)), (.iastore, 1, (0, 0, 0)), (.aload_n 0, 1, (0, 0, 0)), (.getfield 19, 3, (6, 4, 2)), (.aload_n 0, 1, (0, 0, 0)), (.getfield 48, 3, (6, 7, 0)), (.iaload, 1, (0, 0, 0)), (.ifCond .eq 20, 3, (125, 0, 0)), (.aload_n 0, 1, (0, 0, 0)), (.getfield 19, 3, (6, 4, 2)), (.aload_n 0, 1, (0, 0, 0)), (.getfield 48, 3, (6, 7, 0)), (.iaload, 1, (0, 0, 0)), (.iconst 1, 1, (0, 0, 0)), (.if_icmp .eq 7, 3, (125, 0, 0)), (.iconst 1, 1, (0, 0, 0)), (.goto 4, 3, (126, 0, 0))]
def s_X6_splitTokens_125 : List ZN := [(.iconst 0, 1, (0, 0, 0)), (.nop, 0, (126, 0, 0))]
def s_X6_splitTokens_126 : List ZN := [(.istore_n 2, 1, (0, 0, 0)), (.aload_n 0, 1, (0, 0, 0)), (.dup, 1, (0, 0, 0)), (.getfield 48, 3, (6, 7, 0)), (.iconst 1, 1, (0, 0, 0)), (.iadd, 1, (0, 0, 0)), (.putfield 48, 3, (6, 7, 0)), (.goto (-120), 3, (17, 0, 0))]
def s_X6_splitTokens_140 : List ZN := [(.return_, 1, (0, 0, 0))]
def p_X6_splitTokens : List (Nat × List ZN) := [(0, s_X6_splitTokens_0), (17, s_X6_splitTokens_17), (31, s_X6_splitTokens_31), (70, s_X6_splitTokens_70), (125, s_X6_splitTokens_125), (126, s_X6_splitTokens_126), (140, s_X6_splitTokens_140)]
def s_X6_nextKind_0 : List ZN := [(.aload_n 0, 1, (0, 0, 0)), (.getfield 66, 3, (6, 10, 0)), (.aload_n 0, 1, (0, 0, 0)), (.getfield 63, 3, (6, 9, 0)), (.if_icmp .lt 5, 3, (13, 0, 0)), (.iconst 0, 1, (0, 0, 0)), (.ireturn, 1, (0, 0, 0))]
def s_X6_nextKind_13 : List ZN := [(.aload_n 0, 1, (0, 0, 0)), (.getfield 11, 3, (6, 0, 2)), (.aload_n 0, 1, (0, 0, 0)), (.getfield 66, 3, (6, 10, 0)), (.baload, 1, (0, 0, 0)), (.istore_n 1, 1, (0, 0, 0)), (.iload_n 1, 1, (0, 0, 0)), (.invokestatic 77, 3, (j_X6_isLetter, 1, 0)), (.ifCond .eq 8, 3, (35, 0, 0)), (.aload_n 0, 1, (0, 0, 0)), (.invokevirtual 80, 3, (j_X6_nextWord, 1, 0)), (.ireturn, 1, (0, 0, 0))]
def s_X6_nextKind_35 : List ZN := [(.iload_n 1, 1, (0, 0, 0)), (.invokestatic 83, 3, (j_X6_isDigit, 1, 0)), (.ifCond .eq 8, 3, (47, 0, 0)), (.aload_n 0, 1, (0, 0, 0)), (.invokevirtual 86, 3, (j_X6_nextNumber, 1, 0)), (.ireturn, 1, (0, 0, 0))]
def s_X6_nextKind_47 : List ZN := [(.aload_n 0, 1, (0, 0, 0)), (.dup, 1, (0, 0, 0)), (.getfield 66, 3, (6, 10, 0)), (.iconst 1, 1, (0, 0, 0)), (.iadd, 1, (0, 0, 0)), (.putfield 66, 3, (6, 10, 0)), (.iload_n 1, 1, (0, 0, 0)), (.bipush 59, 2, (0, 0, 0)), (.if_icmp .ne 7, 3, (67, 0, 0)), (.iconst 3, 1, (0, 0, 0)), (.goto 4, 3, (68, 0, 0))]
def s_X6_nextKind_67 : List ZN := [(.iconst 1, 1, (0, 0, 0)), (.nop, 0, (68, 0, 0))]
def s_X6_nextKind_68 : List ZN := [(.ireturn, 1, (0, 0, 0))]
def p_X6_nextKind : List (Nat × List ZN) := [(0, s_X6_nextKind_0), (13, s_X6_nextKind_13), (35, s_X6_nextKind_35), (47, s_X6_nextKind_47), (67, s_X6_nextKind_67), (68, s_X6_nextKind_68)]
def s_X6_nextNumber_0 : List ZN := [(.aload_n 0, 1, (0, 0, 0)), (.getfield 66, 3, (6, 10, 0)), (.istore_n 1, 1, (0, 0, 0)), (.iconst 0, 1, (0, 0, 0)), (.istore_n 2, 1, (0, 0, 0)), (.nop, 0, (7, 0, 0))]
def s_X6_nextNumber_7 : List ZN := [(.aload_n 0, 1, (0, 0, 0)), (.getfield 66, 3, (6, 10, 0)), (.aload_n 0, 1, (0, 0, 0)), (.getfield 63, 3, (6, 9, 0)), (.if_icmp .ge 55, 3, (70, 0, 0)), (.aload_n 0, 1, (0, 0, 0)), (.getfield 11, 3, (6, 0, 2)), (.aload_n 0, 1, (0, 0, 0)), (.getfield 66, 3, (6, 10, 0)), (.baload, 1, (0, 0, 0)), (.invokestatic 83, 3, (j_X6_isDigit, 1, 0)), (.ifCond .eq 40, 3, (70, 0, 0)), (.sipush 9999, 3, (0, 0, 0)), (.iload_n 2, 1, (0, 0, 0)), (.bipush 10, 2, (0, 0, 0)), (.imul, 1, (0, 0, 0)), (.aload_n 0, 1, (0, 0, 0)), (.getfield 11, 3, (6, 0, 2)), (.aload_n 0, 1, (0, 0, 0)), (.getfield 66, 3, (6, 10, 0)), (.baload, 1, (0, 0, 0)), (.bipush 48, 2, (0, 0, 0)), (.isub, 1, (0, 0, 0)), (.iadd, 1, (0, 0, 0)), (.invokestatic 32, 3, (0, 2, 4)), (.istore_n 2, 1, (0, 0, 0)), (.aload_n 0, 1, (0, 0, 0)), (.dup, 1, (0, 0, 0)), (.getfield 66, 3, (6, 10, 0)), (.iconst 1, 1, (0, 0, 0)), (.iadd, 1, (0, 0, 0)), (.putfield 66, 3, (6, 10, 0)), (.goto (-60), 3, (7, 0, 0))]
def s_X6_nextNumber_70 : List ZN := [(.aload_n 0, 1, (0, 0, 0)), (.getfield 26, 3, (6, 6, 2)), (.aload_n 0, 1, (0, 0, 0)), (.getfield 48, 3, (6, 7, 0)), (.iload_n 2, 1, (0, 0, 0)), (.iastore, 1, (0, 0, 0)), (.aload_n 0, 1, (0, 0, 0)), (.getfield 66, 3, (6, 10, 0)), (.iload_n 1, 1, (0, 0, 0)), (.isub, 1, (0, 0, 0)), (.iconst 3, 1, (0, 0, 0)), (.if_icmp .le 7, 3, (94, 0, 0)), (.iconst 1, 1, (0, 0, 0)), (.goto 4, 3, (95, 0, 0))]
def s_X6_nextNumber_94 : List ZN := [(.iconst 2, 1, (0, 0, 0)), (.nop, 0, (95, 0, 0))]
def s_X6_nextNumber_95 : List ZN := [(.ireturn, 1, (0, 0, 0))]
def p_X6_nextNumber : List (Nat × List ZN) := [(0, s_X6_nextNumber_0), (7, s_X6_nextNumber_7), (70, s_X6_nextNumber_70), (94, s_X6_nextNumber_94), (95, s_X6_nextNumber_95)]
def s_X6_nextWord_0 : List ZN := [(.aload_n 0, 1, (0, 0, 0)), (.getfield 66, 3, (6, 10, 0)), (.istore_n 1, 1, (0, 0, 0)), (.nop, 0, (5, 0, 0))]
def s_X6_nextWord_5 : List ZN := [(.aload_n 0, 1, (0, 0, 0)), (.getfield 66, 3, (6, 10, 0)), (.aload_n 0, 1, (0, 0, 0)), (.getfield 63, 3, (6, 9, 0)), (.if_icmp .ge 31, 3, (44, 0, 0)), (.aload_n 0, 1, (0, 0, 0)), (.getfield 11, 3, (6, 0, 2)), (.aload_n 0, 1, (0, 0, 0)), (.getfield 66, 3, (6, 10, 0)), (.baload, 1, (0, 0, 0)), (.invokestatic 77, 3, (j_X6_isLetter, 1, 0)), (.ifCond .eq 16, 3, (44, 0, 0)), (.aload_n 0, 1, (0, 0, 0)), (.dup, 1, (0, 0, 0)), (.getfield 66, 3, (6, 10, 0)), (.iconst 1, 1, (0, 0, 0)), (.iadd, 1, (0, 0, 0)), (.putfield 66, 3, (6, 10, 0)), (.goto (-36), 3, (5, 0, 0))]
def s_X6_nextWord_44 : List ZN := [(.aload_n 0, 1, (0, 0, 0)), (.getfield 66, 3, (6, 10, 0)), (.iload_n 1, 1, (0, 0, 0)), (.isub, 1, (0, 0, 0)), (.tableswitch 101 3 6 #[30, 61, 67, 84], 30, (50, 0, 0))]
def s_X6_nextWord_80 : List ZN := [(.aload_n 0, 1, (0, 0, 0)), (.iload_n 1, 1, (0, 0, 0)), (.ldc 89, 2, (1, 0, 0)), (.invokevirtual 91, 3, (j_X6_isAt, 3, 0)), (.ifCond .eq 7, 3, (94, 0, 0)), (.iconst 5, 1, (0, 0, 0)), (.goto 19, 3, (110, 0, 0))]
def s_X6_nextWord_94 : List ZN := [(.aload_n 0, 1, (0, 0, 0)), (.iload_n 1, 1, (0, 0, 0)), (.ldc 95, 2, (1, 1, 0)), (.invokevirtual 91, 3, (j_X6_isAt, 3, 0)), (.ifCond .eq 8, 3, (109, 0, 0)), (.bipush 8, 2, (0, 0, 0)), (.goto 4, 3, (110, 0, 0))]
def s_X6_nextWord_109 : List ZN := [(.iconst 4, 1, (0, 0, 0)), (.nop, 0, (110, 0, 0))]
def s_X6_nextWord_110 : List ZN := [(.ireturn, 1, (0, 0, 0))]
def s_X6_nextWord_111 : List ZN := [(.aload_n 0, 1, (0, 0, 0)), (.iload_n 1, 1, (0, 0, 0)), (.invokevirtual 97, 3, (j_X6_wordOfFour, 2, 0)), (.ireturn, 1, (0, 0, 0))]
def s_X6_nextWord_117 : List ZN := [(.aload_n 0, 1, (0, 0, 0)), (.iload_n 1, 1, (0, 0, 0)), (.ldc 101, 2, (1, 2, 0)), (.invokevirtual 91, 3, (j_X6_isAt, 3, 0)), (.ifCond .eq 8, 3, (132, 0, 0)), (.bipush 7, 2, (0, 0, 0)), (.goto 4, 3, (133, 0, 0))]
def s_X6_nextWord_132 : List ZN := [(.iconst 4, 1, (0, 0, 0)), (.nop, 0, (133, 0, 0))]
def s_X6_nextWord_133 : List ZN := [(.ireturn, 1, (0, 0, 0))]
def s_X6_nextWord_134 : List ZN := [(.aload_n 0, 1, (0, 0, 0)), (.iload_n 1, 1, (0, 0, 0)), (.ldc 103, 2, (1, 3, 0)), (.invokevirtual 91, 3, (j_X6_isAt, 3, 0)), (.ifCond .eq 8, 3, (149, 0, 0)), (.bipush 6, 2, (0, 0, 0)), (.goto 4, 3, (150, 0, 0))]
def s_X6_nextWord_149 : List ZN := [(.iconst 4, 1, (0, 0, 0)), (.nop, 0, (150, 0, 0))]
def s_X6_nextWord_150 : List ZN := [(.ireturn, 1, (0, 0, 0))]
def s_X6_nextWord_151 : List ZN := [(.iconst 4, 1, (0, 0, 0)), (.ireturn, 1, (0, 0, 0))]
def p_X6_nextWord : List (Nat × List ZN) := [(0, s_X6_nextWord_0), (5, s_X6_nextWord_5), (44, s_X6_nextWord_44), (80, s_X6_nextWord_80), (94, s_X6_nextWord_94), (109, s_X6_nextWord_109), (110, s_X6_nextWord_110), (111, s_X6_nextWord_111), (117, s_X6_nextWord_117), (132, s_X6_nextWord_132), (133, s_X6_nextWord_133), (134, s_X6_nextWord_134), (149, s_X6_nextWord_149), (150, s_X6_nextWord_150), (151, s_X6_nextWord_151)]
def s_X6_wordOfFour_0 : List ZN := [(.aload_n 0, 1, (0, 0, 0)), (.iload_n 1, 1, (0, 0, 0)), (.ldc 105, 2, (1, 4, 0)), (.invokevirtual 91, 3, (j_X6_isAt, 3, 0)), (.ifCond .eq 6, 3, (13, 0, 0)), (.bipush 9, 2, (0, 0, 0)), (.ireturn, 1, (0, 0, 0))]
def s_X6_wordOfFour_13 : List ZN := [(.aload_n 0, 1, (0, 0, 0)), (.iload_n 1, 1, (0, 0, 0)), (.ldc 107, 2, (1, 5, 0)), (.invokevirtual 91, 3, (j_X6_isAt, 3, 0)), (.ifCond .eq 6, 3, (26, 0, 0)), (.bipush 10, 2, (0, 0, 0)), (.ireturn, 1, (0, 0, 0))]
def s_X6_wordOfFour_26 : List ZN := [(.aload_n 0, 1, (0, 0, 0)), (.iload_n 1, 1, (0, 0, 0)), (.ldc 109, 2, (1, 6, 0)), (.invokevirtual 91, 3, (j_X6_isAt, 3, 0)), (.ifCond .eq 6, 3, (39, 0, 0)), (.bipush 11, 2, (0, 0, 0)), (.ireturn, 1, (0, 0, 0))]
def s_X6_wordOfFour_39 : List ZN := [(.aload_n 0, 1, (0, 0, 0)), (.iload_n 1, 1, (0, 0, 0)), (.ldc 111, 2, (1, 7, 0)), (.invokevirtual 91, 3, (j_X6_isAt, 3, 0)), (.ifCond .eq 6, 3, (52, 0, 0)), (.bipush 12, 2, (0, 0, 0)), (.ireturn, 1, (0, 0, 0))]
def s_X6_wordOfFour_52 : List ZN := [(.aload_n 0, 1, (0, 0, 0)), (.iload_n 1, 1, (0, 0, 0)), (.ldc 113, 2, (1, 8, 0)), (.invokevirtual 91, 3, (j_X6_isAt, 3, 0)), (.ifCond .eq 8, 3, (67, 0, 0)), (.bipush 13, 2, (0, 0, 0)), (.goto 4, 3, (68, 0, 0))]
def s_X6_wordOfFour_67 : List ZN := [(.iconst 4, 1, (0, 0, 0)), (.nop, 0, (68, 0, 0))]
def s_X6_wordOfFour_68 : List ZN := [(.ireturn, 1, (0, 0, 0))]
def p_X6_wordOfFour : List (Nat × List ZN) := [(0, s_X6_wordOfFour_0), (13, s_X6_wordOfFour_13), (26, s_X6_wordOfFour_26), (39, s_X6_wordOfFour_39), (52, s_X6_wordOfFour_52), (67, s_X6_wordOfFour_67), (68, s_X6_wordOfFour_68)]
def s_X6_isAt_0 : List ZN := [(.aload_n 2, 1, (0, 0, 0)), (.invokevirtual 115, 3, (j_J0_length_8abf5, 1, 0)), (.istore_n 3, 1, (0, 0, 0)), (.iload_n 1, 1, (0, 0, 0)), (.iload_n 3, 1, (0, 0, 0)), (.iadd, 1, (0, 0, 0)), (.aload_n 0, 1, (0, 0, 0)), (.getfield 63, 3, (6, 9, 0)), (.if_icmp .le 5, 3, (17, 0, 0)), (.iconst 0, 1, (0, 0, 0)), (.ireturn, 1, (1, 0, 0))]
def s_X6_isAt_17 : List ZN := [(.iconst 0, 1, (0, 0, 0)), (.istore 4, 2, (0, 0, 0)), (.nop, 0, (20, 0, 0))]
def s_X6_isAt_20 : List ZN := [(.iload 4, 2, (0, 0, 0)), (.iload_n 3, 1, (0, 0, 0)), (.if_icmp .ge 29, 3, (52, 0, 0)), (.aload_n 0, 1, (0, 0, 0)), (.getfield 11, 3, (6, 0, 2)), (.iload_n 1, 1, (0, 0, 0)), (.iload 4, 2, (0, 0, 0)), (.iadd, 1, (0, 0, 0)), (.baload, 1, (0, 0, 0)), (.aload_n 2, 1, (0, 0, 0)), (.iload 4, 2, (0, 0, 0)), (.invokevirtual 120, 3, (j_J0_charAt_5068e, 2, 0)), (.if_icmp .eq 5, 3, (46, 0, 0)), (.iconst 0, 1, (0, 0, 0)), (.ireturn, 1, (1, 0, 0))]
def s_X6_isAt_46 : List ZN := [(.iinc 4 1, 3, (0, 0, 0)), (.goto (-29), 3, (20, 0, 0))]
def s_X6_isAt_52 : List ZN := [(.iconst 1, 1, (0, 0, 0)), (.ireturn, 1, (1, 0, 0))]
def p_X6_isAt : List (Nat × List ZN) := [(0, s_X6_isAt_0), (17, s_X6_isAt_17), (20, s_X6_isAt_20), (46, s_X6_isAt_46), (52, s_X6_isAt_52)]
def s_X6_readLine_0 : List ZN := [(.aload_n 0, 1, (0, 0, 0)), (.getfield 19, 3, (6, 4, 2)), (.aload_n 0, 1, (0, 0, 0)), (.getfield 42, 3, (6, 8, 0)), (.iaload, 1, (0, 0, 0)), (.tableswitch 111 5 13 #[51, 79, 111, 87, 95, 111, 111, 111, 103], 51, (9, 0, 0))]
def s_X6_readLine_60 : List ZN := [(.iload_n 2, 1, (0, 0, 0)), (.ifCond .eq 19, 3, (80, 0, 0)), (.aload_n 1, 1, (0, 0, 0)), (.aload_n 0, 1, (0, 0, 0)), (.bipush 40, 2, (0, 0, 0)), (.sipush 300, 3, (0, 0, 0)), (.invokevirtual 124, 3, (j_X6_readNumber, 3, 0)), (.putfield 127, 3, (10, 0, 0)), (.goto 48, 3, (125, 0, 0))]
def s_X6_readLine_80 : List ZN := [(.aload_n 0, 1, (0, 0, 0)), (.iconst 2, 1, (0, 0, 0)), (.invokevirtual 60, 3, (j_X6_blame, 2, 0)), (.goto 40, 3, (125, 0, 0))]
def s_X6_readLine_88 : List ZN := [(.aload_n 0, 1, (0, 0, 0)), (.aload_n 1, 1, (0, 0, 0)), (.invokevirtual 129, 3, (j_X6_readRoller, 2, 0)), (.goto 32, 3, (125, 0, 0))]
def s_X6_readLine_96 : List ZN := [(.aload_n 0, 1, (0, 0, 0)), (.aload_n 1, 1, (0, 0, 0)), (.invokevirtual 133, 3, (j_X6_readEye, 2, 0)), (.goto 24, 3, (125, 0, 0))]
def s_X6_readLine_104 : List ZN := [(.aload_n 0, 1, (0, 0, 0)), (.aload_n 1, 1, (0, 0, 0)), (.invokevirtual 136, 3, (j_X6_readTurn, 2, 0)), (.goto 16, 3, (125, 0, 0))]
def s_X6_readLine_112 : List ZN := [(.aload_n 0, 1, (0, 0, 0)), (.aload_n 1, 1, (0, 0, 0)), (.invokevirtual 139, 3, (j_X6_readDamp, 2, 0)), (.goto 8, 3, (125, 0, 0))]
def s_X6_readLine_120 : List ZN := [(.aload_n 0, 1, (0, 0, 0)), (.iconst 2, 1, (0, 0, 0)), (.invokevirtual 60, 3, (j_X6_blame, 2, 0)), (.nop, 0, (125, 0, 0))]
def s_X6_readLine_125 : List ZN := [(.aload_n 0, 1, (0, 0, 0)), (.iconst 3, 1, (0, 0, 0)), (.invokevirtual 142, 3, (j_X6_want, 2, 0)), (.aload_n 0, 1, (0, 0, 0)), (.invokevirtual 145, 3, (j_X6_goOn, 1, 0)), (.return_, 1, (0, 0, 0))]
def p_X6_readLine : List (Nat × List ZN) := [(0, s_X6_readLine_0), (60, s_X6_readLine_60), (80, s_X6_readLine_80), (88, s_X6_readLine_88), (96, s_X6_readLine_96), (104, s_X6_readLine_104), (112, s_X6_readLine_112), (120, s_X6_readLine_120), (125, s_X6_readLine_125)]
def s_X6_readRoller_0 : List ZN := [(.aload_n 1, 1, (0, 0, 0)), (.getfield 55, 3, (10, 1, 0)), (.bipush 10, 2, (0, 0, 0)), (.if_icmp .lt 9, 3, (15, 0, 0)), (.aload_n 0, 1, (0, 0, 0)), (.iconst 5, 1, (0, 0, 0)), (.invokevirtual 60, 3, (j_X6_blame, 2, 0)), (.return_, 1, (0, 0, 0))]
def s_X6_readRoller_15 : List ZN := [(.aload_n 1, 1, (0, 0, 0)), (.getfield 148, 3, (10, 2, 2)), (.aload_n 1, 1, (0, 0, 0)), (.getfield 55, 3, (10, 1, 0)), (.aload_n 0, 1, (0, 0, 0)), (.aload_n 1, 1, (0, 0, 0)), (.invokevirtual 151, 3, (j_X10_lastRollerPlace, 1, 0)), (.iconst 1, 1, (0, 0, 0)), (.iadd, 1, (0, 0, 0)), (.aload_n 1, 1, (0, 0, 0)), (.getfield 127, 3, (10, 0, 0)), (.iconst 1, 1, (0, 0, 0)), (.isub, 1, (0, 0, 0)), (.invokevirtual 124, 3, (j_X6_readNumber, 3, 0)), (.iastore, 1, (0, 0, 0)), (.aload_n 0, 1, (0, 0, 0)), (.bipush 7, 2, (0, 0, 0)), (.invokevirtual 142, 3, (j_X6_want, 2, 0)), (.aload_n 1, 1, (0, 0, 0)), (.getfield 154, 3, (10, 3, 2)), (.aload_n 1, 1, (0, 0, 0)), (.getfield 55, 3, (10, 1, 0)), (.aload_n 0, 1, (0, 0, 0)), (.iconst 1, 1, (0, 0, 0)), (.bipush 9, 2, (0, 0, 0)), (.invokevirtual 124, 3, (j_X6_readNumber, 3, 0)), (.iastore, 1, (0, 0, 0)), (.aload_n 1, 1, (0, 0, 0)), (.dup, 1, (0, 0, 0)), (.getfield 55, 3, (10, 1, 0)), (.iconst 1, 1, (0, 0, 0)), (.iadd, 1, (0, 0, 0)), (.putfield 55, 3, (10, 1, 0)), (.return_, 1, (0, 0, 0))]
def p_X6_readRoller : List (Nat × List ZN) := [(0, s_X6_readRoller_0), (15, s_X6_readRoller_15)]
def s_X6_readEye_0 : List ZN := [(.aload_n 1, 1, (0, 0, 0)), (.getfield 156, 3, (10, 4, 0)), (.bipush 19, 2, (0, 0, 0)), (.if_icmp .lt 9, 3, (15, 0, 0)), (.aload_n 0, 1, (0, 0, 0)), (.iconst 5, 1, (0, 0, 0)), (.invokevirtual 60, 3, (j_X6_blame, 2, 0)), (.return_, 1, (0, 0, 0))]
def s_X6_readEye_15 : List ZN := [(.aload_n 1, 1, (0, 0, 0)), (.getfield 159, 3, (10, 5, 2)), (.aload_n 1, 1, (0, 0, 0)), (.getfield 156, 3, (10, 4, 0)), (.aload_n 0, 1, (0, 0, 0)), (.aload_n 1, 1, (0, 0, 0)), (.invokevirtual 162, 3, (j_X10_lastEyePlace, 1, 0)), (.iconst 1, 1, (0, 0, 0)), (.iadd, 1, (0, 0, 0)), (.aload_n 1, 1, (0, 0, 0)), (.getfield 127, 3, (10, 0, 0)), (.invokevirtual 124, 3, (j_X6_readNumber, 3, 0)), (.iastore, 1, (0, 0, 0)), (.aload_n 1, 1, (0, 0, 0)), (.dup, 1, (0, 0, 0)), (.getfield 156, 3, (10, 4, 0)), (.iconst 1, 1, (0, 0, 0)), (.iadd, 1, (0, 0, 0)), (.putfield 156, 3, (10, 4, 0)), (.return_, 1, (0, 0, 0))]
def p_X6_readEye : List (Nat × List ZN) := [(0, s_X6_readEye_0), (15, s_X6_readEye_15)]
def s_X6_readTurn_0 : List ZN := [(.aload_n 1, 1, (0, 0, 0)), (.getfield 165, 3, (10, 6, 0)), (.ifCond .eq 9, 3, (13, 0, 0)), (.aload_n 0, 1, (0, 0, 0)), (.iconst 4, 1, (0, 0, 0)), (.invokevirtual 60, 3, (j_X6_blame, 2, 0)), (.return_, 1, (0, 0, 0))]
def s_X6_readTurn_13 : List ZN := [(.aload_n 1, 1, (0, 0, 0)), (.aload_n 0, 1, (0, 0, 0)), (.iconst 2, 1, (0, 0, 0)), (.aload_n 1, 1, (0, 0, 0)), (.getfield 127, 3, (10, 0, 0)), (.iconst 1, 1, (0, 0, 0)), (.isub, 1, (0, 0, 0)), (.invokevirtual 124, 3, (j_X6_readNumber, 3, 0)), (.putfield 165, 3, (10, 6, 0)), (.aload_n 0, 1, (0, 0, 0)), (.bipush 10, 2, (0, 0, 0)), (.invokevirtual 142, 3, (j_X6_want, 2, 0)), (.aload_n 1, 1, (0, 0, 0)), (.aload_n 0, 1, (0, 0, 0)), (.iconst 1, 1, (0, 0, 0)), (.aload_n 1, 1, (0, 0, 0)), (.getfield 165, 3, (10, 6, 0)), (.iconst 1, 1, (0, 0, 0)), (.isub, 1, (0, 0, 0)), (.invokevirtual 124, 3, (j_X6_readNumber, 3, 0)), (.putfield 167, 3, (10, 7, 0)), (.aload_n 0, 1, (0, 0, 0)), (.bipush 11, 2, (0, 0, 0)), (.invokevirtual 142, 3, (j_X6_want, 2, 0)), (.aload_n 1, 1, (0, 0, 0)), (.aload_n 0, 1, (0, 0, 0)), (.iconst 1, 1, (0, 0, 0)), (.iconst 3, 1, (0, 0, 0)), (.invokevirtual 124, 3, (j_X6_readNumber, 3, 0)), (.putfield 169, 3, (10, 8, 0)), (.aload_n 0, 1, (0, 0, 0)), (.bipush 12, 2, (0, 0, 0)), (.invokevirtual 142, 3, (j_X6_want, 2, 0)), (.aload_n 1, 1, (0, 0, 0)), (.aload_n 0, 1, (0, 0, 0)), (.iconst 1, 1, (0, 0, 0)), (.bipush 20, 2, (0, 0, 0)), (.invokevirtual 124, 3, (j_X6_readNumber, 3, 0)), (.putfield 171, 3, (10, 9, 0)), (.return_, 1, (0, 0, 0))]
def p_X6_readTurn : List (Nat × List ZN) := [(0, s_X6_readTurn_0), (13, s_X6_readTurn_13)]
def s_X6_readDamp_0 : List ZN := [(.aload_n 1, 1, (0, 0, 0)), (.getfield 173, 3, (10, 11, 1)), (.ifCond .eq 9, 3, (13, 0, 0)), (.aload_n 0, 1, (0, 0, 0)), (.iconst 4, 1, (0, 0, 0)), (.invokevirtual 60, 3, (j_X6_blame, 2, 0)), (.return_, 1, (0, 0, 0))]
def s_X6_readDamp_13 : List ZN := [(.aload_n 1, 1, (0, 0, 0)), (.aload_n 0, 1, (0, 0, 0)), (.iconst 0, 1, (0, 0, 0)), (.bipush 90, 2, (0, 0, 0)), (.invokevirtual 124, 3, (j_X6_readNumber, 3, 0)), (.putfield 177, 3, (10, 10, 0)), (.aload_n 1, 1, (0, 0, 0)), (.iconst 1, 1, (0, 0, 0)), (.putfield 173, 3, (10, 11, 1)), (.return_, 1, (0, 0, 0))]
def p_X6_readDamp : List (Nat × List ZN) := [(0, s_X6_readDamp_0), (13, s_X6_readDamp_13)]
def s_X6_readNumber_0 : List ZN := [(.aload_n 0, 1, (0, 0, 0)), (.iconst 2, 1, (0, 0, 0)), (.invokevirtual 142, 3, (j_X6_want, 2, 0)), (.aload_n 0, 1, (0, 0, 0)), (.getfield 45, 3, (6, 2, 0)), (.ifCond .ne 34, 3, (43, 0, 0)), (.aload_n 0, 1, (0, 0, 0)), (.getfield 26, 3, (6, 6, 2)), (.aload_n 0, 1, (0, 0, 0)), (.getfield 42, 3, (6, 8, 0)), (.iaload, 1, (0, 0, 0)), (.iload_n 1, 1, (0, 0, 0)), (.if_icmp .lt 16, 3, (38, 0, 0)), (.aload_n 0, 1, (0, 0, 0)), (.getfield 26, 3, (6, 6, 2)), (.aload_n 0, 1, (0, 0, 0)), (.getfield 42, 3, (6, 8, 0)), (.iaload, 1, (0, 0, 0)), (.iload_n 2, 1, (0, 0, 0)), (.if_icmp .le 8, 3, (43, 0, 0)), (.nop, 0, (38, 0, 0))]
def s_X6_readNumber_38 : List ZN := [(.aload_n 0, 1, (0, 0, 0)), (.iconst 3, 1, (0, 0, 0)), (.invokevirtual 60, 3, (j_X6_blame, 2, 0)), (.nop, 0, (43, 0, 0))]
def s_X6_readNumber_43 : List ZN := [(.aload_n 0, 1, (0, 0, 0)), (.getfield 45, 3, (6, 2, 0)), (.ifCond .ne 15, 3, (62, 0, 0)), (.aload_n 0, 1, (0, 0, 0)), (.getfield 26, 3, (6, 6, 2)), (.aload_n 0, 1, (0, 0, 0)), (.getfield 42, 3, (6, 8, 0)), (.iaload, 1, (0, 0, 0)), (.goto 4, 3, (63, 0, 0))]
def s_X6_readNumber_62 : List ZN := [(.iconst 0, 1, (0, 0, 0)), (.nop, 0, (63, 0, 0))]
def s_X6_readNumber_63 : List ZN := [(.ireturn, 1, (0, 0, 0))]
def p_X6_readNumber : List (Nat × List ZN) := [(0, s_X6_readNumber_0), (38, s_X6_readNumber_38), (43, s_X6_readNumber_43), (62, s_X6_readNumber_62), (63, s_X6_readNumber_63)]
def s_X6_want_0 : List ZN := [(.aload_n 0, 1, (0, 0, 0)), (.invokevirtual 145, 3, (j_X6_goOn, 1, 0)), (.aload_n 0, 1, (0, 0, 0)), (.getfield 19, 3, (6, 4, 2)), (.aload_n 0, 1, (0, 0, 0)), (.getfield 42, 3, (6, 8, 0)), (.iaload, 1, (0, 0, 0)), (.iload_n 1, 1, (0, 0, 0)), (.if_icmp .eq 8, 3, (22, 0, 0)), (.aload_n 0, 1, (0, 0, 0)), (.iconst 2, 1, (0, 0, 0)), (.invokevirtual 60, 3, (j_X6_blame, 2, 0)), (.nop, 0, (22, 0, 0))]
def s_X6_want_22 : List ZN := [(.return_, 1, (0, 0, 0))]
def p_X6_want : List (Nat × List ZN) := [(0, s_X6_want_0), (22, s_X6_want_22)]
def s_X6_goOn_0 : List ZN := [(.aload_n 0, 1, (0, 0, 0)), (.getfield 45, 3, (6, 2, 0)), (.ifCond .ne 26, 3, (30, 0, 0)), (.aload_n 0, 1, (0, 0, 0)), (.getfield 42, 3, (6, 8, 0)), (.aload_n 0, 1, (0, 0, 0)), (.getfield 48, 3, (6, 7, 0)), (.iconst 1, 1, (0, 0, 0)), (.isub, 1, (0, 0, 0)), (.if_icmp .ge 13, 3, (30, 0, 0)), (.aload_n 0, 1, (0, 0, 0)), (.dup, 1, (0, 0, 0)), (.getfield 42, 3, (6, 8, 0)), (.iconst 1, 1, (0, 0, 0)), (.iadd, 1, (0, 0, 0)), (.putfield 42, 3, (6, 8, 0)), (.nop, 0, (30, 0, 0))]
def s_X6_goOn_30 : List ZN := [(.return_, 1, (0, 0, 0))]
def p_X6_goOn : List (Nat × List ZN) := [(0, s_X6_goOn_0), (30, s_X6_goOn_30)]
def s_X6_blame_0 : List ZN := [(.aload_n 0, 1, (0, 0, 0)), (.getfield 45, 3, (6, 2, 0)), (.ifCond .ne 38, 3, (42, 0, 0)), (.aload_n 0, 1, (0, 0, 0)), (.aload_n 0, 1, (0, 0, 0)), (.getfield 19, 3, (6, 4, 2)), (.aload_n 0, 1, (0, 0, 0)), (.getfield 42, 3, (6, 8, 0)), (.iaload, 1, (0, 0, 0)), (.iconst 1, 1, (0, 0, 0)), (.if_icmp .ne 7, 3, (25, 0, 0)), (.iconst 1, 1, (0, 0, 0)), (.goto 4, 3, (26, 0, 0))]
def s_X6_blame_25 : List ZN := [(.iload_n 1, 1, (0, 0, 0)), (.nop, 0, (26, 0, 0))]
def s_X6_blame_26 : List ZN := [(.putfield 45, 3, (6, 2, 0)), (.aload_n 0, 1, (0, 0, 0)), (.aload_n 0, 1, (0, 0, 0)), (.getfield 23, 3, (6, 5, 2)), (.aload_n 0, 1, (0, 0, 0)), (.getfield 42, 3, (6, 8, 0)), (.iaload, 1, (0, 0, 0)), (.putfield 15, 3, (6, 3, 0)), (.nop, 0, (42, 0, 0))]
def s_X6_blame_42 : List ZN := [(.return_, 1, (0, 0, 0))]
def p_X6_blame : List (Nat × List ZN) := [(0, s_X6_blame_0), (25, s_X6_blame_25), (26, s_X6_blame_26), (42, s_X6_blame_42)]
def s_X6_isBlank_0 : List ZN := [(.iload_n 0, 1, (0, 0, 0)), (.bipush 10, 2, (0, 0, 0)), (.if_icmp .eq 9, 3, (12, 0, 0)), (.iload_n 0, 1, (0, 0, 0)), (.bipush 32, 2, (0, 0, 0)), (.if_icmp .ne 7, 3, (16, 0, 0)), (.nop, 0, (12, 0, 0))]
def s_X6_isBlank_12 : List ZN := [(.iconst 1, 1, (0, 0, 0)), (.goto 4, 3, (17, 0, 0))]
def s_X6_isBlank_16 : List ZN := [(.iconst 0, 1, (0, 0, 0)), (.nop, 0, (17, 0, 0))]
def s_X6_isBlank_17 : List ZN := [(.ireturn, 1, (1, 0, 0))]
def p_X6_isBlank : List (Nat × List ZN) := [(0, s_X6_isBlank_0), (12, s_X6_isBlank_12), (16, s_X6_isBlank_16), (17, s_X6_isBlank_17)]
def s_X6_isLetter_0 : List ZN := [(.iload_n 0, 1, (0, 0, 0)), (.bipush 97, 2, (0, 0, 0)), (.if_icmp .lt 13, 3, (16, 0, 0)), (.iload_n 0, 1, (0, 0, 0)), (.bipush 122, 2, (0, 0, 0)), (.if_icmp .gt 7, 3, (16, 0, 0)), (.iconst 1, 1, (0, 0, 0)), (.goto 4, 3, (17, 0, 0))]
def s_X6_isLetter_16 : List ZN := [(.iconst 0, 1, (0, 0, 0)), (.nop, 0, (17, 0, 0))]
def s_X6_isLetter_17 : List ZN := [(.ireturn, 1, (1, 0, 0))]
def p_X6_isLetter : List (Nat × List ZN) := [(0, s_X6_isLetter_0), (16, s_X6_isLetter_16), (17, s_X6_isLetter_17)]
def s_X6_isDigit_0 : List ZN := [(.iload_n 0, 1, (0, 0, 0)), (.bipush 48, 2, (0, 0, 0)), (.if_icmp .lt 13, 3, (16, 0, 0)), (.iload_n 0, 1, (0, 0, 0)), (.bipush 57, 2, (0, 0, 0)), (.if_icmp .gt 7, 3, (16, 0, 0)), (.iconst 1, 1, (0, 0, 0)), (.goto 4, 3, (17, 0, 0))]
def s_X6_isDigit_16 : List ZN := [(.iconst 0, 1, (0, 0, 0)), (.nop, 0, (17, 0, 0))]
def s_X6_isDigit_17 : List ZN := [(.ireturn, 1, (1, 0, 0))]
def p_X6_isDigit : List (Nat × List ZN) := [(0, s_X6_isDigit_0), (16, s_X6_isDigit_16), (17, s_X6_isDigit_17)]
def s_X7_init_0 : List ZN := [(.aload_n 0, 1, (0, 0, 0)), (.invokespecial 3, 3, (0, 1, 1)), (.aload_n 0, 1, (0, 0, 0)), (.iconst (-1), 1, (0, 0, 0)), (.putfield 9, 3, (7, 0, 0)), (.return_, 1, (0, 0, 0))]
def p_X7_init : List (Nat × List ZN) := [(0, s_X7_init_0)]
def s_X7_seek_0 : List ZN := [(.aload_n 0, 1, (0, 0, 0)), (.getfield 9, 3, (7, 0, 0)), (.iload_n 2, 1, (0, 0, 0)), (.if_icmp .ne 12, 3, (17, 0, 0)), (.aload_n 0, 1, (0, 0, 0)), (.getfield 15, 3, (7, 4, 0)), (.iload_n 3, 1, (0, 0, 0)), (.if_icmp .ne 4, 3, (17, 0, 0)), (.return_, 1, (0, 0, 0))]
def s_X7_seek_17 : List ZN := [(.aload_n 0, 1, (0, 0, 0)), (.iload_n 2, 1, (0, 0, 0)), (.putfield 9, 3, (7, 0, 0)), (.aload_n 0, 1, (0, 0, 0)), (.iload_n 3, 1, (0, 0, 0)), (.putfield 15, 3, (7, 4, 0)), (.aload_n 0, 1, (0, 0, 0)), (.ldc 18, 2, (0, 0, 1000000)), (.putfield 19, 3, (7, 1, 0)), (.iconst 0, 1, (0, 0, 0)), (.istore 4, 2, (0, 0, 0)), (.nop, 0, (36, 0, 0))]
def s_X7_seek_36 : List ZN := [(.iload 4, 2, (0, 0, 0)), (.iconst 1, 1, (0, 0, 0)), (.iload_n 2, 1, (0, 0, 0)), (.ishl, 1, (0, 0, 0)), (.if_icmp .ge 68, 3, (109, 0, 0)), (.aload_n 0, 1, (0, 0, 0)), (.aload_n 1, 1, (0, 0, 0)), (.iload_n 2, 1, (0, 0, 0)), (.iload 4, 2, (0, 0, 0)), (.invokevirtual 22, 3, (j_X7_costOfNewOnes, 4, 0)), (.istore 5, 2, (0, 0, 0)), (.iload 5, 2, (0, 0, 0)), (.iload 4, 2, (0, 0, 0)), (.invokestatic 26, 3, (j_J6_bitCount_0f7a4, 1, 0)), (.iload_n 3, 1, (0, 0, 0)), (.imul, 1, (0, 0, 0)), (.iadd, 1, (0, 0, 0)), (.istore 6, 2, (0, 0, 0)), (.iload 5, 2, (0, 0, 0)), (.iconst (-1), 1, (0, 0, 0)), (.if_icmp .eq 34, 3, (103, 0, 0)), (.aload_n 0, 1, (0, 0, 0)), (.iload 6, 2, (0, 0, 0)), (.iload 4, 2, (0, 0, 0)), (.invokevirtual 32, 3, (j_X7_isBetter, 3, 0)), (.ifCond .eq 23, 3, (103, 0, 0)), (.aload_n 0, 1, (0, 0, 0)), (.iload 6, 2, (0, 0, 0)), (.putfield 19, 3, (7, 1, 0)), (.aload_n 0, 1, (0, 0, 0)), (.iload 4, 2, (0, 0, 0)), (.putfield 36, 3, (7, 2, 0)), (.aload_n 0, 1, (0, 0, 0)), (.aload_n 0, 1, (0, 0, 0)), (.getfield 39, 3, (7, 5, 0)), (.putfield 42, 3, (7, 3, 0)), (.nop, 0, (103, 0, 0))]
def s_X7_seek_103 : List ZN := [(.iinc 4 1, 3, (0, 0, 0)), (.goto (-70), 3, (36, 0, 0))]
def s_X7_seek_109 : List ZN := [(.return_, 1, (0, 0, 0))]
def p_X7_seek : List (Nat × List ZN) := [(0, s_X7_seek_0), (17, s_X7_seek_17), (36, s_X7_seek_36), (103, s_X7_seek_103), (109, s_X7_seek_109)]
def s_X7_isBetter_0 : List ZN := [(.iload_n 1, 1, (0, 0, 0)), (.aload_n 0, 1, (0, 0, 0)), (.getfield 19, 3, (7, 1, 0)), (.if_icmp .lt 25, 3, (30, 0, 0)), (.iload_n 1, 1, (0, 0, 0)), (.aload_n 0, 1, (0, 0, 0)), (.getfield 19, 3, (7, 1, 0)), (.if_icmp .ne 21, 3, (34, 0, 0)), (.iload_n 2, 1, (0, 0, 0)), (.invokestatic 26, 3, (j_J6_bitCount_0f7a4, 1, 0)), (.aload_n 0, 1, (0, 0, 0)), (.getfield 36, 3, (7, 2, 0)), (.invokestatic 26, 3, (j_J6_bitCount_0f7a4, 1, 0)), (.if_icmp .ge 7, 3, (34, 0, 0)), (.nop, 0, (30, 0, 0))]
def s_X7_isBetter_30 : List ZN := [(.iconst 1, 1, (0, 0, 0)), (.goto 4, 3, (35, 0, 0))]
def s_X7_isBetter_34 : List ZN := [(.iconst 0, 1, (0, 0, 0)), (.nop, 0, (35, 0, 0))]
def s_X7_isBetter_35 : List ZN := [(.ireturn, 1, (1, 0, 0))]
def p_X7_isBetter : List (Nat × List ZN) := [(0, s_X7_isBetter_0), (30, s_X7_isBetter_30), (34, s_X7_isBetter_34), (35, s_X7_isBetter_35)]
def s_X7_costOfNewOnes_0 : List ZN := [(.iconst 0, 1, (0, 0, 0)), (.istore 4, 2, (0, 0, 0)), (.aload_n 0, 1, (0, 0, 0)), (.iconst 0, 1, (0, 0, 0)), (.putfield 39, 3, (7, 5, 0)), (.iconst 0, 1, (0, 0, 0)), (.istore 5, 2, (0, 0, 0)), (.nop, 0, (11, 0, 0))]
def s_X7_costOfNewOnes_11 : List ZN := [(.iload 5, 2, (0, 0, 0)), (.bipush 10, 2, (0, 0, 0)), (.if_icmp .ge 74, 3, (89, 0, 0)), (.aload_n 1, 1, (0, 0, 0)), (.getfield 47, 3, (2, 17, 2)), (.iload 5, 2, (0, 0, 0)), (.baload, 1, (0, 0, 0)), (.ifCond .eq 58, 3, (83, 0, 0)), (.aload_n 1, 1, (0, 0, 0)), (.getfield 51, 3, (2, 15, 2)), (.iload 5, 2, (0, 0, 0)), (.iaload, 1, (0, 0, 0)), (.aload_n 1, 1, (0, 0, 0)), (.getfield 55, 3, (2, 16, 2)), (.iload 5, 2, (0, 0, 0)), (.iaload, 1, (0, 0, 0)), (.iload_n 2, 1, (0, 0, 0)), (.iload_n 3, 1, (0, 0, 0)), (.invokestatic 58, 3, (j_X7_timesNew, 4, 0)), (.istore 6, 2, (0, 0, 0)), (.iload 6, 2, (0, 0, 0)), (.iconst (-1), 1, (0, 0, 0)), (.if_icmp .ne 5, 3, (57, 0, 0)), (.iconst (-1), 1, (0, 0, 0)), (.ireturn, 1, (0, 0, 0))]
def s_X7_costOfNewOnes_57 : List ZN := [(.iload 4, 2, (0, 0, 0)), (.iload 6, 2, (0, 0, 0)), (.aload_n 1, 1, (0, 0, 0)), (.getfield 62, 3, (2, 14, 2)), (.iload 5, 2, (0, 0, 0)), (.iaload, 1, (0, 0, 0)), (.imul, 1, (0, 0, 0)), (.iadd, 1, (0, 0, 0)), (.istore 4, 2, (0, 0, 0)), (.aload_n 0, 1, (0, 0, 0)), (.dup, 1, (0, 0, 0)), (.getfield 39, 3, (7, 5, 0)), (.iload 6, 2, (0, 0, 0)), (.iadd, 1, (0, 0, 0)), (.putfield 39, 3, (7, 5, 0)), (.nop, 0, (83, 0, 0))]
def s_X7_costOfNewOnes_83 : List ZN := [(.iinc 5 1, 3, (0, 0, 0)), (.goto (-75), 3, (11, 0, 0))]
def s_X7_costOfNewOnes_89 : List ZN := [(.iload 4, 2, (0, 0, 0)), (.ireturn, 1, (0, 0, 0))]
def p_X7_costOfNewOnes : List (Nat × List ZN) := [(0, s_X7_costOfNewOnes_0), (11, s_X7_costOfNewOnes_11), (57, s_X7_costOfNewOnes_57), (83, s_X7_costOfNewOnes_83), (89, s_X7_costOfNewOnes_89)]
def s_X7_timesNew_0 : List ZN := [(.iload_n 1, 1, (0, 0, 0)), (.istore 4, 2, (0, 0, 0)), (.iconst 0, 1, (0, 0, 0)), (.istore 5, 2, (0, 0, 0)), (.iconst (-1), 1, (0, 0, 0)), (.istore 6, 2, (0, 0, 0)), (.iconst 0, 1, (0, 0, 0)), (.istore 7, 2, (0, 0, 0)), (.nop, 0, (12, 0, 0))]
def s_X7_timesNew_12 : List ZN := [(.iload 7, 2, (0, 0, 0)), (.iload_n 2, 1, (0, 0, 0)), (.if_icmp .ge 59, 3, (74, 0, 0)), (.iload_n 3, 1, (0, 0, 0)), (.iload 7, 2, (0, 0, 0)), (.ishr, 1, (0, 0, 0)), (.iconst 1, 1, (0, 0, 0)), (.iand, 1, (0, 0, 0)), (.iconst 1, 1, (0, 0, 0)), (.if_icmp .ne 7, 3, (32, 0, 0)), (.iload 7, 2, (0, 0, 0)), (.istore 6, 2, (0, 0, 0)), (.nop, 0, (32, 0, 0))]
def s_X7_timesNew_32 : List ZN := [(.iload 4, 2, (0, 0, 0)), (.iload_n 0, 1, (0, 0, 0)), (.if_icmp .lt 30, 3, (65, 0, 0)), (.iload 6, 2, (0, 0, 0)), (.iconst (-1), 1, (0, 0, 0)), (.if_icmp .eq 12, 3, (53, 0, 0)), (.iload 7, 2, (0, 0, 0)), (.iload 6, 2, (0, 0, 0)), (.isub, 1, (0, 0, 0)), (.iload_n 0, 1, (0, 0, 0)), (.if_icmp .lt 5, 3, (55, 0, 0)), (.nop, 0, (53, 0, 0))]
def s_X7_timesNew_53 : List ZN := [(.iconst (-1), 1, (0, 0, 0)), (.ireturn, 1, (0, 0, 0))]
def s_X7_timesNew_55 : List ZN := [(.iload 7, 2, (0, 0, 0)), (.iload 6, 2, (0, 0, 0)), (.isub, 1, (0, 0, 0)), (.istore 4, 2, (0, 0, 0)), (.iinc 5 1, 3, (0, 0, 0)), (.nop, 0, (65, 0, 0))]
def s_X7_timesNew_65 : List ZN := [(.iinc 4 1, 3, (0, 0, 0)), (.iinc 7 1, 3, (0, 0, 0)), (.goto (-59), 3, (12, 0, 0))]
def s_X7_timesNew_74 : List ZN := [(.iload 5, 2, (0, 0, 0)), (.ireturn, 1, (0, 0, 0))]
def p_X7_timesNew : List (Nat × List ZN) := [(0, s_X7_timesNew_0), (12, s_X7_timesNew_12), (32, s_X7_timesNew_32), (53, s_X7_timesNew_53), (55, s_X7_timesNew_55), (65, s_X7_timesNew_65), (74, s_X7_timesNew_74)]
def s_X8_init_0 : List ZN := [(.aload_n 0, 1, (0, 0, 0)), (.invokespecial 3, 3, (0, 1, 1)), (.aload_n 0, 1, (0, 0, 0)), (.new 9, 3, (9, 5, 0)), (.dup, 1, (0, 0, 0)), (.invokespecial 11, 3, (j_X9_init, 1, 0)), (.putfield 12, 3, (8, 0, 2)), (.aload_n 0, 1, (0, 0, 0)), (.iconst (-1), 1, (0, 0, 0)), (.putfield 18, 3, (8, 3, 0)), (.aload_n 0, 1, (0, 0, 0)), (.bipush 40, 2, (0, 0, 0)), (.newarray .int, 2, (0, 0, 0)), (.putfield 22, 3, (8, 5, 2)), (.aload_n 0, 1, (0, 0, 0)), (.bipush 40, 2, (0, 0, 0)), (.newarray .int, 2, (0, 0, 0)), (.putfield 26, 3, (8, 6, 2)), (.aload_n 0, 1, (0, 0, 0)), (.bipush 40, 2, (0, 0, 0)), (.newarray .int, 2, (0, 0, 0)), (.putfield 29, 3, (8, 7, 2)), (.aload_n 0, 1, (0, 0, 0)), (.bipush 40, 2, (0, 0, 0)), (.newarray .int, 2, (0, 0, 0)), (.putfield 32, 3, (8, 8, 2)), (.aload_n 0, 1, (0, 0, 0)), (.bipush 40, 2, (0, 0, 0)), (.newarray .int, 2, (0, 0, 0)), (.putfield 35, 3, (8, 9, 2)), (.aload_n 0, 1, (0, 0, 0)), (.bipush 40, 2, (0, 0, 0)), (.newarray .int, 2, (0, 0, 0)), (.putfield 38, 3, (8, 10, 2)), (.aload_n 0, 1, (0, 0, 0)), (.bipush 40, 2, (0, 0, 0)), (.newarray .boolean, 2, (0, 0, 0)), (.putfield 41, 3, (8, 11, 2)), (.aload_n 0, 1, (0, 0, 0)), (.bipush 40, 2, (0, 0, 0)), (.newarray .int, 2, (0, 0, 0)), (.putfield 45, 3, (8, 12, 2)), (.aload_n 0, 1, (0, 0, 0)), (.iconst 3, 1, (0, 0, 0)), (.newarray .int, 2, (0, 0, 0)), (.putfield 48, 3, (8, 14, 2)), (.aload_n 0, 1, (0, 0, 0)), (.new 51, 3, (10, 12, 0)), (.dup, 1, (0, 0, 0)), (.invokespecial 53, 3, (j_X10_init, 1, 0)), (.putfield 54, 3, (8, 15, 2)), (.aload_n 0, 1, (0, 0, 0)), (.new 58, 3, (1, 4, 0)), (.dup, 1, (0, 0, 0)), (.invokespecial 60, 3, (j_X1_init, 1, 0)), (.putfield 61, 3, (8, 16, 2)), (.return_, 1, (0, 0, 0))]
def p_X8_init : List (Nat × List ZN) := [(0, s_X8_init_0)]
def s_X8_start_0 : List ZN := [(.aload_n 0, 1, (0, 0, 0)), (.aload_n 1, 1, (0, 0, 0)), (.putfield 54, 3, (8, 15, 2)), (.aload_n 0, 1, (0, 0, 0)), (.aload_n 2, 1, (0, 0, 0)), (.putfield 61, 3, (8, 16, 2)), (.aload_n 0, 1, (0, 0, 0)), (.iconst 0, 1, (0, 0, 0)), (.putfield 65, 3, (8, 1, 0)), (.aload_n 0, 1, (0, 0, 0)), (.iconst 0, 1, (0, 0, 0)), (.putfield 68, 3, (8, 2, 0)), (.aload_n 0, 1, (0, 0, 0)), (.iconst (-1), 1, (0, 0, 0)), (.putfield 18, 3, (8, 3, 0)), (.aload_n 0, 1, (0, 0, 0)), (.iconst 0, 1, (0, 0, 0)), (.putfield 71, 3, (8, 4, 0)), (.aload_n 0, 1, (0, 0, 0)), (.iconst 0, 1, (0, 0, 0)), (.putfield 74, 3, (8, 13, 0)), (.aload_n 0, 1, (0, 0, 0)), (.getfield 12, 3, (8, 0, 2)), (.invokevirtual 77, 3, (j_X9_reset, 1, 0)), (.return_, 1, (0, 0, 0))]
def p_X8_start : List (Nat × List ZN) := [(0, s_X8_start_0)]
def s_X8_isFull_0 : List ZN := [(.aload_n 0, 1, (0, 0, 0)), (.getfield 65, 3, (8, 1, 0)), (.bipush 40, 2, (0, 0, 0)), (.if_icmp .lt 7, 3, (13, 0, 0)), (.iconst 1, 1, (0, 0, 0)), (.goto 4, 3, (14, 0, 0))]
def s_X8_isFull_13 : List ZN := [(.iconst 0, 1, (0, 0, 0)), (.nop, 0, (14, 0, 0))]
def s_X8_isFull_14 : List ZN := [(.ireturn, 1, (1, 0, 0))]
def p_X8_isFull : List (Nat × List ZN) := [(0, s_X8_isFull_0), (13, s_X8_isFull_13), (14, s_X8_isFull_14)]
def s_X8_tailOf_0 : List ZN := [(.aload_n 0, 1, (0, 0, 0)), (.getfield 26, 3, (8, 6, 2)), (.iload_n 1, 1, (0, 0, 0)), (.iaload, 1, (0, 0, 0)), (.aload_n 0, 1, (0, 0, 0)), (.getfield 35, 3, (8, 9, 2)), (.iload_n 1, 1, (0, 0, 0)), (.iaload, 1, (0, 0, 0)), (.isub, 1, (0, 0, 0)), (.ireturn, 1, (0, 0, 0))]
def p_X8_tailOf : List (Nat × List ZN) := [(0, s_X8_tailOf_0)]
def s_X8_isFreeFor_0 : List ZN := [(.aload_n 0, 1, (0, 0, 0)), (.getfield 54, 3, (8, 15, 2)), (.getfield 80, 3, (10, 2, 2)), (.iconst 0, 1, (0, 0, 0)), (.iaload, 1, (0, 0, 0)), (.bipush 10, 2, (0, 0, 0)), (.imul, 1, (0, 0, 0)), (.istore_n 2, 1, (0, 0, 0)), (.aload_n 0, 1, (0, 0, 0)), (.getfield 18, 3, (8, 3, 0)), (.iconst (-1), 1, (0, 0, 0)), (.if_icmp .ne 21, 3, (39, 0, 0)), (.aload_n 0, 1, (0, 0, 0)), (.iload_n 2, 1, (0, 0, 0)), (.iload_n 2, 1, (0, 0, 0)), (.iload_n 1, 1, (0, 0, 0)), (.bipush 10, 2, (0, 0, 0)), (.imul, 1, (0, 0, 0)), (.isub, 1, (0, 0, 0)), (.invokevirtual 83, 3, (j_X8_liesFree, 3, 0)), (.ifCond .eq 7, 3, (39, 0, 0)), (.iconst 1, 1, (0, 0, 0)), (.goto 4, 3, (40, 0, 0))]
def s_X8_isFreeFor_39 : List ZN := [(.iconst 0, 1, (0, 0, 0)), (.nop, 0, (40, 0, 0))]
def s_X8_isFreeFor_40 : List ZN := [(.ireturn, 1, (1, 0, 0))]
def p_X8_isFreeFor : List (Nat × List ZN) := [(0, s_X8_isFreeFor_0), (39, s_X8_isFreeFor_39), (40, s_X8_isFreeFor_40)]
def s_X8_begin_0 : List ZN := [(.aload_n 0, 1, (0, 0, 0)), (.invokevirtual 87, 3, (j_X8_isFull, 1, 0)), (.ifCond .eq 6, 3, (10, 0, 0)), (.bipush (-4), 2, (0, 0, 0)), (.ireturn, 1, (0, 0, 0))]
def s_X8_begin_10 : List ZN := [(.aload_n 0, 1, (0, 0, 0)), (.getfield 65, 3, (8, 1, 0)), (.istore_n 3, 1, (0, 0, 0)), (.aload_n 0, 1, (0, 0, 0)), (.dup, 1, (0, 0, 0)), (.getfield 65, 3, (8, 1, 0)), (.iconst 1, 1, (0, 0, 0)), (.iadd, 1, (0, 0, 0)), (.putfield 65, 3, (8, 1, 0)), (.aload_n 0, 1, (0, 0, 0)), (.getfield 35, 3, (8, 9, 2)), (.iload_n 3, 1, (0, 0, 0)), (.iload_n 1, 1, (0, 0, 0)), (.bipush 10, 2, (0, 0, 0)), (.imul, 1, (0, 0, 0)), (.iastore, 1, (0, 0, 0)), (.aload_n 0, 1, (0, 0, 0)), (.getfield 41, 3, (8, 11, 2)), (.iload_n 3, 1, (0, 0, 0)), (.iload_n 2, 1, (0, 0, 0)), (.bastore, 1, (0, 0, 0)), (.aload_n 0, 1, (0, 0, 0)), (.iload_n 3, 1, (0, 0, 0)), (.aload_n 0, 1, (0, 0, 0)), (.getfield 54, 3, (8, 15, 2)), (.getfield 80, 3, (10, 2, 2)), (.iconst 0, 1, (0, 0, 0)), (.iaload, 1, (0, 0, 0)), (.bipush 10, 2, (0, 0, 0)), (.imul, 1, (0, 0, 0)), (.iconst 1, 1, (0, 0, 0)), (.invokevirtual 91, 3, (j_X8_putOnWay, 4, 0)), (.iload_n 3, 1, (0, 0, 0)), (.ireturn, 1, (0, 0, 0))]
def p_X8_begin : List (Nat × List ZN) := [(0, s_X8_begin_0), (10, s_X8_begin_10)]
def s_X8_liesFree_0 : List ZN := [(.iconst 0, 1, (0, 0, 0)), (.istore_n 3, 1, (0, 0, 0)), (.nop, 0, (2, 0, 0))]
def s_X8_liesFree_2 : List ZN := [(.iload_n 3, 1, (0, 0, 0)), (.aload_n 0, 1, (0, 0, 0)), (.getfield 74, 3, (8, 13, 0)), (.if_icmp .ge 40, 3, (47, 0, 0)), (.aload_n 0, 1, (0, 0, 0)), (.getfield 45, 3, (8, 12, 2)), (.iload_n 3, 1, (0, 0, 0)), (.iaload, 1, (0, 0, 0)), (.istore 4, 2, (0, 0, 0)), (.iload_n 1, 1, (0, 0, 0)), (.aload_n 0, 1, (0, 0, 0)), (.iload 4, 2, (0, 0, 0)), (.invokevirtual 95, 3, (j_X8_tailOf, 2, 0)), (.if_icmp .le 16, 3, (41, 0, 0)), (.aload_n 0, 1, (0, 0, 0)), (.getfield 26, 3, (8, 6, 2)), (.iload 4, 2, (0, 0, 0)), (.iaload, 1, (0, 0, 0)), (.iload_n 2, 1, (0, 0, 0)), (.if_icmp .le 5, 3, (41, 0, 0)), (.iconst 0, 1, (0, 0, 0)), (.ireturn, 1, (1, 0, 0))]
def s_X8_liesFree_41 : List ZN := [(.iinc 3 1, 3, (0, 0, 0)), (.goto (-42), 3, (2, 0, 0))]
def s_X8_liesFree_47 : List ZN := [(.iconst 1, 1, (0, 0, 0)), (.ireturn, 1, (1, 0, 0))]
def p_X8_liesFree : List (Nat × List ZN) := [(0, s_X8_liesFree_0), (2, s_X8_liesFree_2), (41, s_X8_liesFree_41), (47, s_X8_liesFree_47)]
def s_X8_putOnWay_0 : List ZN := [(.aload_n 0, 1, (0, 0, 0)), (.getfield 22, 3, (8, 5, 2)), (.iload_n 1, 1, (0, 0, 0)), (.iconst 0, 1, (0, 0, 0)), (.iastore, 1, (0, 0, 0)), (.aload_n 0, 1, (0, 0, 0)), (.getfield 26, 3, (8, 6, 2)), (.iload_n 1, 1, (0, 0, 0)), (.iload_n 2, 1, (0, 0, 0)), (.iastore, 1, (0, 0, 0)), (.aload_n 0, 1, (0, 0, 0)), (.getfield 29, 3, (8, 7, 2)), (.iload_n 1, 1, (0, 0, 0)), (.iload_n 3, 1, (0, 0, 0)), (.iastore, 1, (0, 0, 0)), (.aload_n 0, 1, (0, 0, 0)), (.getfield 32, 3, (8, 8, 2)), (.iload_n 1, 1, (0, 0, 0)), (.iconst 0, 1, (0, 0, 0)), (.iastore, 1, (0, 0, 0)), (.aload_n 0, 1, (0, 0, 0)), (.getfield 74, 3, (8, 13, 0)), (.bipush 39, 2, (0, 0, 0)), (.invokestatic 99, 3, (0, 2, 4)), (.istore 4, 2, (0, 0, 0)), (.nop, 0, (39, 0, 0))]
def s_X8_putOnWay_39 : List ZN := [(.iload 4, 2, (0, 0, 0)), (.ifCond .le 43, 3, (84, 0, 0)), (.aload_n 0, 1, (0, 0, 0)), (.getfield 26, 3, (8, 6, 2)), (.aload_n 0, 1, (0, 0, 0)), (.getfield 45, 3, (8, 12, 2)), (.iload 4, 2, (0, 0, 0)), (.iconst 1, 1, (0, 0, 0)), (.isub, 1, (0, 0, 0)), (.iaload, 1, (0, 0, 0)), (.iaload, 1, (0, 0, 0)), (.iload_n 2, 1, (0, 0, 0)), (.if_icmp .ge 25, 3, (84, 0, 0)), (.aload_n 0, 1, (0, 0, 0)), (.getfield 45, 3, (8, 12, 2)), (.iload 4, 2, (0, 0, 0)), (.aload_n 0, 1, (0, 0, 0)), (.getfield 45, 3, (8, 12, 2)), (.iload 4, 2, (0, 0, 0)), (.iconst 1, 1, (0, 0, 0)), (.isub, 1, (0, 0, 0)), (.iaload, 1, (0, 0, 0)), (.iastore, 1, (0, 0, 0)), (.iinc 4 (-1), 3, (0, 0, 0)), (.goto (-42), 3, (39, 0, 0))]
def s_X8_putOnWay_84 : List ZN := [(.aload_n 0, 1, (0, 0, 0)), (.getfield 45, 3, (8, 12, 2)), (.iload 4, 2, (0, 0, 0)), (.iload_n 1, 1, (0, 0, 0)), (.iastore, 1, (0, 0, 0)), (.aload_n 0, 1, (0, 0, 0)), (.aload_n 0, 1, (0, 0, 0)), (.getfield 74, 3, (8, 13, 0)), (.iconst 1, 1, (0, 0, 0)), (.iadd, 1, (0, 0, 0)), (.bipush 40, 2, (0, 0, 0)), (.invokestatic 99, 3, (0, 2, 4)), (.putfield 74, 3, (8, 13, 0)), (.return_, 1, (0, 0, 0))]
def p_X8_putOnWay : List (Nat × List ZN) := [(0, s_X8_putOnWay_0), (39, s_X8_putOnWay_39), (84, s_X8_putOnWay_84)]
def s_X8_goOnce_0 : List ZN := [(.aload_n 0, 1, (0, 0, 0)), (.invokevirtual 105, 3, (j_X8_carryOn, 1, 0)), (.iconst 0, 1, (0, 0, 0)), (.istore_n 1, 1, (0, 0, 0)), (.nop, 0, (6, 0, 0))]
def s_X8_goOnce_6 : List ZN := [(.iload_n 1, 1, (0, 0, 0)), (.aload_n 0, 1, (0, 0, 0)), (.getfield 54, 3, (8, 15, 2)), (.getfield 108, 3, (10, 4, 0)), (.if_icmp .ge 37, 3, (51, 0, 0)), (.aload_n 0, 1, (0, 0, 0)), (.getfield 12, 3, (8, 0, 2)), (.iload_n 1, 1, (0, 0, 0)), (.aload_n 0, 1, (0, 0, 0)), (.aload_n 0, 1, (0, 0, 0)), (.getfield 54, 3, (8, 15, 2)), (.getfield 111, 3, (10, 5, 2)), (.iload_n 1, 1, (0, 0, 0)), (.iaload, 1, (0, 0, 0)), (.bipush 10, 2, (0, 0, 0)), (.imul, 1, (0, 0, 0)), (.invokevirtual 114, 3, (j_X8_isUnderEye, 2, 0)), (.aload_n 0, 1, (0, 0, 0)), (.getfield 68, 3, (8, 2, 0)), (.invokevirtual 118, 3, (j_X9_look, 4, 0)), (.iinc 1 1, 3, (0, 0, 0)), (.goto (-42), 3, (6, 0, 0))]
def s_X8_goOnce_51 : List ZN := [(.return_, 1, (0, 0, 0))]
def p_X8_goOnce : List (Nat × List ZN) := [(0, s_X8_goOnce_0), (6, s_X8_goOnce_6), (51, s_X8_goOnce_51)]
def s_X8_carryOn_0 : List ZN := [(.aload_n 0, 1, (0, 0, 0)), (.dup, 1, (0, 0, 0)), (.getfield 68, 3, (8, 2, 0)), (.iconst 1, 1, (0, 0, 0)), (.iadd, 1, (0, 0, 0)), (.putfield 68, 3, (8, 2, 0)), (.aload_n 0, 1, (0, 0, 0)), (.getfield 74, 3, (8, 13, 0)), (.istore_n 1, 1, (0, 0, 0)), (.ldc 122, 2, (0, 0, 1000000)), (.istore_n 2, 1, (0, 0, 0)), (.aload_n 0, 1, (0, 0, 0)), (.iconst 0, 1, (0, 0, 0)), (.putfield 74, 3, (8, 13, 0)), (.iconst 0, 1, (0, 0, 0)), (.istore_n 3, 1, (0, 0, 0)), (.nop, 0, (25, 0, 0))]
def s_X8_carryOn_25 : List ZN := [(.iload_n 3, 1, (0, 0, 0)), (.iload_n 1, 1, (0, 0, 0)), (.if_icmp .ge 62, 3, (89, 0, 0)), (.aload_n 0, 1, (0, 0, 0)), (.getfield 45, 3, (8, 12, 2)), (.iload_n 3, 1, (0, 0, 0)), (.iaload, 1, (0, 0, 0)), (.istore 4, 2, (0, 0, 0)), (.aload_n 0, 1, (0, 0, 0)), (.iload 4, 2, (0, 0, 0)), (.iload_n 2, 1, (0, 0, 0)), (.invokevirtual 123, 3, (j_X8_move, 3, 0)), (.aload_n 0, 1, (0, 0, 0)), (.getfield 22, 3, (8, 5, 2)), (.iload 4, 2, (0, 0, 0)), (.iaload, 1, (0, 0, 0)), (.ifCond .ne 31, 3, (83, 0, 0)), (.aload_n 0, 1, (0, 0, 0)), (.getfield 45, 3, (8, 12, 2)), (.aload_n 0, 1, (0, 0, 0)), (.getfield 74, 3, (8, 13, 0)), (.iload 4, 2, (0, 0, 0)), (.iastore, 1, (0, 0, 0)), (.aload_n 0, 1, (0, 0, 0)), (.dup, 1, (0, 0, 0)), (.getfield 74, 3, (8, 13, 0)), (.iconst 1, 1, (0, 0, 0)), (.iadd, 1, (0, 0, 0)), (.putfield 74, 3, (8, 13, 0)), (.aload_n 0, 1, (0, 0, 0)), (.iload 4, 2, (0, 0, 0)), (.invokevirtual 95, 3, (j_X8_tailOf, 2, 0)), (.istore_n 2, 1, (0, 0, 0)), (.nop, 0, (83, 0, 0))]
def s_X8_carryOn_83 : List ZN := [(.iinc 3 1, 3, (0, 0, 0)), (.goto (-61), 3, (25, 0, 0))]
def s_X8_carryOn_89 : List ZN := [(.aload_n 0, 1, (0, 0, 0)), (.invokevirtual 127, 3, (j_X8_findJam, 1, 0)), (.aload_n 0, 1, (0, 0, 0)), (.invokevirtual 130, 3, (j_X8_comeBack, 1, 0)), (.return_, 1, (0, 0, 0))]
def p_X8_carryOn : List (Nat × List ZN) := [(0, s_X8_carryOn_0), (25, s_X8_carryOn_25), (83, s_X8_carryOn_83), (89, s_X8_carryOn_89)]
def s_X8_move_0 : List ZN := [(.aload_n 0, 1, (0, 0, 0)), (.iload_n 1, 1, (0, 0, 0)), (.invokevirtual 133, 3, (j_X8_waits, 2, 0)), (.ifCond .ne 9, 3, (14, 0, 0)), (.aload_n 0, 1, (0, 0, 0)), (.iload_n 1, 1, (0, 0, 0)), (.iload_n 2, 1, (0, 0, 0)), (.invokevirtual 136, 3, (j_X8_drive, 3, 0)), (.nop, 0, (14, 0, 0))]
def s_X8_move_14 : List ZN := [(.aload_n 0, 1, (0, 0, 0)), (.iload_n 1, 1, (0, 0, 0)), (.invokevirtual 133, 3, (j_X8_waits, 2, 0)), (.ifCond .eq 15, 3, (34, 0, 0)), (.aload_n 0, 1, (0, 0, 0)), (.getfield 32, 3, (8, 8, 2)), (.iload_n 1, 1, (0, 0, 0)), (.iconst 0, 1, (0, 0, 0)), (.iastore, 1, (0, 0, 0)), (.aload_n 0, 1, (0, 0, 0)), (.iload_n 1, 1, (0, 0, 0)), (.invokevirtual 139, 3, (j_X8_enterPocket, 2, 0)), (.nop, 0, (34, 0, 0))]
def s_X8_move_34 : List ZN := [(.aload_n 0, 1, (0, 0, 0)), (.getfield 22, 3, (8, 5, 2)), (.iload_n 1, 1, (0, 0, 0)), (.iaload, 1, (0, 0, 0)), (.ifCond .ne 28, 3, (68, 0, 0)), (.aload_n 0, 1, (0, 0, 0)), (.iload_n 1, 1, (0, 0, 0)), (.invokevirtual 95, 3, (j_X8_tailOf, 2, 0)), (.aload_n 0, 1, (0, 0, 0)), (.getfield 54, 3, (8, 15, 2)), (.getfield 143, 3, (10, 0, 0)), (.bipush 10, 2, (0, 0, 0)), (.imul, 1, (0, 0, 0)), (.if_icmp .lt 10, 3, (68, 0, 0)), (.aload_n 0, 1, (0, 0, 0)), (.getfield 22, 3, (8, 5, 2)), (.iload_n 1, 1, (0, 0, 0)), (.iconst 2, 1, (0, 0, 0)), (.iastore, 1, (0, 0, 0)), (.nop, 0, (68, 0, 0))]
def s_X8_move_68 : List ZN := [(.return_, 1, (0, 0, 0))]
def p_X8_move : List (Nat × List ZN) := [(0, s_X8_move_0), (14, s_X8_move_14), (34, s_X8_move_34), (68, s_X8_move_68)]
def s_X8_waits_0 : List ZN := [(.aload_n 0, 1, (0, 0, 0)), (.getfield 41, 3, (8, 11, 2)), (.iload_n 1, 1, (0, 0, 0)), (.baload, 1, (0, 0, 0)), (.ifCond .eq 35, 3, (41, 0, 0)), (.aload_n 0, 1, (0, 0, 0)), (.getfield 29, 3, (8, 7, 2)), (.iload_n 1, 1, (0, 0, 0)), (.iaload, 1, (0, 0, 0)), (.iconst 1, 1, (0, 0, 0)), (.if_icmp .ne 25, 3, (41, 0, 0)), (.aload_n 0, 1, (0, 0, 0)), (.iload_n 1, 1, (0, 0, 0)), (.invokevirtual 95, 3, (j_X8_tailOf, 2, 0)), (.aload_n 0, 1, (0, 0, 0)), (.getfield 54, 3, (8, 15, 2)), (.getfield 146, 3, (10, 6, 0)), (.bipush 10, 2, (0, 0, 0)), (.imul, 1, (0, 0, 0)), (.if_icmp .lt 7, 3, (41, 0, 0)), (.iconst 1, 1, (0, 0, 0)), (.goto 4, 3, (42, 0, 0))]
def s_X8_waits_41 : List ZN := [(.iconst 0, 1, (0, 0, 0)), (.nop, 0, (42, 0, 0))]
def s_X8_waits_42 : List ZN := [(.ireturn, 1, (1, 0, 0))]
def p_X8_waits : List (Nat × List ZN) := [(0, s_X8_waits_0), (41, s_X8_waits_41), (42, s_X8_waits_42)]
def s_X8_drive_0 : List ZN := [(.aload_n 0, 1, (0, 0, 0)), (.getfield 61, 3, (8, 16, 2)), (.aload_n 0, 1, (0, 0, 0)), (.getfield 54, 3, (8, 15, 2)), (.aload_n 0, 1, (0, 0, 0)), (.getfield 26, 3, (8, 6, 2)), (.iload_n 1, 1, (0, 0, 0)), (.iaload, 1, (0, 0, 0)), (.aload_n 0, 1, (0, 0, 0)), (.iload_n 1, 1, (0, 0, 0)), (.invokevirtual 95, 3, (j_X8_tailOf, 2, 0)), (.aload_n 0, 1, (0, 0, 0)), (.getfield 68, 3, (8, 2, 0)), (.invokevirtual 149, 3, (j_X1_driveOf, 5, 0)), (.istore_n 3, 1, (0, 0, 0)), (.aload_n 0, 1, (0, 0, 0)), (.getfield 26, 3, (8, 6, 2)), (.iload_n 1, 1, (0, 0, 0)), (.iaload, 1, (0, 0, 0)), (.iload_n 3, 1, (0, 0, 0)), (.iadd, 1, (0, 0, 0)), (.iload_n 2, 1, (0, 0, 0)), (.aload_n 0, 1, (0, 0, 0)), (.getfield 61, 3, (8, 16, 2)), (.aload_n 0, 1, (0, 0, 0)), (.getfield 26, 3, (8, 6, 2)), (.iload_n 1, 1, (0, 0, 0)), (.iaload, 1, (0, 0, 0)), (.invokevirtual 153, 3, (j_X1_cornerLimit, 2, 0)), (.invokestatic 99, 3, (0, 2, 4)), (.invokestatic 99, 3, (0, 2, 4)), (.istore 4, 2, (0, 0, 0)), (.iload 4, 2, (0, 0, 0)), (.aload_n 0, 1, (0, 0, 0)), (.getfield 26, 3, (8, 6, 2)), (.iload_n 1, 1, (0, 0, 0)), (.iaload, 1, (0, 0, 0)), (.if_icmp .le 21, 3, (86, 0, 0)), (.aload_n 0, 1, (0, 0, 0)), (.getfield 26, 3, (8, 6, 2)), (.iload_n 1, 1, (0, 0, 0)), (.iload 4, 2, (0, 0, 0)), (.iastore, 1, (0, 0, 0)), (.aload_n 0, 1, (0, 0, 0)), (.getfield 32, 3, (8, 8, 2)), (.iload_n 1, 1, (0, 0, 0)), (.iconst 0, 1, (0, 0, 0)), (.iastore, 1, (0, 0, 0)), (.goto 13, 3, (96, 0, 0))]
def s_X8_drive_86 : List ZN := [(.aload_n 0, 1, (0, 0, 0)), (.getfield 32, 3, (8, 8, 2)), (.iload_n 1, 1, (0, 0, 0)), (.dup2, 1, (0, 0, 0)), (.iaload, 1, (0, 0, 0)), (.iconst 1, 1, (0, 0, 0)), (.iadd, 1, (0, 0, 0)), (.iastore, 1, (0, 0, 0)), (.nop, 0, (96, 0, 0))]
def s_X8_drive_96 : List ZN := [(.return_, 1, (0, 0, 0))]
def p_X8_drive : List (Nat × List ZN) := [(0, s_X8_drive_0), (86, s_X8_drive_86), (96, s_X8_drive_96)]
def s_X8_enterPocket_0 : List ZN := [(.aload_n 0, 1, (0, 0, 0)), (.getfield 71, 3, (8, 4, 0)), (.aload_n 0, 1, (0, 0, 0)), (.getfield 54, 3, (8, 15, 2)), (.getfield 156, 3, (10, 8, 0)), (.if_icmp .ge 52, 3, (63, 0, 0)), (.aload_n 0, 1, (0, 0, 0)), (.getfield 71, 3, (8, 4, 0)), (.aload_n 0, 1, (0, 0, 0)), (.getfield 48, 3, (8, 14, 2)), (.arraylength, 1, (0, 0, 0)), (.if_icmp .ge 40, 3, (63, 0, 0)), (.aload_n 0, 1, (0, 0, 0)), (.getfield 48, 3, (8, 14, 2)), (.aload_n 0, 1, (0, 0, 0)), (.getfield 71, 3, (8, 4, 0)), (.iload_n 1, 1, (0, 0, 0)), (.iastore, 1, (0, 0, 0)), (.aload_n 0, 1, (0, 0, 0)), (.dup, 1, (0, 0, 0)), (.getfield 71, 3, (8, 4, 0)), (.iconst 1, 1, (0, 0, 0)), (.iadd, 1, (0, 0, 0)), (.putfield 71, 3, (8, 4, 0)), (.aload_n 0, 1, (0, 0, 0)), (.getfield 22, 3, (8, 5, 2)), (.iload_n 1, 1, (0, 0, 0)), (.iconst 1, 1, (0, 0, 0)), (.iastore, 1, (0, 0, 0)), (.aload_n 0, 1, (0, 0, 0)), (.getfield 38, 3, (8, 10, 2)), (.iload_n 1, 1, (0, 0, 0)), (.aload_n 0, 1, (0, 0, 0)), (.getfield 68, 3, (8, 2, 0)), (.iastore, 1, (0, 0, 0)), (.nop, 0, (63, 0, 0))]
def s_X8_enterPocket_63 : List ZN := [(.return_, 1, (0, 0, 0))]
def p_X8_enterPocket : List (Nat × List ZN) := [(0, s_X8_enterPocket_0), (63, s_X8_enterPocket_63)]
def s_X8_findJam_0 : List ZN := [(.iconst 0, 1, (0, 0, 0)), (.istore_n 1, 1, (0, 0, 0)), (.nop, 0, (2, 0, 0))]
def s_X8_findJam_2 : List ZN := [(.iload_n 1, 1, (0, 0, 0)), (.aload_n 0, 1, (0, 0, 0)), (.getfield 74, 3, (8, 13, 0)), (.if_icmp .ge 39, 3, (46, 0, 0)), (.aload_n 0, 1, (0, 0, 0)), (.getfield 45, 3, (8, 12, 2)), (.iload_n 1, 1, (0, 0, 0)), (.iaload, 1, (0, 0, 0)), (.istore_n 2, 1, (0, 0, 0)), (.aload_n 0, 1, (0, 0, 0)), (.getfield 32, 3, (8, 8, 2)), (.iload_n 2, 1, (0, 0, 0)), (.iaload, 1, (0, 0, 0)), (.iconst 5, 1, (0, 0, 0)), (.if_icmp .lt 16, 3, (40, 0, 0)), (.aload_n 0, 1, (0, 0, 0)), (.getfield 22, 3, (8, 5, 2)), (.iload_n 2, 1, (0, 0, 0)), (.iconst 3, 1, (0, 0, 0)), (.iastore, 1, (0, 0, 0)), (.aload_n 0, 1, (0, 0, 0)), (.iload_n 2, 1, (0, 0, 0)), (.putfield 18, 3, (8, 3, 0)), (.return_, 1, (0, 0, 0))]
def s_X8_findJam_40 : List ZN := [(.iinc 1 1, 3, (0, 0, 0)), (.goto (-41), 3, (2, 0, 0))]
def s_X8_findJam_46 : List ZN := [(.return_, 1, (0, 0, 0))]
def p_X8_findJam : List (Nat × List ZN) := [(0, s_X8_findJam_0), (2, s_X8_findJam_2), (40, s_X8_findJam_40), (46, s_X8_findJam_46)]
def s_X8_comeBack_0 : List ZN := [(.aload_n 0, 1, (0, 0, 0)), (.getfield 71, 3, (8, 4, 0)), (.ifCond .ne 4, 3, (8, 0, 0)), (.return_, 1, (0, 0, 0))]
def s_X8_comeBack_8 : List ZN := [(.aload_n 0, 1, (0, 0, 0)), (.getfield 48, 3, (8, 14, 2)), (.iconst 0, 1, (0, 0, 0)), (.iaload, 1, (0, 0, 0)), (.istore_n 1, 1, (0, 0, 0)), (.aload_n 0, 1, (0, 0, 0)), (.getfield 54, 3, (8, 15, 2)), (.getfield 159, 3, (10, 7, 0)), (.bipush 10, 2, (0, 0, 0)), (.imul, 1, (0, 0, 0)), (.istore_n 2, 1, (0, 0, 0)), (.aload_n 0, 1, (0, 0, 0)), (.getfield 68, 3, (8, 2, 0)), (.aload_n 0, 1, (0, 0, 0)), (.getfield 38, 3, (8, 10, 2)), (.iload_n 1, 1, (0, 0, 0)), (.iaload, 1, (0, 0, 0)), (.isub, 1, (0, 0, 0)), (.aload_n 0, 1, (0, 0, 0)), (.getfield 54, 3, (8, 15, 2)), (.getfield 162, 3, (10, 9, 0)), (.if_icmp .lt 19, 3, (63, 0, 0)), (.aload_n 0, 1, (0, 0, 0)), (.iload_n 2, 1, (0, 0, 0)), (.iload_n 2, 1, (0, 0, 0)), (.aload_n 0, 1, (0, 0, 0)), (.getfield 35, 3, (8, 9, 2)), (.iload_n 1, 1, (0, 0, 0)), (.iaload, 1, (0, 0, 0)), (.isub, 1, (0, 0, 0)), (.invokevirtual 83, 3, (j_X8_liesFree, 3, 0)), (.ifCond .ne 4, 3, (64, 0, 0)), (.nop, 0, (63, 0, 0))]
def s_X8_comeBack_63 : List ZN := [(.return_, 1, (0, 0, 0))]
def s_X8_comeBack_64 : List ZN := [(.aload_n 0, 1, (0, 0, 0)), (.dup, 1, (0, 0, 0)), (.getfield 71, 3, (8, 4, 0)), (.iconst 1, 1, (0, 0, 0)), (.isub, 1, (0, 0, 0)), (.putfield 71, 3, (8, 4, 0)), (.iconst 0, 1, (0, 0, 0)), (.istore_n 3, 1, (0, 0, 0)), (.nop, 0, (76, 0, 0))]
def s_X8_comeBack_76 : List ZN := [(.iload_n 3, 1, (0, 0, 0)), (.aload_n 0, 1, (0, 0, 0)), (.getfield 71, 3, (8, 4, 0)), (.if_icmp .ge 23, 3, (104, 0, 0)), (.aload_n 0, 1, (0, 0, 0)), (.getfield 48, 3, (8, 14, 2)), (.iload_n 3, 1, (0, 0, 0)), (.aload_n 0, 1, (0, 0, 0)), (.getfield 48, 3, (8, 14, 2)), (.iload_n 3, 1, (0, 0, 0)), (.iconst 1, 1, (0, 0, 0)), (.iadd, 1, (0, 0, 0)), (.iaload, 1, (0, 0, 0)), (.iastore, 1, (0, 0, 0)), (.iinc 3 1, 3, (0, 0, 0)), (.goto (-25), 3, (76, 0, 0))]
def s_X8_comeBack_104 : List ZN := [(.aload_n 0, 1, (0, 0, 0)), (.iload_n 1, 1, (0, 0, 0)), (.iload_n 2, 1, (0, 0, 0)), (.iconst 2, 1, (0, 0, 0)), (.invokevirtual 91, 3, (j_X8_putOnWay, 4, 0)), (.return_, 1, (0, 0, 0))]
def p_X8_comeBack : List (Nat × List ZN) := [(0, s_X8_comeBack_0), (8, s_X8_comeBack_8), (63, s_X8_comeBack_63), (64, s_X8_comeBack_64), (76, s_X8_comeBack_76), (104, s_X8_comeBack_104)]
def s_X8_isUnderEye_0 : List ZN := [(.iconst 0, 1, (0, 0, 0)), (.istore_n 2, 1, (0, 0, 0)), (.nop, 0, (2, 0, 0))]
def s_X8_isUnderEye_2 : List ZN := [(.iload_n 2, 1, (0, 0, 0)), (.aload_n 0, 1, (0, 0, 0)), (.getfield 74, 3, (8, 13, 0)), (.if_icmp .ge 40, 3, (47, 0, 0)), (.iload_n 1, 1, (0, 0, 0)), (.aload_n 0, 1, (0, 0, 0)), (.getfield 26, 3, (8, 6, 2)), (.aload_n 0, 1, (0, 0, 0)), (.getfield 45, 3, (8, 12, 2)), (.iload_n 2, 1, (0, 0, 0)), (.iaload, 1, (0, 0, 0)), (.iaload, 1, (0, 0, 0)), (.if_icmp .gt 19, 3, (41, 0, 0)), (.iload_n 1, 1, (0, 0, 0)), (.aload_n 0, 1, (0, 0, 0)), (.aload_n 0, 1, (0, 0, 0)), (.getfield 45, 3, (8, 12, 2)), (.iload_n 2, 1, (0, 0, 0)), (.iaload, 1, (0, 0, 0)), (.invokevirtual 95, 3, (j_X8_tailOf, 2, 0)), (.if_icmp .le 5, 3, (41, 0, 0)), (.iconst 1, 1, (0, 0, 0)), (.ireturn, 1, (1, 0, 0))]
def s_X8_isUnderEye_41 : List ZN := [(.iinc 2 1, 3, (0, 0, 0)), (.goto (-42), 3, (2, 0, 0))]
def s_X8_isUnderEye_47 : List ZN := [(.iconst 0, 1, (0, 0, 0)), (.ireturn, 1, (1, 0, 0))]
def p_X8_isUnderEye : List (Nat × List ZN) := [(0, s_X8_isUnderEye_0), (2, s_X8_isUnderEye_2), (41, s_X8_isUnderEye_41), (47, s_X8_isUnderEye_47)]
def s_X8_takeAll_0 : List ZN := [(.aload_n 0, 1, (0, 0, 0)), (.getfield 74, 3, (8, 13, 0)), (.aload_n 0, 1, (0, 0, 0)), (.getfield 71, 3, (8, 4, 0)), (.iadd, 1, (0, 0, 0)), (.istore_n 1, 1, (0, 0, 0)), (.iconst 0, 1, (0, 0, 0)), (.istore_n 2, 1, (0, 0, 0)), (.nop, 0, (12, 0, 0))]
def s_X8_takeAll_12 : List ZN := [(.iload_n 2, 1, (0, 0, 0)), (.aload_n 0, 1, (0, 0, 0)), (.getfield 74, 3, (8, 13, 0)), (.if_icmp .ge 21, 3, (38, 0, 0)), (.aload_n 0, 1, (0, 0, 0)), (.getfield 22, 3, (8, 5, 2)), (.aload_n 0, 1, (0, 0, 0)), (.getfield 45, 3, (8, 12, 2)), (.iload_n 2, 1, (0, 0, 0)), (.iaload, 1, (0, 0, 0)), (.iconst 4, 1, (0, 0, 0)), (.iastore, 1, (0, 0, 0)), (.iinc 2 1, 3, (0, 0, 0)), (.goto (-23), 3, (12, 0, 0))]
def s_X8_takeAll_38 : List ZN := [(.iconst 0, 1, (0, 0, 0)), (.istore_n 2, 1, (0, 0, 0)), (.nop, 0, (40, 0, 0))]
def s_X8_takeAll_40 : List ZN := [(.iload_n 2, 1, (0, 0, 0)), (.aload_n 0, 1, (0, 0, 0)), (.getfield 71, 3, (8, 4, 0)), (.if_icmp .ge 21, 3, (66, 0, 0)), (.aload_n 0, 1, (0, 0, 0)), (.getfield 22, 3, (8, 5, 2)), (.aload_n 0, 1, (0, 0, 0)), (.getfield 48, 3, (8, 14, 2)), (.iload_n 2, 1, (0, 0, 0)), (.iaload, 1, (0, 0, 0)), (.iconst 4, 1, (0, 0, 0)), (.iastore, 1, (0, 0, 0)), (.iinc 2 1, 3, (0, 0, 0)), (.goto (-23), 3, (40, 0, 0))]
def s_X8_takeAll_66 : List ZN := [(.aload_n 0, 1, (0, 0, 0)), (.iconst 0, 1, (0, 0, 0)), (.putfield 74, 3, (8, 13, 0)), (.aload_n 0, 1, (0, 0, 0)), (.iconst 0, 1, (0, 0, 0)), (.putfield 71, 3, (8, 4, 0)), (.aload_n 0, 1, (0, 0, 0)), (.iconst (-1), 1, (0, 0, 0)), (.putfield 18, 3, (8, 3, 0)), (.aload_n 0, 1, (0, 0, 0)), (.getfield 12, 3, (8, 0, 2)), (.invokevirtual 165, 3, (j_X9_cutOff, 1, 0)), (.iload_n 1, 1, (0, 0, 0)), (.ireturn, 1, (0, 0, 0))]
def p_X8_takeAll : List (Nat × List ZN) := [(0, s_X8_takeAll_0), (12, s_X8_takeAll_12), (38, s_X8_takeAll_38), (40, s_X8_takeAll_40), (66, s_X8_takeAll_66)]
def s_X9_init_0 : List ZN := [(.aload_n 0, 1, (0, 0, 0)), (.invokespecial 3, 3, (0, 1, 1)), (.aload_n 0, 1, (0, 0, 0)), (.bipush 19, 2, (0, 0, 0)), (.newarray .boolean, 2, (0, 0, 0)), (.putfield 11, 3, (9, 0, 2)), (.aload_n 0, 1, (0, 0, 0)), (.bipush 19, 2, (0, 0, 0)), (.newarray .int, 2, (0, 0, 0)), (.putfield 17, 3, (9, 1, 2)), (.aload_n 0, 1, (0, 0, 0)), (.sipush 228, 3, (0, 0, 0)), (.newarray .int, 2, (0, 0, 0)), (.putfield 21, 3, (9, 2, 2)), (.aload_n 0, 1, (0, 0, 0)), (.sipush 228, 3, (0, 0, 0)), (.newarray .int, 2, (0, 0, 0)), (.putfield 24, 3, (9, 3, 2)), (.aload_n 0, 1, (0, 0, 0)), (.bipush 19, 2, (0, 0, 0)), (.newarray .int, 2, (0, 0, 0)), (.putfield 27, 3, (9, 4, 2)), (.return_, 1, (0, 0, 0))]
def p_X9_init : List (Nat × List ZN) := [(0, s_X9_init_0)]
def s_X9_reset_0 : List ZN := [(.aload_n 0, 1, (0, 0, 0)), (.getfield 17, 3, (9, 1, 2)), (.iconst 0, 1, (0, 0, 0)), (.invokestatic 30, 3, (j_J7_fill_53178, 2, 0)), (.aload_n 0, 1, (0, 0, 0)), (.invokevirtual 36, 3, (j_X9_cutOff, 1, 0)), (.return_, 1, (0, 0, 0))]
def p_X9_reset : List (Nat × List ZN) := [(0, s_X9_reset_0)]
def s_X9_cutOff_0 : List ZN := [(.iconst 0, 1, (0, 0, 0)), (.istore_n 1, 1, (0, 0, 0)), (.nop, 0, (2, 0, 0))]
def s_X9_cutOff_2 : List ZN := [(.iload_n 1, 1, (0, 0, 0)), (.bipush 19, 2, (0, 0, 0)), (.if_icmp .ge 23, 3, (28, 0, 0)), (.aload_n 0, 1, (0, 0, 0)), (.getfield 11, 3, (9, 0, 2)), (.iload_n 1, 1, (0, 0, 0)), (.iconst 0, 1, (0, 0, 0)), (.bastore, 1, (0, 0, 0)), (.aload_n 0, 1, (0, 0, 0)), (.getfield 27, 3, (9, 4, 2)), (.iload_n 1, 1, (0, 0, 0)), (.iconst (-1), 1, (0, 0, 0)), (.iastore, 1, (0, 0, 0)), (.iinc 1 1, 3, (0, 0, 0)), (.goto (-23), 3, (2, 0, 0))]
def s_X9_cutOff_28 : List ZN := [(.return_, 1, (0, 0, 0))]
def p_X9_cutOff : List (Nat × List ZN) := [(0, s_X9_cutOff_0), (2, s_X9_cutOff_2), (28, s_X9_cutOff_28)]
def s_X9_look_0 : List ZN := [(.iload_n 2, 1, (0, 0, 0)), (.aload_n 0, 1, (0, 0, 0)), (.getfield 11, 3, (9, 0, 2)), (.iload_n 1, 1, (0, 0, 0)), (.baload, 1, (0, 0, 0)), (.if_icmp .ne 4, 3, (11, 0, 0)), (.return_, 1, (0, 0, 0))]
def s_X9_look_11 : List ZN := [(.aload_n 0, 1, (0, 0, 0)), (.getfield 11, 3, (9, 0, 2)), (.iload_n 1, 1, (0, 0, 0)), (.iload_n 2, 1, (0, 0, 0)), (.bastore, 1, (0, 0, 0)), (.iload_n 2, 1, (0, 0, 0)), (.ifCond .ne 12, 3, (31, 0, 0)), (.aload_n 0, 1, (0, 0, 0)), (.iload_n 1, 1, (0, 0, 0)), (.iload_n 3, 1, (0, 0, 0)), (.invokevirtual 39, 3, (j_X9_close, 3, 0)), (.goto 61, 3, (89, 0, 0))]
def s_X9_look_31 : List ZN := [(.aload_n 0, 1, (0, 0, 0)), (.getfield 17, 3, (9, 1, 2)), (.iload_n 1, 1, (0, 0, 0)), (.iaload, 1, (0, 0, 0)), (.bipush 12, 2, (0, 0, 0)), (.if_icmp .ge 50, 3, (89, 0, 0)), (.iload_n 1, 1, (0, 0, 0)), (.bipush 12, 2, (0, 0, 0)), (.imul, 1, (0, 0, 0)), (.aload_n 0, 1, (0, 0, 0)), (.getfield 17, 3, (9, 1, 2)), (.iload_n 1, 1, (0, 0, 0)), (.iaload, 1, (0, 0, 0)), (.iadd, 1, (0, 0, 0)), (.istore 4, 2, (0, 0, 0)), (.aload_n 0, 1, (0, 0, 0)), (.getfield 21, 3, (9, 2, 2)), (.iload 4, 2, (0, 0, 0)), (.iload_n 3, 1, (0, 0, 0)), (.iastore, 1, (0, 0, 0)), (.aload_n 0, 1, (0, 0, 0)), (.getfield 24, 3, (9, 3, 2)), (.iload 4, 2, (0, 0, 0)), (.iconst (-1), 1, (0, 0, 0)), (.iastore, 1, (0, 0, 0)), (.aload_n 0, 1, (0, 0, 0)), (.getfield 27, 3, (9, 4, 2)), (.iload_n 1, 1, (0, 0, 0)), (.iload 4, 2, (0, 0, 0)), (.iastore, 1, (0, 0, 0)), (.aload_n 0, 1, (0, 0, 0)), (.getfield 17, 3, (9, 1, 2)), (.iload_n 1, 1, (0, 0, 0)), (.dup2, 1, (0, 0, 0)), (.iaload, 1, (0, 0, 0)), (.iconst 1, 1, (0, 0, 0)), (.iadd, 1, (0, 0, 0)), (.iastore, 1, (0, 0, 0)), (.nop, 0, (89, 0, 0))]
def s_X9_look_89 : List ZN := [(.return_, 1, (0, 0, 0))]
def p_X9_look : List (Nat × List ZN) := [(0, s_X9_look_0), (11, s_X9_look_11), (31, s_X9_look_31), (89, s_X9_look_89)]
def s_X9_close_0 : List ZN := [(.aload_n 0, 1, (0, 0, 0)), (.getfield 27, 3, (9, 4, 2)), (.iload_n 1, 1, (0, 0, 0)), (.iaload, 1, (0, 0, 0)), (.istore_n 3, 1, (0, 0, 0)), (.iload_n 3, 1, (0, 0, 0)), (.ifCond .lt 26, 3, (34, 0, 0)), (.iload_n 3, 1, (0, 0, 0)), (.aload_n 0, 1, (0, 0, 0)), (.getfield 24, 3, (9, 3, 2)), (.arraylength, 1, (0, 0, 0)), (.if_icmp .ge 17, 3, (34, 0, 0)), (.aload_n 0, 1, (0, 0, 0)), (.getfield 24, 3, (9, 3, 2)), (.iload_n 3, 1, (0, 0, 0)), (.iload_n 2, 1, (0, 0, 0)), (.iastore, 1, (0, 0, 0)), (.aload_n 0, 1, (0, 0, 0)), (.getfield 27, 3, (9, 4, 2)), (.iload_n 1, 1, (0, 0, 0)), (.iconst (-1), 1, (0, 0, 0)), (.iastore, 1, (0, 0, 0)), (.nop, 0, (34, 0, 0))]
def s_X9_close_34 : List ZN := [(.return_, 1, (0, 0, 0))]
def p_X9_close : List (Nat × List ZN) := [(0, s_X9_close_0), (34, s_X9_close_34)]
def s_X10_init_0 : List ZN := [(.aload_n 0, 1, (0, 0, 0)), (.invokespecial 3, 3, (0, 1, 1)), (.aload_n 0, 1, (0, 0, 0)), (.bipush 10, 2, (0, 0, 0)), (.newarray .int, 2, (0, 0, 0)), (.putfield 11, 3, (10, 2, 2)), (.aload_n 0, 1, (0, 0, 0)), (.bipush 10, 2, (0, 0, 0)), (.newarray .int, 2, (0, 0, 0)), (.putfield 15, 3, (10, 3, 2)), (.aload_n 0, 1, (0, 0, 0)), (.bipush 19, 2, (0, 0, 0)), (.newarray .int, 2, (0, 0, 0)), (.putfield 18, 3, (10, 5, 2)), (.aload_n 0, 1, (0, 0, 0)), (.invokevirtual 21, 3, (j_X10_reset, 1, 0)), (.return_, 1, (0, 0, 0))]
def p_X10_init : List (Nat × List ZN) := [(0, s_X10_init_0)]
def s_X10_reset_0 : List ZN := [(.aload_n 0, 1, (0, 0, 0)), (.bipush 100, 2, (0, 0, 0)), (.putfield 24, 3, (10, 0, 0)), (.aload_n 0, 1, (0, 0, 0)), (.iconst 0, 1, (0, 0, 0)), (.putfield 28, 3, (10, 1, 0)), (.aload_n 0, 1, (0, 0, 0)), (.iconst 0, 1, (0, 0, 0)), (.putfield 31, 3, (10, 4, 0)), (.aload_n 0, 1, (0, 0, 0)), (.iconst 0, 1, (0, 0, 0)), (.putfield 34, 3, (10, 6, 0)), (.aload_n 0, 1, (0, 0, 0)), (.iconst 0, 1, (0, 0, 0)), (.putfield 37, 3, (10, 7, 0)), (.aload_n 0, 1, (0, 0, 0)), (.iconst 0, 1, (0, 0, 0)), (.putfield 40, 3, (10, 8, 0)), (.aload_n 0, 1, (0, 0, 0)), (.iconst 0, 1, (0, 0, 0)), (.putfield 43, 3, (10, 9, 0)), (.aload_n 0, 1, (0, 0, 0)), (.iconst 0, 1, (0, 0, 0)), (.putfield 46, 3, (10, 10, 0)), (.aload_n 0, 1, (0, 0, 0)), (.iconst 0, 1, (0, 0, 0)), (.putfield 49, 3, (10, 11, 1)), (.return_, 1, (0, 0, 0))]
def p_X10_reset : List (Nat × List ZN) := [(0, s_X10_reset_0)]
def s_X10_hasRoller_0 : List ZN := [(.iload_n 1, 1, (0, 0, 0)), (.ifCond .lt 15, 3, (16, 0, 0)), (.iload_n 1, 1, (0, 0, 0)), (.aload_n 0, 1, (0, 0, 0)), (.getfield 28, 3, (10, 1, 0)), (.if_icmp .ge 7, 3, (16, 0, 0)), (.iconst 1, 1, (0, 0, 0)), (.goto 4, 3, (17, 0, 0))]
def s_X10_hasRoller_16 : List ZN := [(.iconst 0, 1, (0, 0, 0)), (.nop, 0, (17, 0, 0))]
def s_X10_hasRoller_17 : List ZN := [(.ireturn, 1, (1, 0, 0))]
def p_X10_hasRoller : List (Nat × List ZN) := [(0, s_X10_hasRoller_0), (16, s_X10_hasRoller_16), (17, s_X10_hasRoller_17)]
def s_X10_hasEye_0 : List ZN := [(.iload_n 1, 1, (0, 0, 0)), (.ifCond .lt 15, 3, (16, 0, 0)), (.iload_n 1, 1, (0, 0, 0)), (.aload_n 0, 1, (0, 0, 0)), (.getfield 31, 3, (10, 4, 0)), (.if_icmp .ge 7, 3, (16, 0, 0)), (.iconst 1, 1, (0, 0, 0)), (.goto 4, 3, (17, 0, 0))]
def s_X10_hasEye_16 : List ZN := [(.iconst 0, 1, (0, 0, 0)), (.nop, 0, (17, 0, 0))]
def s_X10_hasEye_17 : List ZN := [(.ireturn, 1, (1, 0, 0))]
def p_X10_hasEye : List (Nat × List ZN) := [(0, s_X10_hasEye_0), (16, s_X10_hasEye_16), (17, s_X10_hasEye_17)]
def s_X10_lastRollerPlace_0 : List ZN := [(.aload_n 0, 1, (0, 0, 0)), (.getfield 28, 3, (10, 1, 0)), (.ifCond .ne 7, 3, (11, 0, 0)), (.iconst 0, 1, (0, 0, 0)), (.goto 14, 3, (22, 0, 0))]
def s_X10_lastRollerPlace_11 : List ZN := [(.aload_n 0, 1, (0, 0, 0)), (.getfield 11, 3, (10, 2, 2)), (.aload_n 0, 1, (0, 0, 0)), (.getfield 28, 3, (10, 1, 0)), (.iconst 1, 1, (0, 0, 0)), (.isub, 1, (0, 0, 0)), (.iaload, 1, (0, 0, 0)), (.nop, 0, (22, 0, 0))]
def s_X10_lastRollerPlace_22 : List ZN := [(.ireturn, 1, (0, 0, 0))]
def p_X10_lastRollerPlace : List (Nat × List ZN) := [(0, s_X10_lastRollerPlace_0), (11, s_X10_lastRollerPlace_11), (22, s_X10_lastRollerPlace_22)]
def s_X10_lastEyePlace_0 : List ZN := [(.aload_n 0, 1, (0, 0, 0)), (.getfield 31, 3, (10, 4, 0)), (.ifCond .ne 7, 3, (11, 0, 0)), (.iconst 0, 1, (0, 0, 0)), (.goto 14, 3, (22, 0, 0))]
def s_X10_lastEyePlace_11 : List ZN := [(.aload_n 0, 1, (0, 0, 0)), (.getfield 18, 3, (10, 5, 2)), (.aload_n 0, 1, (0, 0, 0)), (.getfield 31, 3, (10, 4, 0)), (.iconst 1, 1, (0, 0, 0)), (.isub, 1, (0, 0, 0)), (.iaload, 1, (0, 0, 0)), (.nop, 0, (22, 0, 0))]
def s_X10_lastEyePlace_22 : List ZN := [(.ireturn, 1, (0, 0, 0))]
def p_X10_lastEyePlace : List (Nat × List ZN) := [(0, s_X10_lastEyePlace_0), (11, s_X10_lastEyePlace_11), (22, s_X10_lastEyePlace_22)]
def s_X10_creasesAre_0 : List ZN := [(.iconst 0, 1, (0, 0, 0)), (.istore 6, 2, (0, 0, 0)), (.iconst 0, 1, (0, 0, 0)), (.istore 7, 2, (0, 0, 0)), (.nop, 0, (6, 0, 0))]
def s_X10_creasesAre_6 : List ZN := [(.iload 7, 2, (0, 0, 0)), (.aload_n 0, 1, (0, 0, 0)), (.getfield 28, 3, (10, 1, 0)), (.if_icmp .ge 77, 3, (89, 0, 0)), (.iload_n 1, 1, (0, 0, 0)), (.aload_n 0, 1, (0, 0, 0)), (.getfield 11, 3, (10, 2, 2)), (.iload 7, 2, (0, 0, 0)), (.iaload, 1, (0, 0, 0)), (.isub, 1, (0, 0, 0)), (.istore 8, 2, (0, 0, 0)), (.iload 8, 2, (0, 0, 0)), (.ifCond .lt 55, 3, (83, 0, 0)), (.iload 8, 2, (0, 0, 0)), (.iload_n 2, 1, (0, 0, 0)), (.if_icmp .ge 49, 3, (83, 0, 0)), (.iload 6, 2, (0, 0, 0)), (.ifCond .ne 7, 3, (46, 0, 0)), (.iload_n 3, 1, (0, 0, 0)), (.goto 26, 3, (69, 0, 0))]
def s_X10_creasesAre_46 : List ZN := [(.iload 6, 2, (0, 0, 0)), (.iconst 1, 1, (0, 0, 0)), (.if_icmp .ne 8, 3, (57, 0, 0)), (.iload 4, 2, (0, 0, 0)), (.goto 15, 3, (69, 0, 0))]
def s_X10_creasesAre_57 : List ZN := [(.iload 6, 2, (0, 0, 0)), (.iconst 2, 1, (0, 0, 0)), (.if_icmp .ne 8, 3, (68, 0, 0)), (.iload 5, 2, (0, 0, 0)), (.goto 4, 3, (69, 0, 0))]
def s_X10_creasesAre_68 : List ZN := [(.iconst (-1), 1, (0, 0, 0)), (.nop, 0, (69, 0, 0))]
def s_X10_creasesAre_69 : List ZN := [(.istore 9, 2, (0, 0, 0)), (.iload 9, 2, (0, 0, 0)), (.iload 8, 2, (0, 0, 0)), (.if_icmp .eq 5, 3, (80, 0, 0)), (.iconst 0, 1, (0, 0, 0)), (.ireturn, 1, (1, 0, 0))]
def s_X10_creasesAre_80 : List ZN := [(.iinc 6 1, 3, (0, 0, 0)), (.nop, 0, (83, 0, 0))]
def s_X10_creasesAre_83 : List ZN := [(.iinc 7 1, 3, (0, 0, 0)), (.goto (-80), 3, (6, 0, 0))]
def s_X10_creasesAre_89 : List ZN := [(.iload_n 3, 1, (0, 0, 0)), (.iconst (-1), 1, (0, 0, 0)), (.if_icmp .ne 7, 3, (98, 0, 0)), (.iconst 0, 1, (0, 0, 0)), (.goto 24, 3, (119, 0, 0))]
def s_X10_creasesAre_98 : List ZN := [(.iload 4, 2, (0, 0, 0)), (.iconst (-1), 1, (0, 0, 0)), (.if_icmp .ne 7, 3, (108, 0, 0)), (.iconst 1, 1, (0, 0, 0)), (.goto 14, 3, (119, 0, 0))]
def s_X10_creasesAre_108 : List ZN := [(.iload 5, 2, (0, 0, 0)), (.iconst (-1), 1, (0, 0, 0)), (.if_icmp .ne 7, 3, (118, 0, 0)), (.iconst 2, 1, (0, 0, 0)), (.goto 4, 3, (119, 0, 0))]
def s_X10_creasesAre_118 : List ZN := [(.iconst 3, 1, (0, 0, 0)), (.nop, 0, (119, 0, 0))]
def s_X10_creasesAre_119 : List ZN := [(.istore 7, 2, (0, 0, 0)), (.iload 6, 2, (0, 0, 0)), (.iload 7, 2, (0, 0, 0)), (.if_icmp .ne 7, 3, (132, 0, 0)), (.iconst 1, 1, (0, 0, 0)), (.goto 4, 3, (133, 0, 0))]
def s_X10_creasesAre_132 : List ZN := [(.iconst 0, 1, (0, 0, 0)), (.nop, 0, (133, 0, 0))]
def s_X10_creasesAre_133 : List ZN := [(.ireturn, 1, (1, 0, 0))]
def p_X10_creasesAre : List (Nat × List ZN) := [(0, s_X10_creasesAre_0), (6, s_X10_creasesAre_6), (46, s_X10_creasesAre_46), (57, s_X10_creasesAre_57), (68, s_X10_creasesAre_68), (69, s_X10_creasesAre_69), (80, s_X10_creasesAre_80), (83, s_X10_creasesAre_83), (89, s_X10_creasesAre_89), (98, s_X10_creasesAre_98), (108, s_X10_creasesAre_108), (118, s_X10_creasesAre_118), (119, s_X10_creasesAre_119), (132, s_X10_creasesAre_132), (133, s_X10_creasesAre_133)]
def s_X11_init_0 : List ZN := [(.aload_n 0, 1, (0, 0, 0)), (.invokespecial 1, 3, (0, 1, 1)), (.aload_n 0, 1, (0, 0, 0)), (.new 7, 3, (6, 11, 0)), (.dup, 1, (0, 0, 0)), (.invokespecial 9, 3, (j_X6_init, 1, 0)), (.putfield 10, 3, (11, 0, 2)), (.aload_n 0, 1, (0, 0, 0)), (.new 16, 3, (1, 4, 0)), (.dup, 1, (0, 0, 0)), (.invokespecial 18, 3, (j_X1_init, 1, 0)), (.putfield 19, 3, (11, 1, 2)), (.aload_n 0, 1, (0, 0, 0)), (.new 23, 3, (8, 17, 0)), (.dup, 1, (0, 0, 0)), (.invokespecial 25, 3, (j_X8_init, 1, 0)), (.putfield 26, 3, (11, 2, 2)), (.aload_n 0, 1, (0, 0, 0)), (.new 30, 3, (0, 11, 0)), (.dup, 1, (0, 0, 0)), (.invokespecial 32, 3, (j_X0_init, 1, 0)), (.putfield 33, 3, (11, 3, 2)), (.aload_n 0, 1, (0, 0, 0)), (.new 37, 3, (2, 18, 0)), (.dup, 1, (0, 0, 0)), (.invokespecial 39, 3, (j_X2_init, 1, 0)), (.putfield 40, 3, (11, 4, 2)), (.aload_n 0, 1, (0, 0, 0)), (.iconst 2, 1, (0, 0, 0)), (.anewarray 37, 3, (0, 0, 0)), (.dup, 1, (0, 0, 0)), (.iconst 0, 1, (0, 0, 0)), (.new 37, 3, (2, 18, 0)), (.dup, 1, (0, 0, 0)), (.invokespecial 39, 3, (j_X2_init, 1, 0)), (.aastore, 1, (0, 0, 0)), (.dup, 1, (0, 0, 0)), (.iconst 1, 1, (0, 0, 0)), (.new 37, 3, (2, 18, 0)), (.dup, 1, (0, 0, 0)), (.invokespecial 39, 3, (j_X2_init, 1, 0)), (.aastore, 1, (0, 0, 0)), (.putfield 44, 3, (11, 5, 2)), (.aload_n 0, 1, (0, 0, 0)), (.iconst 2, 1, (0, 0, 0)), (.newarray .boolean, 2, (0, 0, 0)), (.putfield 48, 3, (11, 6, 2)), (.aload_n 0, 1, (0, 0, 0)), (.new 52, 3, (5, 14, 0)), (.dup, 1, (0, 0, 0)), (.invokespecial 54, 3, (j_X5_init, 1, 0)), (.putfield 55, 3, (11, 7, 2)), (.aload_n 0, 1, (0, 0, 0)), (.new 59, 3, (3, 5, 0)), (.dup, 1, (0, 0, 0)), (.invokespecial 61, 3, (j_X3_init, 1, 0)), (.putfield 62, 3, (11, 8, 2)), (.aload_n 0, 1, (0, 0, 0)), (.new 66, 3, (7, 6, 0)), (.dup, 1, (0, 0, 0)), (.invokespecial 68, 3, (j_X7_init, 1, 0)), (.putfield 69, 3, (11, 9, 2)), (.aload_n 0, 1, (0, 0, 0)), (.new 73, 3, (4, 3, 0)), (.dup, 1, (0, 0, 0)), (.invokespecial 75, 3, (j_X4_init, 1, 0)), (.putfield 76, 3, (11, 10, 2)), (.aload_n 0, 1, (0, 0, 0)), (.new 80, 3, (10, 12, 0)), (.dup, 1, (0, 0, 0)), (.invokespecial 82, 3, (j_X10_init, 1, 0)), (.putfield 83, 3, (11, 11, 2)), (.aload_n 0, 1, (0, 0, 0)), (.new 80, 3, (10, 12, 0)), (.dup, 1, (0, 0, 0)), (.invokespecial 82, 3, (j_X10_init, 1, 0)), (.putfield 87, 3, (11, 12, 2)), (.aload_n 0, 1, (0, 0, 0)), (.getfield 26, 3, (11, 2, 2)), (.aload_n 0, 1, (0, 0, 0)), (.getfield 83, 3, (11, 11, 2)), (.aload_n 0, 1, (0, 0, 0)), (.getfield 19, 3, (11, 1, 2)), (.invokevirtual 90, 3, (j_X8_start, 3, 0)), (.return_, 1, (0, 0, 0))]
def p_X11_init : List (Nat × List ZN) := [(0, s_X11_init_0)]
def s_X11_feed_0 : List ZN := [(.aload_n 0, 1, (0, 0, 0)), (.getfield 10, 3, (11, 0, 2)), (.invokevirtual 94, 3, (j_X6_hasRoomForFive, 1, 0)), (.ifCond .ne 5, 3, (12, 0, 0)), (.iconst (-1), 1, (0, 0, 0)), (.ireturn, 1, (0, 0, 0))]
def s_X11_feed_12 : List ZN := [(.aload_n 0, 1, (0, 0, 0)), (.getfield 10, 3, (11, 0, 2)), (.iload_n 1, 1, (0, 0, 0)), (.invokevirtual 98, 3, (j_X6_append, 2, 0)), (.aload_n 0, 1, (0, 0, 0)), (.getfield 10, 3, (11, 0, 2)), (.iload_n 2, 1, (0, 0, 0)), (.invokevirtual 98, 3, (j_X6_append, 2, 0)), (.aload_n 0, 1, (0, 0, 0)), (.getfield 10, 3, (11, 0, 2)), (.iload_n 3, 1, (0, 0, 0)), (.invokevirtual 98, 3, (j_X6_append, 2, 0)), (.aload_n 0, 1, (0, 0, 0)), (.getfield 10, 3, (11, 0, 2)), (.iload 4, 2, (0, 0, 0)), (.invokevirtual 98, 3, (j_X6_append, 2, 0)), (.aload_n 0, 1, (0, 0, 0)), (.getfield 10, 3, (11, 0, 2)), (.iload 5, 2, (0, 0, 0)), (.invokevirtual 98, 3, (j_X6_append, 2, 0)), (.aload_n 0, 1, (0, 0, 0)), (.getfield 10, 3, (11, 0, 2)), (.getfield 102, 3, (6, 1, 0)), (.ireturn, 1, (0, 0, 0))]
def p_X11_feed : List (Nat × List ZN) := [(0, s_X11_feed_0), (12, s_X11_feed_12)]
def s_X11_text_0 : List ZN := [(.iload_n 1, 1, (0, 0, 0)), (.ifCond .lt 14, 3, (15, 0, 0)), (.iload_n 1, 1, (0, 0, 0)), (.aload_n 0, 1, (0, 0, 0)), (.getfield 10, 3, (11, 0, 2)), (.getfield 102, 3, (6, 1, 0)), (.if_icmp .le 6, 3, (18, 0, 0)), (.nop, 0, (15, 0, 0))]
def s_X11_text_15 : List ZN := [(.bipush (-2), 2, (0, 0, 0)), (.ireturn, 1, (0, 0, 0))]
def s_X11_text_18 : List ZN := [(.aload_n 0, 1, (0, 0, 0)), (.getfield 87, 3, (11, 12, 2)), (.invokevirtual 106, 3, (j_X10_reset, 1, 0)), (.aload_n 0, 1, (0, 0, 0)), (.getfield 10, 3, (11, 0, 2)), (.aload_n 0, 1, (0, 0, 0)), (.getfield 87, 3, (11, 12, 2)), (.iload_n 1, 1, (0, 0, 0)), (.invokevirtual 109, 3, (j_X6_readWay, 3, 0)), (.istore_n 2, 1, (0, 0, 0)), (.aload_n 0, 1, (0, 0, 0)), (.getfield 10, 3, (11, 0, 2)), (.iconst 0, 1, (0, 0, 0)), (.putfield 102, 3, (6, 1, 0)), (.aload_n 0, 1, (0, 0, 0)), (.getfield 10, 3, (11, 0, 2)), (.getfield 113, 3, (6, 2, 0)), (.ifCond .eq 14, 3, (67, 0, 0)), (.bipush (-10), 2, (0, 0, 0)), (.aload_n 0, 1, (0, 0, 0)), (.getfield 10, 3, (11, 0, 2)), (.getfield 113, 3, (6, 2, 0)), (.isub, 1, (0, 0, 0)), (.ireturn, 1, (0, 0, 0))]
def s_X11_text_67 : List ZN := [(.aload_n 0, 1, (0, 0, 0)), (.getfield 83, 3, (11, 11, 2)), (.astore_n 3, 1, (0, 0, 0)), (.aload_n 0, 1, (0, 0, 0)), (.aload_n 0, 1, (0, 0, 0)), (.getfield 87, 3, (11, 12, 2)), (.putfield 83, 3, (11, 11, 2)), (.aload_n 0, 1, (0, 0, 0)), (.aload_n 3, 1, (0, 0, 0)), (.putfield 87, 3, (11, 12, 2)), (.aload_n 0, 1, (0, 0, 0)), (.getfield 19, 3, (11, 1, 2)), (.invokevirtual 116, 3, (j_X1_reset, 1, 0)), (.aload_n 0, 1, (0, 0, 0)), (.getfield 26, 3, (11, 2, 2)), (.aload_n 0, 1, (0, 0, 0)), (.getfield 83, 3, (11, 11, 2)), (.aload_n 0, 1, (0, 0, 0)), (.getfield 19, 3, (11, 1, 2)), (.invokevirtual 90, 3, (j_X8_start, 3, 0)), (.aload_n 0, 1, (0, 0, 0)), (.getfield 33, 3, (11, 3, 2)), (.invokevirtual 117, 3, (j_X0_dropObserved, 1, 0)), (.pop, 1, (0, 0, 0)), (.iload_n 2, 1, (0, 0, 0)), (.ireturn, 1, (0, 0, 0))]
def p_X11_text : List (Nat × List ZN) := [(0, s_X11_text_0), (15, s_X11_text_15), (18, s_X11_text_18), (67, s_X11_text_67)]
def s_X11_fault_0 : List ZN := [(.iload_n 1, 1, (0, 0, 0)), (.lookupswitch 43 #[(0, 27), (1, 35)], 27, (1, 0, 0))]
def s_X11_fault_28 : List ZN := [(.aload_n 0, 1, (0, 0, 0)), (.getfield 10, 3, (11, 0, 2)), (.getfield 113, 3, (6, 2, 0)), (.ireturn, 1, (0, 0, 0))]
def s_X11_fault_36 : List ZN := [(.aload_n 0, 1, (0, 0, 0)), (.getfield 10, 3, (11, 0, 2)), (.getfield 121, 3, (6, 3, 0)), (.ireturn, 1, (0, 0, 0))]
def s_X11_fault_44 : List ZN := [(.iconst (-1), 1, (0, 0, 0)), (.ireturn, 1, (0, 0, 0))]
def p_X11_fault : List (Nat × List ZN) := [(0, s_X11_fault_0), (28, s_X11_fault_28), (36, s_X11_fault_36), (44, s_X11_fault_44)]
def s_X11_set_0 : List ZN := [(.aload_n 0, 1, (0, 0, 0)), (.getfield 83, 3, (11, 11, 2)), (.iload_n 1, 1, (0, 0, 0)), (.invokevirtual 124, 3, (j_X10_hasRoller, 2, 0)), (.ifCond .eq 12, 3, (20, 0, 0)), (.iload_n 2, 1, (0, 0, 0)), (.ifCond .lt 8, 3, (20, 0, 0)), (.iload_n 2, 1, (0, 0, 0)), (.iconst 1, 1, (0, 0, 0)), (.if_icmp .le 6, 3, (23, 0, 0)), (.nop, 0, (20, 0, 0))]
def s_X11_set_20 : List ZN := [(.bipush (-2), 2, (0, 0, 0)), (.ireturn, 1, (0, 0, 0))]
def s_X11_set_23 : List ZN := [(.iload_n 2, 1, (0, 0, 0)), (.ifCond .ne 15, 3, (39, 0, 0)), (.aload_n 0, 1, (0, 0, 0)), (.getfield 19, 3, (11, 1, 2)), (.iload_n 1, 1, (0, 0, 0)), (.iload_n 3, 1, (0, 0, 0)), (.invokevirtual 128, 3, (j_X1_changeWear, 3, 0)), (.goto 12, 3, (48, 0, 0))]
def s_X11_set_39 : List ZN := [(.aload_n 0, 1, (0, 0, 0)), (.getfield 19, 3, (11, 1, 2)), (.iload_n 1, 1, (0, 0, 0)), (.iload_n 3, 1, (0, 0, 0)), (.invokevirtual 132, 3, (j_X1_changeBeat, 3, 0)), (.nop, 0, (48, 0, 0))]
def s_X11_set_48 : List ZN := [(.ireturn, 1, (0, 0, 0))]
def p_X11_set : List (Nat × List ZN) := [(0, s_X11_set_0), (20, s_X11_set_20), (23, s_X11_set_23), (39, s_X11_set_39), (48, s_X11_set_48)]
def s_X11_corner_0 : List ZN := [(.iload_n 1, 1, (0, 0, 0)), (.iconst 1, 1, (0, 0, 0)), (.if_icmp .lt 14, 3, (16, 0, 0)), (.iload_n 1, 1, (0, 0, 0)), (.aload_n 0, 1, (0, 0, 0)), (.getfield 83, 3, (11, 11, 2)), (.getfield 135, 3, (10, 0, 0)), (.if_icmp .le 5, 3, (18, 0, 0)), (.nop, 0, (16, 0, 0))]
def s_X11_corner_16 : List ZN := [(.iconst 0, 1, (0, 0, 0)), (.ireturn, 1, (1, 0, 0))]
def s_X11_corner_18 : List ZN := [(.iload_n 2, 1, (0, 0, 0)), (.ifCond .eq 14, 3, (33, 0, 0)), (.aload_n 0, 1, (0, 0, 0)), (.getfield 19, 3, (11, 1, 2)), (.iload_n 1, 1, (0, 0, 0)), (.invokevirtual 138, 3, (j_X1_leaveCorner, 2, 0)), (.goto 11, 3, (41, 0, 0))]
def s_X11_corner_33 : List ZN := [(.aload_n 0, 1, (0, 0, 0)), (.getfield 19, 3, (11, 1, 2)), (.iload_n 1, 1, (0, 0, 0)), (.invokevirtual 141, 3, (j_X1_takeCorner, 2, 0)), (.nop, 0, (41, 0, 0))]
def s_X11_corner_41 : List ZN := [(.ireturn, 1, (1, 0, 0))]
def p_X11_corner : List (Nat × List ZN) := [(0, s_X11_corner_0), (16, s_X11_corner_16), (18, s_X11_corner_18), (33, s_X11_corner_33), (41, s_X11_corner_41)]
def s_X11_lay_0 : List ZN := [(.iload_n 1, 1, (0, 0, 0)), (.invokestatic 144, 3, (j_X11_isSheetLength, 1, 0)), (.ifCond .ne 6, 3, (10, 0, 0)), (.bipush (-3), 2, (0, 0, 0)), (.ireturn, 1, (0, 0, 0))]
def s_X11_lay_10 : List ZN := [(.aload_n 0, 1, (0, 0, 0)), (.getfield 26, 3, (11, 2, 2)), (.invokevirtual 147, 3, (j_X8_isFull, 1, 0)), (.ifCond .eq 6, 3, (23, 0, 0)), (.bipush (-4), 2, (0, 0, 0)), (.ireturn, 1, (0, 0, 0))]
def s_X11_lay_23 : List ZN := [(.iload_n 2, 1, (0, 0, 0)), (.ifCond .eq 13, 3, (37, 0, 0)), (.aload_n 0, 1, (0, 0, 0)), (.getfield 83, 3, (11, 11, 2)), (.getfield 150, 3, (10, 6, 0)), (.ifCond .eq 13, 3, (47, 0, 0)), (.nop, 0, (37, 0, 0))]
def s_X11_lay_37 : List ZN := [(.aload_n 0, 1, (0, 0, 0)), (.getfield 83, 3, (11, 11, 2)), (.getfield 153, 3, (10, 1, 0)), (.ifCond .ne 6, 3, (50, 0, 0)), (.nop, 0, (47, 0, 0))]
def s_X11_lay_47 : List ZN := [(.bipush (-5), 2, (0, 0, 0)), (.ireturn, 1, (0, 0, 0))]
def s_X11_lay_50 : List ZN := [(.aload_n 0, 1, (0, 0, 0)), (.getfield 26, 3, (11, 2, 2)), (.iload_n 1, 1, (0, 0, 0)), (.invokevirtual 156, 3, (j_X8_isFreeFor, 2, 0)), (.ifCond .eq 15, 3, (73, 0, 0)), (.aload_n 0, 1, (0, 0, 0)), (.getfield 26, 3, (11, 2, 2)), (.iload_n 1, 1, (0, 0, 0)), (.iload_n 2, 1, (0, 0, 0)), (.invokevirtual 159, 3, (j_X8_begin, 3, 0)), (.goto 5, 3, (75, 0, 0))]
def s_X11_lay_73 : List ZN := [(.bipush (-5), 2, (0, 0, 0)), (.nop, 0, (75, 0, 0))]
def s_X11_lay_75 : List ZN := [(.ireturn, 1, (0, 0, 0))]
def p_X11_lay : List (Nat × List ZN) := [(0, s_X11_lay_0), (10, s_X11_lay_10), (23, s_X11_lay_23), (37, s_X11_lay_37), (47, s_X11_lay_47), (50, s_X11_lay_50), (73, s_X11_lay_73), (75, s_X11_lay_75)]
def s_X11_tick_0 : List ZN := [(.iload_n 1, 1, (0, 0, 0)), (.ifCond .lt 10, 3, (11, 0, 0)), (.iload_n 1, 1, (0, 0, 0)), (.sipush 300, 3, (0, 0, 0)), (.if_icmp .le 6, 3, (14, 0, 0)), (.nop, 0, (11, 0, 0))]
def s_X11_tick_11 : List ZN := [(.bipush (-3), 2, (0, 0, 0)), (.ireturn, 1, (0, 0, 0))]
def s_X11_tick_14 : List ZN := [(.iconst 0, 1, (0, 0, 0)), (.istore_n 2, 1, (0, 0, 0)), (.nop, 0, (16, 0, 0))]
def s_X11_tick_16 : List ZN := [(.iload_n 2, 1, (0, 0, 0)), (.iload_n 1, 1, (0, 0, 0)), (.if_icmp .ge 27, 3, (45, 0, 0)), (.aload_n 0, 1, (0, 0, 0)), (.getfield 26, 3, (11, 2, 2)), (.getfield 163, 3, (8, 3, 0)), (.iconst (-1), 1, (0, 0, 0)), (.if_icmp .ne 16, 3, (45, 0, 0)), (.aload_n 0, 1, (0, 0, 0)), (.getfield 26, 3, (11, 2, 2)), (.invokevirtual 166, 3, (j_X8_goOnce, 1, 0)), (.iinc 2 1, 3, (0, 0, 0)), (.goto (-26), 3, (16, 0, 0))]
def s_X11_tick_45 : List ZN := [(.iload_n 2, 1, (0, 0, 0)), (.ireturn, 1, (0, 0, 0))]
def p_X11_tick : List (Nat × List ZN) := [(0, s_X11_tick_0), (11, s_X11_tick_11), (14, s_X11_tick_14), (16, s_X11_tick_16), (45, s_X11_tick_45)]
def s_X11_sheet_0 : List ZN := [(.iload_n 1, 1, (0, 0, 0)), (.ifCond .lt 14, 3, (15, 0, 0)), (.iload_n 1, 1, (0, 0, 0)), (.aload_n 0, 1, (0, 0, 0)), (.getfield 26, 3, (11, 2, 2)), (.getfield 169, 3, (8, 1, 0)), (.if_icmp .lt 6, 3, (18, 0, 0)), (.nop, 0, (15, 0, 0))]
def s_X11_sheet_15 : List ZN := [(.bipush (-2), 2, (0, 0, 0)), (.ireturn, 1, (0, 0, 0))]
def s_X11_sheet_18 : List ZN := [(.iload_n 2, 1, (0, 0, 0)), (.tableswitch 82 0 4 #[33, 43, 53, 62, 72], 33, (19, 0, 0))]
def s_X11_sheet_52 : List ZN := [(.aload_n 0, 1, (0, 0, 0)), (.getfield 26, 3, (11, 2, 2)), (.getfield 172, 3, (8, 5, 2)), (.iload_n 1, 1, (0, 0, 0)), (.iaload, 1, (0, 0, 0)), (.ireturn, 1, (0, 0, 0))]
def s_X11_sheet_62 : List ZN := [(.aload_n 0, 1, (0, 0, 0)), (.getfield 26, 3, (11, 2, 2)), (.getfield 176, 3, (8, 6, 2)), (.iload_n 1, 1, (0, 0, 0)), (.iaload, 1, (0, 0, 0)), (.ireturn, 1, (0, 0, 0))]
def s_X11_sheet_72 : List ZN := [(.aload_n 0, 1, (0, 0, 0)), (.getfield 26, 3, (11, 2, 2)), (.iload_n 1, 1, (0, 0, 0)), (.invokevirtual 179, 3, (j_X8_tailOf, 2, 0)), (.ireturn, 1, (0, 0, 0))]
def s_X11_sheet_81 : List ZN := [(.aload_n 0, 1, (0, 0, 0)), (.getfield 26, 3, (11, 2, 2)), (.getfield 183, 3, (8, 7, 2)), (.iload_n 1, 1, (0, 0, 0)), (.iaload, 1, (0, 0, 0)), (.ireturn, 1, (0, 0, 0))]
def s_X11_sheet_91 : List ZN := [(.aload_n 0, 1, (0, 0, 0)), (.getfield 26, 3, (11, 2, 2)), (.getfield 186, 3, (8, 8, 2)), (.iload_n 1, 1, (0, 0, 0)), (.iaload, 1, (0, 0, 0)), (.ireturn, 1, (0, 0, 0))]
def s_X11_sheet_101 : List ZN := [(.bipush (-2), 2, (0, 0, 0)), (.ireturn, 1, (0, 0, 0))]
def p_X11_sheet : List (Nat × List ZN) := [(0, s_X11_sheet_0), (15, s_X11_sheet_15), (18, s_X11_sheet_18), (52, s_X11_sheet_52), (62, s_X11_sheet_62), (72, s_X11_sheet_72), (81, s_X11_sheet_81), (91, s_X11_sheet_91), (101, s_X11_sheet_101)]
def s_X11_clear_0 : List ZN := [(.aload_n 0, 1, (0, 0, 0)), (.getfield 26, 3, (11, 2, 2)), (.getfield 163, 3, (8, 3, 0)), (.istore_n 2, 1, (0, 0, 0)), (.iload_n 2, 1, (0, 0, 0)), (.ifCond .lt 14, 3, (23, 0, 0)), (.iload_n 2, 1, (0, 0, 0)), (.aload_n 0, 1, (0, 0, 0)), (.getfield 26, 3, (11, 2, 2)), (.getfield 169, 3, (8, 1, 0)), (.if_icmp .lt 6, 3, (26, 0, 0)), (.nop, 0, (23, 0, 0))]
def s_X11_clear_23 : List ZN := [(.bipush (-5), 2, (0, 0, 0)), (.ireturn, 1, (0, 0, 0))]
def s_X11_clear_26 : List ZN := [(.iload_n 1, 1, (0, 0, 0)), (.ifCond .eq 39, 3, (66, 0, 0)), (.aload_n 0, 1, (0, 0, 0)), (.getfield 26, 3, (11, 2, 2)), (.getfield 176, 3, (8, 6, 2)), (.iload_n 2, 1, (0, 0, 0)), (.iaload, 1, (0, 0, 0)), (.bipush 10, 2, (0, 0, 0)), (.idiv, 1, (0, 0, 0)), (.istore_n 3, 1, (0, 0, 0)), (.aload_n 0, 1, (0, 0, 0)), (.getfield 19, 3, (11, 1, 2)), (.iconst 1, 1, (0, 0, 0)), (.aload_n 0, 1, (0, 0, 0)), (.getfield 83, 3, (11, 11, 2)), (.getfield 135, 3, (10, 0, 0)), (.iload_n 3, 1, (0, 0, 0)), (.invokestatic 189, 3, (0, 2, 4)), (.invokestatic 194, 3, (0, 2, 3)), (.invokevirtual 138, 3, (j_X1_leaveCorner, 2, 0)), (.pop, 1, (0, 0, 0)), (.nop, 0, (66, 0, 0))]
def s_X11_clear_66 : List ZN := [(.aload_n 0, 1, (0, 0, 0)), (.getfield 26, 3, (11, 2, 2)), (.invokevirtual 197, 3, (j_X8_takeAll, 1, 0)), (.ireturn, 1, (0, 0, 0))]
def p_X11_clear : List (Nat × List ZN) := [(0, s_X11_clear_0), (23, s_X11_clear_23), (26, s_X11_clear_26), (66, s_X11_clear_66)]
def s_X11_sees_0 : List ZN := [(.aload_n 0, 1, (0, 0, 0)), (.getfield 83, 3, (11, 11, 2)), (.iload_n 1, 1, (0, 0, 0)), (.invokevirtual 200, 3, (j_X10_hasEye, 2, 0)), (.ifCond .ne 6, 3, (14, 0, 0)), (.bipush (-2), 2, (0, 0, 0)), (.ireturn, 1, (0, 0, 0))]
def s_X11_sees_14 : List ZN := [(.aload_n 0, 1, (0, 0, 0)), (.getfield 26, 3, (11, 2, 2)), (.getfield 203, 3, (8, 0, 2)), (.getfield 207, 3, (9, 0, 2)), (.iload_n 1, 1, (0, 0, 0)), (.baload, 1, (0, 0, 0)), (.ifCond .eq 7, 3, (33, 0, 0)), (.iconst 1, 1, (0, 0, 0)), (.goto 4, 3, (34, 0, 0))]
def s_X11_sees_33 : List ZN := [(.iconst 0, 1, (0, 0, 0)), (.nop, 0, (34, 0, 0))]
def s_X11_sees_34 : List ZN := [(.ireturn, 1, (0, 0, 0))]
def p_X11_sees : List (Nat × List ZN) := [(0, s_X11_sees_0), (14, s_X11_sees_14), (33, s_X11_sees_33), (34, s_X11_sees_34)]
def s_X11_passing_0 : List ZN := [(.aload_n 0, 1, (0, 0, 0)), (.getfield 83, 3, (11, 11, 2)), (.iload_n 1, 1, (0, 0, 0)), (.invokevirtual 200, 3, (j_X10_hasEye, 2, 0)), (.ifCond .eq 23, 3, (31, 0, 0)), (.iload_n 2, 1, (0, 0, 0)), (.ifCond .lt 19, 3, (31, 0, 0)), (.iload_n 2, 1, (0, 0, 0)), (.aload_n 0, 1, (0, 0, 0)), (.getfield 26, 3, (11, 2, 2)), (.getfield 203, 3, (8, 0, 2)), (.getfield 212, 3, (9, 1, 2)), (.iload_n 1, 1, (0, 0, 0)), (.iaload, 1, (0, 0, 0)), (.if_icmp .lt 6, 3, (34, 0, 0)), (.nop, 0, (31, 0, 0))]
def s_X11_passing_31 : List ZN := [(.bipush (-2), 2, (0, 0, 0)), (.ireturn, 1, (0, 0, 0))]
def s_X11_passing_34 : List ZN := [(.iload_n 3, 1, (0, 0, 0)), (.lookupswitch 61 #[(0, 25), (1, 43)], 25, (35, 0, 0))]
def s_X11_passing_60 : List ZN := [(.aload_n 0, 1, (0, 0, 0)), (.getfield 26, 3, (11, 2, 2)), (.getfield 203, 3, (8, 0, 2)), (.getfield 215, 3, (9, 2, 2)), (.iload_n 1, 1, (0, 0, 0)), (.bipush 12, 2, (0, 0, 0)), (.imul, 1, (0, 0, 0)), (.iload_n 2, 1, (0, 0, 0)), (.iadd, 1, (0, 0, 0)), (.iaload, 1, (0, 0, 0)), (.ireturn, 1, (0, 0, 0))]
def s_X11_passing_78 : List ZN := [(.aload_n 0, 1, (0, 0, 0)), (.getfield 26, 3, (11, 2, 2)), (.getfield 203, 3, (8, 0, 2)), (.getfield 218, 3, (9, 3, 2)), (.iload_n 1, 1, (0, 0, 0)), (.bipush 12, 2, (0, 0, 0)), (.imul, 1, (0, 0, 0)), (.iload_n 2, 1, (0, 0, 0)), (.iadd, 1, (0, 0, 0)), (.iaload, 1, (0, 0, 0)), (.ireturn, 1, (0, 0, 0))]
def s_X11_passing_96 : List ZN := [(.bipush (-2), 2, (0, 0, 0)), (.ireturn, 1, (0, 0, 0))]
def p_X11_passing : List (Nat × List ZN) := [(0, s_X11_passing_0), (31, s_X11_passing_31), (34, s_X11_passing_34), (60, s_X11_passing_60), (78, s_X11_passing_78), (96, s_X11_passing_96)]
def s_X11_saw_0 : List ZN := [(.aload_n 0, 1, (0, 0, 0)), (.getfield 83, 3, (11, 11, 2)), (.iload_n 1, 1, (0, 0, 0)), (.invokevirtual 200, 3, (j_X10_hasEye, 2, 0)), (.ifCond .eq 20, 3, (28, 0, 0)), (.aload_n 0, 1, (0, 0, 0)), (.getfield 33, 3, (11, 3, 2)), (.iload_n 1, 1, (0, 0, 0)), (.iload_n 2, 1, (0, 0, 0)), (.iload_n 3, 1, (0, 0, 0)), (.invokevirtual 221, 3, (j_X0_observe, 4, 0)), (.ifCond .eq 7, 3, (28, 0, 0)), (.iconst 1, 1, (0, 0, 0)), (.goto 4, 3, (29, 0, 0))]
def s_X11_saw_28 : List ZN := [(.iconst 0, 1, (0, 0, 0)), (.nop, 0, (29, 0, 0))]
def s_X11_saw_29 : List ZN := [(.ireturn, 1, (1, 0, 0))]
def p_X11_saw : List (Nat × List ZN) := [(0, s_X11_saw_0), (28, s_X11_saw_28), (29, s_X11_saw_29)]
def s_X11_forget_0 : List ZN := [(.aload_n 0, 1, (0, 0, 0)), (.getfield 33, 3, (11, 3, 2)), (.invokevirtual 117, 3, (j_X0_dropObserved, 1, 0)), (.ireturn, 1, (0, 0, 0))]
def p_X11_forget : List (Nat × List ZN) := [(0, s_X11_forget_0)]
def s_X11_explain_0 : List ZN := [(.iload_n 1, 1, (0, 0, 0)), (.invokestatic 144, 3, (j_X11_isSheetLength, 1, 0)), (.ifCond .ne 6, 3, (10, 0, 0)), (.bipush (-3), 2, (0, 0, 0)), (.ireturn, 1, (0, 0, 0))]
def s_X11_explain_10 : List ZN := [(.aload_n 0, 1, (0, 0, 0)), (.getfield 83, 3, (11, 11, 2)), (.getfield 153, 3, (10, 1, 0)), (.ifCond .ne 6, 3, (23, 0, 0)), (.bipush (-5), 2, (0, 0, 0)), (.ireturn, 1, (0, 0, 0))]
def s_X11_explain_23 : List ZN := [(.aload_n 0, 1, (0, 0, 0)), (.getfield 33, 3, (11, 3, 2)), (.aload_n 0, 1, (0, 0, 0)), (.getfield 83, 3, (11, 11, 2)), (.iload_n 1, 1, (0, 0, 0)), (.invokevirtual 225, 3, (j_X0_seek, 3, 0)), (.iload_n 2, 1, (0, 0, 0)), (.iconst (-1), 1, (0, 0, 0)), (.if_icmp .ne 11, 3, (48, 0, 0)), (.aload_n 0, 1, (0, 0, 0)), (.getfield 33, 3, (11, 3, 2)), (.getfield 229, 3, (0, 1, 0)), (.ireturn, 1, (0, 0, 0))]
def s_X11_explain_48 : List ZN := [(.iload_n 2, 1, (0, 0, 0)), (.ifCond .lt 14, 3, (63, 0, 0)), (.iload_n 2, 1, (0, 0, 0)), (.aload_n 0, 1, (0, 0, 0)), (.getfield 33, 3, (11, 3, 2)), (.getfield 229, 3, (0, 1, 0)), (.if_icmp .lt 5, 3, (65, 0, 0)), (.nop, 0, (63, 0, 0))]
def s_X11_explain_63 : List ZN := [(.iconst (-1), 1, (0, 0, 0)), (.ireturn, 1, (0, 0, 0))]
def s_X11_explain_65 : List ZN := [(.iload_n 2, 1, (0, 0, 0)), (.ifCond .ne 13, 3, (79, 0, 0)), (.aload_n 0, 1, (0, 0, 0)), (.getfield 33, 3, (11, 3, 2)), (.getfield 232, 3, (0, 2, 0)), (.goto 10, 3, (86, 0, 0))]
def s_X11_explain_79 : List ZN := [(.aload_n 0, 1, (0, 0, 0)), (.getfield 33, 3, (11, 3, 2)), (.getfield 235, 3, (0, 3, 0)), (.nop, 0, (86, 0, 0))]
def s_X11_explain_86 : List ZN := [(.ireturn, 1, (0, 0, 0))]
def p_X11_explain : List (Nat × List ZN) := [(0, s_X11_explain_0), (10, s_X11_explain_10), (23, s_X11_explain_23), (48, s_X11_explain_48), (63, s_X11_explain_63), (65, s_X11_explain_65), (79, s_X11_explain_79), (86, s_X11_explain_86)]
def s_X11_foretold_0 : List ZN := [(.aload_n 0, 1, (0, 0, 0)), (.getfield 83, 3, (11, 11, 2)), (.iload_n 1, 1, (0, 0, 0)), (.invokevirtual 124, 3, (j_X10_hasRoller, 2, 0)), (.ifCond .ne 6, 3, (14, 0, 0)), (.bipush (-2), 2, (0, 0, 0)), (.ireturn, 1, (0, 0, 0))]
def s_X11_foretold_14 : List ZN := [(.iload_n 2, 1, (0, 0, 0)), (.ifCond .lt 16, 3, (31, 0, 0)), (.iload_n 2, 1, (0, 0, 0)), (.bipush 100, 2, (0, 0, 0)), (.if_icmp .gt 10, 3, (31, 0, 0)), (.iload_n 3, 1, (0, 0, 0)), (.invokestatic 144, 3, (j_X11_isSheetLength, 1, 0)), (.ifCond .ne 6, 3, (34, 0, 0)), (.nop, 0, (31, 0, 0))]
def s_X11_foretold_31 : List ZN := [(.bipush (-3), 2, (0, 0, 0)), (.ireturn, 1, (0, 0, 0))]
def s_X11_foretold_34 : List ZN := [(.aload_n 0, 1, (0, 0, 0)), (.getfield 33, 3, (11, 3, 2)), (.aload_n 0, 1, (0, 0, 0)), (.getfield 83, 3, (11, 11, 2)), (.aload_n 0, 1, (0, 0, 0)), (.getfield 19, 3, (11, 1, 2)), (.iload_n 1, 1, (0, 0, 0)), (.iload_n 2, 1, (0, 0, 0)), (.iload_n 3, 1, (0, 0, 0)), (.invokevirtual 238, 3, (j_X0_firstToFail, 6, 0)), (.ireturn, 1, (0, 0, 0))]
def p_X11_foretold : List (Nat × List ZN) := [(0, s_X11_foretold_0), (14, s_X11_foretold_14), (31, s_X11_foretold_31), (34, s_X11_foretold_34)]
def s_X11_crease_0 : List ZN := [(.iload_n 1, 1, (0, 0, 0)), (.invokestatic 144, 3, (j_X11_isSheetLength, 1, 0)), (.ifCond .eq 13, 3, (17, 0, 0)), (.iload_n 2, 1, (0, 0, 0)), (.iload_n 3, 1, (0, 0, 0)), (.iload 4, 2, (0, 0, 0)), (.invokestatic 242, 3, (j_X11_isCreaseRow, 3, 0)), (.ifCond .ne 6, 3, (20, 0, 0)), (.nop, 0, (17, 0, 0))]
def s_X11_crease_17 : List ZN := [(.bipush (-3), 2, (0, 0, 0)), (.ireturn, 1, (0, 0, 0))]
def s_X11_crease_20 : List ZN := [(.iconst 0, 1, (0, 0, 0)), (.istore 6, 2, (0, 0, 0)), (.iconst 1, 1, (0, 0, 0)), (.istore 7, 2, (0, 0, 0)), (.nop, 0, (26, 0, 0))]
def s_X11_crease_26 : List ZN := [(.iload 7, 2, (0, 0, 0)), (.aload_n 0, 1, (0, 0, 0)), (.getfield 83, 3, (11, 11, 2)), (.getfield 135, 3, (10, 0, 0)), (.if_icmp .gt 39, 3, (74, 0, 0)), (.aload_n 0, 1, (0, 0, 0)), (.getfield 83, 3, (11, 11, 2)), (.iload 7, 2, (0, 0, 0)), (.iload_n 1, 1, (0, 0, 0)), (.iload_n 2, 1, (0, 0, 0)), (.iload_n 3, 1, (0, 0, 0)), (.iload 4, 2, (0, 0, 0)), (.invokevirtual 245, 3, (j_X10_creasesAre, 6, 0)), (.ifCond .eq 16, 3, (68, 0, 0)), (.iload 6, 2, (0, 0, 0)), (.iload 5, 2, (0, 0, 0)), (.if_icmp .ne 6, 3, (65, 0, 0)), (.iload 7, 2, (0, 0, 0)), (.ireturn, 1, (0, 0, 0))]
def s_X11_crease_65 : List ZN := [(.iinc 6 1, 3, (0, 0, 0)), (.nop, 0, (68, 0, 0))]
def s_X11_crease_68 : List ZN := [(.iinc 7 1, 3, (0, 0, 0)), (.goto (-45), 3, (26, 0, 0))]
def s_X11_crease_74 : List ZN := [(.iload 5, 2, (0, 0, 0)), (.iconst (-1), 1, (0, 0, 0)), (.if_icmp .ne 8, 3, (85, 0, 0)), (.iload 6, 2, (0, 0, 0)), (.goto 4, 3, (86, 0, 0))]
def s_X11_crease_85 : List ZN := [(.iconst (-1), 1, (0, 0, 0)), (.nop, 0, (86, 0, 0))]
def s_X11_crease_86 : List ZN := [(.ireturn, 1, (0, 0, 0))]
def p_X11_crease : List (Nat × List ZN) := [(0, s_X11_crease_0), (17, s_X11_crease_17), (20, s_X11_crease_20), (26, s_X11_crease_26), (65, s_X11_crease_65), (68, s_X11_crease_68), (74, s_X11_crease_74), (85, s_X11_crease_85), (86, s_X11_crease_86)]
def s_X11_page_0 : List ZN := [(.iload_n 1, 1, (0, 0, 0)), (.ifCond .lt 8, 3, (9, 0, 0)), (.iload_n 1, 1, (0, 0, 0)), (.iconst 4, 1, (0, 0, 0)), (.if_icmp .lt 6, 3, (12, 0, 0)), (.nop, 0, (9, 0, 0))]
def s_X11_page_9 : List ZN := [(.bipush (-3), 2, (0, 0, 0)), (.ireturn, 1, (0, 0, 0))]
def s_X11_page_12 : List ZN := [(.aload_n 0, 1, (0, 0, 0)), (.getfield 40, 3, (11, 4, 2)), (.getfield 249, 3, (2, 0, 0)), (.bipush 8, 2, (0, 0, 0)), (.if_icmp .lt 6, 3, (27, 0, 0)), (.bipush (-4), 2, (0, 0, 0)), (.ireturn, 1, (0, 0, 0))]
def s_X11_page_27 : List ZN := [(.aload_n 0, 1, (0, 0, 0)), (.getfield 40, 3, (11, 4, 2)), (.getfield 252, 3, (2, 12, 0)), (.ifCond .le 6, 3, (40, 0, 0)), (.bipush (-5), 2, (0, 0, 0)), (.ireturn, 1, (0, 0, 0))]
def s_X11_page_40 : List ZN := [(.aload_n 0, 1, (0, 0, 0)), (.getfield 55, 3, (11, 7, 2)), (.iconst 0, 1, (0, 0, 0)), (.putfield 255, 3, (5, 0, 1)), (.aload_n 0, 1, (0, 0, 0)), (.getfield 62, 3, (11, 8, 2)), (.iconst 0, 1, (0, 0, 0)), (.putfield 259, 3, (3, 0, 1)), (.aload_n 0, 1, (0, 0, 0)), (.getfield 40, 3, (11, 4, 2)), (.iload_n 1, 1, (0, 0, 0)), (.iload_n 2, 1, (0, 0, 0)), (.invokevirtual 260, 3, (j_X2_addPage, 3, 0)), (.ireturn, 1, (0, 0, 0))]
def p_X11_page : List (Nat × List ZN) := [(0, s_X11_page_0), (9, s_X11_page_9), (12, s_X11_page_12), (27, s_X11_page_27), (40, s_X11_page_40)]
def s_X11_tray_0 : List ZN := [(.iload_n 1, 1, (0, 0, 0)), (.ifCond .lt 17, 3, (18, 0, 0)), (.iload_n 1, 1, (0, 0, 0)), (.iconst 4, 1, (0, 0, 0)), (.if_icmp .ge 12, 3, (18, 0, 0)), (.iload_n 2, 1, (0, 0, 0)), (.ifCond .lt 8, 3, (18, 0, 0)), (.iload_n 2, 1, (0, 0, 0)), (.iconst 4, 1, (0, 0, 0)), (.if_icmp .lt 5, 3, (20, 0, 0)), (.nop, 0, (18, 0, 0))]
def s_X11_tray_18 : List ZN := [(.iconst 0, 1, (0, 0, 0)), (.ireturn, 1, (1, 0, 0))]
def s_X11_tray_20 : List ZN := [(.aload_n 0, 1, (0, 0, 0)), (.getfield 40, 3, (11, 4, 2)), (.getfield 263, 3, (2, 3, 2)), (.iload_n 1, 1, (0, 0, 0)), (.iload_n 2, 1, (0, 0, 0)), (.iastore, 1, (0, 0, 0)), (.aload_n 0, 1, (0, 0, 0)), (.getfield 40, 3, (11, 4, 2)), (.getfield 266, 3, (2, 4, 2)), (.iload_n 1, 1, (0, 0, 0)), (.iload_n 3, 1, (0, 0, 0)), (.bastore, 1, (0, 0, 0)), (.aload_n 0, 1, (0, 0, 0)), (.getfield 55, 3, (11, 7, 2)), (.iconst 0, 1, (0, 0, 0)), (.putfield 255, 3, (5, 0, 1)), (.iconst 1, 1, (0, 0, 0)), (.ireturn, 1, (1, 0, 0))]
def p_X11_tray : List (Nat × List ZN) := [(0, s_X11_tray_0), (18, s_X11_tray_18), (20, s_X11_tray_20)]
def s_X11_pocket_0 : List ZN := [(.iload_n 1, 1, (0, 0, 0)), (.iconst 1, 1, (0, 0, 0)), (.if_icmp .lt 17, 3, (19, 0, 0)), (.iload_n 1, 1, (0, 0, 0)), (.iconst 3, 1, (0, 0, 0)), (.if_icmp .gt 12, 3, (19, 0, 0)), (.iload_n 2, 1, (0, 0, 0)), (.ifCond .lt 8, 3, (19, 0, 0)), (.iload_n 2, 1, (0, 0, 0)), (.iconst 4, 1, (0, 0, 0)), (.if_icmp .le 5, 3, (21, 0, 0)), (.nop, 0, (19, 0, 0))]
def s_X11_pocket_19 : List ZN := [(.iconst 0, 1, (0, 0, 0)), (.ireturn, 1, (1, 0, 0))]
def s_X11_pocket_21 : List ZN := [(.aload_n 0, 1, (0, 0, 0)), (.getfield 40, 3, (11, 4, 2)), (.iload_n 1, 1, (0, 0, 0)), (.putfield 269, 3, (2, 5, 0)), (.aload_n 0, 1, (0, 0, 0)), (.getfield 40, 3, (11, 4, 2)), (.iload_n 2, 1, (0, 0, 0)), (.putfield 272, 3, (2, 6, 0)), (.aload_n 0, 1, (0, 0, 0)), (.getfield 55, 3, (11, 7, 2)), (.iconst 0, 1, (0, 0, 0)), (.putfield 255, 3, (5, 0, 1)), (.iconst 1, 1, (0, 0, 0)), (.ireturn, 1, (1, 0, 0))]
def p_X11_pocket : List (Nat × List ZN) := [(0, s_X11_pocket_0), (19, s_X11_pocket_19), (21, s_X11_pocket_21)]
def s_X11_heat_0 : List ZN := [(.iload_n 1, 1, (0, 0, 0)), (.ifCond .lt 46, 3, (47, 0, 0)), (.iload_n 1, 1, (0, 0, 0)), (.bipush 30, 2, (0, 0, 0)), (.if_icmp .gt 40, 3, (47, 0, 0)), (.iload_n 2, 1, (0, 0, 0)), (.ifCond .lt 36, 3, (47, 0, 0)), (.iload_n 2, 1, (0, 0, 0)), (.bipush 30, 2, (0, 0, 0)), (.if_icmp .gt 30, 3, (47, 0, 0)), (.iload_n 3, 1, (0, 0, 0)), (.ifCond .lt 26, 3, (47, 0, 0)), (.iload_n 3, 1, (0, 0, 0)), (.bipush 10, 2, (0, 0, 0)), (.if_icmp .gt 20, 3, (47, 0, 0)), (.iload 4, 2, (0, 0, 0)), (.iconst 1, 1, (0, 0, 0)), (.if_icmp .lt 14, 3, (47, 0, 0)), (.iload 4, 2, (0, 0, 0)), (.bipush 10, 2, (0, 0, 0)), (.if_icmp .gt 7, 3, (47, 0, 0)), (.iconst 1, 1, (0, 0, 0)), (.goto 4, 3, (48, 0, 0))]
def s_X11_heat_47 : List ZN := [(.iconst 0, 1, (0, 0, 0)), (.nop, 0, (48, 0, 0))]
def s_X11_heat_48 : List ZN := [(.istore 5, 2, (0, 0, 0)), (.iload 5, 2, (0, 0, 0)), (.ifCond .eq 44, 3, (96, 0, 0)), (.aload_n 0, 1, (0, 0, 0)), (.getfield 40, 3, (11, 4, 2)), (.iload_n 1, 1, (0, 0, 0)), (.putfield 275, 3, (2, 7, 0)), (.aload_n 0, 1, (0, 0, 0)), (.getfield 40, 3, (11, 4, 2)), (.iload_n 2, 1, (0, 0, 0)), (.putfield 278, 3, (2, 8, 0)), (.aload_n 0, 1, (0, 0, 0)), (.getfield 40, 3, (11, 4, 2)), (.iload_n 3, 1, (0, 0, 0)), (.putfield 281, 3, (2, 9, 0)), (.aload_n 0, 1, (0, 0, 0)), (.getfield 40, 3, (11, 4, 2)), (.iload 4, 2, (0, 0, 0)), (.putfield 284, 3, (2, 10, 0)), (.aload_n 0, 1, (0, 0, 0)), (.getfield 55, 3, (11, 7, 2)), (.iconst 0, 1, (0, 0, 0)), (.putfield 255, 3, (5, 0, 1)), (.nop, 0, (96, 0, 0))]
def s_X11_heat_96 : List ZN := [(.iload 5, 2, (0, 0, 0)), (.ireturn, 1, (1, 0, 0))]
def p_X11_heat : List (Nat × List ZN) := [(0, s_X11_heat_0), (47, s_X11_heat_47), (48, s_X11_heat_48), (96, s_X11_heat_96)]
def s_X11_plan_0 : List ZN := [(.aload_n 0, 1, (0, 0, 0)), (.getfield 55, 3, (11, 7, 2)), (.aload_n 0, 1, (0, 0, 0)), (.getfield 40, 3, (11, 4, 2)), (.invokevirtual 287, 3, (j_X5_seek, 2, 0)), (.iload_n 1, 1, (0, 0, 0)), (.iconst (-1), 1, (0, 0, 0)), (.if_icmp .ne 11, 3, (24, 0, 0)), (.aload_n 0, 1, (0, 0, 0)), (.getfield 55, 3, (11, 7, 2)), (.getfield 290, 3, (5, 1, 0)), (.ireturn, 1, (0, 0, 0))]
def s_X11_plan_24 : List ZN := [(.iload_n 1, 1, (0, 0, 0)), (.ifCond .lt 26, 3, (51, 0, 0)), (.iload_n 1, 1, (0, 0, 0)), (.aload_n 0, 1, (0, 0, 0)), (.getfield 55, 3, (11, 7, 2)), (.getfield 290, 3, (5, 1, 0)), (.if_icmp .ge 15, 3, (51, 0, 0)), (.aload_n 0, 1, (0, 0, 0)), (.getfield 55, 3, (11, 7, 2)), (.getfield 293, 3, (5, 2, 2)), (.iload_n 1, 1, (0, 0, 0)), (.iaload, 1, (0, 0, 0)), (.goto 4, 3, (52, 0, 0))]
def s_X11_plan_51 : List ZN := [(.iconst (-1), 1, (0, 0, 0)), (.nop, 0, (52, 0, 0))]
def s_X11_plan_52 : List ZN := [(.ireturn, 1, (0, 0, 0))]
def p_X11_plan : List (Nat × List ZN) := [(0, s_X11_plan_0), (24, s_X11_plan_24), (51, s_X11_plan_51), (52, s_X11_plan_52)]
def s_X11_copies_0 : List ZN := [(.iload_n 1, 1, (0, 0, 0)), (.iconst 1, 1, (0, 0, 0)), (.if_icmp .lt 9, 3, (11, 0, 0)), (.iload_n 1, 1, (0, 0, 0)), (.bipush 40, 2, (0, 0, 0)), (.if_icmp .le 6, 3, (14, 0, 0)), (.nop, 0, (11, 0, 0))]
def s_X11_copies_11 : List ZN := [(.bipush (-3), 2, (0, 0, 0)), (.ireturn, 1, (0, 0, 0))]
def s_X11_copies_14 : List ZN := [(.aload_n 0, 1, (0, 0, 0)), (.getfield 40, 3, (11, 4, 2)), (.getfield 296, 3, (2, 11, 0)), (.istore_n 2, 1, (0, 0, 0)), (.aload_n 0, 1, (0, 0, 0)), (.getfield 40, 3, (11, 4, 2)), (.iload_n 1, 1, (0, 0, 0)), (.putfield 296, 3, (2, 11, 0)), (.aload_n 0, 1, (0, 0, 0)), (.getfield 62, 3, (11, 8, 2)), (.iconst 0, 1, (0, 0, 0)), (.putfield 259, 3, (3, 0, 1)), (.iload_n 2, 1, (0, 0, 0)), (.ireturn, 1, (0, 0, 0))]
def p_X11_copies : List (Nat × List ZN) := [(0, s_X11_copies_0), (11, s_X11_copies_11), (14, s_X11_copies_14)]
def s_X11_out_0 : List ZN := [(.iload_n 1, 1, (0, 0, 0)), (.ifCond .lt 14, 3, (15, 0, 0)), (.iload_n 1, 1, (0, 0, 0)), (.aload_n 0, 1, (0, 0, 0)), (.getfield 40, 3, (11, 4, 2)), (.getfield 249, 3, (2, 0, 0)), (.if_icmp .lt 6, 3, (18, 0, 0)), (.nop, 0, (15, 0, 0))]
def s_X11_out_15 : List ZN := [(.bipush (-2), 2, (0, 0, 0)), (.ireturn, 1, (0, 0, 0))]
def s_X11_out_18 : List ZN := [(.aload_n 0, 1, (0, 0, 0)), (.getfield 40, 3, (11, 4, 2)), (.getfield 252, 3, (2, 12, 0)), (.bipush 60, 2, (0, 0, 0)), (.if_icmp .lt 6, 3, (33, 0, 0)), (.bipush (-4), 2, (0, 0, 0)), (.ireturn, 1, (0, 0, 0))]
def s_X11_out_33 : List ZN := [(.aload_n 0, 1, (0, 0, 0)), (.getfield 40, 3, (11, 4, 2)), (.getfield 299, 3, (2, 13, 2)), (.aload_n 0, 1, (0, 0, 0)), (.getfield 40, 3, (11, 4, 2)), (.getfield 252, 3, (2, 12, 0)), (.iload_n 1, 1, (0, 0, 0)), (.iastore, 1, (0, 0, 0)), (.aload_n 0, 1, (0, 0, 0)), (.getfield 40, 3, (11, 4, 2)), (.dup, 1, (0, 0, 0)), (.getfield 252, 3, (2, 12, 0)), (.iconst 1, 1, (0, 0, 0)), (.iadd, 1, (0, 0, 0)), (.putfield 252, 3, (2, 12, 0)), (.aload_n 0, 1, (0, 0, 0)), (.getfield 62, 3, (11, 8, 2)), (.iconst 0, 1, (0, 0, 0)), (.putfield 259, 3, (3, 0, 1)), (.aload_n 0, 1, (0, 0, 0)), (.getfield 40, 3, (11, 4, 2)), (.getfield 252, 3, (2, 12, 0)), (.ireturn, 1, (0, 0, 0))]
def p_X11_out : List (Nat × List ZN) := [(0, s_X11_out_0), (15, s_X11_out_15), (18, s_X11_out_18), (33, s_X11_out_33)]
def s_X11_empty_0 : List ZN := [(.aload_n 0, 1, (0, 0, 0)), (.getfield 40, 3, (11, 4, 2)), (.getfield 252, 3, (2, 12, 0)), (.istore_n 1, 1, (0, 0, 0)), (.aload_n 0, 1, (0, 0, 0)), (.getfield 40, 3, (11, 4, 2)), (.iconst 0, 1, (0, 0, 0)), (.putfield 252, 3, (2, 12, 0)), (.aload_n 0, 1, (0, 0, 0)), (.getfield 62, 3, (11, 8, 2)), (.iconst 0, 1, (0, 0, 0)), (.putfield 259, 3, (3, 0, 1)), (.iload_n 1, 1, (0, 0, 0)), (.ireturn, 1, (0, 0, 0))]
def p_X11_empty : List (Nat × List ZN) := [(0, s_X11_empty_0)]
def s_X11_again_0 : List ZN := [(.aload_n 0, 1, (0, 0, 0)), (.getfield 62, 3, (11, 8, 2)), (.aload_n 0, 1, (0, 0, 0)), (.getfield 40, 3, (11, 4, 2)), (.invokevirtual 302, 3, (j_X3_pair, 2, 0)), (.iload_n 1, 1, (0, 0, 0)), (.tableswitch 72 0 2 #[28, 44, 60], 28, (12, 0, 0))]
def s_X11_again_40 : List ZN := [(.aload_n 0, 1, (0, 0, 0)), (.getfield 62, 3, (11, 8, 2)), (.getfield 305, 3, (3, 1, 0)), (.aload_n 0, 1, (0, 0, 0)), (.getfield 62, 3, (11, 8, 2)), (.getfield 308, 3, (3, 2, 0)), (.isub, 1, (0, 0, 0)), (.ireturn, 1, (0, 0, 0))]
def s_X11_again_56 : List ZN := [(.aload_n 0, 1, (0, 0, 0)), (.getfield 40, 3, (11, 4, 2)), (.getfield 252, 3, (2, 12, 0)), (.aload_n 0, 1, (0, 0, 0)), (.getfield 62, 3, (11, 8, 2)), (.getfield 308, 3, (3, 2, 0)), (.isub, 1, (0, 0, 0)), (.ireturn, 1, (0, 0, 0))]
def s_X11_again_72 : List ZN := [(.aload_n 0, 1, (0, 0, 0)), (.getfield 62, 3, (11, 8, 2)), (.aload_n 0, 1, (0, 0, 0)), (.getfield 40, 3, (11, 4, 2)), (.invokevirtual 311, 3, (j_X3_wholeCopies, 2, 0)), (.ireturn, 1, (0, 0, 0))]
def s_X11_again_84 : List ZN := [(.iconst (-1), 1, (0, 0, 0)), (.ireturn, 1, (0, 0, 0))]
def p_X11_again : List (Nat × List ZN) := [(0, s_X11_again_0), (40, s_X11_again_40), (56, s_X11_again_56), (72, s_X11_again_72), (84, s_X11_again_84)]
def s_X11_lack_0 : List ZN := [(.aload_n 0, 1, (0, 0, 0)), (.getfield 62, 3, (11, 8, 2)), (.aload_n 0, 1, (0, 0, 0)), (.getfield 40, 3, (11, 4, 2)), (.invokevirtual 302, 3, (j_X3_pair, 2, 0)), (.aload_n 0, 1, (0, 0, 0)), (.getfield 62, 3, (11, 8, 2)), (.iload_n 1, 1, (0, 0, 0)), (.invokevirtual 315, 3, (j_X3_lackingPlace, 2, 0)), (.ireturn, 1, (0, 0, 0))]
def p_X11_lack : List (Nat × List ZN) := [(0, s_X11_lack_0)]
def s_X11_kept_0 : List ZN := [(.aload_n 0, 1, (0, 0, 0)), (.getfield 62, 3, (11, 8, 2)), (.aload_n 0, 1, (0, 0, 0)), (.getfield 40, 3, (11, 4, 2)), (.invokevirtual 302, 3, (j_X3_pair, 2, 0)), (.iload_n 1, 1, (0, 0, 0)), (.ifCond .lt 26, 3, (38, 0, 0)), (.iload_n 1, 1, (0, 0, 0)), (.aload_n 0, 1, (0, 0, 0)), (.getfield 62, 3, (11, 8, 2)), (.getfield 305, 3, (3, 1, 0)), (.if_icmp .ge 15, 3, (38, 0, 0)), (.aload_n 0, 1, (0, 0, 0)), (.getfield 62, 3, (11, 8, 2)), (.getfield 318, 3, (3, 3, 2)), (.iload_n 1, 1, (0, 0, 0)), (.iaload, 1, (0, 0, 0)), (.goto 4, 3, (39, 0, 0))]
def s_X11_kept_38 : List ZN := [(.iconst (-1), 1, (0, 0, 0)), (.nop, 0, (39, 0, 0))]
def s_X11_kept_39 : List ZN := [(.ireturn, 1, (0, 0, 0))]
def p_X11_kept : List (Nat × List ZN) := [(0, s_X11_kept_0), (38, s_X11_kept_38), (39, s_X11_kept_39)]
def s_X11_pay_0 : List ZN := [(.iload_n 1, 1, (0, 0, 0)), (.ifCond .lt 30, 3, (31, 0, 0)), (.iload_n 1, 1, (0, 0, 0)), (.sipush 1000, 3, (0, 0, 0)), (.if_icmp .gt 23, 3, (31, 0, 0)), (.iload_n 2, 1, (0, 0, 0)), (.ifCond .lt 19, 3, (31, 0, 0)), (.iload_n 2, 1, (0, 0, 0)), (.bipush 100, 2, (0, 0, 0)), (.if_icmp .gt 13, 3, (31, 0, 0)), (.iload_n 3, 1, (0, 0, 0)), (.ifCond .lt 9, 3, (31, 0, 0)), (.iload_n 3, 1, (0, 0, 0)), (.bipush 100, 2, (0, 0, 0)), (.if_icmp .le 5, 3, (33, 0, 0)), (.nop, 0, (31, 0, 0))]
def s_X11_pay_31 : List ZN := [(.iconst (-1), 1, (0, 0, 0)), (.ireturn, 1, (0, 0, 0))]
def s_X11_pay_33 : List ZN := [(.aload_n 0, 1, (0, 0, 0)), (.getfield 40, 3, (11, 4, 2)), (.invokevirtual 321, 3, (j_X2_stackSides, 1, 0)), (.istore 4, 2, (0, 0, 0)), (.iload 4, 2, (0, 0, 0)), (.iload_n 1, 1, (0, 0, 0)), (.invokestatic 189, 3, (0, 2, 4)), (.istore 5, 2, (0, 0, 0)), (.iload 5, 2, (0, 0, 0)), (.iload_n 2, 1, (0, 0, 0)), (.imul, 1, (0, 0, 0)), (.iload 4, 2, (0, 0, 0)), (.iload 5, 2, (0, 0, 0)), (.isub, 1, (0, 0, 0)), (.iload_n 3, 1, (0, 0, 0)), (.imul, 1, (0, 0, 0)), (.iadd, 1, (0, 0, 0)), (.ireturn, 1, (0, 0, 0))]
def p_X11_pay : List (Nat × List ZN) := [(0, s_X11_pay_0), (31, s_X11_pay_31), (33, s_X11_pay_33)]
def s_X11_part_0 : List ZN := [(.iload_n 1, 1, (0, 0, 0)), (.ifCond .lt 19, 3, (20, 0, 0)), (.iload_n 1, 1, (0, 0, 0)), (.bipush 10, 2, (0, 0, 0)), (.if_icmp .ge 13, 3, (20, 0, 0)), (.iload_n 2, 1, (0, 0, 0)), (.ifCond .lt 9, 3, (20, 0, 0)), (.iload_n 2, 1, (0, 0, 0)), (.bipush 99, 2, (0, 0, 0)), (.if_icmp .le 5, 3, (22, 0, 0)), (.nop, 0, (20, 0, 0))]
def s_X11_part_20 : List ZN := [(.iconst 0, 1, (0, 0, 0)), (.ireturn, 1, (1, 0, 0))]
def s_X11_part_22 : List ZN := [(.iload_n 3, 1, (0, 0, 0)), (.iconst 1, 1, (0, 0, 0)), (.if_icmp .lt 21, 3, (45, 0, 0)), (.iload_n 3, 1, (0, 0, 0)), (.bipush 12, 2, (0, 0, 0)), (.if_icmp .gt 15, 3, (45, 0, 0)), (.iload 4, 2, (0, 0, 0)), (.ifCond .lt 10, 3, (45, 0, 0)), (.iload 4, 2, (0, 0, 0)), (.bipush 12, 2, (0, 0, 0)), (.if_icmp .le 5, 3, (47, 0, 0)), (.nop, 0, (45, 0, 0))]
def s_X11_part_45 : List ZN := [(.iconst 0, 1, (0, 0, 0)), (.ireturn, 1, (1, 0, 0))]
def s_X11_part_47 : List ZN := [(.aload_n 0, 1, (0, 0, 0)), (.getfield 40, 3, (11, 4, 2)), (.getfield 324, 3, (2, 14, 2)), (.iload_n 1, 1, (0, 0, 0)), (.iload_n 2, 1, (0, 0, 0)), (.iastore, 1, (0, 0, 0)), (.aload_n 0, 1, (0, 0, 0)), (.getfield 40, 3, (11, 4, 2)), (.getfield 327, 3, (2, 15, 2)), (.iload_n 1, 1, (0, 0, 0)), (.iload_n 3, 1, (0, 0, 0)), (.iastore, 1, (0, 0, 0)), (.aload_n 0, 1, (0, 0, 0)), (.getfield 40, 3, (11, 4, 2)), (.getfield 330, 3, (2, 16, 2)), (.iload_n 1, 1, (0, 0, 0)), (.iload 4, 2, (0, 0, 0)), (.iastore, 1, (0, 0, 0)), (.aload_n 0, 1, (0, 0, 0)), (.getfield 40, 3, (11, 4, 2)), (.getfield 333, 3, (2, 17, 2)), (.iload_n 1, 1, (0, 0, 0)), (.iconst 1, 1, (0, 0, 0)), (.bastore, 1, (0, 0, 0)), (.aload_n 0, 1, (0, 0, 0)), (.getfield 69, 3, (11, 9, 2)), (.iconst (-1), 1, (0, 0, 0)), (.putfield 336, 3, (7, 0, 0)), (.iconst 1, 1, (0, 0, 0)), (.ireturn, 1, (1, 0, 0))]
def p_X11_part : List (Nat × List ZN) := [(0, s_X11_part_0), (20, s_X11_part_20), (22, s_X11_part_22), (45, s_X11_part_45), (47, s_X11_part_47)]
def s_X11_service_0 : List ZN := [(.iload_n 1, 1, (0, 0, 0)), (.iconst 1, 1, (0, 0, 0)), (.if_icmp .lt 20, 3, (22, 0, 0)), (.iload_n 1, 1, (0, 0, 0)), (.bipush 10, 2, (0, 0, 0)), (.if_icmp .gt 14, 3, (22, 0, 0)), (.iload_n 2, 1, (0, 0, 0)), (.ifCond .lt 10, 3, (22, 0, 0)), (.iload_n 2, 1, (0, 0, 0)), (.sipush 999, 3, (0, 0, 0)), (.if_icmp .le 5, 3, (24, 0, 0)), (.nop, 0, (22, 0, 0))]
def s_X11_service_22 : List ZN := [(.iconst (-1), 1, (0, 0, 0)), (.ireturn, 1, (0, 0, 0))]
def s_X11_service_24 : List ZN := [(.aload_n 0, 1, (0, 0, 0)), (.getfield 69, 3, (11, 9, 2)), (.aload_n 0, 1, (0, 0, 0)), (.getfield 40, 3, (11, 4, 2)), (.iload_n 1, 1, (0, 0, 0)), (.iload_n 2, 1, (0, 0, 0)), (.invokevirtual 339, 3, (j_X7_seek, 4, 0)), (.iload_n 3, 1, (0, 0, 0)), (.tableswitch 50 0 2 #[26, 34, 42], 26, (38, 0, 0))]
def s_X11_service_64 : List ZN := [(.aload_n 0, 1, (0, 0, 0)), (.getfield 69, 3, (11, 9, 2)), (.getfield 342, 3, (7, 1, 0)), (.ireturn, 1, (0, 0, 0))]
def s_X11_service_72 : List ZN := [(.aload_n 0, 1, (0, 0, 0)), (.getfield 69, 3, (11, 9, 2)), (.getfield 345, 3, (7, 2, 0)), (.ireturn, 1, (0, 0, 0))]
def s_X11_service_80 : List ZN := [(.aload_n 0, 1, (0, 0, 0)), (.getfield 69, 3, (11, 9, 2)), (.getfield 348, 3, (7, 3, 0)), (.ireturn, 1, (0, 0, 0))]
def s_X11_service_88 : List ZN := [(.iconst (-1), 1, (0, 0, 0)), (.ireturn, 1, (0, 0, 0))]
def p_X11_service : List (Nat × List ZN) := [(0, s_X11_service_0), (22, s_X11_service_22), (24, s_X11_service_24), (64, s_X11_service_64), (72, s_X11_service_72), (80, s_X11_service_80), (88, s_X11_service_88)]
def s_X11_row_0 : List ZN := [(.iload_n 1, 1, (0, 0, 0)), (.ifCond .lt 23, 3, (24, 0, 0)), (.iload_n 1, 1, (0, 0, 0)), (.iconst 4, 1, (0, 0, 0)), (.if_icmp .ge 18, 3, (24, 0, 0)), (.iload_n 2, 1, (0, 0, 0)), (.ifCond .lt 14, 3, (24, 0, 0)), (.iload_n 2, 1, (0, 0, 0)), (.iconst 3, 1, (0, 0, 0)), (.if_icmp .gt 9, 3, (24, 0, 0)), (.iload_n 3, 1, (0, 0, 0)), (.bipush 60, 2, (0, 0, 0)), (.if_icmp .le 6, 3, (27, 0, 0)), (.nop, 0, (24, 0, 0))]
def s_X11_row_24 : List ZN := [(.bipush (-2), 2, (0, 0, 0)), (.ireturn, 1, (0, 0, 0))]
def s_X11_row_27 : List ZN := [(.iload_n 3, 1, (0, 0, 0)), (.ifCond .ge 6, 3, (34, 0, 0)), (.bipush (-3), 2, (0, 0, 0)), (.ireturn, 1, (0, 0, 0))]
def s_X11_row_34 : List ZN := [(.aload_n 0, 1, (0, 0, 0)), (.getfield 76, 3, (11, 10, 2)), (.iload_n 1, 1, (0, 0, 0)), (.iload_n 2, 1, (0, 0, 0)), (.iload_n 3, 1, (0, 0, 0)), (.invokevirtual 351, 3, (j_X4_make, 4, 0)), (.iconst 0, 1, (0, 0, 0)), (.ireturn, 1, (0, 0, 0))]
def p_X11_row : List (Nat × List ZN) := [(0, s_X11_row_0), (24, s_X11_row_24), (27, s_X11_row_27), (34, s_X11_row_34)]
def s_X11_write_0 : List ZN := [(.iload_n 1, 1, (0, 0, 0)), (.ifCond .lt 25, 3, (26, 0, 0)), (.iload_n 1, 1, (0, 0, 0)), (.iconst 4, 1, (0, 0, 0)), (.if_icmp .ge 20, 3, (26, 0, 0)), (.iload_n 2, 1, (0, 0, 0)), (.ifCond .lt 16, 3, (26, 0, 0)), (.iload_n 2, 1, (0, 0, 0)), (.aload_n 0, 1, (0, 0, 0)), (.getfield 76, 3, (11, 10, 2)), (.getfield 355, 3, (4, 2, 2)), (.iload_n 1, 1, (0, 0, 0)), (.iaload, 1, (0, 0, 0)), (.if_icmp .lt 7, 3, (30, 0, 0)), (.nop, 0, (26, 0, 0))]
def s_X11_write_26 : List ZN := [(.ldc2_w 357, 3, (0, 0, -1000000)), (.lreturn, 1, (0, 0, 0))]
def s_X11_write_30 : List ZN := [(.aload_n 0, 1, (0, 0, 0)), (.getfield 76, 3, (11, 10, 2)), (.getfield 359, 3, (4, 0, 2)), (.iload_n 1, 1, (0, 0, 0)), (.aaload, 1, (0, 0, 0)), (.iload_n 2, 1, (0, 0, 0)), (.lload_n 3, 1, (0, 0, 0)), (.aload_n 0, 1, (0, 0, 0)), (.getfield 76, 3, (11, 10, 2)), (.getfield 363, 3, (4, 1, 2)), (.iload_n 1, 1, (0, 0, 0)), (.iaload, 1, (0, 0, 0)), (.invokestatic 366, 3, (j_X4_cut, 2, 0)), (.lastore, 1, (0, 0, 0)), (.aload_n 0, 1, (0, 0, 0)), (.getfield 76, 3, (11, 10, 2)), (.getfield 359, 3, (4, 0, 2)), (.iload_n 1, 1, (0, 0, 0)), (.aaload, 1, (0, 0, 0)), (.iload_n 2, 1, (0, 0, 0)), (.laload, 1, (0, 0, 0)), (.lreturn, 1, (0, 0, 0))]
def p_X11_write : List (Nat × List ZN) := [(0, s_X11_write_0), (26, s_X11_write_26), (30, s_X11_write_30)]
def s_X11_save_0 : List ZN := [(.iload_n 1, 1, (0, 0, 0)), (.ifCond .lt 8, 3, (9, 0, 0)), (.iload_n 1, 1, (0, 0, 0)), (.iconst 4, 1, (0, 0, 0)), (.if_icmp .lt 6, 3, (12, 0, 0)), (.nop, 0, (9, 0, 0))]
def s_X11_save_9 : List ZN := [(.bipush (-2), 2, (0, 0, 0)), (.ireturn, 1, (0, 0, 0))]
def s_X11_save_12 : List ZN := [(.aload_n 0, 1, (0, 0, 0)), (.getfield 76, 3, (11, 10, 2)), (.getfield 355, 3, (4, 2, 2)), (.iload_n 1, 1, (0, 0, 0)), (.iaload, 1, (0, 0, 0)), (.iconst (-1), 1, (0, 0, 0)), (.if_icmp .ne 6, 3, (28, 0, 0)), (.bipush (-6), 2, (0, 0, 0)), (.ireturn, 1, (0, 0, 0))]
def s_X11_save_28 : List ZN := [(.aload_n 0, 1, (0, 0, 0)), (.getfield 76, 3, (11, 10, 2)), (.getfield 355, 3, (4, 2, 2)), (.iload_n 1, 1, (0, 0, 0)), (.iaload, 1, (0, 0, 0)), (.aload_n 0, 1, (0, 0, 0)), (.getfield 40, 3, (11, 4, 2)), (.getfield 252, 3, (2, 12, 0)), (.if_icmp .ge 6, 3, (50, 0, 0)), (.bipush (-7), 2, (0, 0, 0)), (.ireturn, 1, (0, 0, 0))]
def s_X11_save_50 : List ZN := [(.iconst 0, 1, (0, 0, 0)), (.istore_n 2, 1, (0, 0, 0)), (.nop, 0, (52, 0, 0))]
def s_X11_save_52 : List ZN := [(.iload_n 2, 1, (0, 0, 0)), (.aload_n 0, 1, (0, 0, 0)), (.getfield 40, 3, (11, 4, 2)), (.getfield 252, 3, (2, 12, 0)), (.if_icmp .ge 30, 3, (90, 0, 0)), (.aload_n 0, 1, (0, 0, 0)), (.getfield 76, 3, (11, 10, 2)), (.getfield 359, 3, (4, 0, 2)), (.iload_n 1, 1, (0, 0, 0)), (.aaload, 1, (0, 0, 0)), (.iload_n 2, 1, (0, 0, 0)), (.aload_n 0, 1, (0, 0, 0)), (.getfield 40, 3, (11, 4, 2)), (.getfield 299, 3, (2, 13, 2)), (.iload_n 2, 1, (0, 0, 0)), (.iaload, 1, (0, 0, 0)), (.i2l, 1, (0, 0, 0)), (.lastore, 1, (0, 0, 0)), (.iinc 2 1, 3, (0, 0, 0)), (.goto (-35), 3, (52, 0, 0))]
def s_X11_save_90 : List ZN := [(.aload_n 0, 1, (0, 0, 0)), (.getfield 40, 3, (11, 4, 2)), (.getfield 252, 3, (2, 12, 0)), (.ireturn, 1, (0, 0, 0))]
def p_X11_save : List (Nat × List ZN) := [(0, s_X11_save_0), (9, s_X11_save_9), (12, s_X11_save_12), (28, s_X11_save_28), (50, s_X11_save_50), (52, s_X11_save_52), (90, s_X11_save_90)]
def s_X11_load_0 : List ZN := [(.iload_n 1, 1, (0, 0, 0)), (.ifCond .lt 8, 3, (9, 0, 0)), (.iload_n 1, 1, (0, 0, 0)), (.iconst 4, 1, (0, 0, 0)), (.if_icmp .lt 6, 3, (12, 0, 0)), (.nop, 0, (9, 0, 0))]
def s_X11_load_9 : List ZN := [(.bipush (-2), 2, (0, 0, 0)), (.ireturn, 1, (0, 0, 0))]
def s_X11_load_12 : List ZN := [(.aload_n 0, 1, (0, 0, 0)), (.getfield 76, 3, (11, 10, 2)), (.getfield 355, 3, (4, 2, 2)), (.iload_n 1, 1, (0, 0, 0)), (.iaload, 1, (0, 0, 0)), (.iconst (-1), 1, (0, 0, 0)), (.if_icmp .ne 6, 3, (28, 0, 0)), (.bipush (-6), 2, (0, 0, 0)), (.ireturn, 1, (0, 0, 0))]
def s_X11_load_28 : List ZN := [(.iload_n 2, 1, (0, 0, 0)), (.ifCond .lt 16, 3, (45, 0, 0)), (.iload_n 2, 1, (0, 0, 0)), (.aload_n 0, 1, (0, 0, 0)), (.getfield 76, 3, (11, 10, 2)), (.getfield 355, 3, (4, 2, 2)), (.iload_n 1, 1, (0, 0, 0)), (.iaload, 1, (0, 0, 0)), (.if_icmp .le 6, 3, (48, 0, 0)), (.nop, 0, (45, 0, 0))]
def s_X11_load_45 : List ZN := [(.bipush (-7), 2, (0, 0, 0)), (.ireturn, 1, (0, 0, 0))]
def s_X11_load_48 : List ZN := [(.aload_n 0, 1, (0, 0, 0)), (.getfield 76, 3, (11, 10, 2)), (.iload_n 1, 1, (0, 0, 0)), (.iload_n 2, 1, (0, 0, 0)), (.aload_n 0, 1, (0, 0, 0)), (.getfield 40, 3, (11, 4, 2)), (.getfield 249, 3, (2, 0, 0)), (.invokevirtual 370, 3, (j_X4_tellsPages, 4, 0)), (.ifCond .ne 6, 3, (70, 0, 0)), (.bipush (-5), 2, (0, 0, 0)), (.ireturn, 1, (0, 0, 0))]
def s_X11_load_70 : List ZN := [(.iconst 0, 1, (0, 0, 0)), (.istore_n 3, 1, (0, 0, 0)), (.nop, 0, (72, 0, 0))]
def s_X11_load_72 : List ZN := [(.iload_n 3, 1, (0, 0, 0)), (.iload_n 2, 1, (0, 0, 0)), (.if_icmp .ge 30, 3, (104, 0, 0)), (.aload_n 0, 1, (0, 0, 0)), (.getfield 40, 3, (11, 4, 2)), (.getfield 299, 3, (2, 13, 2)), (.iload_n 3, 1, (0, 0, 0)), (.aload_n 0, 1, (0, 0, 0)), (.getfield 76, 3, (11, 10, 2)), (.getfield 359, 3, (4, 0, 2)), (.iload_n 1, 1, (0, 0, 0)), (.aaload, 1, (0, 0, 0)), (.iload_n 3, 1, (0, 0, 0)), (.laload, 1, (0, 0, 0)), (.l2i, 1, (0, 0, 0)), (.iastore, 1, (0, 0, 0)), (.iinc 3 1, 3, (0, 0, 0)), (.goto (-29), 3, (72, 0, 0))]
def s_X11_load_104 : List ZN := [(.aload_n 0, 1, (0, 0, 0)), (.getfield 40, 3, (11, 4, 2)), (.iload_n 2, 1, (0, 0, 0)), (.putfield 252, 3, (2, 12, 0)), (.aload_n 0, 1, (0, 0, 0)), (.getfield 62, 3, (11, 8, 2)), (.iconst 0, 1, (0, 0, 0)), (.putfield 259, 3, (3, 0, 1)), (.iload_n 2, 1, (0, 0, 0)), (.ireturn, 1, (0, 0, 0))]
def p_X11_load : List (Nat × List ZN) := [(0, s_X11_load_0), (9, s_X11_load_9), (12, s_X11_load_12), (28, s_X11_load_28), (45, s_X11_load_45), (48, s_X11_load_48), (70, s_X11_load_70), (72, s_X11_load_72), (104, s_X11_load_104)]
def s_X11_image_0 : List ZN := [(.iload_n 1, 1, (0, 0, 0)), (.ifCond .lt 12, 3, (13, 0, 0)), (.iload_n 1, 1, (0, 0, 0)), (.aload_n 0, 1, (0, 0, 0)), (.getfield 44, 3, (11, 5, 2)), (.arraylength, 1, (0, 0, 0)), (.if_icmp .lt 5, 3, (15, 0, 0)), (.nop, 0, (13, 0, 0))]
def s_X11_image_13 : List ZN := [(.iconst 0, 1, (0, 0, 0)), (.ireturn, 1, (1, 0, 0))]
def s_X11_image_15 : List ZN := [(.aload_n 0, 1, (0, 0, 0)), (.getfield 44, 3, (11, 5, 2)), (.iload_n 1, 1, (0, 0, 0)), (.aaload, 1, (0, 0, 0)), (.aload_n 0, 1, (0, 0, 0)), (.getfield 40, 3, (11, 4, 2)), (.invokevirtual 373, 3, (j_X2_becomeLike, 2, 0)), (.aload_n 0, 1, (0, 0, 0)), (.getfield 48, 3, (11, 6, 2)), (.iload_n 1, 1, (0, 0, 0)), (.iconst 1, 1, (0, 0, 0)), (.bastore, 1, (0, 0, 0)), (.iconst 1, 1, (0, 0, 0)), (.ireturn, 1, (1, 0, 0))]
def p_X11_image : List (Nat × List ZN) := [(0, s_X11_image_0), (13, s_X11_image_13), (15, s_X11_image_15)]
def s_X11_restore_0 : List ZN := [(.iload_n 1, 1, (0, 0, 0)), (.ifCond .lt 21, 3, (22, 0, 0)), (.iload_n 1, 1, (0, 0, 0)), (.aload_n 0, 1, (0, 0, 0)), (.getfield 44, 3, (11, 5, 2)), (.arraylength, 1, (0, 0, 0)), (.if_icmp .ge 12, 3, (22, 0, 0)), (.aload_n 0, 1, (0, 0, 0)), (.getfield 48, 3, (11, 6, 2)), (.iload_n 1, 1, (0, 0, 0)), (.baload, 1, (0, 0, 0)), (.ifCond .ne 5, 3, (24, 0, 0)), (.nop, 0, (22, 0, 0))]
def s_X11_restore_22 : List ZN := [(.iconst 0, 1, (0, 0, 0)), (.ireturn, 1, (1, 0, 0))]
def s_X11_restore_24 : List ZN := [(.aload_n 0, 1, (0, 0, 0)), (.getfield 40, 3, (11, 4, 2)), (.aload_n 0, 1, (0, 0, 0)), (.getfield 44, 3, (11, 5, 2)), (.iload_n 1, 1, (0, 0, 0)), (.aaload, 1, (0, 0, 0)), (.invokevirtual 373, 3, (j_X2_becomeLike, 2, 0)), (.aload_n 0, 1, (0, 0, 0)), (.getfield 55, 3, (11, 7, 2)), (.iconst 0, 1, (0, 0, 0)), (.putfield 255, 3, (5, 0, 1)), (.aload_n 0, 1, (0, 0, 0)), (.getfield 62, 3, (11, 8, 2)), (.iconst 0, 1, (0, 0, 0)), (.putfield 259, 3, (3, 0, 1)), (.aload_n 0, 1, (0, 0, 0)), (.getfield 69, 3, (11, 9, 2)), (.iconst (-1), 1, (0, 0, 0)), (.putfield 336, 3, (7, 0, 0)), (.iconst 1, 1, (0, 0, 0)), (.ireturn, 1, (1, 0, 0))]
def p_X11_restore : List (Nat × List ZN) := [(0, s_X11_restore_0), (22, s_X11_restore_22), (24, s_X11_restore_24)]
def s_X11_count_0 : List ZN := [(.iload_n 1, 1, (0, 0, 0)), (.tableswitch 123 0 8 #[51, 59, 67, 75, 83, 91, 99, 107, 115], 51, (1, 0, 0))]
def s_X11_count_52 : List ZN := [(.aload_n 0, 1, (0, 0, 0)), (.getfield 83, 3, (11, 11, 2)), (.getfield 153, 3, (10, 1, 0)), (.ireturn, 1, (0, 0, 0))]
def s_X11_count_60 : List ZN := [(.aload_n 0, 1, (0, 0, 0)), (.getfield 83, 3, (11, 11, 2)), (.getfield 376, 3, (10, 4, 0)), (.ireturn, 1, (0, 0, 0))]
def s_X11_count_68 : List ZN := [(.aload_n 0, 1, (0, 0, 0)), (.getfield 83, 3, (11, 11, 2)), (.getfield 135, 3, (10, 0, 0)), (.ireturn, 1, (0, 0, 0))]
def s_X11_count_76 : List ZN := [(.aload_n 0, 1, (0, 0, 0)), (.getfield 26, 3, (11, 2, 2)), (.getfield 379, 3, (8, 2, 0)), (.ireturn, 1, (0, 0, 0))]
def s_X11_count_84 : List ZN := [(.aload_n 0, 1, (0, 0, 0)), (.getfield 26, 3, (11, 2, 2)), (.getfield 169, 3, (8, 1, 0)), (.ireturn, 1, (0, 0, 0))]
def s_X11_count_92 : List ZN := [(.aload_n 0, 1, (0, 0, 0)), (.getfield 26, 3, (11, 2, 2)), (.getfield 382, 3, (8, 4, 0)), (.ireturn, 1, (0, 0, 0))]
def s_X11_count_100 : List ZN := [(.aload_n 0, 1, (0, 0, 0)), (.getfield 26, 3, (11, 2, 2)), (.getfield 163, 3, (8, 3, 0)), (.ireturn, 1, (0, 0, 0))]
def s_X11_count_108 : List ZN := [(.aload_n 0, 1, (0, 0, 0)), (.getfield 19, 3, (11, 1, 2)), (.getfield 385, 3, (1, 3, 0)), (.ireturn, 1, (0, 0, 0))]
def s_X11_count_116 : List ZN := [(.aload_n 0, 1, (0, 0, 0)), (.getfield 33, 3, (11, 3, 2)), (.getfield 388, 3, (0, 0, 0)), (.ireturn, 1, (0, 0, 0))]
def s_X11_count_124 : List ZN := [(.aload_n 0, 1, (0, 0, 0)), (.iload_n 1, 1, (0, 0, 0)), (.invokevirtual 391, 3, (j_X11_countOfSet, 2, 0)), (.ireturn, 1, (0, 0, 0))]
def p_X11_count : List (Nat × List ZN) := [(0, s_X11_count_0), (52, s_X11_count_52), (60, s_X11_count_60), (68, s_X11_count_68), (76, s_X11_count_76), (84, s_X11_count_84), (92, s_X11_count_92), (100, s_X11_count_100), (108, s_X11_count_108), (116, s_X11_count_116), (124, s_X11_count_124)]
def s_X11_countOfSet_0 : List ZN := [(.iload_n 1, 1, (0, 0, 0)), (.tableswitch 63 9 12 #[31, 39, 47, 55], 31, (1, 0, 0))]
def s_X11_countOfSet_32 : List ZN := [(.aload_n 0, 1, (0, 0, 0)), (.getfield 40, 3, (11, 4, 2)), (.getfield 249, 3, (2, 0, 0)), (.ireturn, 1, (0, 0, 0))]
def s_X11_countOfSet_40 : List ZN := [(.aload_n 0, 1, (0, 0, 0)), (.getfield 40, 3, (11, 4, 2)), (.getfield 296, 3, (2, 11, 0)), (.ireturn, 1, (0, 0, 0))]
def s_X11_countOfSet_48 : List ZN := [(.aload_n 0, 1, (0, 0, 0)), (.getfield 40, 3, (11, 4, 2)), (.getfield 252, 3, (2, 12, 0)), (.ireturn, 1, (0, 0, 0))]
def s_X11_countOfSet_56 : List ZN := [(.aload_n 0, 1, (0, 0, 0)), (.getfield 10, 3, (11, 0, 2)), (.getfield 102, 3, (6, 1, 0)), (.ireturn, 1, (0, 0, 0))]
def s_X11_countOfSet_64 : List ZN := [(.bipush (-2), 2, (0, 0, 0)), (.ireturn, 1, (0, 0, 0))]
def p_X11_countOfSet : List (Nat × List ZN) := [(0, s_X11_countOfSet_0), (32, s_X11_countOfSet_32), (40, s_X11_countOfSet_40), (48, s_X11_countOfSet_48), (56, s_X11_countOfSet_56), (64, s_X11_countOfSet_64)]
def s_X11_isSheetLength_0 : List ZN := [(.iload_n 0, 1, (0, 0, 0)), (.bipush 10, 2, (0, 0, 0)), (.if_icmp .lt 13, 3, (16, 0, 0)), (.iload_n 0, 1, (0, 0, 0)), (.bipush 60, 2, (0, 0, 0)), (.if_icmp .gt 7, 3, (16, 0, 0)), (.iconst 1, 1, (0, 0, 0)), (.goto 4, 3, (17, 0, 0))]
def s_X11_isSheetLength_16 : List ZN := [(.iconst 0, 1, (0, 0, 0)), (.nop, 0, (17, 0, 0))]
def s_X11_isSheetLength_17 : List ZN := [(.ireturn, 1, (1, 0, 0))]
def p_X11_isSheetLength : List (Nat × List ZN) := [(0, s_X11_isSheetLength_0), (16, s_X11_isSheetLength_16), (17, s_X11_isSheetLength_17)]
def s_X11_isCreaseRow_0 : List ZN := [(.iload_n 0, 1, (0, 0, 0)), (.invokestatic 394, 3, (j_X11_isCrease, 1, 0)), (.ifCond .eq 37, 3, (41, 0, 0)), (.iload_n 1, 1, (0, 0, 0)), (.invokestatic 394, 3, (j_X11_isCrease, 1, 0)), (.ifCond .eq 30, 3, (41, 0, 0)), (.iload_n 2, 1, (0, 0, 0)), (.invokestatic 394, 3, (j_X11_isCrease, 1, 0)), (.ifCond .eq 23, 3, (41, 0, 0)), (.iload_n 0, 1, (0, 0, 0)), (.iload_n 1, 1, (0, 0, 0)), (.invokestatic 397, 3, (j_X11_falls, 2, 0)), (.ifCond .eq 15, 3, (41, 0, 0)), (.iload_n 1, 1, (0, 0, 0)), (.iload_n 2, 1, (0, 0, 0)), (.invokestatic 397, 3, (j_X11_falls, 2, 0)), (.ifCond .eq 7, 3, (41, 0, 0)), (.iconst 1, 1, (0, 0, 0)), (.goto 4, 3, (42, 0, 0))]
def s_X11_isCreaseRow_41 : List ZN := [(.iconst 0, 1, (0, 0, 0)), (.nop, 0, (42, 0, 0))]
def s_X11_isCreaseRow_42 : List ZN := [(.ireturn, 1, (1, 0, 0))]
def p_X11_isCreaseRow : List (Nat × List ZN) := [(0, s_X11_isCreaseRow_0), (41, s_X11_isCreaseRow_41), (42, s_X11_isCreaseRow_42)]
def s_X11_isCrease_0 : List ZN := [(.iload_n 0, 1, (0, 0, 0)), (.iconst (-1), 1, (0, 0, 0)), (.if_icmp .lt 13, 3, (15, 0, 0)), (.iload_n 0, 1, (0, 0, 0)), (.bipush 60, 2, (0, 0, 0)), (.if_icmp .gt 7, 3, (15, 0, 0)), (.iconst 1, 1, (0, 0, 0)), (.goto 4, 3, (16, 0, 0))]
def s_X11_isCrease_15 : List ZN := [(.iconst 0, 1, (0, 0, 0)), (.nop, 0, (16, 0, 0))]
def s_X11_isCrease_16 : List ZN := [(.ireturn, 1, (1, 0, 0))]
def p_X11_isCrease : List (Nat × List ZN) := [(0, s_X11_isCrease_0), (15, s_X11_isCrease_15), (16, s_X11_isCrease_16)]
def s_X11_falls_0 : List ZN := [(.iload_n 1, 1, (0, 0, 0)), (.iload_n 0, 1, (0, 0, 0)), (.if_icmp .lt 13, 3, (15, 0, 0)), (.iload_n 0, 1, (0, 0, 0)), (.iconst (-1), 1, (0, 0, 0)), (.if_icmp .ne 12, 3, (19, 0, 0)), (.iload_n 1, 1, (0, 0, 0)), (.iconst (-1), 1, (0, 0, 0)), (.if_icmp .ne 7, 3, (19, 0, 0)), (.nop, 0, (15, 0, 0))]
def s_X11_falls_15 : List ZN := [(.iconst 1, 1, (0, 0, 0)), (.goto 4, 3, (20, 0, 0))]
def s_X11_falls_19 : List ZN := [(.iconst 0, 1, (0, 0, 0)), (.nop, 0, (20, 0, 0))]
def s_X11_falls_20 : List ZN := [(.ireturn, 1, (1, 0, 0))]
def p_X11_falls : List (Nat × List ZN) := [(0, s_X11_falls_0), (15, s_X11_falls_15), (19, s_X11_falls_19), (20, s_X11_falls_20)]
def s_X12_within_0 : List ZN := [(.lload_n 0, 1, (0, 0, 0)), (.lload_n 2, 1, (0, 0, 0)), (.lcmp, 1, (0, 0, 0)), (.ifCond .lt 14, 3, (17, 0, 0)), (.lload_n 0, 1, (0, 0, 0)), (.lload 4, 2, (0, 0, 0)), (.lcmp, 1, (0, 0, 0)), (.ifCond .gt 7, 3, (17, 0, 0)), (.iconst 1, 1, (0, 0, 0)), (.goto 4, 3, (18, 0, 0))]
def s_X12_within_17 : List ZN := [(.iconst 0, 1, (0, 0, 0)), (.nop, 0, (18, 0, 0))]
def s_X12_within_18 : List ZN := [(.ireturn, 1, (1, 0, 0))]
def p_X12_within : List (Nat × List ZN) := [(0, s_X12_within_0), (17, s_X12_within_17), (18, s_X12_within_18)]
def s_X12_init_0 : List ZN := [(.aload_n 0, 1, (0, 0, 0)), (.invokespecial 7, 3, (0, 1, 1)), (.aload_n 0, 1, (0, 0, 0)), (.sipush 400, 3, (0, 0, 0)), (.newarray .int, 2, (0, 0, 0)), (.putfield 13, 3, (12, 1, 2)), (.aload_n 0, 1, (0, 0, 0)), (.bipush 8, 2, (0, 0, 0)), (.newarray .int, 2, (0, 0, 0)), (.putfield 17, 3, (12, 3, 2)), (.aload_n 0, 1, (0, 0, 0)), (.bipush 8, 2, (0, 0, 0)), (.newarray .int, 2, (0, 0, 0)), (.putfield 20, 3, (12, 4, 2)), (.aload_n 0, 1, (0, 0, 0)), (.bipush 10, 2, (0, 0, 0)), (.newarray .int, 2, (0, 0, 0)), (.putfield 23, 3, (12, 5, 2)), (.aload_n 0, 1, (0, 0, 0)), (.bipush 10, 2, (0, 0, 0)), (.newarray .int, 2, (0, 0, 0)), (.putfield 26, 3, (12, 6, 2)), (.aload_n 0, 1, (0, 0, 0)), (.bipush 10, 2, (0, 0, 0)), (.newarray .int, 2, (0, 0, 0)), (.putfield 29, 3, (12, 7, 2)), (.aload_n 0, 1, (0, 0, 0)), (.bipush 10, 2, (0, 0, 0)), (.newarray .int, 2, (0, 0, 0)), (.putfield 32, 3, (12, 8, 2)), (.aload_n 0, 1, (0, 0, 0)), (.bipush 19, 2, (0, 0, 0)), (.newarray .int, 2, (0, 0, 0)), (.putfield 35, 3, (12, 9, 2)), (.aload_n 0, 1, (0, 0, 0)), (.bipush 19, 2, (0, 0, 0)), (.newarray .int, 2, (0, 0, 0)), (.putfield 38, 3, (12, 10, 2)), (.aload_n 0, 1, (0, 0, 0)), (.iconst (-1), 1, (0, 0, 0)), (.putfield 41, 3, (12, 22, 0)), (.aload_n 0, 1, (0, 0, 0)), (.bipush 10, 2, (0, 0, 0)), (.newarray .int, 2, (0, 0, 0)), (.putfield 44, 3, (12, 23, 2)), (.aload_n 0, 1, (0, 0, 0)), (.bipush 10, 2, (0, 0, 0)), (.newarray .int, 2, (0, 0, 0)), (.putfield 47, 3, (12, 24, 2)), (.aload_n 0, 1, (0, 0, 0)), (.iconst 4, 1, (0, 0, 0)), (.newarray .int, 2, (0, 0, 0)), (.putfield 50, 3, (12, 25, 2)), (.aload_n 0, 1, (0, 0, 0)), (.iconst (-1), 1, (0, 0, 0)), (.putfield 53, 3, (12, 29, 0)), (.aload_n 0, 1, (0, 0, 0)), (.bipush 40, 2, (0, 0, 0)), (.newarray .int, 2, (0, 0, 0)), (.putfield 56, 3, (12, 30, 2)), (.aload_n 0, 1, (0, 0, 0)), (.bipush 40, 2, (0, 0, 0)), (.newarray .int, 2, (0, 0, 0)), (.putfield 59, 3, (12, 31, 2)), (.aload_n 0, 1, (0, 0, 0)), (.bipush 40, 2, (0, 0, 0)), (.newarray .int, 2, (0, 0, 0)), (.putfield 62, 3, (12, 32, 2)), (.aload_n 0, 1, (0, 0, 0)), (.bipush 40, 2, (0, 0, 0)), (.newarray .int, 2, (0, 0, 0)), (.putfield 65, 3, (12, 33, 2)), (.aload_n 0, 1, (0, 0, 0)), (.bipush 40, 2, (0, 0, 0)), (.newarray .int, 2, (0, 0, 0)), (.putfield 68, 3, (12, 34, 2)), (.aload_n 0, 1, (0, 0, 0)), (.bipush 40, 2, (0, 0, 0)), (.newarray .int, 2, (0, 0, 0)), (.putfield 71, 3, (12, 35, 2)), (.aload_n 0, 1, (0, 0, 0)), (.bipush 40, 2, (0, 0, 0)), (.newarray .boolean, 2, (0, 0, 0)), (.putfield 74, 3, (12, 36, 2)), (.aload_n 0, 1, (0, 0, 0)), (.bipush 19, 2, (0, 0, 0)), (.newarray .boolean, 2, (0, 0, 0)), (.putfield 78, 3, (12, 37, 2)), (.aload_n 0, 1, (0, 0, 0)), (.bipush 19, 2, (0, 0, 0)), (.newarray .boolean, 2, (0, 0, 0)), (.putfield 81, 3, (12, 38, 2)), (.aload_n 0, 1, (0, 0, 0)), (.bipush 19, 2, (0, 0, 0)), (.newarray .boolean, 2, (0, 0, 0)), (.putfield 84, 3, (12, 39, 2)), (.aload_n 0, 1, (0, 0, 0)), (.bipush 19, 2, (0, 0, 0)), (.newarray .int, 2, (0, 0, 0)), (.putfield 87, 3, (12, 40, 2)), (.aload_n 0, 1, (0, 0, 0)), (.sipush 228, 3, (0, 0, 0)), (.newarray .int, 2, (0, 0, 0)), (.putfield 90, 3, (12, 41, 2)), (.aload_n 0, 1, (0, 0, 0)), (.sipush 228, 3, (0, 0, 0)), (.newarray .int, 2, (0, 0, 0)), (.putfield 93, 3, (12, 42, 2)), (.aload_n 0, 1, (0, 0, 0)), (.bipush 19, 2, (0, 0, 0)), (.newarray .int, 2, (0, 0, 0)), (.putfield 96, 3, (12, 43, 2)), (.aload_n 0, 1, (0, 0, 0)), (.bipush 19, 2, (0, 0, 0)), (.newarray .int, 2, (0, 0, 0)), (.putfield 99, 3, (12, 44, 2)), (.aload_n 0, 1, (0, 0, 0)), (.bipush 40, 2, (0, 0, 0)), (.newarray .boolean, 2, (0, 0, 0)), (.putfield 102, 3, (12, 45, 2)), (.aload_n 0, 1, (0, 0, 0)), (.bipush 10, 2, (0, 0, 0)), (.newarray .int, 2, (0, 0, 0)), (.putfield 105, 3, (12, 46, 2)), (.aload_n 0, 1, (0, 0, 0)), (.bipush 10, 2, (0, 0, 0)), (.newarray .int, 2, (0, 0, 0)), (.putfield 108, 3, (12, 47, 2)), (.aload_n 0, 1, (0, 0, 0)), (.iconst 4, 1, (0, 0, 0)), (.newarray .int, 2, (0, 0, 0)), (.putfield 111, 3, (12, 48, 2)), (.aload_n 0, 1, (0, 0, 0)), (.bipush 19, 2, (0, 0, 0)), (.newarray .int, 2, (0, 0, 0)), (.putfield 114, 3, (12, 49, 2)), (.aload_n 0, 1, (0, 0, 0)), (.bipush 19, 2, (0, 0, 0)), (.newarray .int, 2, (0, 0, 0)), (.putfield 117, 3, (12, 50, 2)), (.aload_n 0, 1, (0, 0, 0)), (.sipush 399, 3, (0, 0, 0)), (.newarray .int, 2, (0, 0, 0)), (.putfield 120, 3, (12, 54, 2)), (.aload_n 0, 1, (0, 0, 0)), (.iconst 2, 1, (0, 0, 0)), (.newarray .boolean, 2, (0, 0, 0)), (.putfield 123, 3, (12, 55, 2)), (.aload_n 0, 1, (0, 0, 0)), (.sipush 9417, 3, (0, 0, 0)), (.newarray .long, 2, (0, 0, 0)), (.putfield 126, 3, (12, 56, 2)), (.aload_n 0, 1, (0, 0, 0)), (.ldc 130, 2, (0, 0, 90000)), (.newarray .int, 2, (0, 0, 0)), (.putfield 131, 3, (12, 57, 2)), (.aload_n 0, 1, (0, 0, 0)), (.ldc 130, 2, (0, 0, 90000)), (.newarray .int, 2, (0, 0, 0)), (.putfield 134, 3, (12, 58, 2)), (.aload_n 0, 1, (0, 0, 0)), (.ldc 130, 2, (0, 0, 90000)), (.newarray .int, 2, (0, 0, 0)), (.putfield 137, 3, (12, 59, 2)), (.aload_n 0, 1, (0, 0, 0)), (.sipush 19581, 3, (0, 0, 0)), (.newarray .int, 2, (0, 0, 0)), (.putfield 140, 3, (12, 62, 2)), (.aload_n 0, 1, (0, 0, 0)), (.sipush 320, 3, (0, 0, 0)), (.newarray .int, 2, (0, 0, 0)), (.putfield 143, 3, (12, 63, 2)), (.aload_n 0, 1, (0, 0, 0)), (.iconst 4, 1, (0, 0, 0)), (.newarray .int, 2, (0, 0, 0)), (.dup, 1, (0, 0, 0)), (.iconst 0, 1, (0, 0, 0)), (.iconst (-1), 1, (0, 0, 0)), (.iastore, 1, (0, 0, 0)), (.dup, 1, (0, 0, 0)), (.iconst 1, 1, (0, 0, 0)), (.iconst (-1), 1, (0, 0, 0)), (.iastore, 1, (0, 0, 0)), (.dup, 1, (0, 0, 0)), (.iconst 2, 1, (0, 0, 0)), (.iconst (-1), 1, (0, 0, 0)), (.iastore, 1, (0, 0, 0)), (.dup, 1, (0, 0, 0)), (.iconst 3, 1, (0, 0, 0)), (.iconst (-1), 1, (0, 0, 0)), (.iastore, 1, (0, 0, 0)), (.putfield 146, 3, (12, 66, 2)), (.aload_n 0, 1, (0, 0, 0)), (.iconst 4, 1, (0, 0, 0)), (.newarray .int, 2, (0, 0, 0)), (.putfield 149, 3, (12, 67, 2)), (.aload_n 0, 1, (0, 0, 0)), (.sipush 240, 3, (0, 0, 0)), (.newarray .long, 2, (0, 0, 0)), (.putfield 152, 3, (12, 68, 2)), (.aload_n 0, 1, (0, 0, 0)), (.invokevirtual 155, 3, (j_X12_begins, 1, 0)), (.aload_n 0, 1, (0, 0, 0)), (.invokevirtual 158, 3, (j_X12_becomes, 1, 0)), (.aload_n 0, 1, (0, 0, 0)), (.invokevirtual 161, 3, (j_X12_setsOut, 1, 0)), (.return_, 1, (0, 0, 0))]
def p_X12_init : List (Nat × List ZN) := [(0, s_X12_init_0)]
def s_X12_begins_0 : List ZN := [(.iconst 0, 1, (0, 0, 0)), (.istore_n 1, 1, (0, 0, 0)), (.nop, 0, (2, 0, 0))]
def s_X12_begins_2 : List ZN := [(.iload_n 1, 1, (0, 0, 0)), (.bipush 8, 2, (0, 0, 0)), (.if_icmp .ge 25, 3, (30, 0, 0)), (.aload_n 0, 1, (0, 0, 0)), (.getfield 20, 3, (12, 4, 2)), (.iload_n 1, 1, (0, 0, 0)), (.iload_n 1, 1, (0, 0, 0)), (.ifCond .ne 8, 3, (22, 0, 0)), (.bipush 100, 2, (0, 0, 0)), (.goto 4, 3, (23, 0, 0))]
def s_X12_begins_22 : List ZN := [(.iconst 0, 1, (0, 0, 0)), (.nop, 0, (23, 0, 0))]
def s_X12_begins_23 : List ZN := [(.iastore, 1, (0, 0, 0)), (.iinc 1 1, 3, (0, 0, 0)), (.goto (-25), 3, (2, 0, 0))]
def s_X12_begins_30 : List ZN := [(.aload_n 0, 1, (0, 0, 0)), (.iconst 0, 1, (0, 0, 0)), (.putfield 164, 3, (12, 19, 1)), (.aload_n 0, 1, (0, 0, 0)), (.iconst 0, 1, (0, 0, 0)), (.putfield 168, 3, (12, 20, 1)), (.return_, 1, (0, 0, 0))]
def p_X12_begins : List (Nat × List ZN) := [(0, s_X12_begins_0), (2, s_X12_begins_2), (22, s_X12_begins_22), (23, s_X12_begins_23), (30, s_X12_begins_30)]
def s_X12_becomes_0 : List ZN := [(.iconst 0, 1, (0, 0, 0)), (.istore_n 1, 1, (0, 0, 0)), (.nop, 0, (2, 0, 0))]
def s_X12_becomes_2 : List ZN := [(.iload_n 1, 1, (0, 0, 0)), (.bipush 8, 2, (0, 0, 0)), (.if_icmp .ge 21, 3, (26, 0, 0)), (.aload_n 0, 1, (0, 0, 0)), (.getfield 17, 3, (12, 3, 2)), (.iload_n 1, 1, (0, 0, 0)), (.aload_n 0, 1, (0, 0, 0)), (.getfield 20, 3, (12, 4, 2)), (.iload_n 1, 1, (0, 0, 0)), (.iaload, 1, (0, 0, 0)), (.iastore, 1, (0, 0, 0)), (.iinc 1 1, 3, (0, 0, 0)), (.goto (-21), 3, (2, 0, 0))]
def s_X12_becomes_26 : List ZN := [(.iconst 0, 1, (0, 0, 0)), (.istore_n 1, 1, (0, 0, 0)), (.nop, 0, (28, 0, 0))]
def s_X12_becomes_28 : List ZN := [(.iload_n 1, 1, (0, 0, 0)), (.bipush 10, 2, (0, 0, 0)), (.if_icmp .ge 47, 3, (78, 0, 0)), (.aload_n 0, 1, (0, 0, 0)), (.getfield 23, 3, (12, 5, 2)), (.iload_n 1, 1, (0, 0, 0)), (.aload_n 0, 1, (0, 0, 0)), (.getfield 29, 3, (12, 7, 2)), (.iload_n 1, 1, (0, 0, 0)), (.iaload, 1, (0, 0, 0)), (.iastore, 1, (0, 0, 0)), (.aload_n 0, 1, (0, 0, 0)), (.getfield 26, 3, (12, 6, 2)), (.iload_n 1, 1, (0, 0, 0)), (.aload_n 0, 1, (0, 0, 0)), (.getfield 32, 3, (12, 8, 2)), (.iload_n 1, 1, (0, 0, 0)), (.iaload, 1, (0, 0, 0)), (.iastore, 1, (0, 0, 0)), (.aload_n 0, 1, (0, 0, 0)), (.getfield 44, 3, (12, 23, 2)), (.iload_n 1, 1, (0, 0, 0)), (.iconst 0, 1, (0, 0, 0)), (.iastore, 1, (0, 0, 0)), (.aload_n 0, 1, (0, 0, 0)), (.getfield 47, 3, (12, 24, 2)), (.iload_n 1, 1, (0, 0, 0)), (.iconst 0, 1, (0, 0, 0)), (.iastore, 1, (0, 0, 0)), (.iinc 1 1, 3, (0, 0, 0)), (.goto (-47), 3, (28, 0, 0))]
def s_X12_becomes_78 : List ZN := [(.iconst 0, 1, (0, 0, 0)), (.istore_n 1, 1, (0, 0, 0)), (.nop, 0, (80, 0, 0))]
def s_X12_becomes_80 : List ZN := [(.iload_n 1, 1, (0, 0, 0)), (.bipush 19, 2, (0, 0, 0)), (.if_icmp .ge 42, 3, (125, 0, 0)), (.aload_n 0, 1, (0, 0, 0)), (.getfield 35, 3, (12, 9, 2)), (.iload_n 1, 1, (0, 0, 0)), (.aload_n 0, 1, (0, 0, 0)), (.getfield 38, 3, (12, 10, 2)), (.iload_n 1, 1, (0, 0, 0)), (.iaload, 1, (0, 0, 0)), (.iastore, 1, (0, 0, 0)), (.aload_n 0, 1, (0, 0, 0)), (.getfield 78, 3, (12, 37, 2)), (.iload_n 1, 1, (0, 0, 0)), (.iconst 0, 1, (0, 0, 0)), (.bastore, 1, (0, 0, 0)), (.aload_n 0, 1, (0, 0, 0)), (.getfield 81, 3, (12, 38, 2)), (.iload_n 1, 1, (0, 0, 0)), (.iconst 0, 1, (0, 0, 0)), (.bastore, 1, (0, 0, 0)), (.aload_n 0, 1, (0, 0, 0)), (.getfield 87, 3, (12, 40, 2)), (.iload_n 1, 1, (0, 0, 0)), (.iconst 0, 1, (0, 0, 0)), (.iastore, 1, (0, 0, 0)), (.iinc 1 1, 3, (0, 0, 0)), (.goto (-42), 3, (80, 0, 0))]
def s_X12_becomes_125 : List ZN := [(.aload_n 0, 1, (0, 0, 0)), (.iconst 0, 1, (0, 0, 0)), (.putfield 171, 3, (12, 26, 0)), (.aload_n 0, 1, (0, 0, 0)), (.iconst 0, 1, (0, 0, 0)), (.putfield 174, 3, (12, 27, 0)), (.aload_n 0, 1, (0, 0, 0)), (.iconst 0, 1, (0, 0, 0)), (.putfield 177, 3, (12, 28, 0)), (.aload_n 0, 1, (0, 0, 0)), (.iconst (-1), 1, (0, 0, 0)), (.putfield 53, 3, (12, 29, 0)), (.return_, 1, (0, 0, 0))]
def p_X12_becomes : List (Nat × List ZN) := [(0, s_X12_becomes_0), (2, s_X12_becomes_2), (26, s_X12_becomes_26), (28, s_X12_becomes_28), (78, s_X12_becomes_78), (80, s_X12_becomes_80), (125, s_X12_becomes_125)]
def s_X12_feed_0 : List ZN := [(.aload_n 0, 1, (0, 0, 0)), (.iconst 0, 1, (0, 0, 0)), (.putfield 1, 3, (12, 0, 0)), (.aload_n 0, 1, (0, 0, 0)), (.getfield 180, 3, (12, 2, 0)), (.bipush 20, 2, (0, 0, 0)), (.iadd, 1, (0, 0, 0)), (.sipush 400, 3, (0, 0, 0)), (.if_icmp .le 5, 3, (20, 0, 0)), (.iconst (-1), 1, (0, 0, 0)), (.ireturn, 1, (0, 0, 0))]
def s_X12_feed_20 : List ZN := [(.iconst 0, 1, (0, 0, 0)), (.istore 6, 2, (0, 0, 0)), (.nop, 0, (23, 0, 0))]
def s_X12_feed_23 : List ZN := [(.iload 6, 2, (0, 0, 0)), (.bipush 20, 2, (0, 0, 0)), (.if_icmp .ge 93, 3, (120, 0, 0)), (.iload 6, 2, (0, 0, 0)), (.iconst 4, 1, (0, 0, 0)), (.if_icmp .ge 7, 3, (40, 0, 0)), (.iload_n 1, 1, (0, 0, 0)), (.goto 39, 3, (76, 0, 0))]
def s_X12_feed_40 : List ZN := [(.iload 6, 2, (0, 0, 0)), (.bipush 8, 2, (0, 0, 0)), (.if_icmp .ge 7, 3, (51, 0, 0)), (.iload_n 2, 1, (0, 0, 0)), (.goto 28, 3, (76, 0, 0))]
def s_X12_feed_51 : List ZN := [(.iload 6, 2, (0, 0, 0)), (.bipush 12, 2, (0, 0, 0)), (.if_icmp .ge 7, 3, (62, 0, 0)), (.iload_n 3, 1, (0, 0, 0)), (.goto 17, 3, (76, 0, 0))]
def s_X12_feed_62 : List ZN := [(.iload 6, 2, (0, 0, 0)), (.bipush 16, 2, (0, 0, 0)), (.if_icmp .ge 8, 3, (74, 0, 0)), (.iload 4, 2, (0, 0, 0)), (.goto 5, 3, (76, 0, 0))]
def s_X12_feed_74 : List ZN := [(.iload 5, 2, (0, 0, 0)), (.nop, 0, (76, 0, 0))]
def s_X12_feed_76 : List ZN := [(.istore 7, 2, (0, 0, 0)), (.aload_n 0, 1, (0, 0, 0)), (.getfield 13, 3, (12, 1, 2)), (.aload_n 0, 1, (0, 0, 0)), (.getfield 180, 3, (12, 2, 0)), (.iload 7, 2, (0, 0, 0)), (.bipush 24, 2, (0, 0, 0)), (.bipush 8, 2, (0, 0, 0)), (.iload 6, 2, (0, 0, 0)), (.iconst 4, 1, (0, 0, 0)), (.irem, 1, (0, 0, 0)), (.imul, 1, (0, 0, 0)), (.isub, 1, (0, 0, 0)), (.ishr, 1, (0, 0, 0)), (.sipush 255, 3, (0, 0, 0)), (.iand, 1, (0, 0, 0)), (.iastore, 1, (0, 0, 0)), (.aload_n 0, 1, (0, 0, 0)), (.dup, 1, (0, 0, 0)), (.getfield 180, 3, (12, 2, 0)), (.iconst 1, 1, (0, 0, 0)), (.iadd, 1, (0, 0, 0)), (.putfield 180, 3, (12, 2, 0)), (.iinc 6 1, 3, (0, 0, 0)), (.goto (-94), 3, (23, 0, 0))]
def s_X12_feed_120 : List ZN := [(.aload_n 0, 1, (0, 0, 0)), (.getfield 180, 3, (12, 2, 0)), (.ireturn, 1, (0, 0, 0))]
def p_X12_feed : List (Nat × List ZN) := [(0, s_X12_feed_0), (20, s_X12_feed_20), (23, s_X12_feed_23), (40, s_X12_feed_40), (51, s_X12_feed_51), (62, s_X12_feed_62), (74, s_X12_feed_74), (76, s_X12_feed_76), (120, s_X12_feed_120)]
def s_X12_see_0 : List ZN := [(.iload_n 1, 1, (0, 0, 0)), (.aload_n 0, 1, (0, 0, 0)), (.getfield 183, 3, (12, 13, 0)), (.if_icmp .ge 12, 3, (17, 0, 0)), (.aload_n 0, 1, (0, 0, 0)), (.getfield 13, 3, (12, 1, 2)), (.iload_n 1, 1, (0, 0, 0)), (.iaload, 1, (0, 0, 0)), (.goto 4, 3, (18, 0, 0))]
def s_X12_see_17 : List ZN := [(.iconst (-1), 1, (0, 0, 0)), (.nop, 0, (18, 0, 0))]
def s_X12_see_18 : List ZN := [(.ireturn, 1, (0, 0, 0))]
def p_X12_see : List (Nat × List ZN) := [(0, s_X12_see_0), (17, s_X12_see_17), (18, s_X12_see_18)]
def s_X12_isSmall_0 : List ZN := [(.iload_n 0, 1, (0, 0, 0)), (.bipush 97, 2, (0, 0, 0)), (.if_icmp .lt 13, 3, (16, 0, 0)), (.iload_n 0, 1, (0, 0, 0)), (.bipush 122, 2, (0, 0, 0)), (.if_icmp .gt 7, 3, (16, 0, 0)), (.iconst 1, 1, (0, 0, 0)), (.goto 4, 3, (17, 0, 0))]
def s_X12_isSmall_16 : List ZN := [(.iconst 0, 1, (0, 0, 0)), (.nop, 0, (17, 0, 0))]
def s_X12_isSmall_17 : List ZN := [(.ireturn, 1, (1, 0, 0))]
def p_X12_isSmall : List (Nat × List ZN) := [(0, s_X12_isSmall_0), (16, s_X12_isSmall_16), (17, s_X12_isSmall_17)]
def s_X12_isDigit_0 : List ZN := [(.iload_n 0, 1, (0, 0, 0)), (.bipush 48, 2, (0, 0, 0)), (.if_icmp .lt 13, 3, (16, 0, 0)), (.iload_n 0, 1, (0, 0, 0)), (.bipush 57, 2, (0, 0, 0)), (.if_icmp .gt 7, 3, (16, 0, 0)), (.iconst 1, 1, (0, 0, 0)), (.goto 4, 3, (17, 0, 0))]
def s_X12_isDigit_16 : List ZN := [(.iconst 0, 1, (0, 0, 0)), (.nop, 0, (17, 0, 0))]
def s_X12_isDigit_17 : List ZN := [(.ireturn, 1, (1, 0, 0))]
def p_X12_isDigit : List (Nat × List ZN) := [(0, s_X12_isDigit_0), (16, s_X12_isDigit_16), (17, s_X12_isDigit_17)]
def s_X12_keyAt_0 : List ZN := [(.iconst 0, 1, (0, 0, 0)), (.istore_n 1, 1, (0, 0, 0)), (.iconst 1, 1, (0, 0, 0)), (.istore_n 2, 1, (0, 0, 0)), (.nop, 0, (4, 0, 0))]
def s_X12_keyAt_4 : List ZN := [(.iload_n 2, 1, (0, 0, 0)), (.ldc 186, 2, (1, 9, 0)), (.invokevirtual 188, 3, (j_J0_length_8abf5, 1, 0)), (.if_icmp .ge 113, 3, (123, 0, 0)), (.iconst 0, 1, (0, 0, 0)), (.istore_n 3, 1, (0, 0, 0)), (.nop, 0, (15, 0, 0))]
def s_X12_keyAt_15 : List ZN := [(.ldc 186, 2, (1, 9, 0)), (.iload_n 2, 1, (0, 0, 0)), (.iload_n 3, 1, (0, 0, 0)), (.iadd, 1, (0, 0, 0)), (.invokevirtual 194, 3, (j_J0_charAt_5068e, 2, 0)), (.bipush 32, 2, (0, 0, 0)), (.if_icmp .eq 44, 3, (69, 0, 0)), (.aload_n 0, 1, (0, 0, 0)), (.getfield 198, 3, (12, 11, 0)), (.iload_n 3, 1, (0, 0, 0)), (.iadd, 1, (0, 0, 0)), (.aload_n 0, 1, (0, 0, 0)), (.getfield 201, 3, (12, 12, 0)), (.if_icmp .ge 31, 3, (69, 0, 0)), (.aload_n 0, 1, (0, 0, 0)), (.getfield 13, 3, (12, 1, 2)), (.aload_n 0, 1, (0, 0, 0)), (.getfield 198, 3, (12, 11, 0)), (.iload_n 3, 1, (0, 0, 0)), (.iadd, 1, (0, 0, 0)), (.iaload, 1, (0, 0, 0)), (.ldc 186, 2, (1, 9, 0)), (.iload_n 2, 1, (0, 0, 0)), (.iload_n 3, 1, (0, 0, 0)), (.iadd, 1, (0, 0, 0)), (.invokevirtual 194, 3, (j_J0_charAt_5068e, 2, 0)), (.if_icmp .ne 9, 3, (69, 0, 0)), (.iinc 3 1, 3, (0, 0, 0)), (.goto (-51), 3, (15, 0, 0))]
def s_X12_keyAt_69 : List ZN := [(.ldc 186, 2, (1, 9, 0)), (.iload_n 2, 1, (0, 0, 0)), (.iload_n 3, 1, (0, 0, 0)), (.iadd, 1, (0, 0, 0)), (.invokevirtual 194, 3, (j_J0_charAt_5068e, 2, 0)), (.bipush 32, 2, (0, 0, 0)), (.if_icmp .ne 18, 3, (97, 0, 0)), (.aload_n 0, 1, (0, 0, 0)), (.getfield 198, 3, (12, 11, 0)), (.iload_n 3, 1, (0, 0, 0)), (.iadd, 1, (0, 0, 0)), (.aload_n 0, 1, (0, 0, 0)), (.getfield 201, 3, (12, 12, 0)), (.if_icmp .ne 5, 3, (97, 0, 0)), (.iload_n 1, 1, (0, 0, 0)), (.ireturn, 1, (0, 0, 0))]
def s_X12_keyAt_97 : List ZN := [(.ldc 186, 2, (1, 9, 0)), (.iload_n 2, 1, (0, 0, 0)), (.invokevirtual 194, 3, (j_J0_charAt_5068e, 2, 0)), (.bipush 32, 2, (0, 0, 0)), (.if_icmp .eq 9, 3, (114, 0, 0)), (.iinc 2 1, 3, (0, 0, 0)), (.goto (-14), 3, (97, 0, 0))]
def s_X12_keyAt_114 : List ZN := [(.iinc 2 1, 3, (0, 0, 0)), (.iinc 1 1, 3, (0, 0, 0)), (.goto (-116), 3, (4, 0, 0))]
def s_X12_keyAt_123 : List ZN := [(.bipush 9, 2, (0, 0, 0)), (.ireturn, 1, (0, 0, 0))]
def p_X12_keyAt : List (Nat × List ZN) := [(0, s_X12_keyAt_0), (4, s_X12_keyAt_4), (15, s_X12_keyAt_15), (69, s_X12_keyAt_69), (97, s_X12_keyAt_97), (114, s_X12_keyAt_114), (123, s_X12_keyAt_123)]
def s_X12_next_0 : List ZN := [(.aload_n 0, 1, (0, 0, 0)), (.aload_n 0, 1, (0, 0, 0)), (.getfield 201, 3, (12, 12, 0)), (.putfield 198, 3, (12, 11, 0)), (.nop, 0, (8, 0, 0))]
def s_X12_next_8 : List ZN := [(.aload_n 0, 1, (0, 0, 0)), (.aload_n 0, 1, (0, 0, 0)), (.getfield 198, 3, (12, 11, 0)), (.invokevirtual 204, 3, (j_X12_see, 2, 0)), (.bipush 10, 2, (0, 0, 0)), (.if_icmp .eq 16, 3, (34, 0, 0)), (.aload_n 0, 1, (0, 0, 0)), (.aload_n 0, 1, (0, 0, 0)), (.getfield 198, 3, (12, 11, 0)), (.invokevirtual 204, 3, (j_X12_see, 2, 0)), (.bipush 32, 2, (0, 0, 0)), (.if_icmp .ne 16, 3, (47, 0, 0)), (.nop, 0, (34, 0, 0))]
def s_X12_next_34 : List ZN := [(.aload_n 0, 1, (0, 0, 0)), (.dup, 1, (0, 0, 0)), (.getfield 198, 3, (12, 11, 0)), (.iconst 1, 1, (0, 0, 0)), (.iadd, 1, (0, 0, 0)), (.putfield 198, 3, (12, 11, 0)), (.goto (-36), 3, (8, 0, 0))]
def s_X12_next_47 : List ZN := [(.aload_n 0, 1, (0, 0, 0)), (.aload_n 0, 1, (0, 0, 0)), (.getfield 198, 3, (12, 11, 0)), (.putfield 201, 3, (12, 12, 0)), (.aload_n 0, 1, (0, 0, 0)), (.getfield 198, 3, (12, 11, 0)), (.aload_n 0, 1, (0, 0, 0)), (.getfield 183, 3, (12, 13, 0)), (.if_icmp .lt 12, 3, (75, 0, 0)), (.aload_n 0, 1, (0, 0, 0)), (.bipush 12, 2, (0, 0, 0)), (.putfield 208, 3, (12, 14, 0)), (.goto 198, 3, (270, 0, 0))]
def s_X12_next_75 : List ZN := [(.aload_n 0, 1, (0, 0, 0)), (.aload_n 0, 1, (0, 0, 0)), (.getfield 198, 3, (12, 11, 0)), (.invokevirtual 204, 3, (j_X12_see, 2, 0)), (.invokestatic 211, 3, (j_X12_isSmall, 1, 0)), (.ifCond .eq 41, 3, (127, 0, 0)), (.nop, 0, (89, 0, 0))]
def s_X12_next_89 : List ZN := [(.aload_n 0, 1, (0, 0, 0)), (.aload_n 0, 1, (0, 0, 0)), (.getfield 201, 3, (12, 12, 0)), (.invokevirtual 204, 3, (j_X12_see, 2, 0)), (.invokestatic 211, 3, (j_X12_isSmall, 1, 0)), (.ifCond .eq 16, 3, (116, 0, 0)), (.aload_n 0, 1, (0, 0, 0)), (.dup, 1, (0, 0, 0)), (.getfield 201, 3, (12, 12, 0)), (.iconst 1, 1, (0, 0, 0)), (.iadd, 1, (0, 0, 0)), (.putfield 201, 3, (12, 12, 0)), (.goto (-24), 3, (89, 0, 0))]
def s_X12_next_116 : List ZN := [(.aload_n 0, 1, (0, 0, 0)), (.aload_n 0, 1, (0, 0, 0)), (.invokevirtual 215, 3, (j_X12_keyAt, 1, 0)), (.putfield 208, 3, (12, 14, 0)), (.goto 146, 3, (270, 0, 0))]
def s_X12_next_127 : List ZN := [(.aload_n 0, 1, (0, 0, 0)), (.aload_n 0, 1, (0, 0, 0)), (.getfield 198, 3, (12, 11, 0)), (.invokevirtual 204, 3, (j_X12_see, 2, 0)), (.invokestatic 218, 3, (j_X12_isDigit, 1, 0)), (.ifCond .eq 98, 3, (236, 0, 0)), (.aload_n 0, 1, (0, 0, 0)), (.iconst 0, 1, (0, 0, 0)), (.putfield 221, 3, (12, 15, 0)), (.nop, 0, (146, 0, 0))]
def s_X12_next_146 : List ZN := [(.aload_n 0, 1, (0, 0, 0)), (.aload_n 0, 1, (0, 0, 0)), (.getfield 201, 3, (12, 12, 0)), (.invokevirtual 204, 3, (j_X12_see, 2, 0)), (.invokestatic 218, 3, (j_X12_isDigit, 1, 0)), (.ifCond .eq 52, 3, (209, 0, 0)), (.aload_n 0, 1, (0, 0, 0)), (.getfield 201, 3, (12, 12, 0)), (.aload_n 0, 1, (0, 0, 0)), (.getfield 198, 3, (12, 11, 0)), (.isub, 1, (0, 0, 0)), (.iconst 3, 1, (0, 0, 0)), (.if_icmp .ge 26, 3, (196, 0, 0)), (.aload_n 0, 1, (0, 0, 0)), (.bipush 10, 2, (0, 0, 0)), (.aload_n 0, 1, (0, 0, 0)), (.getfield 221, 3, (12, 15, 0)), (.imul, 1, (0, 0, 0)), (.aload_n 0, 1, (0, 0, 0)), (.aload_n 0, 1, (0, 0, 0)), (.getfield 201, 3, (12, 12, 0)), (.invokevirtual 204, 3, (j_X12_see, 2, 0)), (.iadd, 1, (0, 0, 0)), (.bipush 48, 2, (0, 0, 0)), (.isub, 1, (0, 0, 0)), (.putfield 221, 3, (12, 15, 0)), (.nop, 0, (196, 0, 0))]
def s_X12_next_196 : List ZN := [(.aload_n 0, 1, (0, 0, 0)), (.dup, 1, (0, 0, 0)), (.getfield 201, 3, (12, 12, 0)), (.iconst 1, 1, (0, 0, 0)), (.iadd, 1, (0, 0, 0)), (.putfield 201, 3, (12, 12, 0)), (.goto (-60), 3, (146, 0, 0))]
def s_X12_next_209 : List ZN := [(.aload_n 0, 1, (0, 0, 0)), (.aload_n 0, 1, (0, 0, 0)), (.getfield 201, 3, (12, 12, 0)), (.aload_n 0, 1, (0, 0, 0)), (.getfield 198, 3, (12, 11, 0)), (.isub, 1, (0, 0, 0)), (.iconst 3, 1, (0, 0, 0)), (.if_icmp .le 8, 3, (228, 0, 0)), (.bipush 13, 2, (0, 0, 0)), (.goto 5, 3, (230, 0, 0))]
def s_X12_next_228 : List ZN := [(.bipush 10, 2, (0, 0, 0)), (.nop, 0, (230, 0, 0))]
def s_X12_next_230 : List ZN := [(.putfield 208, 3, (12, 14, 0)), (.goto 37, 3, (270, 0, 0))]
def s_X12_next_236 : List ZN := [(.aload_n 0, 1, (0, 0, 0)), (.dup, 1, (0, 0, 0)), (.getfield 201, 3, (12, 12, 0)), (.iconst 1, 1, (0, 0, 0)), (.iadd, 1, (0, 0, 0)), (.putfield 201, 3, (12, 12, 0)), (.aload_n 0, 1, (0, 0, 0)), (.aload_n 0, 1, (0, 0, 0)), (.aload_n 0, 1, (0, 0, 0)), (.getfield 198, 3, (12, 11, 0)), (.invokevirtual 204, 3, (j_X12_see, 2, 0)), (.bipush 59, 2, (0, 0, 0)), (.if_icmp .ne 8, 3, (265, 0, 0)), (.bipush 11, 2, (0, 0, 0)), (.goto 5, 3, (267, 0, 0))]
def s_X12_next_265 : List ZN := [(.bipush 13, 2, (0, 0, 0)), (.nop, 0, (267, 0, 0))]
def s_X12_next_267 : List ZN := [(.putfield 208, 3, (12, 14, 0)), (.nop, 0, (270, 0, 0))]
def s_X12_next_270 : List ZN := [(.return_, 1, (0, 0, 0))]
def p_X12_next : List (Nat × List ZN) := [(0, s_X12_next_0), (8, s_X12_next_8), (34, s_X12_next_34), (47, s_X12_next_47), (75, s_X12_next_75), (89, s_X12_next_89), (116, s_X12_next_116), (127, s_X12_next_127), (146, s_X12_next_146), (196, s_X12_next_196), (209, s_X12_next_209), (228, s_X12_next_228), (230, s_X12_next_230), (236, s_X12_next_236), (265, s_X12_next_265), (267, s_X12_next_267), (270, s_X12_next_270)]
def s_X12_fails_0 : List ZN := [(.aload_n 0, 1, (0, 0, 0)), (.getfield 224, 3, (12, 16, 0)), (.ifCond .eq 4, 3, (8, 0, 0)), (.return_, 1, (0, 0, 0))]
def s_X12_fails_8 : List ZN := [(.aload_n 0, 1, (0, 0, 0)), (.aload_n 0, 1, (0, 0, 0)), (.getfield 208, 3, (12, 14, 0)), (.bipush 13, 2, (0, 0, 0)), (.if_icmp .ne 7, 3, (22, 0, 0)), (.iconst 1, 1, (0, 0, 0)), (.goto 4, 3, (23, 0, 0))]
def s_X12_fails_22 : List ZN := [(.iload_n 1, 1, (0, 0, 0)), (.nop, 0, (23, 0, 0))]
def s_X12_fails_23 : List ZN := [(.putfield 224, 3, (12, 16, 0)), (.aload_n 0, 1, (0, 0, 0)), (.aload_n 0, 1, (0, 0, 0)), (.getfield 198, 3, (12, 11, 0)), (.putfield 227, 3, (12, 17, 0)), (.return_, 1, (0, 0, 0))]
def p_X12_fails : List (Nat × List ZN) := [(0, s_X12_fails_0), (8, s_X12_fails_8), (22, s_X12_fails_22), (23, s_X12_fails_23)]
def s_X12_is_0 : List ZN := [(.aload_n 0, 1, (0, 0, 0)), (.getfield 224, 3, (12, 16, 0)), (.ifCond .ne 15, 3, (19, 0, 0)), (.aload_n 0, 1, (0, 0, 0)), (.getfield 208, 3, (12, 14, 0)), (.iload_n 1, 1, (0, 0, 0)), (.if_icmp .ne 7, 3, (19, 0, 0)), (.iconst 1, 1, (0, 0, 0)), (.goto 4, 3, (20, 0, 0))]
def s_X12_is_19 : List ZN := [(.iconst 0, 1, (0, 0, 0)), (.nop, 0, (20, 0, 0))]
def s_X12_is_20 : List ZN := [(.ireturn, 1, (1, 0, 0))]
def p_X12_is : List (Nat × List ZN) := [(0, s_X12_is_0), (19, s_X12_is_19), (20, s_X12_is_20)]
def s_X12_needs_0 : List ZN := [(.aload_n 0, 1, (0, 0, 0)), (.iload_n 1, 1, (0, 0, 0)), (.invokevirtual 230, 3, (j_X12_is, 2, 0)), (.ifCond .eq 10, 3, (15, 0, 0)), (.aload_n 0, 1, (0, 0, 0)), (.invokevirtual 233, 3, (j_X12_next, 1, 0)), (.goto 8, 3, (20, 0, 0))]
def s_X12_needs_15 : List ZN := [(.aload_n 0, 1, (0, 0, 0)), (.iconst 2, 1, (0, 0, 0)), (.invokevirtual 236, 3, (j_X12_fails, 2, 0)), (.nop, 0, (20, 0, 0))]
def s_X12_needs_20 : List ZN := [(.return_, 1, (0, 0, 0))]
def p_X12_needs : List (Nat × List ZN) := [(0, s_X12_needs_0), (15, s_X12_needs_15), (20, s_X12_needs_20)]
def s_X12_reads_0 : List ZN := [(.aload_n 0, 1, (0, 0, 0)), (.bipush 10, 2, (0, 0, 0)), (.invokevirtual 230, 3, (j_X12_is, 2, 0)), (.ifCond .ne 11, 3, (17, 0, 0)), (.aload_n 0, 1, (0, 0, 0)), (.iconst 2, 1, (0, 0, 0)), (.invokevirtual 236, 3, (j_X12_fails, 2, 0)), (.goto 23, 3, (37, 0, 0))]
def s_X12_reads_17 : List ZN := [(.aload_n 0, 1, (0, 0, 0)), (.getfield 221, 3, (12, 15, 0)), (.i2l, 1, (0, 0, 0)), (.iload_n 1, 1, (0, 0, 0)), (.i2l, 1, (0, 0, 0)), (.iload_n 2, 1, (0, 0, 0)), (.i2l, 1, (0, 0, 0)), (.invokestatic 240, 3, (j_X12_within, 3, 0)), (.ifCond .ne 8, 3, (37, 0, 0)), (.aload_n 0, 1, (0, 0, 0)), (.iconst 3, 1, (0, 0, 0)), (.invokevirtual 236, 3, (j_X12_fails, 2, 0)), (.nop, 0, (37, 0, 0))]
def s_X12_reads_37 : List ZN := [(.aload_n 0, 1, (0, 0, 0)), (.getfield 221, 3, (12, 15, 0)), (.istore_n 3, 1, (0, 0, 0)), (.aload_n 0, 1, (0, 0, 0)), (.getfield 224, 3, (12, 16, 0)), (.ifCond .ne 7, 3, (53, 0, 0)), (.aload_n 0, 1, (0, 0, 0)), (.invokevirtual 233, 3, (j_X12_next, 1, 0)), (.nop, 0, (53, 0, 0))]
def s_X12_reads_53 : List ZN := [(.iload_n 3, 1, (0, 0, 0)), (.ireturn, 1, (0, 0, 0))]
def p_X12_reads : List (Nat × List ZN) := [(0, s_X12_reads_0), (17, s_X12_reads_17), (37, s_X12_reads_37), (53, s_X12_reads_53)]
def s_X12_readsRoller_0 : List ZN := [(.aload_n 0, 1, (0, 0, 0)), (.getfield 20, 3, (12, 4, 2)), (.bipush 6, 2, (0, 0, 0)), (.iaload, 1, (0, 0, 0)), (.bipush 10, 2, (0, 0, 0)), (.if_icmp .ne 8, 3, (17, 0, 0)), (.aload_n 0, 1, (0, 0, 0)), (.iconst 5, 1, (0, 0, 0)), (.invokevirtual 236, 3, (j_X12_fails, 2, 0)), (.nop, 0, (17, 0, 0))]
def s_X12_readsRoller_17 : List ZN := [(.aload_n 0, 1, (0, 0, 0)), (.getfield 224, 3, (12, 16, 0)), (.ifCond .eq 4, 3, (25, 0, 0)), (.return_, 1, (0, 0, 0))]
def s_X12_readsRoller_25 : List ZN := [(.aload_n 0, 1, (0, 0, 0)), (.invokevirtual 233, 3, (j_X12_next, 1, 0)), (.aload_n 0, 1, (0, 0, 0)), (.aload_n 0, 1, (0, 0, 0)), (.getfield 20, 3, (12, 4, 2)), (.bipush 6, 2, (0, 0, 0)), (.iaload, 1, (0, 0, 0)), (.ifCond .ne 7, 3, (44, 0, 0)), (.iconst 1, 1, (0, 0, 0)), (.goto 19, 3, (60, 0, 0))]
def s_X12_readsRoller_44 : List ZN := [(.aload_n 0, 1, (0, 0, 0)), (.getfield 29, 3, (12, 7, 2)), (.aload_n 0, 1, (0, 0, 0)), (.getfield 20, 3, (12, 4, 2)), (.bipush 6, 2, (0, 0, 0)), (.iaload, 1, (0, 0, 0)), (.iconst 1, 1, (0, 0, 0)), (.isub, 1, (0, 0, 0)), (.iaload, 1, (0, 0, 0)), (.iconst 1, 1, (0, 0, 0)), (.iadd, 1, (0, 0, 0)), (.nop, 0, (60, 0, 0))]
def s_X12_readsRoller_60 : List ZN := [(.aload_n 0, 1, (0, 0, 0)), (.getfield 20, 3, (12, 4, 2)), (.iconst 0, 1, (0, 0, 0)), (.iaload, 1, (0, 0, 0)), (.iconst 1, 1, (0, 0, 0)), (.isub, 1, (0, 0, 0)), (.invokevirtual 244, 3, (j_X12_reads, 3, 0)), (.istore_n 1, 1, (0, 0, 0)), (.aload_n 0, 1, (0, 0, 0)), (.iconst 2, 1, (0, 0, 0)), (.invokevirtual 248, 3, (j_X12_needs, 2, 0)), (.aload_n 0, 1, (0, 0, 0)), (.iconst 1, 1, (0, 0, 0)), (.bipush 9, 2, (0, 0, 0)), (.invokevirtual 244, 3, (j_X12_reads, 3, 0)), (.istore_n 2, 1, (0, 0, 0)), (.aload_n 0, 1, (0, 0, 0)), (.getfield 224, 3, (12, 16, 0)), (.ifCond .eq 4, 3, (93, 0, 0)), (.return_, 1, (0, 0, 0))]
def s_X12_readsRoller_93 : List ZN := [(.aload_n 0, 1, (0, 0, 0)), (.getfield 29, 3, (12, 7, 2)), (.aload_n 0, 1, (0, 0, 0)), (.getfield 20, 3, (12, 4, 2)), (.bipush 6, 2, (0, 0, 0)), (.iaload, 1, (0, 0, 0)), (.iload_n 1, 1, (0, 0, 0)), (.iastore, 1, (0, 0, 0)), (.aload_n 0, 1, (0, 0, 0)), (.getfield 32, 3, (12, 8, 2)), (.aload_n 0, 1, (0, 0, 0)), (.getfield 20, 3, (12, 4, 2)), (.bipush 6, 2, (0, 0, 0)), (.iaload, 1, (0, 0, 0)), (.iload_n 2, 1, (0, 0, 0)), (.iastore, 1, (0, 0, 0)), (.aload_n 0, 1, (0, 0, 0)), (.getfield 20, 3, (12, 4, 2)), (.bipush 6, 2, (0, 0, 0)), (.dup2, 1, (0, 0, 0)), (.iaload, 1, (0, 0, 0)), (.iconst 1, 1, (0, 0, 0)), (.iadd, 1, (0, 0, 0)), (.iastore, 1, (0, 0, 0)), (.return_, 1, (0, 0, 0))]
def p_X12_readsRoller : List (Nat × List ZN) := [(0, s_X12_readsRoller_0), (17, s_X12_readsRoller_17), (25, s_X12_readsRoller_25), (44, s_X12_readsRoller_44), (60, s_X12_readsRoller_60), (93, s_X12_readsRoller_93)]
def s_X12_readsEye_0 : List ZN := [(.aload_n 0, 1, (0, 0, 0)), (.getfield 20, 3, (12, 4, 2)), (.bipush 7, 2, (0, 0, 0)), (.iaload, 1, (0, 0, 0)), (.bipush 19, 2, (0, 0, 0)), (.if_icmp .ne 8, 3, (17, 0, 0)), (.aload_n 0, 1, (0, 0, 0)), (.iconst 5, 1, (0, 0, 0)), (.invokevirtual 236, 3, (j_X12_fails, 2, 0)), (.nop, 0, (17, 0, 0))]
def s_X12_readsEye_17 : List ZN := [(.aload_n 0, 1, (0, 0, 0)), (.getfield 224, 3, (12, 16, 0)), (.ifCond .eq 4, 3, (25, 0, 0)), (.return_, 1, (0, 0, 0))]
def s_X12_readsEye_25 : List ZN := [(.aload_n 0, 1, (0, 0, 0)), (.invokevirtual 233, 3, (j_X12_next, 1, 0)), (.aload_n 0, 1, (0, 0, 0)), (.aload_n 0, 1, (0, 0, 0)), (.getfield 20, 3, (12, 4, 2)), (.bipush 7, 2, (0, 0, 0)), (.iaload, 1, (0, 0, 0)), (.ifCond .ne 7, 3, (44, 0, 0)), (.iconst 1, 1, (0, 0, 0)), (.goto 19, 3, (60, 0, 0))]
def s_X12_readsEye_44 : List ZN := [(.aload_n 0, 1, (0, 0, 0)), (.getfield 38, 3, (12, 10, 2)), (.aload_n 0, 1, (0, 0, 0)), (.getfield 20, 3, (12, 4, 2)), (.bipush 7, 2, (0, 0, 0)), (.iaload, 1, (0, 0, 0)), (.iconst 1, 1, (0, 0, 0)), (.isub, 1, (0, 0, 0)), (.iaload, 1, (0, 0, 0)), (.iconst 1, 1, (0, 0, 0)), (.iadd, 1, (0, 0, 0)), (.nop, 0, (60, 0, 0))]
def s_X12_readsEye_60 : List ZN := [(.aload_n 0, 1, (0, 0, 0)), (.getfield 20, 3, (12, 4, 2)), (.iconst 0, 1, (0, 0, 0)), (.iaload, 1, (0, 0, 0)), (.invokevirtual 244, 3, (j_X12_reads, 3, 0)), (.istore_n 1, 1, (0, 0, 0)), (.aload_n 0, 1, (0, 0, 0)), (.getfield 224, 3, (12, 16, 0)), (.ifCond .eq 4, 3, (78, 0, 0)), (.return_, 1, (0, 0, 0))]
def s_X12_readsEye_78 : List ZN := [(.aload_n 0, 1, (0, 0, 0)), (.getfield 38, 3, (12, 10, 2)), (.aload_n 0, 1, (0, 0, 0)), (.getfield 20, 3, (12, 4, 2)), (.bipush 7, 2, (0, 0, 0)), (.iaload, 1, (0, 0, 0)), (.iload_n 1, 1, (0, 0, 0)), (.iastore, 1, (0, 0, 0)), (.aload_n 0, 1, (0, 0, 0)), (.getfield 20, 3, (12, 4, 2)), (.bipush 7, 2, (0, 0, 0)), (.dup2, 1, (0, 0, 0)), (.iaload, 1, (0, 0, 0)), (.iconst 1, 1, (0, 0, 0)), (.iadd, 1, (0, 0, 0)), (.iastore, 1, (0, 0, 0)), (.return_, 1, (0, 0, 0))]
def p_X12_readsEye : List (Nat × List ZN) := [(0, s_X12_readsEye_0), (17, s_X12_readsEye_17), (25, s_X12_readsEye_25), (44, s_X12_readsEye_44), (60, s_X12_readsEye_60), (78, s_X12_readsEye_78)]
def s_X12_readsTurn_0 : List ZN := [(.aload_n 0, 1, (0, 0, 0)), (.getfield 164, 3, (12, 19, 1)), (.ifCond .eq 8, 3, (12, 0, 0)), (.aload_n 0, 1, (0, 0, 0)), (.iconst 4, 1, (0, 0, 0)), (.invokevirtual 236, 3, (j_X12_fails, 2, 0)), (.nop, 0, (12, 0, 0))]
def s_X12_readsTurn_12 : List ZN := [(.aload_n 0, 1, (0, 0, 0)), (.getfield 224, 3, (12, 16, 0)), (.ifCond .eq 4, 3, (20, 0, 0)), (.return_, 1, (0, 0, 0))]
def s_X12_readsTurn_20 : List ZN := [(.aload_n 0, 1, (0, 0, 0)), (.invokevirtual 233, 3, (j_X12_next, 1, 0)), (.aload_n 0, 1, (0, 0, 0)), (.iconst 1, 1, (0, 0, 0)), (.putfield 164, 3, (12, 19, 1)), (.aload_n 0, 1, (0, 0, 0)), (.getfield 20, 3, (12, 4, 2)), (.iconst 1, 1, (0, 0, 0)), (.aload_n 0, 1, (0, 0, 0)), (.iconst 2, 1, (0, 0, 0)), (.aload_n 0, 1, (0, 0, 0)), (.getfield 20, 3, (12, 4, 2)), (.iconst 0, 1, (0, 0, 0)), (.iaload, 1, (0, 0, 0)), (.iconst 1, 1, (0, 0, 0)), (.isub, 1, (0, 0, 0)), (.invokevirtual 244, 3, (j_X12_reads, 3, 0)), (.iastore, 1, (0, 0, 0)), (.aload_n 0, 1, (0, 0, 0)), (.iconst 5, 1, (0, 0, 0)), (.invokevirtual 248, 3, (j_X12_needs, 2, 0)), (.aload_n 0, 1, (0, 0, 0)), (.getfield 20, 3, (12, 4, 2)), (.iconst 2, 1, (0, 0, 0)), (.aload_n 0, 1, (0, 0, 0)), (.iconst 1, 1, (0, 0, 0)), (.aload_n 0, 1, (0, 0, 0)), (.getfield 20, 3, (12, 4, 2)), (.iconst 1, 1, (0, 0, 0)), (.iaload, 1, (0, 0, 0)), (.iconst 1, 1, (0, 0, 0)), (.isub, 1, (0, 0, 0)), (.invokevirtual 244, 3, (j_X12_reads, 3, 0)), (.iastore, 1, (0, 0, 0)), (.aload_n 0, 1, (0, 0, 0)), (.bipush 6, 2, (0, 0, 0)), (.invokevirtual 248, 3, (j_X12_needs, 2, 0)), (.aload_n 0, 1, (0, 0, 0)), (.getfield 20, 3, (12, 4, 2)), (.iconst 3, 1, (0, 0, 0)), (.aload_n 0, 1, (0, 0, 0)), (.iconst 1, 1, (0, 0, 0)), (.iconst 3, 1, (0, 0, 0)), (.invokevirtual 244, 3, (j_X12_reads, 3, 0)), (.iastore, 1, (0, 0, 0)), (.aload_n 0, 1, (0, 0, 0)), (.bipush 7, 2, (0, 0, 0)), (.invokevirtual 248, 3, (j_X12_needs, 2, 0)), (.aload_n 0, 1, (0, 0, 0)), (.getfield 20, 3, (12, 4, 2)), (.iconst 4, 1, (0, 0, 0)), (.aload_n 0, 1, (0, 0, 0)), (.iconst 1, 1, (0, 0, 0)), (.bipush 20, 2, (0, 0, 0)), (.invokevirtual 244, 3, (j_X12_reads, 3, 0)), (.iastore, 1, (0, 0, 0)), (.return_, 1, (0, 0, 0))]
def p_X12_readsTurn : List (Nat × List ZN) := [(0, s_X12_readsTurn_0), (12, s_X12_readsTurn_12), (20, s_X12_readsTurn_20)]
def s_X12_readsDamp_0 : List ZN := [(.aload_n 0, 1, (0, 0, 0)), (.getfield 168, 3, (12, 20, 1)), (.ifCond .eq 8, 3, (12, 0, 0)), (.aload_n 0, 1, (0, 0, 0)), (.iconst 4, 1, (0, 0, 0)), (.invokevirtual 236, 3, (j_X12_fails, 2, 0)), (.nop, 0, (12, 0, 0))]
def s_X12_readsDamp_12 : List ZN := [(.aload_n 0, 1, (0, 0, 0)), (.getfield 224, 3, (12, 16, 0)), (.ifCond .eq 4, 3, (20, 0, 0)), (.return_, 1, (0, 0, 0))]
def s_X12_readsDamp_20 : List ZN := [(.aload_n 0, 1, (0, 0, 0)), (.invokevirtual 233, 3, (j_X12_next, 1, 0)), (.aload_n 0, 1, (0, 0, 0)), (.iconst 1, 1, (0, 0, 0)), (.putfield 168, 3, (12, 20, 1)), (.aload_n 0, 1, (0, 0, 0)), (.getfield 20, 3, (12, 4, 2)), (.iconst 5, 1, (0, 0, 0)), (.aload_n 0, 1, (0, 0, 0)), (.iconst 0, 1, (0, 0, 0)), (.bipush 90, 2, (0, 0, 0)), (.invokevirtual 244, 3, (j_X12_reads, 3, 0)), (.iastore, 1, (0, 0, 0)), (.return_, 1, (0, 0, 0))]
def p_X12_readsDamp : List (Nat × List ZN) := [(0, s_X12_readsDamp_0), (12, s_X12_readsDamp_12), (20, s_X12_readsDamp_20)]
def s_X12_text_0 : List ZN := [(.aload_n 0, 1, (0, 0, 0)), (.iconst 0, 1, (0, 0, 0)), (.putfield 1, 3, (12, 0, 0)), (.iload_n 1, 1, (0, 0, 0)), (.i2l, 1, (0, 0, 0)), (.lconst 0, 1, (0, 0, 0)), (.aload_n 0, 1, (0, 0, 0)), (.getfield 180, 3, (12, 2, 0)), (.i2l, 1, (0, 0, 0)), (.invokestatic 240, 3, (j_X12_within, 3, 0)), (.ifCond .ne 6, 3, (22, 0, 0)), (.bipush (-2), 2, (0, 0, 0)), (.ireturn, 1, (0, 0, 0))]
def s_X12_text_22 : List ZN := [(.aload_n 0, 1, (0, 0, 0)), (.iload_n 1, 1, (0, 0, 0)), (.putfield 183, 3, (12, 13, 0)), (.aload_n 0, 1, (0, 0, 0)), (.iconst 0, 1, (0, 0, 0)), (.putfield 180, 3, (12, 2, 0)), (.aload_n 0, 1, (0, 0, 0)), (.iconst 0, 1, (0, 0, 0)), (.putfield 201, 3, (12, 12, 0)), (.aload_n 0, 1, (0, 0, 0)), (.iconst 0, 1, (0, 0, 0)), (.putfield 224, 3, (12, 16, 0)), (.aload_n 0, 1, (0, 0, 0)), (.iconst 0, 1, (0, 0, 0)), (.putfield 251, 3, (12, 18, 0)), (.aload_n 0, 1, (0, 0, 0)), (.invokevirtual 155, 3, (j_X12_begins, 1, 0)), (.aload_n 0, 1, (0, 0, 0)), (.invokevirtual 233, 3, (j_X12_next, 1, 0)), (.aload_n 0, 1, (0, 0, 0)), (.iconst 0, 1, (0, 0, 0)), (.invokevirtual 230, 3, (j_X12_is, 2, 0)), (.ifCond .eq 38, 3, (98, 0, 0)), (.aload_n 0, 1, (0, 0, 0)), (.invokevirtual 233, 3, (j_X12_next, 1, 0)), (.aload_n 0, 1, (0, 0, 0)), (.getfield 20, 3, (12, 4, 2)), (.iconst 0, 1, (0, 0, 0)), (.aload_n 0, 1, (0, 0, 0)), (.bipush 40, 2, (0, 0, 0)), (.sipush 300, 3, (0, 0, 0)), (.invokevirtual 244, 3, (j_X12_reads, 3, 0)), (.iastore, 1, (0, 0, 0)), (.aload_n 0, 1, (0, 0, 0)), (.bipush 11, 2, (0, 0, 0)), (.invokevirtual 248, 3, (j_X12_needs, 2, 0)), (.aload_n 0, 1, (0, 0, 0)), (.dup, 1, (0, 0, 0)), (.getfield 251, 3, (12, 18, 0)), (.iconst 1, 1, (0, 0, 0)), (.iadd, 1, (0, 0, 0)), (.putfield 251, 3, (12, 18, 0)), (.nop, 0, (98, 0, 0))]
def s_X12_text_98 : List ZN := [(.aload_n 0, 1, (0, 0, 0)), (.getfield 224, 3, (12, 16, 0)), (.ifCond .ne 97, 3, (199, 0, 0)), (.aload_n 0, 1, (0, 0, 0)), (.getfield 208, 3, (12, 14, 0)), (.bipush 12, 2, (0, 0, 0)), (.if_icmp .eq 88, 3, (199, 0, 0)), (.aload_n 0, 1, (0, 0, 0)), (.iconst 1, 1, (0, 0, 0)), (.invokevirtual 230, 3, (j_X12_is, 2, 0)), (.ifCond .eq 10, 3, (129, 0, 0)), (.aload_n 0, 1, (0, 0, 0)), (.invokevirtual 254, 3, (j_X12_readsRoller, 1, 0)), (.goto 54, 3, (180, 0, 0))]
def s_X12_text_129 : List ZN := [(.aload_n 0, 1, (0, 0, 0)), (.iconst 3, 1, (0, 0, 0)), (.invokevirtual 230, 3, (j_X12_is, 2, 0)), (.ifCond .eq 10, 3, (144, 0, 0)), (.aload_n 0, 1, (0, 0, 0)), (.invokevirtual 257, 3, (j_X12_readsEye, 1, 0)), (.goto 39, 3, (180, 0, 0))]
def s_X12_text_144 : List ZN := [(.aload_n 0, 1, (0, 0, 0)), (.iconst 4, 1, (0, 0, 0)), (.invokevirtual 230, 3, (j_X12_is, 2, 0)), (.ifCond .eq 10, 3, (159, 0, 0)), (.aload_n 0, 1, (0, 0, 0)), (.invokevirtual 260, 3, (j_X12_readsTurn, 1, 0)), (.goto 24, 3, (180, 0, 0))]
def s_X12_text_159 : List ZN := [(.aload_n 0, 1, (0, 0, 0)), (.bipush 8, 2, (0, 0, 0)), (.invokevirtual 230, 3, (j_X12_is, 2, 0)), (.ifCond .eq 10, 3, (175, 0, 0)), (.aload_n 0, 1, (0, 0, 0)), (.invokevirtual 263, 3, (j_X12_readsDamp, 1, 0)), (.goto 8, 3, (180, 0, 0))]
def s_X12_text_175 : List ZN := [(.aload_n 0, 1, (0, 0, 0)), (.iconst 2, 1, (0, 0, 0)), (.invokevirtual 236, 3, (j_X12_fails, 2, 0)), (.nop, 0, (180, 0, 0))]
def s_X12_text_180 : List ZN := [(.aload_n 0, 1, (0, 0, 0)), (.bipush 11, 2, (0, 0, 0)), (.invokevirtual 248, 3, (j_X12_needs, 2, 0)), (.aload_n 0, 1, (0, 0, 0)), (.dup, 1, (0, 0, 0)), (.getfield 251, 3, (12, 18, 0)), (.iconst 1, 1, (0, 0, 0)), (.iadd, 1, (0, 0, 0)), (.putfield 251, 3, (12, 18, 0)), (.goto (-98), 3, (98, 0, 0))]
def s_X12_text_199 : List ZN := [(.aload_n 0, 1, (0, 0, 0)), (.getfield 224, 3, (12, 16, 0)), (.ifCond .ne 18, 3, (221, 0, 0)), (.aload_n 0, 1, (0, 0, 0)), (.getfield 20, 3, (12, 4, 2)), (.bipush 6, 2, (0, 0, 0)), (.iaload, 1, (0, 0, 0)), (.ifCond .ne 8, 3, (221, 0, 0)), (.aload_n 0, 1, (0, 0, 0)), (.iconst 2, 1, (0, 0, 0)), (.invokevirtual 236, 3, (j_X12_fails, 2, 0)), (.nop, 0, (221, 0, 0))]
def s_X12_text_221 : List ZN := [(.aload_n 0, 1, (0, 0, 0)), (.aload_n 0, 1, (0, 0, 0)), (.getfield 224, 3, (12, 16, 0)), (.putfield 266, 3, (12, 21, 0)), (.aload_n 0, 1, (0, 0, 0)), (.aload_n 0, 1, (0, 0, 0)), (.getfield 224, 3, (12, 16, 0)), (.ifCond .ne 7, 3, (241, 0, 0)), (.iconst (-1), 1, (0, 0, 0)), (.goto 7, 3, (245, 0, 0))]
def s_X12_text_241 : List ZN := [(.aload_n 0, 1, (0, 0, 0)), (.getfield 227, 3, (12, 17, 0)), (.nop, 0, (245, 0, 0))]
def s_X12_text_245 : List ZN := [(.putfield 41, 3, (12, 22, 0)), (.aload_n 0, 1, (0, 0, 0)), (.getfield 224, 3, (12, 16, 0)), (.ifCond .eq 11, 3, (263, 0, 0)), (.bipush (-10), 2, (0, 0, 0)), (.aload_n 0, 1, (0, 0, 0)), (.getfield 224, 3, (12, 16, 0)), (.isub, 1, (0, 0, 0)), (.ireturn, 1, (0, 0, 0))]
def s_X12_text_263 : List ZN := [(.aload_n 0, 1, (0, 0, 0)), (.invokevirtual 158, 3, (j_X12_becomes, 1, 0)), (.aload_n 0, 1, (0, 0, 0)), (.getfield 251, 3, (12, 18, 0)), (.ireturn, 1, (0, 0, 0))]
def p_X12_text : List (Nat × List ZN) := [(0, s_X12_text_0), (22, s_X12_text_22), (98, s_X12_text_98), (129, s_X12_text_129), (144, s_X12_text_144), (159, s_X12_text_159), (175, s_X12_text_175), (180, s_X12_text_180), (199, s_X12_text_199), (221, s_X12_text_221), (241, s_X12_text_241), (245, s_X12_text_245), (263, s_X12_text_263)]
def s_X12_fault_0 : List ZN := [(.aload_n 0, 1, (0, 0, 0)), (.iconst 0, 1, (0, 0, 0)), (.putfield 1, 3, (12, 0, 0)), (.iload_n 1, 1, (0, 0, 0)), (.ifCond .ne 10, 3, (16, 0, 0)), (.aload_n 0, 1, (0, 0, 0)), (.getfield 266, 3, (12, 21, 0)), (.goto 16, 3, (29, 0, 0))]
def s_X12_fault_16 : List ZN := [(.iload_n 1, 1, (0, 0, 0)), (.iconst 1, 1, (0, 0, 0)), (.if_icmp .ne 10, 3, (28, 0, 0)), (.aload_n 0, 1, (0, 0, 0)), (.getfield 41, 3, (12, 22, 0)), (.goto 4, 3, (29, 0, 0))]
def s_X12_fault_28 : List ZN := [(.iconst (-1), 1, (0, 0, 0)), (.nop, 0, (29, 0, 0))]
def s_X12_fault_29 : List ZN := [(.ireturn, 1, (0, 0, 0))]
def p_X12_fault : List (Nat × List ZN) := [(0, s_X12_fault_0), (16, s_X12_fault_16), (28, s_X12_fault_28), (29, s_X12_fault_29)]
def s_X12_isRoller_0 : List ZN := [(.iload_n 1, 1, (0, 0, 0)), (.ifCond .lt 18, 3, (19, 0, 0)), (.iload_n 1, 1, (0, 0, 0)), (.aload_n 0, 1, (0, 0, 0)), (.getfield 17, 3, (12, 3, 2)), (.bipush 6, 2, (0, 0, 0)), (.iaload, 1, (0, 0, 0)), (.if_icmp .ge 7, 3, (19, 0, 0)), (.iconst 1, 1, (0, 0, 0)), (.goto 4, 3, (20, 0, 0))]
def s_X12_isRoller_19 : List ZN := [(.iconst 0, 1, (0, 0, 0)), (.nop, 0, (20, 0, 0))]
def s_X12_isRoller_20 : List ZN := [(.ireturn, 1, (1, 0, 0))]
def p_X12_isRoller : List (Nat × List ZN) := [(0, s_X12_isRoller_0), (19, s_X12_isRoller_19), (20, s_X12_isRoller_20)]
def s_X12_isEye_0 : List ZN := [(.iload_n 1, 1, (0, 0, 0)), (.ifCond .lt 18, 3, (19, 0, 0)), (.iload_n 1, 1, (0, 0, 0)), (.aload_n 0, 1, (0, 0, 0)), (.getfield 17, 3, (12, 3, 2)), (.bipush 7, 2, (0, 0, 0)), (.iaload, 1, (0, 0, 0)), (.if_icmp .ge 7, 3, (19, 0, 0)), (.iconst 1, 1, (0, 0, 0)), (.goto 4, 3, (20, 0, 0))]
def s_X12_isEye_19 : List ZN := [(.iconst 0, 1, (0, 0, 0)), (.nop, 0, (20, 0, 0))]
def s_X12_isEye_20 : List ZN := [(.ireturn, 1, (1, 0, 0))]
def p_X12_isEye : List (Nat × List ZN) := [(0, s_X12_isEye_0), (19, s_X12_isEye_19), (20, s_X12_isEye_20)]
def s_X12_set_0 : List ZN := [(.aload_n 0, 1, (0, 0, 0)), (.iconst 0, 1, (0, 0, 0)), (.putfield 1, 3, (12, 0, 0)), (.aload_n 0, 1, (0, 0, 0)), (.iload_n 1, 1, (0, 0, 0)), (.invokevirtual 269, 3, (j_X12_isRoller, 2, 0)), (.ifCond .eq 13, 3, (23, 0, 0)), (.iload_n 2, 1, (0, 0, 0)), (.i2l, 1, (0, 0, 0)), (.lconst 0, 1, (0, 0, 0)), (.lconst 1, 1, (0, 0, 0)), (.invokestatic 240, 3, (j_X12_within, 3, 0)), (.ifCond .ne 6, 3, (26, 0, 0)), (.nop, 0, (23, 0, 0))]
def s_X12_set_23 : List ZN := [(.bipush (-2), 2, (0, 0, 0)), (.ireturn, 1, (0, 0, 0))]
def s_X12_set_26 : List ZN := [(.iload_n 2, 1, (0, 0, 0)), (.ifCond .ne 18, 3, (45, 0, 0)), (.iload_n 3, 1, (0, 0, 0)), (.i2l, 1, (0, 0, 0)), (.lconst 0, 1, (0, 0, 0)), (.ldc2_w 272, 3, (0, 0, 1000)), (.invokestatic 240, 3, (j_X12_within, 3, 0)), (.ifCond .ne 27, 3, (66, 0, 0)), (.goto 21, 3, (63, 0, 0))]
def s_X12_set_45 : List ZN := [(.iload_n 3, 1, (0, 0, 0)), (.ifCond .eq 20, 3, (66, 0, 0)), (.iload_n 3, 1, (0, 0, 0)), (.i2l, 1, (0, 0, 0)), (.ldc2_w 274, 3, (0, 0, 2)), (.ldc2_w 276, 3, (0, 0, 20)), (.invokestatic 240, 3, (j_X12_within, 3, 0)), (.ifCond .ne 6, 3, (66, 0, 0)), (.nop, 0, (63, 0, 0))]
def s_X12_set_63 : List ZN := [(.bipush (-3), 2, (0, 0, 0)), (.ireturn, 1, (0, 0, 0))]
def s_X12_set_66 : List ZN := [(.iload_n 2, 1, (0, 0, 0)), (.ifCond .ne 12, 3, (79, 0, 0)), (.aload_n 0, 1, (0, 0, 0)), (.getfield 44, 3, (12, 23, 2)), (.iload_n 1, 1, (0, 0, 0)), (.iaload, 1, (0, 0, 0)), (.goto 9, 3, (85, 0, 0))]
def s_X12_set_79 : List ZN := [(.aload_n 0, 1, (0, 0, 0)), (.getfield 47, 3, (12, 24, 2)), (.iload_n 1, 1, (0, 0, 0)), (.iaload, 1, (0, 0, 0)), (.nop, 0, (85, 0, 0))]
def s_X12_set_85 : List ZN := [(.istore 4, 2, (0, 0, 0)), (.iload_n 2, 1, (0, 0, 0)), (.ifCond .ne 13, 3, (101, 0, 0)), (.aload_n 0, 1, (0, 0, 0)), (.getfield 44, 3, (12, 23, 2)), (.iload_n 1, 1, (0, 0, 0)), (.iload_n 3, 1, (0, 0, 0)), (.iastore, 1, (0, 0, 0)), (.goto 10, 3, (108, 0, 0))]
def s_X12_set_101 : List ZN := [(.aload_n 0, 1, (0, 0, 0)), (.getfield 47, 3, (12, 24, 2)), (.iload_n 1, 1, (0, 0, 0)), (.iload_n 3, 1, (0, 0, 0)), (.iastore, 1, (0, 0, 0)), (.nop, 0, (108, 0, 0))]
def s_X12_set_108 : List ZN := [(.iload 4, 2, (0, 0, 0)), (.ireturn, 1, (0, 0, 0))]
def p_X12_set : List (Nat × List ZN) := [(0, s_X12_set_0), (23, s_X12_set_23), (26, s_X12_set_26), (45, s_X12_set_45), (63, s_X12_set_63), (66, s_X12_set_66), (79, s_X12_set_79), (85, s_X12_set_85), (101, s_X12_set_101), (108, s_X12_set_108)]
def s_X12_cornerOf_0 : List ZN := [(.iconst 0, 1, (0, 0, 0)), (.istore_n 2, 1, (0, 0, 0)), (.nop, 0, (2, 0, 0))]
def s_X12_cornerOf_2 : List ZN := [(.iload_n 2, 1, (0, 0, 0)), (.aload_n 0, 1, (0, 0, 0)), (.getfield 171, 3, (12, 26, 0)), (.if_icmp .ge 21, 3, (28, 0, 0)), (.aload_n 0, 1, (0, 0, 0)), (.getfield 50, 3, (12, 25, 2)), (.iload_n 2, 1, (0, 0, 0)), (.iaload, 1, (0, 0, 0)), (.iload_n 1, 1, (0, 0, 0)), (.if_icmp .ne 5, 3, (22, 0, 0)), (.iload_n 2, 1, (0, 0, 0)), (.ireturn, 1, (0, 0, 0))]
def s_X12_cornerOf_22 : List ZN := [(.iinc 2 1, 3, (0, 0, 0)), (.goto (-23), 3, (2, 0, 0))]
def s_X12_cornerOf_28 : List ZN := [(.iconst (-1), 1, (0, 0, 0)), (.ireturn, 1, (0, 0, 0))]
def p_X12_cornerOf : List (Nat × List ZN) := [(0, s_X12_cornerOf_0), (2, s_X12_cornerOf_2), (22, s_X12_cornerOf_22), (28, s_X12_cornerOf_28)]
def s_X12_leaves_0 : List ZN := [(.aload_n 0, 1, (0, 0, 0)), (.getfield 171, 3, (12, 26, 0)), (.iconst 3, 1, (0, 0, 0)), (.if_icmp .eq 12, 3, (17, 0, 0)), (.aload_n 0, 1, (0, 0, 0)), (.iload_n 1, 1, (0, 0, 0)), (.invokevirtual 278, 3, (j_X12_cornerOf, 2, 0)), (.iconst (-1), 1, (0, 0, 0)), (.if_icmp .eq 5, 3, (19, 0, 0)), (.nop, 0, (17, 0, 0))]
def s_X12_leaves_17 : List ZN := [(.iconst 0, 1, (0, 0, 0)), (.ireturn, 1, (1, 0, 0))]
def s_X12_leaves_19 : List ZN := [(.aload_n 0, 1, (0, 0, 0)), (.getfield 50, 3, (12, 25, 2)), (.aload_n 0, 1, (0, 0, 0)), (.getfield 171, 3, (12, 26, 0)), (.iload_n 1, 1, (0, 0, 0)), (.iastore, 1, (0, 0, 0)), (.aload_n 0, 1, (0, 0, 0)), (.dup, 1, (0, 0, 0)), (.getfield 171, 3, (12, 26, 0)), (.iconst 1, 1, (0, 0, 0)), (.iadd, 1, (0, 0, 0)), (.putfield 171, 3, (12, 26, 0)), (.iconst 1, 1, (0, 0, 0)), (.ireturn, 1, (1, 0, 0))]
def p_X12_leaves : List (Nat × List ZN) := [(0, s_X12_leaves_0), (17, s_X12_leaves_17), (19, s_X12_leaves_19)]
def s_X12_corner_0 : List ZN := [(.aload_n 0, 1, (0, 0, 0)), (.iconst 0, 1, (0, 0, 0)), (.putfield 1, 3, (12, 0, 0)), (.iload_n 1, 1, (0, 0, 0)), (.i2l, 1, (0, 0, 0)), (.lconst 1, 1, (0, 0, 0)), (.aload_n 0, 1, (0, 0, 0)), (.getfield 17, 3, (12, 3, 2)), (.iconst 0, 1, (0, 0, 0)), (.iaload, 1, (0, 0, 0)), (.i2l, 1, (0, 0, 0)), (.invokestatic 240, 3, (j_X12_within, 3, 0)), (.ifCond .ne 5, 3, (23, 0, 0)), (.iconst 0, 1, (0, 0, 0)), (.ireturn, 1, (1, 0, 0))]
def s_X12_corner_23 : List ZN := [(.iload_n 2, 1, (0, 0, 0)), (.ifCond .eq 9, 3, (33, 0, 0)), (.aload_n 0, 1, (0, 0, 0)), (.iload_n 1, 1, (0, 0, 0)), (.invokevirtual 281, 3, (j_X12_leaves, 2, 0)), (.ireturn, 1, (1, 0, 0))]
def s_X12_corner_33 : List ZN := [(.aload_n 0, 1, (0, 0, 0)), (.iload_n 1, 1, (0, 0, 0)), (.invokevirtual 278, 3, (j_X12_cornerOf, 2, 0)), (.istore_n 3, 1, (0, 0, 0)), (.iload_n 3, 1, (0, 0, 0)), (.iconst (-1), 1, (0, 0, 0)), (.if_icmp .ne 5, 3, (46, 0, 0)), (.iconst 0, 1, (0, 0, 0)), (.ireturn, 1, (1, 0, 0))]
def s_X12_corner_46 : List ZN := [(.aload_n 0, 1, (0, 0, 0)), (.dup, 1, (0, 0, 0)), (.getfield 171, 3, (12, 26, 0)), (.iconst 1, 1, (0, 0, 0)), (.isub, 1, (0, 0, 0)), (.putfield 171, 3, (12, 26, 0)), (.aload_n 0, 1, (0, 0, 0)), (.getfield 50, 3, (12, 25, 2)), (.iload_n 3, 1, (0, 0, 0)), (.aload_n 0, 1, (0, 0, 0)), (.getfield 50, 3, (12, 25, 2)), (.aload_n 0, 1, (0, 0, 0)), (.getfield 171, 3, (12, 26, 0)), (.iaload, 1, (0, 0, 0)), (.iastore, 1, (0, 0, 0)), (.iconst 1, 1, (0, 0, 0)), (.ireturn, 1, (1, 0, 0))]
def p_X12_corner : List (Nat × List ZN) := [(0, s_X12_corner_0), (23, s_X12_corner_23), (33, s_X12_corner_33), (46, s_X12_corner_46)]
def s_X12_isGoing_0 : List ZN := [(.aload_n 0, 1, (0, 0, 0)), (.getfield 62, 3, (12, 32, 2)), (.iload_n 1, 1, (0, 0, 0)), (.iaload, 1, (0, 0, 0)), (.ifCond .eq 13, 3, (19, 0, 0)), (.aload_n 0, 1, (0, 0, 0)), (.getfield 62, 3, (12, 32, 2)), (.iload_n 1, 1, (0, 0, 0)), (.iaload, 1, (0, 0, 0)), (.iconst 3, 1, (0, 0, 0)), (.if_icmp .ne 7, 3, (23, 0, 0)), (.nop, 0, (19, 0, 0))]
def s_X12_isGoing_19 : List ZN := [(.iconst 1, 1, (0, 0, 0)), (.goto 4, 3, (24, 0, 0))]
def s_X12_isGoing_23 : List ZN := [(.iconst 0, 1, (0, 0, 0)), (.nop, 0, (24, 0, 0))]
def s_X12_isGoing_24 : List ZN := [(.ireturn, 1, (1, 0, 0))]
def p_X12_isGoing : List (Nat × List ZN) := [(0, s_X12_isGoing_0), (19, s_X12_isGoing_19), (23, s_X12_isGoing_23), (24, s_X12_isGoing_24)]
def s_X12_tail_0 : List ZN := [(.aload_n 0, 1, (0, 0, 0)), (.getfield 59, 3, (12, 31, 2)), (.iload_n 1, 1, (0, 0, 0)), (.iaload, 1, (0, 0, 0)), (.bipush 10, 2, (0, 0, 0)), (.aload_n 0, 1, (0, 0, 0)), (.getfield 56, 3, (12, 30, 2)), (.iload_n 1, 1, (0, 0, 0)), (.iaload, 1, (0, 0, 0)), (.imul, 1, (0, 0, 0)), (.isub, 1, (0, 0, 0)), (.ireturn, 1, (0, 0, 0))]
def p_X12_tail : List (Nat × List ZN) := [(0, s_X12_tail_0)]
def s_X12_isOver_0 : List ZN := [(.iconst 0, 1, (0, 0, 0)), (.istore_n 3, 1, (0, 0, 0)), (.nop, 0, (2, 0, 0))]
def s_X12_isOver_2 : List ZN := [(.iload_n 3, 1, (0, 0, 0)), (.aload_n 0, 1, (0, 0, 0)), (.getfield 174, 3, (12, 27, 0)), (.if_icmp .ge 43, 3, (50, 0, 0)), (.aload_n 0, 1, (0, 0, 0)), (.iload_n 3, 1, (0, 0, 0)), (.invokevirtual 284, 3, (j_X12_isGoing, 2, 0)), (.ifCond .eq 29, 3, (44, 0, 0)), (.iload_n 1, 1, (0, 0, 0)), (.aload_n 0, 1, (0, 0, 0)), (.iload_n 3, 1, (0, 0, 0)), (.invokevirtual 287, 3, (j_X12_tail, 2, 0)), (.if_icmp .le 20, 3, (44, 0, 0)), (.aload_n 0, 1, (0, 0, 0)), (.getfield 59, 3, (12, 31, 2)), (.iload_n 3, 1, (0, 0, 0)), (.iaload, 1, (0, 0, 0)), (.iload_n 1, 1, (0, 0, 0)), (.bipush 10, 2, (0, 0, 0)), (.iload_n 2, 1, (0, 0, 0)), (.imul, 1, (0, 0, 0)), (.isub, 1, (0, 0, 0)), (.if_icmp .le 5, 3, (44, 0, 0)), (.iconst 1, 1, (0, 0, 0)), (.ireturn, 1, (1, 0, 0))]
def s_X12_isOver_44 : List ZN := [(.iinc 3 1, 3, (0, 0, 0)), (.goto (-45), 3, (2, 0, 0))]
def s_X12_isOver_50 : List ZN := [(.iconst 0, 1, (0, 0, 0)), (.ireturn, 1, (1, 0, 0))]
def p_X12_isOver : List (Nat × List ZN) := [(0, s_X12_isOver_0), (2, s_X12_isOver_2), (44, s_X12_isOver_44), (50, s_X12_isOver_50)]
def s_X12_lay_0 : List ZN := [(.aload_n 0, 1, (0, 0, 0)), (.iconst 0, 1, (0, 0, 0)), (.putfield 1, 3, (12, 0, 0)), (.iload_n 1, 1, (0, 0, 0)), (.i2l, 1, (0, 0, 0)), (.ldc2_w 290, 3, (0, 0, 10)), (.ldc2_w 292, 3, (0, 0, 60)), (.invokestatic 240, 3, (j_X12_within, 3, 0)), (.ifCond .ne 6, 3, (22, 0, 0)), (.bipush (-3), 2, (0, 0, 0)), (.ireturn, 1, (0, 0, 0))]
def s_X12_lay_22 : List ZN := [(.aload_n 0, 1, (0, 0, 0)), (.getfield 174, 3, (12, 27, 0)), (.bipush 40, 2, (0, 0, 0)), (.if_icmp .ne 6, 3, (34, 0, 0)), (.bipush (-4), 2, (0, 0, 0)), (.ireturn, 1, (0, 0, 0))]
def s_X12_lay_34 : List ZN := [(.iload_n 2, 1, (0, 0, 0)), (.ifCond .eq 12, 3, (47, 0, 0)), (.aload_n 0, 1, (0, 0, 0)), (.getfield 17, 3, (12, 3, 2)), (.iconst 1, 1, (0, 0, 0)), (.iaload, 1, (0, 0, 0)), (.ifCond .eq 38, 3, (82, 0, 0)), (.nop, 0, (47, 0, 0))]
def s_X12_lay_47 : List ZN := [(.aload_n 0, 1, (0, 0, 0)), (.getfield 17, 3, (12, 3, 2)), (.bipush 6, 2, (0, 0, 0)), (.iaload, 1, (0, 0, 0)), (.ifCond .eq 28, 3, (82, 0, 0)), (.aload_n 0, 1, (0, 0, 0)), (.getfield 53, 3, (12, 29, 0)), (.iconst (-1), 1, (0, 0, 0)), (.if_icmp .ne 20, 3, (82, 0, 0)), (.aload_n 0, 1, (0, 0, 0)), (.bipush 10, 2, (0, 0, 0)), (.aload_n 0, 1, (0, 0, 0)), (.getfield 23, 3, (12, 5, 2)), (.iconst 0, 1, (0, 0, 0)), (.iaload, 1, (0, 0, 0)), (.imul, 1, (0, 0, 0)), (.iload_n 1, 1, (0, 0, 0)), (.invokevirtual 294, 3, (j_X12_isOver, 3, 0)), (.ifCond .eq 6, 3, (85, 0, 0)), (.nop, 0, (82, 0, 0))]
def s_X12_lay_82 : List ZN := [(.bipush (-5), 2, (0, 0, 0)), (.ireturn, 1, (0, 0, 0))]
def s_X12_lay_85 : List ZN := [(.aload_n 0, 1, (0, 0, 0)), (.getfield 56, 3, (12, 30, 2)), (.aload_n 0, 1, (0, 0, 0)), (.getfield 174, 3, (12, 27, 0)), (.iload_n 1, 1, (0, 0, 0)), (.iastore, 1, (0, 0, 0)), (.aload_n 0, 1, (0, 0, 0)), (.getfield 59, 3, (12, 31, 2)), (.aload_n 0, 1, (0, 0, 0)), (.getfield 174, 3, (12, 27, 0)), (.bipush 10, 2, (0, 0, 0)), (.aload_n 0, 1, (0, 0, 0)), (.getfield 23, 3, (12, 5, 2)), (.iconst 0, 1, (0, 0, 0)), (.iaload, 1, (0, 0, 0)), (.imul, 1, (0, 0, 0)), (.iastore, 1, (0, 0, 0)), (.aload_n 0, 1, (0, 0, 0)), (.getfield 62, 3, (12, 32, 2)), (.aload_n 0, 1, (0, 0, 0)), (.getfield 174, 3, (12, 27, 0)), (.iconst 0, 1, (0, 0, 0)), (.iastore, 1, (0, 0, 0)), (.aload_n 0, 1, (0, 0, 0)), (.getfield 65, 3, (12, 33, 2)), (.aload_n 0, 1, (0, 0, 0)), (.getfield 174, 3, (12, 27, 0)), (.iconst 1, 1, (0, 0, 0)), (.iastore, 1, (0, 0, 0)), (.aload_n 0, 1, (0, 0, 0)), (.getfield 68, 3, (12, 34, 2)), (.aload_n 0, 1, (0, 0, 0)), (.getfield 174, 3, (12, 27, 0)), (.iconst 0, 1, (0, 0, 0)), (.iastore, 1, (0, 0, 0)), (.aload_n 0, 1, (0, 0, 0)), (.getfield 71, 3, (12, 35, 2)), (.aload_n 0, 1, (0, 0, 0)), (.getfield 174, 3, (12, 27, 0)), (.iconst 0, 1, (0, 0, 0)), (.iastore, 1, (0, 0, 0)), (.aload_n 0, 1, (0, 0, 0)), (.getfield 74, 3, (12, 36, 2)), (.aload_n 0, 1, (0, 0, 0)), (.getfield 174, 3, (12, 27, 0)), (.iload_n 2, 1, (0, 0, 0)), (.bastore, 1, (0, 0, 0)), (.aload_n 0, 1, (0, 0, 0)), (.dup, 1, (0, 0, 0)), (.getfield 174, 3, (12, 27, 0)), (.iconst 1, 1, (0, 0, 0)), (.iadd, 1, (0, 0, 0)), (.putfield 174, 3, (12, 27, 0)), (.aload_n 0, 1, (0, 0, 0)), (.getfield 174, 3, (12, 27, 0)), (.iconst 1, 1, (0, 0, 0)), (.isub, 1, (0, 0, 0)), (.ireturn, 1, (0, 0, 0))]
def p_X12_lay : List (Nat × List ZN) := [(0, s_X12_lay_0), (22, s_X12_lay_22), (34, s_X12_lay_34), (47, s_X12_lay_47), (82, s_X12_lay_82), (85, s_X12_lay_85)]
def s_X12_drive_0 : List ZN := [(.iconst 0, 1, (0, 0, 0)), (.istore 6, 2, (0, 0, 0)), (.iconst 0, 1, (0, 0, 0)), (.istore 7, 2, (0, 0, 0)), (.nop, 0, (6, 0, 0))]
def s_X12_drive_6 : List ZN := [(.iload 7, 2, (0, 0, 0)), (.aload_n 0, 1, (0, 0, 0)), (.getfield 17, 3, (12, 3, 2)), (.bipush 6, 2, (0, 0, 0)), (.iaload, 1, (0, 0, 0)), (.if_icmp .ge 116, 3, (131, 0, 0)), (.bipush 10, 2, (0, 0, 0)), (.aload_n 0, 1, (0, 0, 0)), (.getfield 23, 3, (12, 5, 2)), (.iload 7, 2, (0, 0, 0)), (.iaload, 1, (0, 0, 0)), (.imul, 1, (0, 0, 0)), (.istore 8, 2, (0, 0, 0)), (.iload 8, 2, (0, 0, 0)), (.iload_n 2, 1, (0, 0, 0)), (.if_icmp .le 92, 3, (125, 0, 0)), (.iload 8, 2, (0, 0, 0)), (.iload_n 1, 1, (0, 0, 0)), (.if_icmp .gt 86, 3, (125, 0, 0)), (.aload 5, 2, (0, 0, 0)), (.iload 7, 2, (0, 0, 0)), (.iaload, 1, (0, 0, 0)), (.ifCond .le 16, 3, (63, 0, 0)), (.iload_n 3, 1, (0, 0, 0)), (.aload 5, 2, (0, 0, 0)), (.iload 7, 2, (0, 0, 0)), (.iaload, 1, (0, 0, 0)), (.irem, 1, (0, 0, 0)), (.ifCond .ne 6, 3, (63, 0, 0)), (.goto 65, 3, (125, 0, 0))]
def s_X12_drive_63 : List ZN := [(.sipush 1000, 3, (0, 0, 0)), (.aload 4, 2, (0, 0, 0)), (.iload 7, 2, (0, 0, 0)), (.iaload, 1, (0, 0, 0)), (.isub, 1, (0, 0, 0)), (.aload_n 0, 1, (0, 0, 0)), (.getfield 17, 3, (12, 3, 2)), (.iconst 5, 1, (0, 0, 0)), (.iaload, 1, (0, 0, 0)), (.isub, 1, (0, 0, 0)), (.istore 9, 2, (0, 0, 0)), (.iload 9, 2, (0, 0, 0)), (.ifCond .gt 7, 3, (90, 0, 0)), (.iconst 0, 1, (0, 0, 0)), (.goto 20, 3, (107, 0, 0))]
def s_X12_drive_90 : List ZN := [(.bipush 10, 2, (0, 0, 0)), (.aload_n 0, 1, (0, 0, 0)), (.getfield 26, 3, (12, 6, 2)), (.iload 7, 2, (0, 0, 0)), (.iaload, 1, (0, 0, 0)), (.imul, 1, (0, 0, 0)), (.iload 9, 2, (0, 0, 0)), (.imul, 1, (0, 0, 0)), (.sipush 1000, 3, (0, 0, 0)), (.idiv, 1, (0, 0, 0)), (.nop, 0, (107, 0, 0))]
def s_X12_drive_107 : List ZN := [(.istore 10, 2, (0, 0, 0)), (.iload 10, 2, (0, 0, 0)), (.iload 6, 2, (0, 0, 0)), (.if_icmp .le 8, 3, (121, 0, 0)), (.iload 10, 2, (0, 0, 0)), (.goto 5, 3, (123, 0, 0))]
def s_X12_drive_121 : List ZN := [(.iload 6, 2, (0, 0, 0)), (.nop, 0, (123, 0, 0))]
def s_X12_drive_123 : List ZN := [(.istore 6, 2, (0, 0, 0)), (.nop, 0, (125, 0, 0))]
def s_X12_drive_125 : List ZN := [(.iinc 7 1, 3, (0, 0, 0)), (.goto (-122), 3, (6, 0, 0))]
def s_X12_drive_131 : List ZN := [(.iload 6, 2, (0, 0, 0)), (.ireturn, 1, (0, 0, 0))]
def p_X12_drive : List (Nat × List ZN) := [(0, s_X12_drive_0), (6, s_X12_drive_6), (63, s_X12_drive_63), (90, s_X12_drive_90), (107, s_X12_drive_107), (121, s_X12_drive_121), (123, s_X12_drive_123), (125, s_X12_drive_125), (131, s_X12_drive_131)]
def s_X12_bound_0 : List ZN := [(.iload_n 1, 1, (0, 0, 0)), (.istore 4, 2, (0, 0, 0)), (.iconst 0, 1, (0, 0, 0)), (.istore 5, 2, (0, 0, 0)), (.nop, 0, (6, 0, 0))]
def s_X12_bound_6 : List ZN := [(.iload 5, 2, (0, 0, 0)), (.iload_n 3, 1, (0, 0, 0)), (.if_icmp .ge 41, 3, (50, 0, 0)), (.bipush 10, 2, (0, 0, 0)), (.aload_n 2, 1, (0, 0, 0)), (.iload 5, 2, (0, 0, 0)), (.iaload, 1, (0, 0, 0)), (.imul, 1, (0, 0, 0)), (.iload_n 0, 1, (0, 0, 0)), (.if_icmp .lt 24, 3, (44, 0, 0)), (.bipush 10, 2, (0, 0, 0)), (.aload_n 2, 1, (0, 0, 0)), (.iload 5, 2, (0, 0, 0)), (.iaload, 1, (0, 0, 0)), (.imul, 1, (0, 0, 0)), (.iload 4, 2, (0, 0, 0)), (.if_icmp .ge 12, 3, (44, 0, 0)), (.bipush 10, 2, (0, 0, 0)), (.aload_n 2, 1, (0, 0, 0)), (.iload 5, 2, (0, 0, 0)), (.iaload, 1, (0, 0, 0)), (.imul, 1, (0, 0, 0)), (.istore 4, 2, (0, 0, 0)), (.nop, 0, (44, 0, 0))]
def s_X12_bound_44 : List ZN := [(.iinc 5 1, 3, (0, 0, 0)), (.goto (-41), 3, (6, 0, 0))]
def s_X12_bound_50 : List ZN := [(.iload 4, 2, (0, 0, 0)), (.ireturn, 1, (0, 0, 0))]
def p_X12_bound : List (Nat × List ZN) := [(0, s_X12_bound_0), (6, s_X12_bound_6), (44, s_X12_bound_44), (50, s_X12_bound_50)]
def s_X12_ahead_0 : List ZN := [(.iconst (-1), 1, (0, 0, 0)), (.istore_n 2, 1, (0, 0, 0)), (.iconst 0, 1, (0, 0, 0)), (.istore_n 3, 1, (0, 0, 0)), (.nop, 0, (4, 0, 0))]
def s_X12_ahead_4 : List ZN := [(.iload_n 3, 1, (0, 0, 0)), (.aload_n 0, 1, (0, 0, 0)), (.getfield 174, 3, (12, 27, 0)), (.if_icmp .ge 60, 3, (69, 0, 0)), (.aload_n 0, 1, (0, 0, 0)), (.getfield 62, 3, (12, 32, 2)), (.iload_n 3, 1, (0, 0, 0)), (.iaload, 1, (0, 0, 0)), (.ifCond .ne 45, 3, (63, 0, 0)), (.iload_n 3, 1, (0, 0, 0)), (.iload_n 1, 1, (0, 0, 0)), (.if_icmp .eq 40, 3, (63, 0, 0)), (.aload_n 0, 1, (0, 0, 0)), (.getfield 59, 3, (12, 31, 2)), (.iload_n 3, 1, (0, 0, 0)), (.iaload, 1, (0, 0, 0)), (.aload_n 0, 1, (0, 0, 0)), (.getfield 59, 3, (12, 31, 2)), (.iload_n 1, 1, (0, 0, 0)), (.iaload, 1, (0, 0, 0)), (.if_icmp .le 25, 3, (63, 0, 0)), (.iload_n 2, 1, (0, 0, 0)), (.iconst (-1), 1, (0, 0, 0)), (.if_icmp .eq 18, 3, (61, 0, 0)), (.aload_n 0, 1, (0, 0, 0)), (.getfield 59, 3, (12, 31, 2)), (.iload_n 3, 1, (0, 0, 0)), (.iaload, 1, (0, 0, 0)), (.aload_n 0, 1, (0, 0, 0)), (.getfield 59, 3, (12, 31, 2)), (.iload_n 2, 1, (0, 0, 0)), (.iaload, 1, (0, 0, 0)), (.if_icmp .ge 5, 3, (63, 0, 0)), (.nop, 0, (61, 0, 0))]
def s_X12_ahead_61 : List ZN := [(.iload_n 3, 1, (0, 0, 0)), (.istore_n 2, 1, (0, 0, 0)), (.nop, 0, (63, 0, 0))]
def s_X12_ahead_63 : List ZN := [(.iinc 3 1, 3, (0, 0, 0)), (.goto (-62), 3, (4, 0, 0))]
def s_X12_ahead_69 : List ZN := [(.iload_n 2, 1, (0, 0, 0)), (.ireturn, 1, (0, 0, 0))]
def p_X12_ahead : List (Nat × List ZN) := [(0, s_X12_ahead_0), (4, s_X12_ahead_4), (61, s_X12_ahead_61), (63, s_X12_ahead_63), (69, s_X12_ahead_69)]
def s_X12_inPocket_0 : List ZN := [(.iconst 0, 1, (0, 0, 0)), (.istore_n 1, 1, (0, 0, 0)), (.iconst 0, 1, (0, 0, 0)), (.istore_n 2, 1, (0, 0, 0)), (.nop, 0, (4, 0, 0))]
def s_X12_inPocket_4 : List ZN := [(.iload_n 2, 1, (0, 0, 0)), (.aload_n 0, 1, (0, 0, 0)), (.getfield 174, 3, (12, 27, 0)), (.if_icmp .ge 27, 3, (36, 0, 0)), (.iload_n 1, 1, (0, 0, 0)), (.aload_n 0, 1, (0, 0, 0)), (.getfield 62, 3, (12, 32, 2)), (.iload_n 2, 1, (0, 0, 0)), (.iaload, 1, (0, 0, 0)), (.iconst 1, 1, (0, 0, 0)), (.if_icmp .ne 7, 3, (27, 0, 0)), (.iconst 1, 1, (0, 0, 0)), (.goto 4, 3, (28, 0, 0))]
def s_X12_inPocket_27 : List ZN := [(.iconst 0, 1, (0, 0, 0)), (.nop, 0, (28, 0, 0))]
def s_X12_inPocket_28 : List ZN := [(.iadd, 1, (0, 0, 0)), (.istore_n 1, 1, (0, 0, 0)), (.iinc 2 1, 3, (0, 0, 0)), (.goto (-29), 3, (4, 0, 0))]
def s_X12_inPocket_36 : List ZN := [(.iload_n 1, 1, (0, 0, 0)), (.ireturn, 1, (0, 0, 0))]
def p_X12_inPocket : List (Nat × List ZN) := [(0, s_X12_inPocket_0), (4, s_X12_inPocket_4), (27, s_X12_inPocket_27), (28, s_X12_inPocket_28), (36, s_X12_inPocket_36)]
def s_X12_waits_0 : List ZN := [(.aload_n 0, 1, (0, 0, 0)), (.getfield 74, 3, (12, 36, 2)), (.iload_n 1, 1, (0, 0, 0)), (.baload, 1, (0, 0, 0)), (.ifCond .eq 34, 3, (40, 0, 0)), (.aload_n 0, 1, (0, 0, 0)), (.getfield 65, 3, (12, 33, 2)), (.iload_n 1, 1, (0, 0, 0)), (.iaload, 1, (0, 0, 0)), (.iconst 1, 1, (0, 0, 0)), (.if_icmp .ne 24, 3, (40, 0, 0)), (.aload_n 0, 1, (0, 0, 0)), (.iload_n 1, 1, (0, 0, 0)), (.invokevirtual 287, 3, (j_X12_tail, 2, 0)), (.bipush 10, 2, (0, 0, 0)), (.aload_n 0, 1, (0, 0, 0)), (.getfield 17, 3, (12, 3, 2)), (.iconst 1, 1, (0, 0, 0)), (.iaload, 1, (0, 0, 0)), (.imul, 1, (0, 0, 0)), (.if_icmp .lt 7, 3, (40, 0, 0)), (.iconst 1, 1, (0, 0, 0)), (.goto 4, 3, (41, 0, 0))]
def s_X12_waits_40 : List ZN := [(.iconst 0, 1, (0, 0, 0)), (.nop, 0, (41, 0, 0))]
def s_X12_waits_41 : List ZN := [(.ireturn, 1, (1, 0, 0))]
def p_X12_waits : List (Nat × List ZN) := [(0, s_X12_waits_0), (40, s_X12_waits_40), (41, s_X12_waits_41)]
def s_X12_waitsNow_0 : List ZN := [(.aload_n 0, 1, (0, 0, 0)), (.getfield 68, 3, (12, 34, 2)), (.iload_n 1, 1, (0, 0, 0)), (.iconst 0, 1, (0, 0, 0)), (.iastore, 1, (0, 0, 0)), (.aload_n 0, 1, (0, 0, 0)), (.invokevirtual 298, 3, (j_X12_inPocket, 1, 0)), (.aload_n 0, 1, (0, 0, 0)), (.getfield 17, 3, (12, 3, 2)), (.iconst 3, 1, (0, 0, 0)), (.iaload, 1, (0, 0, 0)), (.if_icmp .ne 4, 3, (21, 0, 0)), (.return_, 1, (0, 0, 0))]
def s_X12_waitsNow_21 : List ZN := [(.aload_n 0, 1, (0, 0, 0)), (.getfield 62, 3, (12, 32, 2)), (.iload_n 1, 1, (0, 0, 0)), (.iconst 1, 1, (0, 0, 0)), (.iastore, 1, (0, 0, 0)), (.aload_n 0, 1, (0, 0, 0)), (.getfield 71, 3, (12, 35, 2)), (.iload_n 1, 1, (0, 0, 0)), (.aload_n 0, 1, (0, 0, 0)), (.getfield 177, 3, (12, 28, 0)), (.iastore, 1, (0, 0, 0)), (.return_, 1, (0, 0, 0))]
def p_X12_waitsNow : List (Nat × List ZN) := [(0, s_X12_waitsNow_0), (21, s_X12_waitsNow_21)]
def s_X12_goes_0 : List ZN := [(.aload_n 0, 1, (0, 0, 0)), (.iload_n 1, 1, (0, 0, 0)), (.invokevirtual 301, 3, (j_X12_waits, 2, 0)), (.ifCond .eq 9, 3, (14, 0, 0)), (.aload_n 0, 1, (0, 0, 0)), (.iload_n 1, 1, (0, 0, 0)), (.invokevirtual 304, 3, (j_X12_waitsNow, 2, 0)), (.return_, 1, (0, 0, 0))]
def s_X12_goes_14 : List ZN := [(.aload_n 0, 1, (0, 0, 0)), (.getfield 59, 3, (12, 31, 2)), (.iload_n 1, 1, (0, 0, 0)), (.iaload, 1, (0, 0, 0)), (.aload_n 0, 1, (0, 0, 0)), (.getfield 59, 3, (12, 31, 2)), (.iload_n 1, 1, (0, 0, 0)), (.iaload, 1, (0, 0, 0)), (.aload_n 0, 1, (0, 0, 0)), (.aload_n 0, 1, (0, 0, 0)), (.getfield 59, 3, (12, 31, 2)), (.iload_n 1, 1, (0, 0, 0)), (.iaload, 1, (0, 0, 0)), (.aload_n 0, 1, (0, 0, 0)), (.iload_n 1, 1, (0, 0, 0)), (.invokevirtual 287, 3, (j_X12_tail, 2, 0)), (.aload_n 0, 1, (0, 0, 0)), (.getfield 177, 3, (12, 28, 0)), (.aload_n 0, 1, (0, 0, 0)), (.getfield 44, 3, (12, 23, 2)), (.aload_n 0, 1, (0, 0, 0)), (.getfield 47, 3, (12, 24, 2)), (.invokevirtual 307, 3, (j_X12_drive, 6, 0)), (.iadd, 1, (0, 0, 0)), (.aload_n 0, 1, (0, 0, 0)), (.getfield 50, 3, (12, 25, 2)), (.aload_n 0, 1, (0, 0, 0)), (.getfield 171, 3, (12, 26, 0)), (.invokestatic 311, 3, (j_X12_bound, 4, 0)), (.istore_n 2, 1, (0, 0, 0)), (.aload_n 0, 1, (0, 0, 0)), (.iload_n 1, 1, (0, 0, 0)), (.invokevirtual 315, 3, (j_X12_ahead, 2, 0)), (.istore_n 3, 1, (0, 0, 0)), (.iload_n 3, 1, (0, 0, 0)), (.iconst (-1), 1, (0, 0, 0)), (.if_icmp .eq 18, 3, (92, 0, 0)), (.aload_n 0, 1, (0, 0, 0)), (.iload_n 3, 1, (0, 0, 0)), (.invokevirtual 287, 3, (j_X12_tail, 2, 0)), (.iload_n 2, 1, (0, 0, 0)), (.if_icmp .ge 9, 3, (92, 0, 0)), (.aload_n 0, 1, (0, 0, 0)), (.iload_n 3, 1, (0, 0, 0)), (.invokevirtual 287, 3, (j_X12_tail, 2, 0)), (.istore_n 2, 1, (0, 0, 0)), (.nop, 0, (92, 0, 0))]
def s_X12_goes_92 : List ZN := [(.iload_n 2, 1, (0, 0, 0)), (.aload_n 0, 1, (0, 0, 0)), (.getfield 59, 3, (12, 31, 2)), (.iload_n 1, 1, (0, 0, 0)), (.iaload, 1, (0, 0, 0)), (.if_icmp .gt 16, 3, (115, 0, 0)), (.aload_n 0, 1, (0, 0, 0)), (.getfield 68, 3, (12, 34, 2)), (.iload_n 1, 1, (0, 0, 0)), (.dup2, 1, (0, 0, 0)), (.iaload, 1, (0, 0, 0)), (.iconst 1, 1, (0, 0, 0)), (.iadd, 1, (0, 0, 0)), (.iastore, 1, (0, 0, 0)), (.goto 17, 3, (129, 0, 0))]
def s_X12_goes_115 : List ZN := [(.aload_n 0, 1, (0, 0, 0)), (.getfield 59, 3, (12, 31, 2)), (.iload_n 1, 1, (0, 0, 0)), (.iload_n 2, 1, (0, 0, 0)), (.iastore, 1, (0, 0, 0)), (.aload_n 0, 1, (0, 0, 0)), (.getfield 68, 3, (12, 34, 2)), (.iload_n 1, 1, (0, 0, 0)), (.iconst 0, 1, (0, 0, 0)), (.iastore, 1, (0, 0, 0)), (.nop, 0, (129, 0, 0))]
def s_X12_goes_129 : List ZN := [(.aload_n 0, 1, (0, 0, 0)), (.iload_n 1, 1, (0, 0, 0)), (.invokevirtual 301, 3, (j_X12_waits, 2, 0)), (.ifCond .eq 8, 3, (142, 0, 0)), (.aload_n 0, 1, (0, 0, 0)), (.iload_n 1, 1, (0, 0, 0)), (.invokevirtual 304, 3, (j_X12_waitsNow, 2, 0)), (.nop, 0, (142, 0, 0))]
def s_X12_goes_142 : List ZN := [(.aload_n 0, 1, (0, 0, 0)), (.getfield 62, 3, (12, 32, 2)), (.iload_n 1, 1, (0, 0, 0)), (.iaload, 1, (0, 0, 0)), (.ifCond .ne 27, 3, (175, 0, 0)), (.aload_n 0, 1, (0, 0, 0)), (.iload_n 1, 1, (0, 0, 0)), (.invokevirtual 287, 3, (j_X12_tail, 2, 0)), (.bipush 10, 2, (0, 0, 0)), (.aload_n 0, 1, (0, 0, 0)), (.getfield 17, 3, (12, 3, 2)), (.iconst 0, 1, (0, 0, 0)), (.iaload, 1, (0, 0, 0)), (.imul, 1, (0, 0, 0)), (.if_icmp .lt 10, 3, (175, 0, 0)), (.aload_n 0, 1, (0, 0, 0)), (.getfield 62, 3, (12, 32, 2)), (.iload_n 1, 1, (0, 0, 0)), (.iconst 2, 1, (0, 0, 0)), (.iastore, 1, (0, 0, 0)), (.nop, 0, (175, 0, 0))]
def s_X12_goes_175 : List ZN := [(.return_, 1, (0, 0, 0))]
def p_X12_goes : List (Nat × List ZN) := [(0, s_X12_goes_0), (14, s_X12_goes_14), (92, s_X12_goes_92), (115, s_X12_goes_115), (129, s_X12_goes_129), (142, s_X12_goes_142), (175, s_X12_goes_175)]
def s_X12_ticks_0 : List ZN := [(.aload_n 0, 1, (0, 0, 0)), (.dup, 1, (0, 0, 0)), (.getfield 177, 3, (12, 28, 0)), (.iconst 1, 1, (0, 0, 0)), (.iadd, 1, (0, 0, 0)), (.putfield 177, 3, (12, 28, 0)), (.iconst 0, 1, (0, 0, 0)), (.istore_n 1, 1, (0, 0, 0)), (.nop, 0, (12, 0, 0))]
def s_X12_ticks_12 : List ZN := [(.iload_n 1, 1, (0, 0, 0)), (.aload_n 0, 1, (0, 0, 0)), (.getfield 174, 3, (12, 27, 0)), (.if_icmp .ge 29, 3, (46, 0, 0)), (.aload_n 0, 1, (0, 0, 0)), (.getfield 102, 3, (12, 45, 2)), (.iload_n 1, 1, (0, 0, 0)), (.aload_n 0, 1, (0, 0, 0)), (.getfield 62, 3, (12, 32, 2)), (.iload_n 1, 1, (0, 0, 0)), (.iaload, 1, (0, 0, 0)), (.ifCond .eq 7, 3, (38, 0, 0)), (.iconst 1, 1, (0, 0, 0)), (.goto 4, 3, (39, 0, 0))]
def s_X12_ticks_38 : List ZN := [(.iconst 0, 1, (0, 0, 0)), (.nop, 0, (39, 0, 0))]
def s_X12_ticks_39 : List ZN := [(.bastore, 1, (0, 0, 0)), (.iinc 1 1, 3, (0, 0, 0)), (.goto (-31), 3, (12, 0, 0))]
def s_X12_ticks_46 : List ZN := [(.iconst 1, 1, (0, 0, 0)), (.istore_n 1, 1, (0, 0, 0)), (.nop, 0, (48, 0, 0))]
def s_X12_ticks_48 : List ZN := [(.iload_n 1, 1, (0, 0, 0)), (.ifCond .eq 85, 3, (134, 0, 0)), (.iconst (-1), 1, (0, 0, 0)), (.istore_n 2, 1, (0, 0, 0)), (.iconst 0, 1, (0, 0, 0)), (.istore_n 3, 1, (0, 0, 0)), (.nop, 0, (56, 0, 0))]
def s_X12_ticks_56 : List ZN := [(.iload_n 3, 1, (0, 0, 0)), (.aload_n 0, 1, (0, 0, 0)), (.getfield 174, 3, (12, 27, 0)), (.if_icmp .ge 40, 3, (101, 0, 0)), (.aload_n 0, 1, (0, 0, 0)), (.getfield 102, 3, (12, 45, 2)), (.iload_n 3, 1, (0, 0, 0)), (.baload, 1, (0, 0, 0)), (.ifCond .ne 25, 3, (95, 0, 0)), (.iload_n 2, 1, (0, 0, 0)), (.iconst (-1), 1, (0, 0, 0)), (.if_icmp .eq 18, 3, (93, 0, 0)), (.aload_n 0, 1, (0, 0, 0)), (.getfield 59, 3, (12, 31, 2)), (.iload_n 3, 1, (0, 0, 0)), (.iaload, 1, (0, 0, 0)), (.aload_n 0, 1, (0, 0, 0)), (.getfield 59, 3, (12, 31, 2)), (.iload_n 2, 1, (0, 0, 0)), (.iaload, 1, (0, 0, 0)), (.if_icmp .le 5, 3, (95, 0, 0)), (.nop, 0, (93, 0, 0))]
def s_X12_ticks_93 : List ZN := [(.iload_n 3, 1, (0, 0, 0)), (.istore_n 2, 1, (0, 0, 0)), (.nop, 0, (95, 0, 0))]
def s_X12_ticks_95 : List ZN := [(.iinc 3 1, 3, (0, 0, 0)), (.goto (-42), 3, (56, 0, 0))]
def s_X12_ticks_101 : List ZN := [(.iload_n 2, 1, (0, 0, 0)), (.iconst (-1), 1, (0, 0, 0)), (.if_icmp .eq 7, 3, (110, 0, 0)), (.iconst 1, 1, (0, 0, 0)), (.goto 4, 3, (111, 0, 0))]
def s_X12_ticks_110 : List ZN := [(.iconst 0, 1, (0, 0, 0)), (.nop, 0, (111, 0, 0))]
def s_X12_ticks_111 : List ZN := [(.istore_n 1, 1, (0, 0, 0)), (.iload_n 1, 1, (0, 0, 0)), (.ifCond .ne 6, 3, (119, 0, 0)), (.goto (-68), 3, (48, 0, 0))]
def s_X12_ticks_119 : List ZN := [(.aload_n 0, 1, (0, 0, 0)), (.getfield 102, 3, (12, 45, 2)), (.iload_n 2, 1, (0, 0, 0)), (.iconst 1, 1, (0, 0, 0)), (.bastore, 1, (0, 0, 0)), (.aload_n 0, 1, (0, 0, 0)), (.iload_n 2, 1, (0, 0, 0)), (.invokevirtual 318, 3, (j_X12_goes, 2, 0)), (.goto (-83), 3, (48, 0, 0))]
def s_X12_ticks_134 : List ZN := [(.iconst 0, 1, (0, 0, 0)), (.istore_n 2, 1, (0, 0, 0)), (.nop, 0, (136, 0, 0))]
def s_X12_ticks_136 : List ZN := [(.iload_n 2, 1, (0, 0, 0)), (.aload_n 0, 1, (0, 0, 0)), (.getfield 174, 3, (12, 27, 0)), (.if_icmp .ge 59, 3, (200, 0, 0)), (.aload_n 0, 1, (0, 0, 0)), (.getfield 62, 3, (12, 32, 2)), (.iload_n 2, 1, (0, 0, 0)), (.iaload, 1, (0, 0, 0)), (.ifCond .ne 44, 3, (194, 0, 0)), (.aload_n 0, 1, (0, 0, 0)), (.getfield 68, 3, (12, 34, 2)), (.iload_n 2, 1, (0, 0, 0)), (.iaload, 1, (0, 0, 0)), (.iconst 5, 1, (0, 0, 0)), (.if_icmp .lt 34, 3, (194, 0, 0)), (.aload_n 0, 1, (0, 0, 0)), (.getfield 53, 3, (12, 29, 0)), (.iconst (-1), 1, (0, 0, 0)), (.if_icmp .eq 21, 3, (189, 0, 0)), (.aload_n 0, 1, (0, 0, 0)), (.getfield 59, 3, (12, 31, 2)), (.iload_n 2, 1, (0, 0, 0)), (.iaload, 1, (0, 0, 0)), (.aload_n 0, 1, (0, 0, 0)), (.getfield 59, 3, (12, 31, 2)), (.aload_n 0, 1, (0, 0, 0)), (.getfield 53, 3, (12, 29, 0)), (.iaload, 1, (0, 0, 0)), (.if_icmp .le 8, 3, (194, 0, 0)), (.nop, 0, (189, 0, 0))]
def s_X12_ticks_189 : List ZN := [(.aload_n 0, 1, (0, 0, 0)), (.iload_n 2, 1, (0, 0, 0)), (.putfield 53, 3, (12, 29, 0)), (.nop, 0, (194, 0, 0))]
def s_X12_ticks_194 : List ZN := [(.iinc 2 1, 3, (0, 0, 0)), (.goto (-61), 3, (136, 0, 0))]
def s_X12_ticks_200 : List ZN := [(.aload_n 0, 1, (0, 0, 0)), (.getfield 53, 3, (12, 29, 0)), (.iconst (-1), 1, (0, 0, 0)), (.if_icmp .eq 13, 3, (218, 0, 0)), (.aload_n 0, 1, (0, 0, 0)), (.getfield 62, 3, (12, 32, 2)), (.aload_n 0, 1, (0, 0, 0)), (.getfield 53, 3, (12, 29, 0)), (.iconst 3, 1, (0, 0, 0)), (.iastore, 1, (0, 0, 0)), (.nop, 0, (218, 0, 0))]
def s_X12_ticks_218 : List ZN := [(.aload_n 0, 1, (0, 0, 0)), (.invokevirtual 321, 3, (j_X12_comesBack, 1, 0)), (.aload_n 0, 1, (0, 0, 0)), (.invokevirtual 324, 3, (j_X12_looks, 1, 0)), (.return_, 1, (0, 0, 0))]
def p_X12_ticks : List (Nat × List ZN) := [(0, s_X12_ticks_0), (12, s_X12_ticks_12), (38, s_X12_ticks_38), (39, s_X12_ticks_39), (46, s_X12_ticks_46), (48, s_X12_ticks_48), (56, s_X12_ticks_56), (93, s_X12_ticks_93), (95, s_X12_ticks_95), (101, s_X12_ticks_101), (110, s_X12_ticks_110), (111, s_X12_ticks_111), (119, s_X12_ticks_119), (134, s_X12_ticks_134), (136, s_X12_ticks_136), (189, s_X12_ticks_189), (194, s_X12_ticks_194), (200, s_X12_ticks_200), (218, s_X12_ticks_218)]
def s_X12_comesBack_0 : List ZN := [(.iconst (-1), 1, (0, 0, 0)), (.istore_n 1, 1, (0, 0, 0)), (.iconst 0, 1, (0, 0, 0)), (.istore_n 2, 1, (0, 0, 0)), (.nop, 0, (4, 0, 0))]
def s_X12_comesBack_4 : List ZN := [(.iload_n 2, 1, (0, 0, 0)), (.aload_n 0, 1, (0, 0, 0)), (.getfield 174, 3, (12, 27, 0)), (.if_icmp .ge 41, 3, (50, 0, 0)), (.aload_n 0, 1, (0, 0, 0)), (.getfield 62, 3, (12, 32, 2)), (.iload_n 2, 1, (0, 0, 0)), (.iaload, 1, (0, 0, 0)), (.iconst 1, 1, (0, 0, 0)), (.if_icmp .ne 25, 3, (44, 0, 0)), (.iload_n 1, 1, (0, 0, 0)), (.iconst (-1), 1, (0, 0, 0)), (.if_icmp .eq 18, 3, (42, 0, 0)), (.aload_n 0, 1, (0, 0, 0)), (.getfield 71, 3, (12, 35, 2)), (.iload_n 2, 1, (0, 0, 0)), (.iaload, 1, (0, 0, 0)), (.aload_n 0, 1, (0, 0, 0)), (.getfield 71, 3, (12, 35, 2)), (.iload_n 1, 1, (0, 0, 0)), (.iaload, 1, (0, 0, 0)), (.if_icmp .ge 5, 3, (44, 0, 0)), (.nop, 0, (42, 0, 0))]
def s_X12_comesBack_42 : List ZN := [(.iload_n 2, 1, (0, 0, 0)), (.istore_n 1, 1, (0, 0, 0)), (.nop, 0, (44, 0, 0))]
def s_X12_comesBack_44 : List ZN := [(.iinc 2 1, 3, (0, 0, 0)), (.goto (-43), 3, (4, 0, 0))]
def s_X12_comesBack_50 : List ZN := [(.iload_n 1, 1, (0, 0, 0)), (.iconst (-1), 1, (0, 0, 0)), (.if_icmp .eq 45, 3, (97, 0, 0)), (.aload_n 0, 1, (0, 0, 0)), (.getfield 177, 3, (12, 28, 0)), (.aload_n 0, 1, (0, 0, 0)), (.getfield 71, 3, (12, 35, 2)), (.iload_n 1, 1, (0, 0, 0)), (.iaload, 1, (0, 0, 0)), (.isub, 1, (0, 0, 0)), (.aload_n 0, 1, (0, 0, 0)), (.getfield 17, 3, (12, 3, 2)), (.iconst 4, 1, (0, 0, 0)), (.iaload, 1, (0, 0, 0)), (.if_icmp .lt 25, 3, (97, 0, 0)), (.aload_n 0, 1, (0, 0, 0)), (.bipush 10, 2, (0, 0, 0)), (.aload_n 0, 1, (0, 0, 0)), (.getfield 17, 3, (12, 3, 2)), (.iconst 2, 1, (0, 0, 0)), (.iaload, 1, (0, 0, 0)), (.imul, 1, (0, 0, 0)), (.aload_n 0, 1, (0, 0, 0)), (.getfield 56, 3, (12, 30, 2)), (.iload_n 1, 1, (0, 0, 0)), (.iaload, 1, (0, 0, 0)), (.invokevirtual 294, 3, (j_X12_isOver, 3, 0)), (.ifCond .eq 4, 3, (98, 0, 0)), (.nop, 0, (97, 0, 0))]
def s_X12_comesBack_97 : List ZN := [(.return_, 1, (0, 0, 0))]
def s_X12_comesBack_98 : List ZN := [(.aload_n 0, 1, (0, 0, 0)), (.getfield 62, 3, (12, 32, 2)), (.iload_n 1, 1, (0, 0, 0)), (.iconst 0, 1, (0, 0, 0)), (.iastore, 1, (0, 0, 0)), (.aload_n 0, 1, (0, 0, 0)), (.getfield 59, 3, (12, 31, 2)), (.iload_n 1, 1, (0, 0, 0)), (.bipush 10, 2, (0, 0, 0)), (.aload_n 0, 1, (0, 0, 0)), (.getfield 17, 3, (12, 3, 2)), (.iconst 2, 1, (0, 0, 0)), (.iaload, 1, (0, 0, 0)), (.imul, 1, (0, 0, 0)), (.iastore, 1, (0, 0, 0)), (.aload_n 0, 1, (0, 0, 0)), (.getfield 65, 3, (12, 33, 2)), (.iload_n 1, 1, (0, 0, 0)), (.iconst 2, 1, (0, 0, 0)), (.iastore, 1, (0, 0, 0)), (.aload_n 0, 1, (0, 0, 0)), (.getfield 68, 3, (12, 34, 2)), (.iload_n 1, 1, (0, 0, 0)), (.iconst 0, 1, (0, 0, 0)), (.iastore, 1, (0, 0, 0)), (.return_, 1, (0, 0, 0))]
def p_X12_comesBack : List (Nat × List ZN) := [(0, s_X12_comesBack_0), (4, s_X12_comesBack_4), (42, s_X12_comesBack_42), (44, s_X12_comesBack_44), (50, s_X12_comesBack_50), (97, s_X12_comesBack_97), (98, s_X12_comesBack_98)]
def s_X12_looks_0 : List ZN := [(.iconst 0, 1, (0, 0, 0)), (.istore_n 1, 1, (0, 0, 0)), (.nop, 0, (2, 0, 0))]
def s_X12_looks_2 : List ZN := [(.iload_n 1, 1, (0, 0, 0)), (.aload_n 0, 1, (0, 0, 0)), (.getfield 17, 3, (12, 3, 2)), (.bipush 7, 2, (0, 0, 0)), (.iaload, 1, (0, 0, 0)), (.if_icmp .ge 207, 3, (217, 0, 0)), (.iconst 0, 1, (0, 0, 0)), (.istore_n 2, 1, (0, 0, 0)), (.iconst 0, 1, (0, 0, 0)), (.istore_n 3, 1, (0, 0, 0)), (.nop, 0, (17, 0, 0))]
def s_X12_looks_17 : List ZN := [(.iload_n 3, 1, (0, 0, 0)), (.aload_n 0, 1, (0, 0, 0)), (.getfield 174, 3, (12, 27, 0)), (.if_icmp .ge 62, 3, (84, 0, 0)), (.iload_n 2, 1, (0, 0, 0)), (.ifCond .ne 46, 3, (72, 0, 0)), (.aload_n 0, 1, (0, 0, 0)), (.iload_n 3, 1, (0, 0, 0)), (.invokevirtual 284, 3, (j_X12_isGoing, 2, 0)), (.ifCond .eq 42, 3, (76, 0, 0)), (.bipush 10, 2, (0, 0, 0)), (.aload_n 0, 1, (0, 0, 0)), (.getfield 35, 3, (12, 9, 2)), (.iload_n 1, 1, (0, 0, 0)), (.iaload, 1, (0, 0, 0)), (.imul, 1, (0, 0, 0)), (.aload_n 0, 1, (0, 0, 0)), (.iload_n 3, 1, (0, 0, 0)), (.invokevirtual 287, 3, (j_X12_tail, 2, 0)), (.if_icmp .le 25, 3, (76, 0, 0)), (.bipush 10, 2, (0, 0, 0)), (.aload_n 0, 1, (0, 0, 0)), (.getfield 35, 3, (12, 9, 2)), (.iload_n 1, 1, (0, 0, 0)), (.iaload, 1, (0, 0, 0)), (.imul, 1, (0, 0, 0)), (.aload_n 0, 1, (0, 0, 0)), (.getfield 59, 3, (12, 31, 2)), (.iload_n 3, 1, (0, 0, 0)), (.iaload, 1, (0, 0, 0)), (.if_icmp .gt 7, 3, (76, 0, 0)), (.nop, 0, (72, 0, 0))]
def s_X12_looks_72 : List ZN := [(.iconst 1, 1, (0, 0, 0)), (.goto 4, 3, (77, 0, 0))]
def s_X12_looks_76 : List ZN := [(.iconst 0, 1, (0, 0, 0)), (.nop, 0, (77, 0, 0))]
def s_X12_looks_77 : List ZN := [(.istore_n 2, 1, (0, 0, 0)), (.iinc 3 1, 3, (0, 0, 0)), (.goto (-64), 3, (17, 0, 0))]
def s_X12_looks_84 : List ZN := [(.bipush 12, 2, (0, 0, 0)), (.iload_n 1, 1, (0, 0, 0)), (.imul, 1, (0, 0, 0)), (.aload_n 0, 1, (0, 0, 0)), (.getfield 87, 3, (12, 40, 2)), (.iload_n 1, 1, (0, 0, 0)), (.iaload, 1, (0, 0, 0)), (.iadd, 1, (0, 0, 0)), (.istore_n 3, 1, (0, 0, 0)), (.iload_n 2, 1, (0, 0, 0)), (.ifCond .eq 73, 3, (170, 0, 0)), (.aload_n 0, 1, (0, 0, 0)), (.getfield 81, 3, (12, 38, 2)), (.iload_n 1, 1, (0, 0, 0)), (.baload, 1, (0, 0, 0)), (.ifCond .ne 64, 3, (170, 0, 0)), (.aload_n 0, 1, (0, 0, 0)), (.getfield 84, 3, (12, 39, 2)), (.iload_n 1, 1, (0, 0, 0)), (.aload_n 0, 1, (0, 0, 0)), (.getfield 87, 3, (12, 40, 2)), (.iload_n 1, 1, (0, 0, 0)), (.iaload, 1, (0, 0, 0)), (.bipush 12, 2, (0, 0, 0)), (.if_icmp .ge 7, 3, (129, 0, 0)), (.iconst 1, 1, (0, 0, 0)), (.goto 4, 3, (130, 0, 0))]
def s_X12_looks_129 : List ZN := [(.iconst 0, 1, (0, 0, 0)), (.nop, 0, (130, 0, 0))]
def s_X12_looks_130 : List ZN := [(.bastore, 1, (0, 0, 0)), (.aload_n 0, 1, (0, 0, 0)), (.getfield 84, 3, (12, 39, 2)), (.iload_n 1, 1, (0, 0, 0)), (.baload, 1, (0, 0, 0)), (.ifCond .eq 67, 3, (204, 0, 0)), (.aload_n 0, 1, (0, 0, 0)), (.getfield 90, 3, (12, 41, 2)), (.iload_n 3, 1, (0, 0, 0)), (.aload_n 0, 1, (0, 0, 0)), (.getfield 177, 3, (12, 28, 0)), (.iastore, 1, (0, 0, 0)), (.aload_n 0, 1, (0, 0, 0)), (.getfield 93, 3, (12, 42, 2)), (.iload_n 3, 1, (0, 0, 0)), (.iconst (-1), 1, (0, 0, 0)), (.iastore, 1, (0, 0, 0)), (.aload_n 0, 1, (0, 0, 0)), (.getfield 87, 3, (12, 40, 2)), (.iload_n 1, 1, (0, 0, 0)), (.dup2, 1, (0, 0, 0)), (.iaload, 1, (0, 0, 0)), (.iconst 1, 1, (0, 0, 0)), (.iadd, 1, (0, 0, 0)), (.iastore, 1, (0, 0, 0)), (.goto 37, 3, (204, 0, 0))]
def s_X12_looks_170 : List ZN := [(.iload_n 2, 1, (0, 0, 0)), (.ifCond .ne 33, 3, (204, 0, 0)), (.aload_n 0, 1, (0, 0, 0)), (.getfield 81, 3, (12, 38, 2)), (.iload_n 1, 1, (0, 0, 0)), (.baload, 1, (0, 0, 0)), (.ifCond .eq 24, 3, (204, 0, 0)), (.aload_n 0, 1, (0, 0, 0)), (.getfield 84, 3, (12, 39, 2)), (.iload_n 1, 1, (0, 0, 0)), (.baload, 1, (0, 0, 0)), (.ifCond .eq 15, 3, (204, 0, 0)), (.aload_n 0, 1, (0, 0, 0)), (.getfield 93, 3, (12, 42, 2)), (.iload_n 3, 1, (0, 0, 0)), (.iconst 1, 1, (0, 0, 0)), (.isub, 1, (0, 0, 0)), (.aload_n 0, 1, (0, 0, 0)), (.getfield 177, 3, (12, 28, 0)), (.iastore, 1, (0, 0, 0)), (.nop, 0, (204, 0, 0))]
def s_X12_looks_204 : List ZN := [(.aload_n 0, 1, (0, 0, 0)), (.getfield 81, 3, (12, 38, 2)), (.iload_n 1, 1, (0, 0, 0)), (.iload_n 2, 1, (0, 0, 0)), (.bastore, 1, (0, 0, 0)), (.iinc 1 1, 3, (0, 0, 0)), (.goto (-212), 3, (2, 0, 0))]
def s_X12_looks_217 : List ZN := [(.return_, 1, (0, 0, 0))]
def p_X12_looks : List (Nat × List ZN) := [(0, s_X12_looks_0), (2, s_X12_looks_2), (17, s_X12_looks_17), (72, s_X12_looks_72), (76, s_X12_looks_76), (77, s_X12_looks_77), (84, s_X12_looks_84), (129, s_X12_looks_129), (130, s_X12_looks_130), (170, s_X12_looks_170), (204, s_X12_looks_204), (217, s_X12_looks_217)]
def s_X12_tick_0 : List ZN := [(.aload_n 0, 1, (0, 0, 0)), (.iconst 0, 1, (0, 0, 0)), (.putfield 1, 3, (12, 0, 0)), (.iload_n 1, 1, (0, 0, 0)), (.i2l, 1, (0, 0, 0)), (.lconst 0, 1, (0, 0, 0)), (.ldc2_w 327, 3, (0, 0, 300)), (.invokestatic 240, 3, (j_X12_within, 3, 0)), (.ifCond .ne 6, 3, (20, 0, 0)), (.bipush (-3), 2, (0, 0, 0)), (.ireturn, 1, (0, 0, 0))]
def s_X12_tick_20 : List ZN := [(.iconst 0, 1, (0, 0, 0)), (.istore_n 2, 1, (0, 0, 0)), (.nop, 0, (22, 0, 0))]
def s_X12_tick_22 : List ZN := [(.iload_n 2, 1, (0, 0, 0)), (.iload_n 1, 1, (0, 0, 0)), (.if_icmp .ge 21, 3, (45, 0, 0)), (.aload_n 0, 1, (0, 0, 0)), (.getfield 53, 3, (12, 29, 0)), (.iconst (-1), 1, (0, 0, 0)), (.if_icmp .ne 13, 3, (45, 0, 0)), (.aload_n 0, 1, (0, 0, 0)), (.invokevirtual 329, 3, (j_X12_ticks, 1, 0)), (.iinc 2 1, 3, (0, 0, 0)), (.goto (-20), 3, (22, 0, 0))]
def s_X12_tick_45 : List ZN := [(.iload_n 2, 1, (0, 0, 0)), (.ireturn, 1, (0, 0, 0))]
def p_X12_tick : List (Nat × List ZN) := [(0, s_X12_tick_0), (20, s_X12_tick_20), (22, s_X12_tick_22), (45, s_X12_tick_45)]
def s_X12_sheet_0 : List ZN := [(.aload_n 0, 1, (0, 0, 0)), (.iconst 0, 1, (0, 0, 0)), (.putfield 1, 3, (12, 0, 0)), (.iload_n 1, 1, (0, 0, 0)), (.i2l, 1, (0, 0, 0)), (.lconst 0, 1, (0, 0, 0)), (.aload_n 0, 1, (0, 0, 0)), (.getfield 174, 3, (12, 27, 0)), (.iconst 1, 1, (0, 0, 0)), (.isub, 1, (0, 0, 0)), (.i2l, 1, (0, 0, 0)), (.invokestatic 240, 3, (j_X12_within, 3, 0)), (.ifCond .ne 6, 3, (24, 0, 0)), (.bipush (-2), 2, (0, 0, 0)), (.ireturn, 1, (0, 0, 0))]
def s_X12_sheet_24 : List ZN := [(.iload_n 2, 1, (0, 0, 0)), (.tableswitch 69 0 4 #[35, 42, 49, 55, 62], 35, (25, 0, 0))]
def s_X12_sheet_60 : List ZN := [(.aload_n 0, 1, (0, 0, 0)), (.getfield 62, 3, (12, 32, 2)), (.iload_n 1, 1, (0, 0, 0)), (.iaload, 1, (0, 0, 0)), (.ireturn, 1, (0, 0, 0))]
def s_X12_sheet_67 : List ZN := [(.aload_n 0, 1, (0, 0, 0)), (.getfield 59, 3, (12, 31, 2)), (.iload_n 1, 1, (0, 0, 0)), (.iaload, 1, (0, 0, 0)), (.ireturn, 1, (0, 0, 0))]
def s_X12_sheet_74 : List ZN := [(.aload_n 0, 1, (0, 0, 0)), (.iload_n 1, 1, (0, 0, 0)), (.invokevirtual 287, 3, (j_X12_tail, 2, 0)), (.ireturn, 1, (0, 0, 0))]
def s_X12_sheet_80 : List ZN := [(.aload_n 0, 1, (0, 0, 0)), (.getfield 65, 3, (12, 33, 2)), (.iload_n 1, 1, (0, 0, 0)), (.iaload, 1, (0, 0, 0)), (.ireturn, 1, (0, 0, 0))]
def s_X12_sheet_87 : List ZN := [(.aload_n 0, 1, (0, 0, 0)), (.getfield 68, 3, (12, 34, 2)), (.iload_n 1, 1, (0, 0, 0)), (.iaload, 1, (0, 0, 0)), (.ireturn, 1, (0, 0, 0))]
def s_X12_sheet_94 : List ZN := [(.bipush (-2), 2, (0, 0, 0)), (.ireturn, 1, (0, 0, 0))]
def p_X12_sheet : List (Nat × List ZN) := [(0, s_X12_sheet_0), (24, s_X12_sheet_24), (60, s_X12_sheet_60), (67, s_X12_sheet_67), (74, s_X12_sheet_74), (80, s_X12_sheet_80), (87, s_X12_sheet_87), (94, s_X12_sheet_94)]
def s_X12_clear_0 : List ZN := [(.aload_n 0, 1, (0, 0, 0)), (.iconst 0, 1, (0, 0, 0)), (.putfield 1, 3, (12, 0, 0)), (.aload_n 0, 1, (0, 0, 0)), (.getfield 53, 3, (12, 29, 0)), (.iconst (-1), 1, (0, 0, 0)), (.if_icmp .ne 6, 3, (16, 0, 0)), (.bipush (-5), 2, (0, 0, 0)), (.ireturn, 1, (0, 0, 0))]
def s_X12_clear_16 : List ZN := [(.aload_n 0, 1, (0, 0, 0)), (.getfield 59, 3, (12, 31, 2)), (.aload_n 0, 1, (0, 0, 0)), (.getfield 53, 3, (12, 29, 0)), (.iaload, 1, (0, 0, 0)), (.bipush 10, 2, (0, 0, 0)), (.idiv, 1, (0, 0, 0)), (.istore_n 2, 1, (0, 0, 0)), (.iload_n 2, 1, (0, 0, 0)), (.iconst 1, 1, (0, 0, 0)), (.if_icmp .ge 7, 3, (38, 0, 0)), (.iconst 1, 1, (0, 0, 0)), (.goto 23, 3, (58, 0, 0))]
def s_X12_clear_38 : List ZN := [(.iload_n 2, 1, (0, 0, 0)), (.aload_n 0, 1, (0, 0, 0)), (.getfield 17, 3, (12, 3, 2)), (.iconst 0, 1, (0, 0, 0)), (.iaload, 1, (0, 0, 0)), (.if_icmp .le 12, 3, (57, 0, 0)), (.aload_n 0, 1, (0, 0, 0)), (.getfield 17, 3, (12, 3, 2)), (.iconst 0, 1, (0, 0, 0)), (.iaload, 1, (0, 0, 0)), (.goto 4, 3, (58, 0, 0))]
def s_X12_clear_57 : List ZN := [(.iload_n 2, 1, (0, 0, 0)), (.nop, 0, (58, 0, 0))]
def s_X12_clear_58 : List ZN := [(.istore_n 2, 1, (0, 0, 0)), (.iload_n 1, 1, (0, 0, 0)), (.ifCond .eq 15, 3, (75, 0, 0)), (.aload_n 0, 1, (0, 0, 0)), (.iload_n 2, 1, (0, 0, 0)), (.invokevirtual 281, 3, (j_X12_leaves, 2, 0)), (.ifCond .eq 7, 3, (75, 0, 0)), (.iconst 1, 1, (0, 0, 0)), (.goto 4, 3, (76, 0, 0))]
def s_X12_clear_75 : List ZN := [(.iconst 0, 1, (0, 0, 0)), (.nop, 0, (76, 0, 0))]
def s_X12_clear_76 : List ZN := [(.istore_n 3, 1, (0, 0, 0)), (.iconst 0, 1, (0, 0, 0)), (.istore 4, 2, (0, 0, 0)), (.iconst 0, 1, (0, 0, 0)), (.istore 5, 2, (0, 0, 0)), (.nop, 0, (83, 0, 0))]
def s_X12_clear_83 : List ZN := [(.iload 5, 2, (0, 0, 0)), (.aload_n 0, 1, (0, 0, 0)), (.getfield 174, 3, (12, 27, 0)), (.if_icmp .ge 43, 3, (132, 0, 0)), (.aload_n 0, 1, (0, 0, 0)), (.iload 5, 2, (0, 0, 0)), (.invokevirtual 284, 3, (j_X12_isGoing, 2, 0)), (.ifCond .ne 17, 3, (115, 0, 0)), (.aload_n 0, 1, (0, 0, 0)), (.getfield 62, 3, (12, 32, 2)), (.iload 5, 2, (0, 0, 0)), (.iaload, 1, (0, 0, 0)), (.iconst 1, 1, (0, 0, 0)), (.if_icmp .eq 6, 3, (115, 0, 0)), (.goto 14, 3, (126, 0, 0))]
def s_X12_clear_115 : List ZN := [(.aload_n 0, 1, (0, 0, 0)), (.getfield 62, 3, (12, 32, 2)), (.iload 5, 2, (0, 0, 0)), (.iconst 4, 1, (0, 0, 0)), (.iastore, 1, (0, 0, 0)), (.iinc 4 1, 3, (0, 0, 0)), (.nop, 0, (126, 0, 0))]
def s_X12_clear_126 : List ZN := [(.iinc 5 1, 3, (0, 0, 0)), (.goto (-46), 3, (83, 0, 0))]
def s_X12_clear_132 : List ZN := [(.aload_n 0, 1, (0, 0, 0)), (.iconst (-1), 1, (0, 0, 0)), (.putfield 53, 3, (12, 29, 0)), (.iconst 0, 1, (0, 0, 0)), (.istore 5, 2, (0, 0, 0)), (.nop, 0, (140, 0, 0))]
def s_X12_clear_140 : List ZN := [(.iload 5, 2, (0, 0, 0)), (.bipush 19, 2, (0, 0, 0)), (.if_icmp .ge 17, 3, (161, 0, 0)), (.aload_n 0, 1, (0, 0, 0)), (.getfield 81, 3, (12, 38, 2)), (.iload 5, 2, (0, 0, 0)), (.iconst 0, 1, (0, 0, 0)), (.bastore, 1, (0, 0, 0)), (.iinc 5 1, 3, (0, 0, 0)), (.goto (-18), 3, (140, 0, 0))]
def s_X12_clear_161 : List ZN := [(.iload 4, 2, (0, 0, 0)), (.ireturn, 1, (0, 0, 0))]
def p_X12_clear : List (Nat × List ZN) := [(0, s_X12_clear_0), (16, s_X12_clear_16), (38, s_X12_clear_38), (57, s_X12_clear_57), (58, s_X12_clear_58), (75, s_X12_clear_75), (76, s_X12_clear_76), (83, s_X12_clear_83), (115, s_X12_clear_115), (126, s_X12_clear_126), (132, s_X12_clear_132), (140, s_X12_clear_140), (161, s_X12_clear_161)]
def s_X12_sees_0 : List ZN := [(.aload_n 0, 1, (0, 0, 0)), (.iconst 0, 1, (0, 0, 0)), (.putfield 1, 3, (12, 0, 0)), (.aload_n 0, 1, (0, 0, 0)), (.iload_n 1, 1, (0, 0, 0)), (.invokevirtual 332, 3, (j_X12_isEye, 2, 0)), (.ifCond .ne 8, 3, (18, 0, 0)), (.bipush (-2), 2, (0, 0, 0)), (.goto 17, 3, (32, 0, 0))]
def s_X12_sees_18 : List ZN := [(.aload_n 0, 1, (0, 0, 0)), (.getfield 81, 3, (12, 38, 2)), (.iload_n 1, 1, (0, 0, 0)), (.baload, 1, (0, 0, 0)), (.ifCond .eq 7, 3, (31, 0, 0)), (.iconst 1, 1, (0, 0, 0)), (.goto 4, 3, (32, 0, 0))]
def s_X12_sees_31 : List ZN := [(.iconst 0, 1, (0, 0, 0)), (.nop, 0, (32, 0, 0))]
def s_X12_sees_32 : List ZN := [(.ireturn, 1, (0, 0, 0))]
def p_X12_sees : List (Nat × List ZN) := [(0, s_X12_sees_0), (18, s_X12_sees_18), (31, s_X12_sees_31), (32, s_X12_sees_32)]
def s_X12_passing_0 : List ZN := [(.aload_n 0, 1, (0, 0, 0)), (.iconst 0, 1, (0, 0, 0)), (.putfield 1, 3, (12, 0, 0)), (.aload_n 0, 1, (0, 0, 0)), (.iload_n 1, 1, (0, 0, 0)), (.invokevirtual 332, 3, (j_X12_isEye, 2, 0)), (.ifCond .eq 31, 3, (41, 0, 0)), (.iload_n 2, 1, (0, 0, 0)), (.i2l, 1, (0, 0, 0)), (.lconst 0, 1, (0, 0, 0)), (.aload_n 0, 1, (0, 0, 0)), (.getfield 87, 3, (12, 40, 2)), (.iload_n 1, 1, (0, 0, 0)), (.iaload, 1, (0, 0, 0)), (.iconst 1, 1, (0, 0, 0)), (.isub, 1, (0, 0, 0)), (.i2l, 1, (0, 0, 0)), (.invokestatic 240, 3, (j_X12_within, 3, 0)), (.ifCond .eq 13, 3, (41, 0, 0)), (.iload_n 3, 1, (0, 0, 0)), (.i2l, 1, (0, 0, 0)), (.lconst 0, 1, (0, 0, 0)), (.lconst 1, 1, (0, 0, 0)), (.invokestatic 240, 3, (j_X12_within, 3, 0)), (.ifCond .ne 6, 3, (44, 0, 0)), (.nop, 0, (41, 0, 0))]
def s_X12_passing_41 : List ZN := [(.bipush (-2), 2, (0, 0, 0)), (.ireturn, 1, (0, 0, 0))]
def s_X12_passing_44 : List ZN := [(.iload_n 3, 1, (0, 0, 0)), (.ifCond .ne 17, 3, (62, 0, 0)), (.aload_n 0, 1, (0, 0, 0)), (.getfield 90, 3, (12, 41, 2)), (.bipush 12, 2, (0, 0, 0)), (.iload_n 1, 1, (0, 0, 0)), (.imul, 1, (0, 0, 0)), (.iload_n 2, 1, (0, 0, 0)), (.iadd, 1, (0, 0, 0)), (.iaload, 1, (0, 0, 0)), (.goto 14, 3, (73, 0, 0))]
def s_X12_passing_62 : List ZN := [(.aload_n 0, 1, (0, 0, 0)), (.getfield 93, 3, (12, 42, 2)), (.bipush 12, 2, (0, 0, 0)), (.iload_n 1, 1, (0, 0, 0)), (.imul, 1, (0, 0, 0)), (.iload_n 2, 1, (0, 0, 0)), (.iadd, 1, (0, 0, 0)), (.iaload, 1, (0, 0, 0)), (.nop, 0, (73, 0, 0))]
def s_X12_passing_73 : List ZN := [(.ireturn, 1, (0, 0, 0))]
def p_X12_passing : List (Nat × List ZN) := [(0, s_X12_passing_0), (41, s_X12_passing_41), (44, s_X12_passing_44), (62, s_X12_passing_62), (73, s_X12_passing_73)]
def s_X12_goesAlone_0 : List ZN := [(.aload_n 0, 1, (0, 0, 0)), (.getfield 335, 3, (12, 52, 0)), (.aload_n 0, 1, (0, 0, 0)), (.getfield 335, 3, (12, 52, 0)), (.aload_n 0, 1, (0, 0, 0)), (.aload_n 0, 1, (0, 0, 0)), (.getfield 335, 3, (12, 52, 0)), (.aload_n 0, 1, (0, 0, 0)), (.getfield 335, 3, (12, 52, 0)), (.bipush 10, 2, (0, 0, 0)), (.iload_n 1, 1, (0, 0, 0)), (.imul, 1, (0, 0, 0)), (.isub, 1, (0, 0, 0)), (.iload_n 2, 1, (0, 0, 0)), (.aload_n 0, 1, (0, 0, 0)), (.getfield 105, 3, (12, 46, 2)), (.aload_n 0, 1, (0, 0, 0)), (.getfield 108, 3, (12, 47, 2)), (.invokevirtual 307, 3, (j_X12_drive, 6, 0)), (.iadd, 1, (0, 0, 0)), (.aload_n 0, 1, (0, 0, 0)), (.getfield 111, 3, (12, 48, 2)), (.aload_n 0, 1, (0, 0, 0)), (.getfield 338, 3, (12, 51, 0)), (.invokestatic 311, 3, (j_X12_bound, 4, 0)), (.istore_n 3, 1, (0, 0, 0)), (.aload_n 0, 1, (0, 0, 0)), (.iload_n 3, 1, (0, 0, 0)), (.aload_n 0, 1, (0, 0, 0)), (.getfield 335, 3, (12, 52, 0)), (.if_icmp .le 7, 3, (60, 0, 0)), (.iconst 0, 1, (0, 0, 0)), (.goto 9, 3, (66, 0, 0))]
def s_X12_goesAlone_60 : List ZN := [(.aload_n 0, 1, (0, 0, 0)), (.getfield 341, 3, (12, 53, 0)), (.iconst 1, 1, (0, 0, 0)), (.iadd, 1, (0, 0, 0)), (.nop, 0, (66, 0, 0))]
def s_X12_goesAlone_66 : List ZN := [(.putfield 341, 3, (12, 53, 0)), (.aload_n 0, 1, (0, 0, 0)), (.iload_n 3, 1, (0, 0, 0)), (.aload_n 0, 1, (0, 0, 0)), (.getfield 335, 3, (12, 52, 0)), (.if_icmp .le 7, 3, (82, 0, 0)), (.iload_n 3, 1, (0, 0, 0)), (.goto 7, 3, (86, 0, 0))]
def s_X12_goesAlone_82 : List ZN := [(.aload_n 0, 1, (0, 0, 0)), (.getfield 335, 3, (12, 52, 0)), (.nop, 0, (86, 0, 0))]
def s_X12_goesAlone_86 : List ZN := [(.putfield 335, 3, (12, 52, 0)), (.return_, 1, (0, 0, 0))]
def p_X12_goesAlone : List (Nat × List ZN) := [(0, s_X12_goesAlone_0), (60, s_X12_goesAlone_60), (66, s_X12_goesAlone_66), (82, s_X12_goesAlone_82), (86, s_X12_goesAlone_86)]
def s_X12_isOutAlone_0 : List ZN := [(.aload_n 0, 1, (0, 0, 0)), (.bipush 10, 2, (0, 0, 0)), (.aload_n 0, 1, (0, 0, 0)), (.getfield 23, 3, (12, 5, 2)), (.iconst 0, 1, (0, 0, 0)), (.iaload, 1, (0, 0, 0)), (.imul, 1, (0, 0, 0)), (.putfield 335, 3, (12, 52, 0)), (.aload_n 0, 1, (0, 0, 0)), (.iconst 0, 1, (0, 0, 0)), (.putfield 341, 3, (12, 53, 0)), (.iconst 1, 1, (0, 0, 0)), (.istore_n 3, 1, (0, 0, 0)), (.nop, 0, (20, 0, 0))]
def s_X12_isOutAlone_20 : List ZN := [(.iload_n 3, 1, (0, 0, 0)), (.iload_n 2, 1, (0, 0, 0)), (.if_icmp .gt 48, 3, (70, 0, 0)), (.aload_n 0, 1, (0, 0, 0)), (.iload_n 1, 1, (0, 0, 0)), (.iload_n 3, 1, (0, 0, 0)), (.invokevirtual 344, 3, (j_X12_goesAlone, 3, 0)), (.aload_n 0, 1, (0, 0, 0)), (.getfield 335, 3, (12, 52, 0)), (.bipush 10, 2, (0, 0, 0)), (.iload_n 1, 1, (0, 0, 0)), (.imul, 1, (0, 0, 0)), (.isub, 1, (0, 0, 0)), (.bipush 10, 2, (0, 0, 0)), (.aload_n 0, 1, (0, 0, 0)), (.getfield 17, 3, (12, 3, 2)), (.iconst 0, 1, (0, 0, 0)), (.iaload, 1, (0, 0, 0)), (.imul, 1, (0, 0, 0)), (.if_icmp .lt 5, 3, (54, 0, 0)), (.iconst 1, 1, (0, 0, 0)), (.ireturn, 1, (1, 0, 0))]
def s_X12_isOutAlone_54 : List ZN := [(.aload_n 0, 1, (0, 0, 0)), (.getfield 341, 3, (12, 53, 0)), (.iconst 5, 1, (0, 0, 0)), (.if_icmp .lt 5, 3, (64, 0, 0)), (.iconst 0, 1, (0, 0, 0)), (.ireturn, 1, (1, 0, 0))]
def s_X12_isOutAlone_64 : List ZN := [(.iinc 3 1, 3, (0, 0, 0)), (.goto (-47), 3, (20, 0, 0))]
def s_X12_isOutAlone_70 : List ZN := [(.iconst 0, 1, (0, 0, 0)), (.ireturn, 1, (1, 0, 0))]
def p_X12_isOutAlone : List (Nat × List ZN) := [(0, s_X12_isOutAlone_0), (20, s_X12_isOutAlone_20), (54, s_X12_isOutAlone_54), (64, s_X12_isOutAlone_64), (70, s_X12_isOutAlone_70)]
def s_X12_looksAlone_0 : List ZN := [(.aload_n 0, 1, (0, 0, 0)), (.bipush 10, 2, (0, 0, 0)), (.aload_n 0, 1, (0, 0, 0)), (.getfield 23, 3, (12, 5, 2)), (.iconst 0, 1, (0, 0, 0)), (.iaload, 1, (0, 0, 0)), (.imul, 1, (0, 0, 0)), (.putfield 335, 3, (12, 52, 0)), (.aload_n 0, 1, (0, 0, 0)), (.iconst 0, 1, (0, 0, 0)), (.putfield 341, 3, (12, 53, 0)), (.iconst 0, 1, (0, 0, 0)), (.istore_n 2, 1, (0, 0, 0)), (.nop, 0, (20, 0, 0))]
def s_X12_looksAlone_20 : List ZN := [(.iload_n 2, 1, (0, 0, 0)), (.aload_n 0, 1, (0, 0, 0)), (.getfield 17, 3, (12, 3, 2)), (.bipush 7, 2, (0, 0, 0)), (.iaload, 1, (0, 0, 0)), (.if_icmp .ge 23, 3, (51, 0, 0)), (.aload_n 0, 1, (0, 0, 0)), (.getfield 114, 3, (12, 49, 2)), (.iload_n 2, 1, (0, 0, 0)), (.iconst (-1), 1, (0, 0, 0)), (.iastore, 1, (0, 0, 0)), (.aload_n 0, 1, (0, 0, 0)), (.getfield 117, 3, (12, 50, 2)), (.iload_n 2, 1, (0, 0, 0)), (.iconst (-1), 1, (0, 0, 0)), (.iastore, 1, (0, 0, 0)), (.iinc 2 1, 3, (0, 0, 0)), (.goto (-28), 3, (20, 0, 0))]
def s_X12_looksAlone_51 : List ZN := [(.iconst 0, 1, (0, 0, 0)), (.istore_n 2, 1, (0, 0, 0)), (.iconst 1, 1, (0, 0, 0)), (.istore_n 3, 1, (0, 0, 0)), (.nop, 0, (55, 0, 0))]
def s_X12_looksAlone_55 : List ZN := [(.iload_n 3, 1, (0, 0, 0)), (.bipush 120, 2, (0, 0, 0)), (.if_icmp .gt 200, 3, (258, 0, 0)), (.aload_n 0, 1, (0, 0, 0)), (.getfield 341, 3, (12, 53, 0)), (.iconst 5, 1, (0, 0, 0)), (.if_icmp .ge 192, 3, (258, 0, 0)), (.iload_n 2, 1, (0, 0, 0)), (.ifCond .ne 9, 3, (79, 0, 0)), (.aload_n 0, 1, (0, 0, 0)), (.iload_n 1, 1, (0, 0, 0)), (.iload_n 3, 1, (0, 0, 0)), (.invokevirtual 344, 3, (j_X12_goesAlone, 3, 0)), (.nop, 0, (79, 0, 0))]
def s_X12_looksAlone_79 : List ZN := [(.iload_n 2, 1, (0, 0, 0)), (.ifCond .ne 24, 3, (104, 0, 0)), (.aload_n 0, 1, (0, 0, 0)), (.getfield 335, 3, (12, 52, 0)), (.bipush 10, 2, (0, 0, 0)), (.iload_n 1, 1, (0, 0, 0)), (.imul, 1, (0, 0, 0)), (.isub, 1, (0, 0, 0)), (.bipush 10, 2, (0, 0, 0)), (.aload_n 0, 1, (0, 0, 0)), (.getfield 17, 3, (12, 3, 2)), (.iconst 0, 1, (0, 0, 0)), (.iaload, 1, (0, 0, 0)), (.imul, 1, (0, 0, 0)), (.if_icmp .lt 7, 3, (108, 0, 0)), (.nop, 0, (104, 0, 0))]
def s_X12_looksAlone_104 : List ZN := [(.iconst 1, 1, (0, 0, 0)), (.goto 4, 3, (109, 0, 0))]
def s_X12_looksAlone_108 : List ZN := [(.iconst 0, 1, (0, 0, 0)), (.nop, 0, (109, 0, 0))]
def s_X12_looksAlone_109 : List ZN := [(.istore_n 2, 1, (0, 0, 0)), (.iload_n 2, 1, (0, 0, 0)), (.ifCond .eq 8, 3, (119, 0, 0)), (.aload_n 0, 1, (0, 0, 0)), (.iconst 0, 1, (0, 0, 0)), (.putfield 341, 3, (12, 53, 0)), (.nop, 0, (119, 0, 0))]
def s_X12_looksAlone_119 : List ZN := [(.iconst 0, 1, (0, 0, 0)), (.istore 4, 2, (0, 0, 0)), (.nop, 0, (122, 0, 0))]
def s_X12_looksAlone_122 : List ZN := [(.iload 4, 2, (0, 0, 0)), (.aload_n 0, 1, (0, 0, 0)), (.getfield 17, 3, (12, 3, 2)), (.bipush 7, 2, (0, 0, 0)), (.iaload, 1, (0, 0, 0)), (.if_icmp .ge 121, 3, (252, 0, 0)), (.iload_n 2, 1, (0, 0, 0)), (.ifCond .ne 46, 3, (181, 0, 0)), (.bipush 10, 2, (0, 0, 0)), (.aload_n 0, 1, (0, 0, 0)), (.getfield 35, 3, (12, 9, 2)), (.iload 4, 2, (0, 0, 0)), (.iaload, 1, (0, 0, 0)), (.imul, 1, (0, 0, 0)), (.aload_n 0, 1, (0, 0, 0)), (.getfield 335, 3, (12, 52, 0)), (.bipush 10, 2, (0, 0, 0)), (.iload_n 1, 1, (0, 0, 0)), (.imul, 1, (0, 0, 0)), (.isub, 1, (0, 0, 0)), (.if_icmp .le 24, 3, (181, 0, 0)), (.bipush 10, 2, (0, 0, 0)), (.aload_n 0, 1, (0, 0, 0)), (.getfield 35, 3, (12, 9, 2)), (.iload 4, 2, (0, 0, 0)), (.iaload, 1, (0, 0, 0)), (.imul, 1, (0, 0, 0)), (.aload_n 0, 1, (0, 0, 0)), (.getfield 335, 3, (12, 52, 0)), (.if_icmp .gt 7, 3, (181, 0, 0)), (.iconst 1, 1, (0, 0, 0)), (.goto 4, 3, (182, 0, 0))]
def s_X12_looksAlone_181 : List ZN := [(.iconst 0, 1, (0, 0, 0)), (.nop, 0, (182, 0, 0))]
def s_X12_looksAlone_182 : List ZN := [(.istore 5, 2, (0, 0, 0)), (.iload 5, 2, (0, 0, 0)), (.ifCond .eq 25, 3, (211, 0, 0)), (.aload_n 0, 1, (0, 0, 0)), (.getfield 114, 3, (12, 49, 2)), (.iload 4, 2, (0, 0, 0)), (.iaload, 1, (0, 0, 0)), (.iconst (-1), 1, (0, 0, 0)), (.if_icmp .ne 14, 3, (211, 0, 0)), (.aload_n 0, 1, (0, 0, 0)), (.getfield 114, 3, (12, 49, 2)), (.iload 4, 2, (0, 0, 0)), (.iload_n 3, 1, (0, 0, 0)), (.iastore, 1, (0, 0, 0)), (.goto 38, 3, (246, 0, 0))]
def s_X12_looksAlone_211 : List ZN := [(.iload 5, 2, (0, 0, 0)), (.ifCond .ne 33, 3, (246, 0, 0)), (.aload_n 0, 1, (0, 0, 0)), (.getfield 114, 3, (12, 49, 2)), (.iload 4, 2, (0, 0, 0)), (.iaload, 1, (0, 0, 0)), (.iconst (-1), 1, (0, 0, 0)), (.if_icmp .eq 22, 3, (246, 0, 0)), (.aload_n 0, 1, (0, 0, 0)), (.getfield 117, 3, (12, 50, 2)), (.iload 4, 2, (0, 0, 0)), (.iaload, 1, (0, 0, 0)), (.iconst (-1), 1, (0, 0, 0)), (.if_icmp .ne 11, 3, (246, 0, 0)), (.aload_n 0, 1, (0, 0, 0)), (.getfield 117, 3, (12, 50, 2)), (.iload 4, 2, (0, 0, 0)), (.iload_n 3, 1, (0, 0, 0)), (.iastore, 1, (0, 0, 0)), (.nop, 0, (246, 0, 0))]
def s_X12_looksAlone_246 : List ZN := [(.iinc 4 1, 3, (0, 0, 0)), (.goto (-127), 3, (122, 0, 0))]
def s_X12_looksAlone_252 : List ZN := [(.iinc 3 1, 3, (0, 0, 0)), (.goto (-200), 3, (55, 0, 0))]
def s_X12_looksAlone_258 : List ZN := [(.return_, 1, (0, 0, 0))]
def p_X12_looksAlone : List (Nat × List ZN) := [(0, s_X12_looksAlone_0), (20, s_X12_looksAlone_20), (51, s_X12_looksAlone_51), (55, s_X12_looksAlone_55), (79, s_X12_looksAlone_79), (104, s_X12_looksAlone_104), (108, s_X12_looksAlone_108), (109, s_X12_looksAlone_109), (119, s_X12_looksAlone_119), (122, s_X12_looksAlone_122), (181, s_X12_looksAlone_181), (182, s_X12_looksAlone_182), (211, s_X12_looksAlone_211), (246, s_X12_looksAlone_246), (252, s_X12_looksAlone_252), (258, s_X12_looksAlone_258)]
def s_X12_saw_0 : List ZN := [(.aload_n 0, 1, (0, 0, 0)), (.iconst 0, 1, (0, 0, 0)), (.putfield 1, 3, (12, 0, 0)), (.iload_n 2, 1, (0, 0, 0)), (.iconst (-1), 1, (0, 0, 0)), (.if_icmp .ne 16, 3, (23, 0, 0)), (.iload_n 3, 1, (0, 0, 0)), (.iconst (-1), 1, (0, 0, 0)), (.if_icmp .ne 7, 3, (19, 0, 0)), (.iconst 1, 1, (0, 0, 0)), (.goto 44, 3, (60, 0, 0))]
def s_X12_saw_19 : List ZN := [(.iconst 0, 1, (0, 0, 0)), (.goto 40, 3, (60, 0, 0))]
def s_X12_saw_23 : List ZN := [(.iload_n 2, 1, (0, 0, 0)), (.i2l, 1, (0, 0, 0)), (.lconst 1, 1, (0, 0, 0)), (.ldc2_w 348, 3, (0, 0, 120)), (.invokestatic 240, 3, (j_X12_within, 3, 0)), (.ifCond .eq 27, 3, (59, 0, 0)), (.iload_n 3, 1, (0, 0, 0)), (.iconst (-1), 1, (0, 0, 0)), (.if_icmp .eq 18, 3, (55, 0, 0)), (.iload_n 3, 1, (0, 0, 0)), (.i2l, 1, (0, 0, 0)), (.iload_n 2, 1, (0, 0, 0)), (.iconst 1, 1, (0, 0, 0)), (.iadd, 1, (0, 0, 0)), (.i2l, 1, (0, 0, 0)), (.ldc2_w 348, 3, (0, 0, 120)), (.invokestatic 240, 3, (j_X12_within, 3, 0)), (.ifCond .eq 7, 3, (59, 0, 0)), (.nop, 0, (55, 0, 0))]
def s_X12_saw_55 : List ZN := [(.iconst 1, 1, (0, 0, 0)), (.goto 4, 3, (60, 0, 0))]
def s_X12_saw_59 : List ZN := [(.iconst 0, 1, (0, 0, 0)), (.nop, 0, (60, 0, 0))]
def s_X12_saw_60 : List ZN := [(.istore 4, 2, (0, 0, 0)), (.aload_n 0, 1, (0, 0, 0)), (.iload_n 1, 1, (0, 0, 0)), (.invokevirtual 332, 3, (j_X12_isEye, 2, 0)), (.ifCond .eq 8, 3, (75, 0, 0)), (.iload 4, 2, (0, 0, 0)), (.ifCond .ne 5, 3, (77, 0, 0)), (.nop, 0, (75, 0, 0))]
def s_X12_saw_75 : List ZN := [(.iconst 0, 1, (0, 0, 0)), (.ireturn, 1, (1, 0, 0))]
def s_X12_saw_77 : List ZN := [(.aload_n 0, 1, (0, 0, 0)), (.getfield 78, 3, (12, 37, 2)), (.iload_n 1, 1, (0, 0, 0)), (.iconst 1, 1, (0, 0, 0)), (.bastore, 1, (0, 0, 0)), (.aload_n 0, 1, (0, 0, 0)), (.getfield 96, 3, (12, 43, 2)), (.iload_n 1, 1, (0, 0, 0)), (.iload_n 2, 1, (0, 0, 0)), (.iastore, 1, (0, 0, 0)), (.aload_n 0, 1, (0, 0, 0)), (.getfield 99, 3, (12, 44, 2)), (.iload_n 1, 1, (0, 0, 0)), (.iload_n 3, 1, (0, 0, 0)), (.iastore, 1, (0, 0, 0)), (.iconst 1, 1, (0, 0, 0)), (.ireturn, 1, (1, 0, 0))]
def p_X12_saw : List (Nat × List ZN) := [(0, s_X12_saw_0), (19, s_X12_saw_19), (23, s_X12_saw_23), (55, s_X12_saw_55), (59, s_X12_saw_59), (60, s_X12_saw_60), (75, s_X12_saw_75), (77, s_X12_saw_77)]
def s_X12_observed_0 : List ZN := [(.iconst 0, 1, (0, 0, 0)), (.istore_n 1, 1, (0, 0, 0)), (.iconst 0, 1, (0, 0, 0)), (.istore_n 2, 1, (0, 0, 0)), (.nop, 0, (4, 0, 0))]
def s_X12_observed_4 : List ZN := [(.iload_n 2, 1, (0, 0, 0)), (.aload_n 0, 1, (0, 0, 0)), (.getfield 17, 3, (12, 3, 2)), (.bipush 7, 2, (0, 0, 0)), (.iaload, 1, (0, 0, 0)), (.if_icmp .ge 26, 3, (38, 0, 0)), (.iload_n 1, 1, (0, 0, 0)), (.aload_n 0, 1, (0, 0, 0)), (.getfield 78, 3, (12, 37, 2)), (.iload_n 2, 1, (0, 0, 0)), (.baload, 1, (0, 0, 0)), (.ifCond .eq 7, 3, (29, 0, 0)), (.iconst 1, 1, (0, 0, 0)), (.goto 4, 3, (30, 0, 0))]
def s_X12_observed_29 : List ZN := [(.iconst 0, 1, (0, 0, 0)), (.nop, 0, (30, 0, 0))]
def s_X12_observed_30 : List ZN := [(.iadd, 1, (0, 0, 0)), (.istore_n 1, 1, (0, 0, 0)), (.iinc 2 1, 3, (0, 0, 0)), (.goto (-31), 3, (4, 0, 0))]
def s_X12_observed_38 : List ZN := [(.iload_n 1, 1, (0, 0, 0)), (.ireturn, 1, (0, 0, 0))]
def p_X12_observed : List (Nat × List ZN) := [(0, s_X12_observed_0), (4, s_X12_observed_4), (29, s_X12_observed_29), (30, s_X12_observed_30), (38, s_X12_observed_38)]
def s_X12_forget_0 : List ZN := [(.aload_n 0, 1, (0, 0, 0)), (.iconst 0, 1, (0, 0, 0)), (.putfield 1, 3, (12, 0, 0)), (.aload_n 0, 1, (0, 0, 0)), (.invokevirtual 350, 3, (j_X12_observed, 1, 0)), (.istore_n 1, 1, (0, 0, 0)), (.iconst 0, 1, (0, 0, 0)), (.istore_n 2, 1, (0, 0, 0)), (.nop, 0, (12, 0, 0))]
def s_X12_forget_12 : List ZN := [(.iload_n 2, 1, (0, 0, 0)), (.bipush 19, 2, (0, 0, 0)), (.if_icmp .ge 16, 3, (31, 0, 0)), (.aload_n 0, 1, (0, 0, 0)), (.getfield 78, 3, (12, 37, 2)), (.iload_n 2, 1, (0, 0, 0)), (.iconst 0, 1, (0, 0, 0)), (.bastore, 1, (0, 0, 0)), (.iinc 2 1, 3, (0, 0, 0)), (.goto (-16), 3, (12, 0, 0))]
def s_X12_forget_31 : List ZN := [(.iload_n 1, 1, (0, 0, 0)), (.ireturn, 1, (0, 0, 0))]
def p_X12_forget : List (Nat × List ZN) := [(0, s_X12_forget_0), (12, s_X12_forget_12), (31, s_X12_forget_31)]
def s_X12_isCause_0 : List ZN := [(.iload_n 1, 1, (0, 0, 0)), (.bipush 30, 2, (0, 0, 0)), (.if_icmp .ge 12, 3, (15, 0, 0)), (.aload_n 0, 1, (0, 0, 0)), (.iload_n 1, 1, (0, 0, 0)), (.bipush 10, 2, (0, 0, 0)), (.irem, 1, (0, 0, 0)), (.invokevirtual 269, 3, (j_X12_isRoller, 2, 0)), (.ireturn, 1, (1, 0, 0))]
def s_X12_isCause_15 : List ZN := [(.iload_n 1, 1, (0, 0, 0)), (.bipush 49, 2, (0, 0, 0)), (.if_icmp .ne 5, 3, (23, 0, 0)), (.iconst 1, 1, (0, 0, 0)), (.ireturn, 1, (1, 0, 0))]
def s_X12_isCause_23 : List ZN := [(.iload_n 1, 1, (0, 0, 0)), (.bipush 49, 2, (0, 0, 0)), (.if_icmp .ge 14, 3, (40, 0, 0)), (.aload_n 0, 1, (0, 0, 0)), (.iload_n 1, 1, (0, 0, 0)), (.bipush 30, 2, (0, 0, 0)), (.isub, 1, (0, 0, 0)), (.invokevirtual 332, 3, (j_X12_isEye, 2, 0)), (.goto 39, 3, (76, 0, 0))]
def s_X12_isCause_40 : List ZN := [(.aload_n 0, 1, (0, 0, 0)), (.iload_n 1, 1, (0, 0, 0)), (.bipush 50, 2, (0, 0, 0)), (.isub, 1, (0, 0, 0)), (.invokevirtual 332, 3, (j_X12_isEye, 2, 0)), (.ifCond .eq 27, 3, (75, 0, 0)), (.aload_n 0, 1, (0, 0, 0)), (.getfield 35, 3, (12, 9, 2)), (.iload_n 1, 1, (0, 0, 0)), (.bipush 50, 2, (0, 0, 0)), (.isub, 1, (0, 0, 0)), (.iaload, 1, (0, 0, 0)), (.iconst 2, 1, (0, 0, 0)), (.iadd, 1, (0, 0, 0)), (.aload_n 0, 1, (0, 0, 0)), (.getfield 17, 3, (12, 3, 2)), (.iconst 0, 1, (0, 0, 0)), (.iaload, 1, (0, 0, 0)), (.if_icmp .gt 7, 3, (75, 0, 0)), (.iconst 1, 1, (0, 0, 0)), (.goto 4, 3, (76, 0, 0))]
def s_X12_isCause_75 : List ZN := [(.iconst 0, 1, (0, 0, 0)), (.nop, 0, (76, 0, 0))]
def s_X12_isCause_76 : List ZN := [(.ireturn, 1, (1, 0, 0))]
def p_X12_isCause : List (Nat × List ZN) := [(0, s_X12_isCause_0), (15, s_X12_isCause_15), (23, s_X12_isCause_23), (40, s_X12_isCause_40), (75, s_X12_isCause_75), (76, s_X12_isCause_76)]
def s_X12_takesCause_0 : List ZN := [(.iload_n 1, 1, (0, 0, 0)), (.bipush 10, 2, (0, 0, 0)), (.if_icmp .ge 36, 3, (39, 0, 0)), (.aload_n 0, 1, (0, 0, 0)), (.getfield 105, 3, (12, 46, 2)), (.iload_n 1, 1, (0, 0, 0)), (.aload_n 0, 1, (0, 0, 0)), (.getfield 105, 3, (12, 46, 2)), (.iload_n 1, 1, (0, 0, 0)), (.iaload, 1, (0, 0, 0)), (.sipush 200, 3, (0, 0, 0)), (.if_icmp .le 12, 3, (32, 0, 0)), (.aload_n 0, 1, (0, 0, 0)), (.getfield 105, 3, (12, 46, 2)), (.iload_n 1, 1, (0, 0, 0)), (.iaload, 1, (0, 0, 0)), (.goto 6, 3, (35, 0, 0))]
def s_X12_takesCause_32 : List ZN := [(.sipush 200, 3, (0, 0, 0)), (.nop, 0, (35, 0, 0))]
def s_X12_takesCause_35 : List ZN := [(.iastore, 1, (0, 0, 0)), (.goto 79, 3, (115, 0, 0))]
def s_X12_takesCause_39 : List ZN := [(.iload_n 1, 1, (0, 0, 0)), (.bipush 20, 2, (0, 0, 0)), (.if_icmp .ge 18, 3, (60, 0, 0)), (.aload_n 0, 1, (0, 0, 0)), (.getfield 105, 3, (12, 46, 2)), (.iload_n 1, 1, (0, 0, 0)), (.bipush 10, 2, (0, 0, 0)), (.isub, 1, (0, 0, 0)), (.sipush 500, 3, (0, 0, 0)), (.iastore, 1, (0, 0, 0)), (.goto 58, 3, (115, 0, 0))]
def s_X12_takesCause_60 : List ZN := [(.iload_n 1, 1, (0, 0, 0)), (.bipush 30, 2, (0, 0, 0)), (.if_icmp .ge 16, 3, (79, 0, 0)), (.aload_n 0, 1, (0, 0, 0)), (.getfield 108, 3, (12, 47, 2)), (.iload_n 1, 1, (0, 0, 0)), (.bipush 20, 2, (0, 0, 0)), (.isub, 1, (0, 0, 0)), (.iconst 3, 1, (0, 0, 0)), (.iastore, 1, (0, 0, 0)), (.goto 39, 3, (115, 0, 0))]
def s_X12_takesCause_79 : List ZN := [(.iload_n 1, 1, (0, 0, 0)), (.bipush 50, 2, (0, 0, 0)), (.if_icmp .lt 33, 3, (115, 0, 0)), (.aload_n 0, 1, (0, 0, 0)), (.getfield 111, 3, (12, 48, 2)), (.aload_n 0, 1, (0, 0, 0)), (.getfield 338, 3, (12, 51, 0)), (.aload_n 0, 1, (0, 0, 0)), (.getfield 35, 3, (12, 9, 2)), (.iload_n 1, 1, (0, 0, 0)), (.bipush 50, 2, (0, 0, 0)), (.isub, 1, (0, 0, 0)), (.iaload, 1, (0, 0, 0)), (.iconst 2, 1, (0, 0, 0)), (.iadd, 1, (0, 0, 0)), (.iastore, 1, (0, 0, 0)), (.aload_n 0, 1, (0, 0, 0)), (.dup, 1, (0, 0, 0)), (.getfield 338, 3, (12, 51, 0)), (.iconst 1, 1, (0, 0, 0)), (.iadd, 1, (0, 0, 0)), (.putfield 338, 3, (12, 51, 0)), (.nop, 0, (115, 0, 0))]
def s_X12_takesCause_115 : List ZN := [(.return_, 1, (0, 0, 0))]
def p_X12_takesCause : List (Nat × List ZN) := [(0, s_X12_takesCause_0), (32, s_X12_takesCause_32), (35, s_X12_takesCause_35), (39, s_X12_takesCause_39), (60, s_X12_takesCause_60), (79, s_X12_takesCause_79), (115, s_X12_takesCause_115)]
def s_X12_explains_0 : List ZN := [(.iconst 0, 1, (0, 0, 0)), (.istore 4, 2, (0, 0, 0)), (.nop, 0, (3, 0, 0))]
def s_X12_explains_3 : List ZN := [(.iload 4, 2, (0, 0, 0)), (.bipush 10, 2, (0, 0, 0)), (.if_icmp .ge 25, 3, (32, 0, 0)), (.aload_n 0, 1, (0, 0, 0)), (.getfield 105, 3, (12, 46, 2)), (.iload 4, 2, (0, 0, 0)), (.iconst 0, 1, (0, 0, 0)), (.iastore, 1, (0, 0, 0)), (.aload_n 0, 1, (0, 0, 0)), (.getfield 108, 3, (12, 47, 2)), (.iload 4, 2, (0, 0, 0)), (.iconst 0, 1, (0, 0, 0)), (.iastore, 1, (0, 0, 0)), (.iinc 4 1, 3, (0, 0, 0)), (.goto (-26), 3, (3, 0, 0))]
def s_X12_explains_32 : List ZN := [(.aload_n 0, 1, (0, 0, 0)), (.iconst 0, 1, (0, 0, 0)), (.putfield 338, 3, (12, 51, 0)), (.iload_n 1, 1, (0, 0, 0)), (.iconst (-1), 1, (0, 0, 0)), (.if_icmp .eq 8, 3, (47, 0, 0)), (.aload_n 0, 1, (0, 0, 0)), (.iload_n 1, 1, (0, 0, 0)), (.invokevirtual 353, 3, (j_X12_takesCause, 2, 0)), (.nop, 0, (47, 0, 0))]
def s_X12_explains_47 : List ZN := [(.iload_n 2, 1, (0, 0, 0)), (.iconst (-1), 1, (0, 0, 0)), (.if_icmp .eq 8, 3, (57, 0, 0)), (.aload_n 0, 1, (0, 0, 0)), (.iload_n 2, 1, (0, 0, 0)), (.invokevirtual 353, 3, (j_X12_takesCause, 2, 0)), (.nop, 0, (57, 0, 0))]
def s_X12_explains_57 : List ZN := [(.aload_n 0, 1, (0, 0, 0)), (.iload_n 3, 1, (0, 0, 0)), (.iload_n 1, 1, (0, 0, 0)), (.bipush 49, 2, (0, 0, 0)), (.if_icmp .eq 9, 3, (71, 0, 0)), (.iload_n 2, 1, (0, 0, 0)), (.bipush 49, 2, (0, 0, 0)), (.if_icmp .ne 8, 3, (76, 0, 0)), (.nop, 0, (71, 0, 0))]
def s_X12_explains_71 : List ZN := [(.bipush 10, 2, (0, 0, 0)), (.goto 4, 3, (77, 0, 0))]
def s_X12_explains_76 : List ZN := [(.iconst 0, 1, (0, 0, 0)), (.nop, 0, (77, 0, 0))]
def s_X12_explains_77 : List ZN := [(.iadd, 1, (0, 0, 0)), (.invokevirtual 356, 3, (j_X12_looksAlone, 2, 0)), (.iconst 0, 1, (0, 0, 0)), (.istore 4, 2, (0, 0, 0)), (.nop, 0, (84, 0, 0))]
def s_X12_explains_84 : List ZN := [(.iload 4, 2, (0, 0, 0)), (.aload_n 0, 1, (0, 0, 0)), (.getfield 17, 3, (12, 3, 2)), (.bipush 7, 2, (0, 0, 0)), (.iaload, 1, (0, 0, 0)), (.if_icmp .ge 113, 3, (206, 0, 0)), (.aload_n 0, 1, (0, 0, 0)), (.getfield 78, 3, (12, 37, 2)), (.iload 4, 2, (0, 0, 0)), (.baload, 1, (0, 0, 0)), (.ifCond .ne 6, 3, (109, 0, 0)), (.goto 94, 3, (200, 0, 0))]
def s_X12_explains_109 : List ZN := [(.iload_n 1, 1, (0, 0, 0)), (.bipush 30, 2, (0, 0, 0)), (.iload 4, 2, (0, 0, 0)), (.iadd, 1, (0, 0, 0)), (.if_icmp .ne 9, 3, (124, 0, 0)), (.iload_n 1, 1, (0, 0, 0)), (.bipush 49, 2, (0, 0, 0)), (.if_icmp .lt 18, 3, (139, 0, 0)), (.nop, 0, (124, 0, 0))]
def s_X12_explains_124 : List ZN := [(.iload_n 2, 1, (0, 0, 0)), (.bipush 30, 2, (0, 0, 0)), (.iload 4, 2, (0, 0, 0)), (.iadd, 1, (0, 0, 0)), (.if_icmp .ne 13, 3, (143, 0, 0)), (.iload_n 2, 1, (0, 0, 0)), (.bipush 49, 2, (0, 0, 0)), (.if_icmp .ge 7, 3, (143, 0, 0)), (.nop, 0, (139, 0, 0))]
def s_X12_explains_139 : List ZN := [(.iconst 1, 1, (0, 0, 0)), (.goto 4, 3, (144, 0, 0))]
def s_X12_explains_143 : List ZN := [(.iconst 0, 1, (0, 0, 0)), (.nop, 0, (144, 0, 0))]
def s_X12_explains_144 : List ZN := [(.istore 5, 2, (0, 0, 0)), (.iload 5, 2, (0, 0, 0)), (.ifCond .eq 7, 3, (155, 0, 0)), (.iconst (-1), 1, (0, 0, 0)), (.goto 10, 3, (162, 0, 0))]
def s_X12_explains_155 : List ZN := [(.aload_n 0, 1, (0, 0, 0)), (.getfield 114, 3, (12, 49, 2)), (.iload 4, 2, (0, 0, 0)), (.iaload, 1, (0, 0, 0)), (.nop, 0, (162, 0, 0))]
def s_X12_explains_162 : List ZN := [(.aload_n 0, 1, (0, 0, 0)), (.getfield 96, 3, (12, 43, 2)), (.iload 4, 2, (0, 0, 0)), (.iaload, 1, (0, 0, 0)), (.if_icmp .ne 29, 3, (198, 0, 0)), (.iload 5, 2, (0, 0, 0)), (.ifCond .eq 7, 3, (181, 0, 0)), (.iconst (-1), 1, (0, 0, 0)), (.goto 10, 3, (188, 0, 0))]
def s_X12_explains_181 : List ZN := [(.aload_n 0, 1, (0, 0, 0)), (.getfield 117, 3, (12, 50, 2)), (.iload 4, 2, (0, 0, 0)), (.iaload, 1, (0, 0, 0)), (.nop, 0, (188, 0, 0))]
def s_X12_explains_188 : List ZN := [(.aload_n 0, 1, (0, 0, 0)), (.getfield 99, 3, (12, 44, 2)), (.iload 4, 2, (0, 0, 0)), (.iaload, 1, (0, 0, 0)), (.if_icmp .eq 5, 3, (200, 0, 0)), (.nop, 0, (198, 0, 0))]
def s_X12_explains_198 : List ZN := [(.iconst 0, 1, (0, 0, 0)), (.ireturn, 1, (1, 0, 0))]
def s_X12_explains_200 : List ZN := [(.iinc 4 1, 3, (0, 0, 0)), (.goto (-119), 3, (84, 0, 0))]
def s_X12_explains_206 : List ZN := [(.iconst 1, 1, (0, 0, 0)), (.ireturn, 1, (1, 0, 0))]
def p_X12_explains : List (Nat × List ZN) := [(0, s_X12_explains_0), (3, s_X12_explains_3), (32, s_X12_explains_32), (47, s_X12_explains_47), (57, s_X12_explains_57), (71, s_X12_explains_71), (76, s_X12_explains_76), (77, s_X12_explains_77), (84, s_X12_explains_84), (109, s_X12_explains_109), (124, s_X12_explains_124), (139, s_X12_explains_139), (143, s_X12_explains_143), (144, s_X12_explains_144), (155, s_X12_explains_155), (162, s_X12_explains_162), (181, s_X12_explains_181), (188, s_X12_explains_188), (198, s_X12_explains_198), (200, s_X12_explains_200), (206, s_X12_explains_206)]
def s_X12_explain_0 : List ZN := [(.aload_n 0, 1, (0, 0, 0)), (.iconst 0, 1, (0, 0, 0)), (.putfield 1, 3, (12, 0, 0)), (.iload_n 1, 1, (0, 0, 0)), (.i2l, 1, (0, 0, 0)), (.ldc2_w 290, 3, (0, 0, 10)), (.ldc2_w 292, 3, (0, 0, 60)), (.invokestatic 240, 3, (j_X12_within, 3, 0)), (.ifCond .ne 6, 3, (22, 0, 0)), (.bipush (-3), 2, (0, 0, 0)), (.ireturn, 1, (0, 0, 0))]
def s_X12_explain_22 : List ZN := [(.aload_n 0, 1, (0, 0, 0)), (.getfield 17, 3, (12, 3, 2)), (.bipush 6, 2, (0, 0, 0)), (.iaload, 1, (0, 0, 0)), (.ifCond .ne 6, 3, (35, 0, 0)), (.bipush (-5), 2, (0, 0, 0)), (.ireturn, 1, (0, 0, 0))]
def s_X12_explain_35 : List ZN := [(.aload_n 0, 1, (0, 0, 0)), (.iconst (-1), 1, (0, 0, 0)), (.iconst (-1), 1, (0, 0, 0)), (.iload_n 1, 1, (0, 0, 0)), (.invokevirtual 359, 3, (j_X12_explains, 4, 0)), (.ifCond .eq 14, 3, (56, 0, 0)), (.iload_n 2, 1, (0, 0, 0)), (.iconst (-1), 1, (0, 0, 0)), (.if_icmp .ne 7, 3, (54, 0, 0)), (.iconst 0, 1, (0, 0, 0)), (.goto 4, 3, (55, 0, 0))]
def s_X12_explain_54 : List ZN := [(.iconst (-1), 1, (0, 0, 0)), (.nop, 0, (55, 0, 0))]
def s_X12_explain_55 : List ZN := [(.ireturn, 1, (0, 0, 0))]
def s_X12_explain_56 : List ZN := [(.iconst 0, 1, (0, 0, 0)), (.istore_n 3, 1, (0, 0, 0)), (.nop, 0, (58, 0, 0))]
def s_X12_explain_58 : List ZN := [(.iload_n 3, 1, (0, 0, 0)), (.bipush 70, 2, (0, 0, 0)), (.if_icmp .ge 46, 3, (107, 0, 0)), (.aload_n 0, 1, (0, 0, 0)), (.iload_n 3, 1, (0, 0, 0)), (.invokevirtual 363, 3, (j_X12_isCause, 2, 0)), (.ifCond .eq 32, 3, (101, 0, 0)), (.aload_n 0, 1, (0, 0, 0)), (.iload_n 3, 1, (0, 0, 0)), (.iconst (-1), 1, (0, 0, 0)), (.iload_n 1, 1, (0, 0, 0)), (.invokevirtual 359, 3, (j_X12_explains, 4, 0)), (.ifCond .eq 22, 3, (101, 0, 0)), (.iload_n 2, 1, (0, 0, 0)), (.iconst (-1), 1, (0, 0, 0)), (.if_icmp .ne 7, 3, (91, 0, 0)), (.iconst 1, 1, (0, 0, 0)), (.goto 12, 3, (100, 0, 0))]
def s_X12_explain_91 : List ZN := [(.iload_n 2, 1, (0, 0, 0)), (.ifCond .ne 7, 3, (99, 0, 0)), (.iload_n 3, 1, (0, 0, 0)), (.goto 4, 3, (100, 0, 0))]
def s_X12_explain_99 : List ZN := [(.iconst (-1), 1, (0, 0, 0)), (.nop, 0, (100, 0, 0))]
def s_X12_explain_100 : List ZN := [(.ireturn, 1, (0, 0, 0))]
def s_X12_explain_101 : List ZN := [(.iinc 3 1, 3, (0, 0, 0)), (.goto (-46), 3, (58, 0, 0))]
def s_X12_explain_107 : List ZN := [(.iconst 0, 1, (0, 0, 0)), (.istore_n 3, 1, (0, 0, 0)), (.nop, 0, (109, 0, 0))]
def s_X12_explain_109 : List ZN := [(.iload_n 3, 1, (0, 0, 0)), (.bipush 70, 2, (0, 0, 0)), (.if_icmp .ge 84, 3, (196, 0, 0)), (.iload_n 3, 1, (0, 0, 0)), (.iconst 1, 1, (0, 0, 0)), (.iadd, 1, (0, 0, 0)), (.istore 4, 2, (0, 0, 0)), (.nop, 0, (120, 0, 0))]
def s_X12_explain_120 : List ZN := [(.iload 4, 2, (0, 0, 0)), (.bipush 70, 2, (0, 0, 0)), (.if_icmp .ge 66, 3, (190, 0, 0)), (.aload_n 0, 1, (0, 0, 0)), (.iload_n 3, 1, (0, 0, 0)), (.invokevirtual 363, 3, (j_X12_isCause, 2, 0)), (.ifCond .eq 58, 3, (190, 0, 0)), (.aload_n 0, 1, (0, 0, 0)), (.iload 4, 2, (0, 0, 0)), (.invokevirtual 363, 3, (j_X12_isCause, 2, 0)), (.ifCond .eq 43, 3, (184, 0, 0)), (.aload_n 0, 1, (0, 0, 0)), (.iload_n 3, 1, (0, 0, 0)), (.iload 4, 2, (0, 0, 0)), (.iload_n 1, 1, (0, 0, 0)), (.invokevirtual 359, 3, (j_X12_explains, 4, 0)), (.ifCond .eq 32, 3, (184, 0, 0)), (.iload_n 2, 1, (0, 0, 0)), (.iconst (-1), 1, (0, 0, 0)), (.if_icmp .ne 7, 3, (164, 0, 0)), (.iconst 2, 1, (0, 0, 0)), (.goto 22, 3, (183, 0, 0))]
def s_X12_explain_164 : List ZN := [(.iload_n 2, 1, (0, 0, 0)), (.ifCond .ne 7, 3, (172, 0, 0)), (.iload_n 3, 1, (0, 0, 0)), (.goto 14, 3, (183, 0, 0))]
def s_X12_explain_172 : List ZN := [(.iload_n 2, 1, (0, 0, 0)), (.iconst 1, 1, (0, 0, 0)), (.if_icmp .ne 8, 3, (182, 0, 0)), (.iload 4, 2, (0, 0, 0)), (.goto 4, 3, (183, 0, 0))]
def s_X12_explain_182 : List ZN := [(.iconst (-1), 1, (0, 0, 0)), (.nop, 0, (183, 0, 0))]
def s_X12_explain_183 : List ZN := [(.ireturn, 1, (0, 0, 0))]
def s_X12_explain_184 : List ZN := [(.iinc 4 1, 3, (0, 0, 0)), (.goto (-67), 3, (120, 0, 0))]
def s_X12_explain_190 : List ZN := [(.iinc 3 1, 3, (0, 0, 0)), (.goto (-84), 3, (109, 0, 0))]
def s_X12_explain_196 : List ZN := [(.iconst (-1), 1, (0, 0, 0)), (.ireturn, 1, (0, 0, 0))]
def p_X12_explain : List (Nat × List ZN) := [(0, s_X12_explain_0), (22, s_X12_explain_22), (35, s_X12_explain_35), (54, s_X12_explain_54), (55, s_X12_explain_55), (56, s_X12_explain_56), (58, s_X12_explain_58), (91, s_X12_explain_91), (99, s_X12_explain_99), (100, s_X12_explain_100), (101, s_X12_explain_101), (107, s_X12_explain_107), (109, s_X12_explain_109), (120, s_X12_explain_120), (164, s_X12_explain_164), (172, s_X12_explain_172), (182, s_X12_explain_182), (183, s_X12_explain_183), (184, s_X12_explain_184), (190, s_X12_explain_190), (196, s_X12_explain_196)]
def s_X12_foretold_0 : List ZN := [(.aload_n 0, 1, (0, 0, 0)), (.iconst 0, 1, (0, 0, 0)), (.putfield 1, 3, (12, 0, 0)), (.aload_n 0, 1, (0, 0, 0)), (.iload_n 1, 1, (0, 0, 0)), (.invokevirtual 269, 3, (j_X12_isRoller, 2, 0)), (.ifCond .ne 6, 3, (16, 0, 0)), (.bipush (-2), 2, (0, 0, 0)), (.ireturn, 1, (0, 0, 0))]
def s_X12_foretold_16 : List ZN := [(.iload_n 2, 1, (0, 0, 0)), (.i2l, 1, (0, 0, 0)), (.lconst 0, 1, (0, 0, 0)), (.ldc2_w 366, 3, (0, 0, 100)), (.invokestatic 240, 3, (j_X12_within, 3, 0)), (.ifCond .eq 17, 3, (42, 0, 0)), (.iload_n 3, 1, (0, 0, 0)), (.i2l, 1, (0, 0, 0)), (.ldc2_w 290, 3, (0, 0, 10)), (.ldc2_w 292, 3, (0, 0, 60)), (.invokestatic 240, 3, (j_X12_within, 3, 0)), (.ifCond .ne 6, 3, (45, 0, 0)), (.nop, 0, (42, 0, 0))]
def s_X12_foretold_42 : List ZN := [(.bipush (-3), 2, (0, 0, 0)), (.ireturn, 1, (0, 0, 0))]
def s_X12_foretold_45 : List ZN := [(.iconst 0, 1, (0, 0, 0)), (.istore 4, 2, (0, 0, 0)), (.nop, 0, (48, 0, 0))]
def s_X12_foretold_48 : List ZN := [(.iload 4, 2, (0, 0, 0)), (.bipush 10, 2, (0, 0, 0)), (.if_icmp .ge 37, 3, (89, 0, 0)), (.aload_n 0, 1, (0, 0, 0)), (.getfield 105, 3, (12, 46, 2)), (.iload 4, 2, (0, 0, 0)), (.aload_n 0, 1, (0, 0, 0)), (.getfield 44, 3, (12, 23, 2)), (.iload 4, 2, (0, 0, 0)), (.iaload, 1, (0, 0, 0)), (.iastore, 1, (0, 0, 0)), (.aload_n 0, 1, (0, 0, 0)), (.getfield 108, 3, (12, 47, 2)), (.iload 4, 2, (0, 0, 0)), (.aload_n 0, 1, (0, 0, 0)), (.getfield 47, 3, (12, 24, 2)), (.iload 4, 2, (0, 0, 0)), (.iaload, 1, (0, 0, 0)), (.iastore, 1, (0, 0, 0)), (.iinc 4 1, 3, (0, 0, 0)), (.goto (-38), 3, (48, 0, 0))]
def s_X12_foretold_89 : List ZN := [(.iconst 0, 1, (0, 0, 0)), (.istore 4, 2, (0, 0, 0)), (.nop, 0, (92, 0, 0))]
def s_X12_foretold_92 : List ZN := [(.iload 4, 2, (0, 0, 0)), (.iconst 3, 1, (0, 0, 0)), (.if_icmp .ge 23, 3, (118, 0, 0)), (.aload_n 0, 1, (0, 0, 0)), (.getfield 111, 3, (12, 48, 2)), (.iload 4, 2, (0, 0, 0)), (.aload_n 0, 1, (0, 0, 0)), (.getfield 50, 3, (12, 25, 2)), (.iload 4, 2, (0, 0, 0)), (.iaload, 1, (0, 0, 0)), (.iastore, 1, (0, 0, 0)), (.iinc 4 1, 3, (0, 0, 0)), (.goto (-23), 3, (92, 0, 0))]
def s_X12_foretold_118 : List ZN := [(.aload_n 0, 1, (0, 0, 0)), (.aload_n 0, 1, (0, 0, 0)), (.getfield 171, 3, (12, 26, 0)), (.putfield 338, 3, (12, 51, 0)), (.iconst 1, 1, (0, 0, 0)), (.istore 4, 2, (0, 0, 0)), (.nop, 0, (129, 0, 0))]
def s_X12_foretold_129 : List ZN := [(.iload 4, 2, (0, 0, 0)), (.bipush 60, 2, (0, 0, 0)), (.if_icmp .gt 57, 3, (190, 0, 0)), (.aload_n 0, 1, (0, 0, 0)), (.getfield 105, 3, (12, 46, 2)), (.iload_n 1, 1, (0, 0, 0)), (.aload_n 0, 1, (0, 0, 0)), (.getfield 105, 3, (12, 46, 2)), (.iload_n 1, 1, (0, 0, 0)), (.iaload, 1, (0, 0, 0)), (.iload_n 2, 1, (0, 0, 0)), (.iadd, 1, (0, 0, 0)), (.sipush 1000, 3, (0, 0, 0)), (.if_icmp .le 9, 3, (161, 0, 0)), (.sipush 1000, 3, (0, 0, 0)), (.goto 11, 3, (169, 0, 0))]
def s_X12_foretold_161 : List ZN := [(.aload_n 0, 1, (0, 0, 0)), (.getfield 105, 3, (12, 46, 2)), (.iload_n 1, 1, (0, 0, 0)), (.iaload, 1, (0, 0, 0)), (.iload_n 2, 1, (0, 0, 0)), (.iadd, 1, (0, 0, 0)), (.nop, 0, (169, 0, 0))]
def s_X12_foretold_169 : List ZN := [(.iastore, 1, (0, 0, 0)), (.aload_n 0, 1, (0, 0, 0)), (.iload_n 3, 1, (0, 0, 0)), (.sipush 400, 3, (0, 0, 0)), (.invokevirtual 368, 3, (j_X12_isOutAlone, 3, 0)), (.ifCond .ne 6, 3, (184, 0, 0)), (.iload 4, 2, (0, 0, 0)), (.ireturn, 1, (0, 0, 0))]
def s_X12_foretold_184 : List ZN := [(.iinc 4 1, 3, (0, 0, 0)), (.goto (-58), 3, (129, 0, 0))]
def s_X12_foretold_190 : List ZN := [(.iconst (-1), 1, (0, 0, 0)), (.ireturn, 1, (0, 0, 0))]
def p_X12_foretold : List (Nat × List ZN) := [(0, s_X12_foretold_0), (16, s_X12_foretold_16), (42, s_X12_foretold_42), (45, s_X12_foretold_45), (48, s_X12_foretold_48), (89, s_X12_foretold_89), (92, s_X12_foretold_92), (118, s_X12_foretold_118), (129, s_X12_foretold_129), (161, s_X12_foretold_161), (169, s_X12_foretold_169), (184, s_X12_foretold_184), (190, s_X12_foretold_190)]
def s_X12_creaseOf_0 : List ZN := [(.iconst 0, 1, (0, 0, 0)), (.istore 4, 2, (0, 0, 0)), (.iconst 0, 1, (0, 0, 0)), (.istore 5, 2, (0, 0, 0)), (.nop, 0, (6, 0, 0))]
def s_X12_creaseOf_6 : List ZN := [(.iload 5, 2, (0, 0, 0)), (.aload_n 0, 1, (0, 0, 0)), (.getfield 17, 3, (12, 3, 2)), (.bipush 6, 2, (0, 0, 0)), (.iaload, 1, (0, 0, 0)), (.if_icmp .ge 55, 3, (70, 0, 0)), (.aload_n 0, 1, (0, 0, 0)), (.getfield 23, 3, (12, 5, 2)), (.iload 5, 2, (0, 0, 0)), (.iaload, 1, (0, 0, 0)), (.iload_n 1, 1, (0, 0, 0)), (.iload_n 2, 1, (0, 0, 0)), (.isub, 1, (0, 0, 0)), (.if_icmp .le 36, 3, (64, 0, 0)), (.aload_n 0, 1, (0, 0, 0)), (.getfield 23, 3, (12, 5, 2)), (.iload 5, 2, (0, 0, 0)), (.iaload, 1, (0, 0, 0)), (.iload_n 1, 1, (0, 0, 0)), (.if_icmp .le 6, 3, (45, 0, 0)), (.goto 22, 3, (64, 0, 0))]
def s_X12_creaseOf_45 : List ZN := [(.iload 4, 2, (0, 0, 0)), (.iload_n 3, 1, (0, 0, 0)), (.if_icmp .ne 13, 3, (61, 0, 0)), (.iload_n 1, 1, (0, 0, 0)), (.aload_n 0, 1, (0, 0, 0)), (.getfield 23, 3, (12, 5, 2)), (.iload 5, 2, (0, 0, 0)), (.iaload, 1, (0, 0, 0)), (.isub, 1, (0, 0, 0)), (.ireturn, 1, (0, 0, 0))]
def s_X12_creaseOf_61 : List ZN := [(.iinc 4 1, 3, (0, 0, 0)), (.nop, 0, (64, 0, 0))]
def s_X12_creaseOf_64 : List ZN := [(.iinc 5 1, 3, (0, 0, 0)), (.goto (-61), 3, (6, 0, 0))]
def s_X12_creaseOf_70 : List ZN := [(.iconst (-1), 1, (0, 0, 0)), (.ireturn, 1, (0, 0, 0))]
def p_X12_creaseOf : List (Nat × List ZN) := [(0, s_X12_creaseOf_0), (6, s_X12_creaseOf_6), (45, s_X12_creaseOf_45), (61, s_X12_creaseOf_61), (64, s_X12_creaseOf_64), (70, s_X12_creaseOf_70)]
def s_X12_crease_0 : List ZN := [(.aload_n 0, 1, (0, 0, 0)), (.iconst 0, 1, (0, 0, 0)), (.putfield 1, 3, (12, 0, 0)), (.iload_n 2, 1, (0, 0, 0)), (.i2l, 1, (0, 0, 0)), (.ldc2_w 371, 3, (0, 0, -1)), (.ldc2_w 292, 3, (0, 0, 60)), (.invokestatic 240, 3, (j_X12_within, 3, 0)), (.ifCond .eq 58, 3, (74, 0, 0)), (.iload_n 3, 1, (0, 0, 0)), (.i2l, 1, (0, 0, 0)), (.ldc2_w 371, 3, (0, 0, -1)), (.ldc2_w 292, 3, (0, 0, 60)), (.invokestatic 240, 3, (j_X12_within, 3, 0)), (.ifCond .eq 44, 3, (74, 0, 0)), (.iload 4, 2, (0, 0, 0)), (.i2l, 1, (0, 0, 0)), (.ldc2_w 371, 3, (0, 0, -1)), (.ldc2_w 292, 3, (0, 0, 60)), (.invokestatic 240, 3, (j_X12_within, 3, 0)), (.ifCond .eq 29, 3, (74, 0, 0)), (.iload_n 3, 1, (0, 0, 0)), (.iconst (-1), 1, (0, 0, 0)), (.if_icmp .eq 8, 3, (58, 0, 0)), (.iload_n 3, 1, (0, 0, 0)), (.iload_n 2, 1, (0, 0, 0)), (.if_icmp .ge 19, 3, (74, 0, 0)), (.nop, 0, (58, 0, 0))]
def s_X12_crease_58 : List ZN := [(.iload 4, 2, (0, 0, 0)), (.iconst (-1), 1, (0, 0, 0)), (.if_icmp .eq 9, 3, (70, 0, 0)), (.iload 4, 2, (0, 0, 0)), (.iload_n 3, 1, (0, 0, 0)), (.if_icmp .ge 7, 3, (74, 0, 0)), (.nop, 0, (70, 0, 0))]
def s_X12_crease_70 : List ZN := [(.iconst 1, 1, (0, 0, 0)), (.goto 4, 3, (75, 0, 0))]
def s_X12_crease_74 : List ZN := [(.iconst 0, 1, (0, 0, 0)), (.nop, 0, (75, 0, 0))]
def s_X12_crease_75 : List ZN := [(.istore 6, 2, (0, 0, 0)), (.iload_n 1, 1, (0, 0, 0)), (.i2l, 1, (0, 0, 0)), (.ldc2_w 290, 3, (0, 0, 10)), (.ldc2_w 292, 3, (0, 0, 60)), (.invokestatic 240, 3, (j_X12_within, 3, 0)), (.ifCond .eq 8, 3, (96, 0, 0)), (.iload 6, 2, (0, 0, 0)), (.ifCond .ne 6, 3, (99, 0, 0)), (.nop, 0, (96, 0, 0))]
def s_X12_crease_96 : List ZN := [(.bipush (-3), 2, (0, 0, 0)), (.ireturn, 1, (0, 0, 0))]
def s_X12_crease_99 : List ZN := [(.iconst 0, 1, (0, 0, 0)), (.istore 7, 2, (0, 0, 0)), (.iconst 1, 1, (0, 0, 0)), (.istore 8, 2, (0, 0, 0)), (.nop, 0, (105, 0, 0))]
def s_X12_crease_105 : List ZN := [(.iload 8, 2, (0, 0, 0)), (.aload_n 0, 1, (0, 0, 0)), (.getfield 17, 3, (12, 3, 2)), (.iconst 0, 1, (0, 0, 0)), (.iaload, 1, (0, 0, 0)), (.if_icmp .gt 74, 3, (187, 0, 0)), (.aload_n 0, 1, (0, 0, 0)), (.iload 8, 2, (0, 0, 0)), (.iload_n 1, 1, (0, 0, 0)), (.iconst 0, 1, (0, 0, 0)), (.invokevirtual 373, 3, (j_X12_creaseOf, 4, 0)), (.iload_n 2, 1, (0, 0, 0)), (.if_icmp .ne 56, 3, (181, 0, 0)), (.aload_n 0, 1, (0, 0, 0)), (.iload 8, 2, (0, 0, 0)), (.iload_n 1, 1, (0, 0, 0)), (.iconst 1, 1, (0, 0, 0)), (.invokevirtual 373, 3, (j_X12_creaseOf, 4, 0)), (.iload_n 3, 1, (0, 0, 0)), (.if_icmp .ne 44, 3, (181, 0, 0)), (.aload_n 0, 1, (0, 0, 0)), (.iload 8, 2, (0, 0, 0)), (.iload_n 1, 1, (0, 0, 0)), (.iconst 2, 1, (0, 0, 0)), (.invokevirtual 373, 3, (j_X12_creaseOf, 4, 0)), (.iload 4, 2, (0, 0, 0)), (.if_icmp .ne 31, 3, (181, 0, 0)), (.aload_n 0, 1, (0, 0, 0)), (.iload 8, 2, (0, 0, 0)), (.iload_n 1, 1, (0, 0, 0)), (.iconst 3, 1, (0, 0, 0)), (.invokevirtual 373, 3, (j_X12_creaseOf, 4, 0)), (.iconst (-1), 1, (0, 0, 0)), (.if_icmp .eq 6, 3, (168, 0, 0)), (.goto 16, 3, (181, 0, 0))]
def s_X12_crease_168 : List ZN := [(.iload 7, 2, (0, 0, 0)), (.iload 5, 2, (0, 0, 0)), (.if_icmp .ne 6, 3, (178, 0, 0)), (.iload 8, 2, (0, 0, 0)), (.ireturn, 1, (0, 0, 0))]
def s_X12_crease_178 : List ZN := [(.iinc 7 1, 3, (0, 0, 0)), (.nop, 0, (181, 0, 0))]
def s_X12_crease_181 : List ZN := [(.iinc 8 1, 3, (0, 0, 0)), (.goto (-79), 3, (105, 0, 0))]
def s_X12_crease_187 : List ZN := [(.iload 5, 2, (0, 0, 0)), (.iconst (-1), 1, (0, 0, 0)), (.if_icmp .ne 8, 3, (198, 0, 0)), (.iload 7, 2, (0, 0, 0)), (.goto 4, 3, (199, 0, 0))]
def s_X12_crease_198 : List ZN := [(.iconst (-1), 1, (0, 0, 0)), (.nop, 0, (199, 0, 0))]
def s_X12_crease_199 : List ZN := [(.ireturn, 1, (0, 0, 0))]
def p_X12_crease : List (Nat × List ZN) := [(0, s_X12_crease_0), (58, s_X12_crease_58), (70, s_X12_crease_70), (74, s_X12_crease_74), (75, s_X12_crease_75), (96, s_X12_crease_96), (99, s_X12_crease_99), (105, s_X12_crease_105), (168, s_X12_crease_168), (178, s_X12_crease_178), (181, s_X12_crease_181), (187, s_X12_crease_187), (198, s_X12_crease_198), (199, s_X12_crease_199)]
def s_X12_setsOut_0 : List ZN := [(.aload_n 0, 1, (0, 0, 0)), (.getfield 120, 3, (12, 54, 2)), (.bipush 24, 2, (0, 0, 0)), (.iconst 1, 1, (0, 0, 0)), (.iastore, 1, (0, 0, 0)), (.aload_n 0, 1, (0, 0, 0)), (.getfield 120, 3, (12, 54, 2)), (.bipush 26, 2, (0, 0, 0)), (.bipush 30, 2, (0, 0, 0)), (.iastore, 1, (0, 0, 0)), (.aload_n 0, 1, (0, 0, 0)), (.getfield 120, 3, (12, 54, 2)), (.bipush 29, 2, (0, 0, 0)), (.iconst 1, 1, (0, 0, 0)), (.iastore, 1, (0, 0, 0)), (.aload_n 0, 1, (0, 0, 0)), (.getfield 120, 3, (12, 54, 2)), (.bipush 30, 2, (0, 0, 0)), (.iconst 1, 1, (0, 0, 0)), (.iastore, 1, (0, 0, 0)), (.iconst 0, 1, (0, 0, 0)), (.istore_n 1, 1, (0, 0, 0)), (.nop, 0, (35, 0, 0))]
def s_X12_setsOut_35 : List ZN := [(.iload_n 1, 1, (0, 0, 0)), (.bipush 10, 2, (0, 0, 0)), (.if_icmp .ge 20, 3, (58, 0, 0)), (.aload_n 0, 1, (0, 0, 0)), (.getfield 120, 3, (12, 54, 2)), (.bipush 103, 2, (0, 0, 0)), (.iload_n 1, 1, (0, 0, 0)), (.iadd, 1, (0, 0, 0)), (.bipush 12, 2, (0, 0, 0)), (.iastore, 1, (0, 0, 0)), (.iinc 1 1, 3, (0, 0, 0)), (.goto (-20), 3, (35, 0, 0))]
def s_X12_setsOut_58 : List ZN := [(.return_, 1, (0, 0, 0))]
def p_X12_setsOut : List (Nat × List ZN) := [(0, s_X12_setsOut_0), (35, s_X12_setsOut_35), (58, s_X12_setsOut_58)]
def s_X12_page_0 : List ZN := [(.aload_n 0, 1, (0, 0, 0)), (.iconst 0, 1, (0, 0, 0)), (.putfield 1, 3, (12, 0, 0)), (.iload_n 1, 1, (0, 0, 0)), (.i2l, 1, (0, 0, 0)), (.lconst 0, 1, (0, 0, 0)), (.ldc2_w 377, 3, (0, 0, 3)), (.invokestatic 240, 3, (j_X12_within, 3, 0)), (.ifCond .ne 6, 3, (20, 0, 0)), (.bipush (-3), 2, (0, 0, 0)), (.ireturn, 1, (0, 0, 0))]
def s_X12_page_20 : List ZN := [(.aload_n 0, 1, (0, 0, 0)), (.getfield 120, 3, (12, 54, 2)), (.bipush 31, 2, (0, 0, 0)), (.iaload, 1, (0, 0, 0)), (.bipush 8, 2, (0, 0, 0)), (.if_icmp .ne 6, 3, (35, 0, 0)), (.bipush (-4), 2, (0, 0, 0)), (.ireturn, 1, (0, 0, 0))]
def s_X12_page_35 : List ZN := [(.aload_n 0, 1, (0, 0, 0)), (.getfield 120, 3, (12, 54, 2)), (.bipush 32, 2, (0, 0, 0)), (.iaload, 1, (0, 0, 0)), (.ifCond .le 6, 3, (48, 0, 0)), (.bipush (-5), 2, (0, 0, 0)), (.ireturn, 1, (0, 0, 0))]
def s_X12_page_48 : List ZN := [(.aload_n 0, 1, (0, 0, 0)), (.getfield 120, 3, (12, 54, 2)), (.iconst 0, 1, (0, 0, 0)), (.aload_n 0, 1, (0, 0, 0)), (.getfield 120, 3, (12, 54, 2)), (.bipush 31, 2, (0, 0, 0)), (.iaload, 1, (0, 0, 0)), (.iadd, 1, (0, 0, 0)), (.iload_n 1, 1, (0, 0, 0)), (.iastore, 1, (0, 0, 0)), (.aload_n 0, 1, (0, 0, 0)), (.getfield 120, 3, (12, 54, 2)), (.bipush 8, 2, (0, 0, 0)), (.aload_n 0, 1, (0, 0, 0)), (.getfield 120, 3, (12, 54, 2)), (.bipush 31, 2, (0, 0, 0)), (.iaload, 1, (0, 0, 0)), (.iadd, 1, (0, 0, 0)), (.iload_n 2, 1, (0, 0, 0)), (.ifCond .eq 7, 3, (85, 0, 0)), (.iconst 2, 1, (0, 0, 0)), (.goto 4, 3, (86, 0, 0))]
def s_X12_page_85 : List ZN := [(.iconst 1, 1, (0, 0, 0)), (.nop, 0, (86, 0, 0))]
def s_X12_page_86 : List ZN := [(.iastore, 1, (0, 0, 0)), (.aload_n 0, 1, (0, 0, 0)), (.getfield 120, 3, (12, 54, 2)), (.bipush 31, 2, (0, 0, 0)), (.dup2, 1, (0, 0, 0)), (.iaload, 1, (0, 0, 0)), (.iconst 1, 1, (0, 0, 0)), (.iadd, 1, (0, 0, 0)), (.iastore, 1, (0, 0, 0)), (.aload_n 0, 1, (0, 0, 0)), (.getfield 120, 3, (12, 54, 2)), (.bipush 31, 2, (0, 0, 0)), (.iaload, 1, (0, 0, 0)), (.iconst 1, 1, (0, 0, 0)), (.isub, 1, (0, 0, 0)), (.ireturn, 1, (0, 0, 0))]
def p_X12_page : List (Nat × List ZN) := [(0, s_X12_page_0), (20, s_X12_page_20), (35, s_X12_page_35), (48, s_X12_page_48), (85, s_X12_page_85), (86, s_X12_page_86)]
def s_X12_tray_0 : List ZN := [(.aload_n 0, 1, (0, 0, 0)), (.iconst 0, 1, (0, 0, 0)), (.putfield 1, 3, (12, 0, 0)), (.iload_n 1, 1, (0, 0, 0)), (.i2l, 1, (0, 0, 0)), (.lconst 0, 1, (0, 0, 0)), (.ldc2_w 377, 3, (0, 0, 3)), (.invokestatic 240, 3, (j_X12_within, 3, 0)), (.ifCond .eq 15, 3, (29, 0, 0)), (.iload_n 2, 1, (0, 0, 0)), (.i2l, 1, (0, 0, 0)), (.lconst 0, 1, (0, 0, 0)), (.ldc2_w 377, 3, (0, 0, 3)), (.invokestatic 240, 3, (j_X12_within, 3, 0)), (.ifCond .ne 5, 3, (31, 0, 0)), (.nop, 0, (29, 0, 0))]
def s_X12_tray_29 : List ZN := [(.iconst 0, 1, (0, 0, 0)), (.ireturn, 1, (1, 0, 0))]
def s_X12_tray_31 : List ZN := [(.aload_n 0, 1, (0, 0, 0)), (.getfield 120, 3, (12, 54, 2)), (.bipush 16, 2, (0, 0, 0)), (.iload_n 1, 1, (0, 0, 0)), (.iadd, 1, (0, 0, 0)), (.iload_n 2, 1, (0, 0, 0)), (.iastore, 1, (0, 0, 0)), (.aload_n 0, 1, (0, 0, 0)), (.getfield 120, 3, (12, 54, 2)), (.bipush 20, 2, (0, 0, 0)), (.iload_n 1, 1, (0, 0, 0)), (.iadd, 1, (0, 0, 0)), (.iload_n 3, 1, (0, 0, 0)), (.ifCond .eq 7, 3, (57, 0, 0)), (.iconst 1, 1, (0, 0, 0)), (.goto 4, 3, (58, 0, 0))]
def s_X12_tray_57 : List ZN := [(.iconst 0, 1, (0, 0, 0)), (.nop, 0, (58, 0, 0))]
def s_X12_tray_58 : List ZN := [(.iastore, 1, (0, 0, 0)), (.iconst 1, 1, (0, 0, 0)), (.ireturn, 1, (1, 0, 0))]
def p_X12_tray : List (Nat × List ZN) := [(0, s_X12_tray_0), (29, s_X12_tray_29), (31, s_X12_tray_31), (57, s_X12_tray_57), (58, s_X12_tray_58)]
def s_X12_pocket_0 : List ZN := [(.aload_n 0, 1, (0, 0, 0)), (.iconst 0, 1, (0, 0, 0)), (.putfield 1, 3, (12, 0, 0)), (.iload_n 1, 1, (0, 0, 0)), (.i2l, 1, (0, 0, 0)), (.lconst 1, 1, (0, 0, 0)), (.ldc2_w 377, 3, (0, 0, 3)), (.invokestatic 240, 3, (j_X12_within, 3, 0)), (.ifCond .eq 15, 3, (29, 0, 0)), (.iload_n 2, 1, (0, 0, 0)), (.i2l, 1, (0, 0, 0)), (.lconst 0, 1, (0, 0, 0)), (.ldc2_w 379, 3, (0, 0, 4)), (.invokestatic 240, 3, (j_X12_within, 3, 0)), (.ifCond .ne 5, 3, (31, 0, 0)), (.nop, 0, (29, 0, 0))]
def s_X12_pocket_29 : List ZN := [(.iconst 0, 1, (0, 0, 0)), (.ireturn, 1, (1, 0, 0))]
def s_X12_pocket_31 : List ZN := [(.aload_n 0, 1, (0, 0, 0)), (.getfield 120, 3, (12, 54, 2)), (.bipush 24, 2, (0, 0, 0)), (.iload_n 1, 1, (0, 0, 0)), (.iastore, 1, (0, 0, 0)), (.aload_n 0, 1, (0, 0, 0)), (.getfield 120, 3, (12, 54, 2)), (.bipush 25, 2, (0, 0, 0)), (.iload_n 2, 1, (0, 0, 0)), (.iastore, 1, (0, 0, 0)), (.iconst 1, 1, (0, 0, 0)), (.ireturn, 1, (1, 0, 0))]
def p_X12_pocket : List (Nat × List ZN) := [(0, s_X12_pocket_0), (29, s_X12_pocket_29), (31, s_X12_pocket_31)]
def s_X12_heat_0 : List ZN := [(.aload_n 0, 1, (0, 0, 0)), (.iconst 0, 1, (0, 0, 0)), (.putfield 1, 3, (12, 0, 0)), (.iload_n 1, 1, (0, 0, 0)), (.i2l, 1, (0, 0, 0)), (.lconst 0, 1, (0, 0, 0)), (.ldc2_w 381, 3, (0, 0, 30)), (.invokestatic 240, 3, (j_X12_within, 3, 0)), (.ifCond .eq 40, 3, (54, 0, 0)), (.iload_n 2, 1, (0, 0, 0)), (.i2l, 1, (0, 0, 0)), (.lconst 0, 1, (0, 0, 0)), (.ldc2_w 381, 3, (0, 0, 30)), (.invokestatic 240, 3, (j_X12_within, 3, 0)), (.ifCond .eq 28, 3, (54, 0, 0)), (.iload_n 3, 1, (0, 0, 0)), (.i2l, 1, (0, 0, 0)), (.lconst 0, 1, (0, 0, 0)), (.ldc2_w 290, 3, (0, 0, 10)), (.invokestatic 240, 3, (j_X12_within, 3, 0)), (.ifCond .eq 16, 3, (54, 0, 0)), (.iload 4, 2, (0, 0, 0)), (.i2l, 1, (0, 0, 0)), (.lconst 1, 1, (0, 0, 0)), (.ldc2_w 290, 3, (0, 0, 10)), (.invokestatic 240, 3, (j_X12_within, 3, 0)), (.ifCond .ne 5, 3, (56, 0, 0)), (.nop, 0, (54, 0, 0))]
def s_X12_heat_54 : List ZN := [(.iconst 0, 1, (0, 0, 0)), (.ireturn, 1, (1, 0, 0))]
def s_X12_heat_56 : List ZN := [(.aload_n 0, 1, (0, 0, 0)), (.getfield 120, 3, (12, 54, 2)), (.bipush 26, 2, (0, 0, 0)), (.iload_n 1, 1, (0, 0, 0)), (.iastore, 1, (0, 0, 0)), (.aload_n 0, 1, (0, 0, 0)), (.getfield 120, 3, (12, 54, 2)), (.bipush 27, 2, (0, 0, 0)), (.iload_n 2, 1, (0, 0, 0)), (.iastore, 1, (0, 0, 0)), (.aload_n 0, 1, (0, 0, 0)), (.getfield 120, 3, (12, 54, 2)), (.bipush 28, 2, (0, 0, 0)), (.iload_n 3, 1, (0, 0, 0)), (.iastore, 1, (0, 0, 0)), (.aload_n 0, 1, (0, 0, 0)), (.getfield 120, 3, (12, 54, 2)), (.bipush 29, 2, (0, 0, 0)), (.iload 4, 2, (0, 0, 0)), (.iastore, 1, (0, 0, 0)), (.iconst 1, 1, (0, 0, 0)), (.ireturn, 1, (1, 0, 0))]
def p_X12_heat : List (Nat × List ZN) := [(0, s_X12_heat_0), (54, s_X12_heat_54), (56, s_X12_heat_56)]
def s_X12_stateOf_0 : List ZN := [(.iload_n 0, 1, (0, 0, 0)), (.bipush 6, 2, (0, 0, 0)), (.imul, 1, (0, 0, 0)), (.iload_n 1, 1, (0, 0, 0)), (.iadd, 1, (0, 0, 0)), (.bipush 6, 2, (0, 0, 0)), (.imul, 1, (0, 0, 0)), (.iload_n 2, 1, (0, 0, 0)), (.iadd, 1, (0, 0, 0)), (.bipush 6, 2, (0, 0, 0)), (.imul, 1, (0, 0, 0)), (.iload_n 3, 1, (0, 0, 0)), (.iadd, 1, (0, 0, 0)), (.bipush 31, 2, (0, 0, 0)), (.imul, 1, (0, 0, 0)), (.iload 4, 2, (0, 0, 0)), (.iadd, 1, (0, 0, 0)), (.bipush 10, 2, (0, 0, 0)), (.imul, 1, (0, 0, 0)), (.iconst 2, 1, (0, 0, 0)), (.iload 5, 2, (0, 0, 0)), (.imul, 1, (0, 0, 0)), (.iadd, 1, (0, 0, 0)), (.iload 6, 2, (0, 0, 0)), (.iadd, 1, (0, 0, 0)), (.ireturn, 1, (0, 0, 0))]
def p_X12_stateOf : List (Nat × List ZN) := [(0, s_X12_stateOf_0)]
def s_X12_adds_0 : List ZN := [(.aload_n 0, 1, (0, 0, 0)), (.getfield 126, 3, (12, 56, 2)), (.iload_n 1, 1, (0, 0, 0)), (.bipush 6, 2, (0, 0, 0)), (.ishr, 1, (0, 0, 0)), (.laload, 1, (0, 0, 0)), (.iload_n 1, 1, (0, 0, 0)), (.bipush 63, 2, (0, 0, 0)), (.iand, 1, (0, 0, 0)), (.lshr, 1, (0, 0, 0)), (.lconst 1, 1, (0, 0, 0)), (.land, 1, (0, 0, 0)), (.lconst 1, 1, (0, 0, 0)), (.lcmp, 1, (0, 0, 0)), (.ifCond .ne 4, 3, (22, 0, 0)), (.return_, 1, (0, 0, 0))]
def s_X12_adds_22 : List ZN := [(.aload_n 0, 1, (0, 0, 0)), (.getfield 126, 3, (12, 56, 2)), (.iload_n 1, 1, (0, 0, 0)), (.bipush 6, 2, (0, 0, 0)), (.ishr, 1, (0, 0, 0)), (.dup2, 1, (0, 0, 0)), (.laload, 1, (0, 0, 0)), (.lconst 1, 1, (0, 0, 0)), (.iload_n 1, 1, (0, 0, 0)), (.bipush 63, 2, (0, 0, 0)), (.iand, 1, (0, 0, 0)), (.lshl, 1, (0, 0, 0)), (.lor, 1, (0, 0, 0)), (.lastore, 1, (0, 0, 0)), (.aload_n 0, 1, (0, 0, 0)), (.getfield 131, 3, (12, 57, 2)), (.aload_n 0, 1, (0, 0, 0)), (.getfield 383, 3, (12, 60, 0)), (.iload_n 1, 1, (0, 0, 0)), (.iastore, 1, (0, 0, 0)), (.aload_n 0, 1, (0, 0, 0)), (.getfield 134, 3, (12, 58, 2)), (.aload_n 0, 1, (0, 0, 0)), (.getfield 383, 3, (12, 60, 0)), (.iload_n 2, 1, (0, 0, 0)), (.iastore, 1, (0, 0, 0)), (.aload_n 0, 1, (0, 0, 0)), (.getfield 137, 3, (12, 59, 2)), (.aload_n 0, 1, (0, 0, 0)), (.getfield 383, 3, (12, 60, 0)), (.iload_n 3, 1, (0, 0, 0)), (.iastore, 1, (0, 0, 0)), (.aload_n 0, 1, (0, 0, 0)), (.dup, 1, (0, 0, 0)), (.getfield 383, 3, (12, 60, 0)), (.iconst 1, 1, (0, 0, 0)), (.iadd, 1, (0, 0, 0)), (.putfield 383, 3, (12, 60, 0)), (.return_, 1, (0, 0, 0))]
def p_X12_adds : List (Nat × List ZN) := [(0, s_X12_adds_0), (22, s_X12_adds_22)]
def s_X12_lain_0 : List ZN := [(.iload_n 1, 1, (0, 0, 0)), (.iconst 5, 1, (0, 0, 0)), (.if_icmp .ne 7, 3, (9, 0, 0)), (.iconst 5, 1, (0, 0, 0)), (.goto 27, 3, (33, 0, 0))]
def s_X12_lain_9 : List ZN := [(.iload_n 1, 1, (0, 0, 0)), (.aload_n 0, 1, (0, 0, 0)), (.getfield 120, 3, (12, 54, 2)), (.bipush 25, 2, (0, 0, 0)), (.iaload, 1, (0, 0, 0)), (.if_icmp .ge 9, 3, (26, 0, 0)), (.iload_n 1, 1, (0, 0, 0)), (.iconst 1, 1, (0, 0, 0)), (.iadd, 1, (0, 0, 0)), (.goto 10, 3, (33, 0, 0))]
def s_X12_lain_26 : List ZN := [(.aload_n 0, 1, (0, 0, 0)), (.getfield 120, 3, (12, 54, 2)), (.bipush 25, 2, (0, 0, 0)), (.iaload, 1, (0, 0, 0)), (.nop, 0, (33, 0, 0))]
def s_X12_lain_33 : List ZN := [(.ireturn, 1, (0, 0, 0))]
def p_X12_lain : List (Nat × List ZN) := [(0, s_X12_lain_0), (9, s_X12_lain_9), (26, s_X12_lain_26), (33, s_X12_lain_33)]
def s_X12_isOut_0 : List ZN := [(.iload_n 1, 1, (0, 0, 0)), (.sipush 310, 3, (0, 0, 0)), (.idiv, 1, (0, 0, 0)), (.istore_n 2, 1, (0, 0, 0)), (.iload_n 2, 1, (0, 0, 0)), (.sipush 216, 3, (0, 0, 0)), (.idiv, 1, (0, 0, 0)), (.aload_n 0, 1, (0, 0, 0)), (.getfield 120, 3, (12, 54, 2)), (.bipush 31, 2, (0, 0, 0)), (.iaload, 1, (0, 0, 0)), (.if_icmp .ne 18, 3, (36, 0, 0)), (.iload_n 2, 1, (0, 0, 0)), (.sipush 216, 3, (0, 0, 0)), (.irem, 1, (0, 0, 0)), (.sipush 215, 3, (0, 0, 0)), (.if_icmp .ne 7, 3, (36, 0, 0)), (.iconst 1, 1, (0, 0, 0)), (.goto 4, 3, (37, 0, 0))]
def s_X12_isOut_36 : List ZN := [(.iconst 0, 1, (0, 0, 0)), (.nop, 0, (37, 0, 0))]
def s_X12_isOut_37 : List ZN := [(.ireturn, 1, (1, 0, 0))]
def p_X12_isOut : List (Nat × List ZN) := [(0, s_X12_isOut_0), (36, s_X12_isOut_36), (37, s_X12_isOut_37)]
def s_X12_opens_0 : List ZN := [(.aload_n 0, 1, (0, 0, 0)), (.getfield 131, 3, (12, 57, 2)), (.iload_n 1, 1, (0, 0, 0)), (.iaload, 1, (0, 0, 0)), (.istore_n 2, 1, (0, 0, 0)), (.iload_n 2, 1, (0, 0, 0)), (.iconst 2, 1, (0, 0, 0)), (.irem, 1, (0, 0, 0)), (.istore_n 3, 1, (0, 0, 0)), (.iload_n 2, 1, (0, 0, 0)), (.bipush 10, 2, (0, 0, 0)), (.irem, 1, (0, 0, 0)), (.iconst 2, 1, (0, 0, 0)), (.idiv, 1, (0, 0, 0)), (.istore 4, 2, (0, 0, 0)), (.iload_n 2, 1, (0, 0, 0)), (.bipush 10, 2, (0, 0, 0)), (.idiv, 1, (0, 0, 0)), (.bipush 31, 2, (0, 0, 0)), (.irem, 1, (0, 0, 0)), (.istore 5, 2, (0, 0, 0)), (.iload_n 2, 1, (0, 0, 0)), (.sipush 310, 3, (0, 0, 0)), (.idiv, 1, (0, 0, 0)), (.istore 6, 2, (0, 0, 0)), (.iload 6, 2, (0, 0, 0)), (.sipush 216, 3, (0, 0, 0)), (.idiv, 1, (0, 0, 0)), (.istore 7, 2, (0, 0, 0)), (.iload 6, 2, (0, 0, 0)), (.bipush 36, 2, (0, 0, 0)), (.idiv, 1, (0, 0, 0)), (.bipush 6, 2, (0, 0, 0)), (.irem, 1, (0, 0, 0)), (.istore 8, 2, (0, 0, 0)), (.iload 6, 2, (0, 0, 0)), (.bipush 6, 2, (0, 0, 0)), (.idiv, 1, (0, 0, 0)), (.bipush 6, 2, (0, 0, 0)), (.irem, 1, (0, 0, 0)), (.istore 9, 2, (0, 0, 0)), (.iload 6, 2, (0, 0, 0)), (.bipush 6, 2, (0, 0, 0)), (.irem, 1, (0, 0, 0)), (.istore 10, 2, (0, 0, 0)), (.iload 5, 2, (0, 0, 0)), (.aload_n 0, 1, (0, 0, 0)), (.getfield 120, 3, (12, 54, 2)), (.bipush 29, 2, (0, 0, 0)), (.iaload, 1, (0, 0, 0)), (.iadd, 1, (0, 0, 0)), (.bipush 30, 2, (0, 0, 0)), (.if_icmp .le 8, 3, (90, 0, 0)), (.bipush 30, 2, (0, 0, 0)), (.goto 13, 3, (100, 0, 0))]
def s_X12_opens_90 : List ZN := [(.iload 5, 2, (0, 0, 0)), (.aload_n 0, 1, (0, 0, 0)), (.getfield 120, 3, (12, 54, 2)), (.bipush 29, 2, (0, 0, 0)), (.iaload, 1, (0, 0, 0)), (.iadd, 1, (0, 0, 0)), (.nop, 0, (100, 0, 0))]
def s_X12_opens_100 : List ZN := [(.istore 11, 2, (0, 0, 0)), (.aload_n 0, 1, (0, 0, 0)), (.iload 7, 2, (0, 0, 0)), (.aload_n 0, 1, (0, 0, 0)), (.iload 8, 2, (0, 0, 0)), (.invokevirtual 386, 3, (j_X12_lain, 2, 0)), (.aload_n 0, 1, (0, 0, 0)), (.iload 9, 2, (0, 0, 0)), (.invokevirtual 386, 3, (j_X12_lain, 2, 0)), (.aload_n 0, 1, (0, 0, 0)), (.iload 10, 2, (0, 0, 0)), (.invokevirtual 386, 3, (j_X12_lain, 2, 0)), (.iload 11, 2, (0, 0, 0)), (.iload 4, 2, (0, 0, 0)), (.iconst 1, 1, (0, 0, 0)), (.invokestatic 389, 3, (j_X12_stateOf, 7, 0)), (.iload_n 1, 1, (0, 0, 0)), (.iconst 0, 1, (0, 0, 0)), (.invokevirtual 393, 3, (j_X12_adds, 4, 0)), (.iload 5, 2, (0, 0, 0)), (.aload_n 0, 1, (0, 0, 0)), (.getfield 120, 3, (12, 54, 2)), (.bipush 27, 2, (0, 0, 0)), (.iaload, 1, (0, 0, 0)), (.if_icmp .ge 4, 3, (149, 0, 0)), (.return_, 1, (0, 0, 0))]
def s_X12_opens_149 : List ZN := [(.iload 5, 2, (0, 0, 0)), (.aload_n 0, 1, (0, 0, 0)), (.getfield 120, 3, (12, 54, 2)), (.bipush 28, 2, (0, 0, 0)), (.iaload, 1, (0, 0, 0)), (.if_icmp .le 16, 3, (174, 0, 0)), (.iload 5, 2, (0, 0, 0)), (.aload_n 0, 1, (0, 0, 0)), (.getfield 120, 3, (12, 54, 2)), (.bipush 28, 2, (0, 0, 0)), (.iaload, 1, (0, 0, 0)), (.isub, 1, (0, 0, 0)), (.goto 4, 3, (175, 0, 0))]
def s_X12_opens_174 : List ZN := [(.iconst 0, 1, (0, 0, 0)), (.nop, 0, (175, 0, 0))]
def s_X12_opens_175 : List ZN := [(.istore 12, 2, (0, 0, 0)), (.iload 8, 2, (0, 0, 0)), (.iconst 5, 1, (0, 0, 0)), (.if_icmp .eq 44, 3, (224, 0, 0)), (.iload 8, 2, (0, 0, 0)), (.aload_n 0, 1, (0, 0, 0)), (.getfield 120, 3, (12, 54, 2)), (.bipush 25, 2, (0, 0, 0)), (.iaload, 1, (0, 0, 0)), (.if_icmp .lt 32, 3, (224, 0, 0)), (.aload_n 0, 1, (0, 0, 0)), (.iload 7, 2, (0, 0, 0)), (.aload_n 0, 1, (0, 0, 0)), (.iload 9, 2, (0, 0, 0)), (.invokevirtual 386, 3, (j_X12_lain, 2, 0)), (.aload_n 0, 1, (0, 0, 0)), (.iload 10, 2, (0, 0, 0)), (.invokevirtual 386, 3, (j_X12_lain, 2, 0)), (.iconst 5, 1, (0, 0, 0)), (.iload 12, 2, (0, 0, 0)), (.iload 4, 2, (0, 0, 0)), (.iconst 0, 1, (0, 0, 0)), (.invokestatic 389, 3, (j_X12_stateOf, 7, 0)), (.iload_n 1, 1, (0, 0, 0)), (.iconst 1, 1, (0, 0, 0)), (.invokevirtual 393, 3, (j_X12_adds, 4, 0)), (.nop, 0, (224, 0, 0))]
def s_X12_opens_224 : List ZN := [(.iload 7, 2, (0, 0, 0)), (.aload_n 0, 1, (0, 0, 0)), (.getfield 120, 3, (12, 54, 2)), (.bipush 31, 2, (0, 0, 0)), (.iaload, 1, (0, 0, 0)), (.if_icmp .ne 4, 3, (237, 0, 0)), (.return_, 1, (0, 0, 0))]
def s_X12_opens_237 : List ZN := [(.iload 8, 2, (0, 0, 0)), (.iconst 5, 1, (0, 0, 0)), (.if_icmp .eq 7, 3, (247, 0, 0)), (.iconst 1, 1, (0, 0, 0)), (.goto 4, 3, (248, 0, 0))]
def s_X12_opens_247 : List ZN := [(.iconst 0, 1, (0, 0, 0)), (.nop, 0, (248, 0, 0))]
def s_X12_opens_248 : List ZN := [(.iload 9, 2, (0, 0, 0)), (.iconst 5, 1, (0, 0, 0)), (.if_icmp .eq 7, 3, (258, 0, 0)), (.iconst 1, 1, (0, 0, 0)), (.goto 4, 3, (259, 0, 0))]
def s_X12_opens_258 : List ZN := [(.iconst 0, 1, (0, 0, 0)), (.nop, 0, (259, 0, 0))]
def s_X12_opens_259 : List ZN := [(.iadd, 1, (0, 0, 0)), (.iload 10, 2, (0, 0, 0)), (.iconst 5, 1, (0, 0, 0)), (.if_icmp .eq 7, 3, (270, 0, 0)), (.iconst 1, 1, (0, 0, 0)), (.goto 4, 3, (271, 0, 0))]
def s_X12_opens_270 : List ZN := [(.iconst 0, 1, (0, 0, 0)), (.nop, 0, (271, 0, 0))]
def s_X12_opens_271 : List ZN := [(.iadd, 1, (0, 0, 0)), (.istore 13, 2, (0, 0, 0)), (.iconst 0, 1, (0, 0, 0)), (.istore 14, 2, (0, 0, 0)), (.nop, 0, (277, 0, 0))]
def s_X12_opens_277 : List ZN := [(.iload 14, 2, (0, 0, 0)), (.iconst 4, 1, (0, 0, 0)), (.if_icmp .ge 190, 3, (470, 0, 0)), (.aload_n 0, 1, (0, 0, 0)), (.getfield 120, 3, (12, 54, 2)), (.bipush 20, 2, (0, 0, 0)), (.iload 14, 2, (0, 0, 0)), (.iadd, 1, (0, 0, 0)), (.iaload, 1, (0, 0, 0)), (.ifCond .eq 171, 3, (464, 0, 0)), (.aload_n 0, 1, (0, 0, 0)), (.getfield 120, 3, (12, 54, 2)), (.bipush 16, 2, (0, 0, 0)), (.iload 14, 2, (0, 0, 0)), (.iadd, 1, (0, 0, 0)), (.iaload, 1, (0, 0, 0)), (.aload_n 0, 1, (0, 0, 0)), (.getfield 120, 3, (12, 54, 2)), (.iconst 0, 1, (0, 0, 0)), (.iload 7, 2, (0, 0, 0)), (.iadd, 1, (0, 0, 0)), (.iaload, 1, (0, 0, 0)), (.if_icmp .ne 149, 3, (464, 0, 0)), (.iload 4, 2, (0, 0, 0)), (.iconst 4, 1, (0, 0, 0)), (.if_icmp .eq 17, 3, (338, 0, 0)), (.iload 4, 2, (0, 0, 0)), (.iload 14, 2, (0, 0, 0)), (.if_icmp .eq 10, 3, (338, 0, 0)), (.iload_n 3, 1, (0, 0, 0)), (.ifCond .ne 6, 3, (338, 0, 0)), (.goto 129, 3, (464, 0, 0))]
def s_X12_opens_338 : List ZN := [(.aload_n 0, 1, (0, 0, 0)), (.getfield 120, 3, (12, 54, 2)), (.bipush 8, 2, (0, 0, 0)), (.iload 7, 2, (0, 0, 0)), (.iadd, 1, (0, 0, 0)), (.iaload, 1, (0, 0, 0)), (.iconst 1, 1, (0, 0, 0)), (.if_icmp .ne 35, 3, (384, 0, 0)), (.iload 13, 2, (0, 0, 0)), (.ifCond .ne 110, 3, (464, 0, 0)), (.aload_n 0, 1, (0, 0, 0)), (.iload 7, 2, (0, 0, 0)), (.iconst 1, 1, (0, 0, 0)), (.iadd, 1, (0, 0, 0)), (.iconst 5, 1, (0, 0, 0)), (.iconst 5, 1, (0, 0, 0)), (.iconst 5, 1, (0, 0, 0)), (.iload 12, 2, (0, 0, 0)), (.iload 14, 2, (0, 0, 0)), (.iconst 0, 1, (0, 0, 0)), (.invokestatic 389, 3, (j_X12_stateOf, 7, 0)), (.iload_n 1, 1, (0, 0, 0)), (.iconst 2, 1, (0, 0, 0)), (.iload 14, 2, (0, 0, 0)), (.iadd, 1, (0, 0, 0)), (.invokevirtual 393, 3, (j_X12_adds, 4, 0)), (.goto 83, 3, (464, 0, 0))]
def s_X12_opens_384 : List ZN := [(.iload 13, 2, (0, 0, 0)), (.aload_n 0, 1, (0, 0, 0)), (.getfield 120, 3, (12, 54, 2)), (.bipush 24, 2, (0, 0, 0)), (.iaload, 1, (0, 0, 0)), (.if_icmp .ge 71, 3, (464, 0, 0)), (.aload_n 0, 1, (0, 0, 0)), (.iload 7, 2, (0, 0, 0)), (.iconst 1, 1, (0, 0, 0)), (.iadd, 1, (0, 0, 0)), (.iload 13, 2, (0, 0, 0)), (.ifCond .ne 7, 3, (410, 0, 0)), (.iconst 0, 1, (0, 0, 0)), (.goto 9, 3, (416, 0, 0))]
def s_X12_opens_410 : List ZN := [(.aload_n 0, 1, (0, 0, 0)), (.iload 8, 2, (0, 0, 0)), (.invokevirtual 386, 3, (j_X12_lain, 2, 0)), (.nop, 0, (416, 0, 0))]
def s_X12_opens_416 : List ZN := [(.iload 13, 2, (0, 0, 0)), (.iconst 1, 1, (0, 0, 0)), (.if_icmp .ne 7, 3, (426, 0, 0)), (.iconst 0, 1, (0, 0, 0)), (.goto 9, 3, (432, 0, 0))]
def s_X12_opens_426 : List ZN := [(.aload_n 0, 1, (0, 0, 0)), (.iload 9, 2, (0, 0, 0)), (.invokevirtual 386, 3, (j_X12_lain, 2, 0)), (.nop, 0, (432, 0, 0))]
def s_X12_opens_432 : List ZN := [(.iload 13, 2, (0, 0, 0)), (.iconst 2, 1, (0, 0, 0)), (.if_icmp .ne 7, 3, (442, 0, 0)), (.iconst 0, 1, (0, 0, 0)), (.goto 9, 3, (448, 0, 0))]
def s_X12_opens_442 : List ZN := [(.aload_n 0, 1, (0, 0, 0)), (.iload 10, 2, (0, 0, 0)), (.invokevirtual 386, 3, (j_X12_lain, 2, 0)), (.nop, 0, (448, 0, 0))]
def s_X12_opens_448 : List ZN := [(.iload 12, 2, (0, 0, 0)), (.iload 14, 2, (0, 0, 0)), (.iconst 0, 1, (0, 0, 0)), (.invokestatic 389, 3, (j_X12_stateOf, 7, 0)), (.iload_n 1, 1, (0, 0, 0)), (.iconst 2, 1, (0, 0, 0)), (.iload 14, 2, (0, 0, 0)), (.iadd, 1, (0, 0, 0)), (.invokevirtual 393, 3, (j_X12_adds, 4, 0)), (.nop, 0, (464, 0, 0))]
def s_X12_opens_464 : List ZN := [(.iinc 14 1, 3, (0, 0, 0)), (.goto (-190), 3, (277, 0, 0))]
def s_X12_opens_470 : List ZN := [(.return_, 1, (0, 0, 0))]
def p_X12_opens : List (Nat × List ZN) := [(0, s_X12_opens_0), (90, s_X12_opens_90), (100, s_X12_opens_100), (149, s_X12_opens_149), (174, s_X12_opens_174), (175, s_X12_opens_175), (224, s_X12_opens_224), (237, s_X12_opens_237), (247, s_X12_opens_247), (248, s_X12_opens_248), (258, s_X12_opens_258), (259, s_X12_opens_259), (270, s_X12_opens_270), (271, s_X12_opens_271), (277, s_X12_opens_277), (338, s_X12_opens_338), (384, s_X12_opens_384), (410, s_X12_opens_410), (416, s_X12_opens_416), (426, s_X12_opens_426), (432, s_X12_opens_432), (442, s_X12_opens_442), (448, s_X12_opens_448), (464, s_X12_opens_464), (470, s_X12_opens_470)]
def s_X12_finds_0 : List ZN := [(.iconst 0, 1, (0, 0, 0)), (.istore_n 1, 1, (0, 0, 0)), (.nop, 0, (2, 0, 0))]
def s_X12_finds_2 : List ZN := [(.iload_n 1, 1, (0, 0, 0)), (.sipush 9417, 3, (0, 0, 0)), (.if_icmp .ge 16, 3, (22, 0, 0)), (.aload_n 0, 1, (0, 0, 0)), (.getfield 126, 3, (12, 56, 2)), (.iload_n 1, 1, (0, 0, 0)), (.lconst 0, 1, (0, 0, 0)), (.lastore, 1, (0, 0, 0)), (.iinc 1 1, 3, (0, 0, 0)), (.goto (-17), 3, (2, 0, 0))]
def s_X12_finds_22 : List ZN := [(.aload_n 0, 1, (0, 0, 0)), (.iconst 0, 1, (0, 0, 0)), (.putfield 383, 3, (12, 60, 0)), (.aload_n 0, 1, (0, 0, 0)), (.iconst 0, 1, (0, 0, 0)), (.iconst 5, 1, (0, 0, 0)), (.iconst 5, 1, (0, 0, 0)), (.iconst 5, 1, (0, 0, 0)), (.aload_n 0, 1, (0, 0, 0)), (.getfield 120, 3, (12, 54, 2)), (.bipush 26, 2, (0, 0, 0)), (.iaload, 1, (0, 0, 0)), (.iconst 4, 1, (0, 0, 0)), (.iconst 0, 1, (0, 0, 0)), (.invokestatic 389, 3, (j_X12_stateOf, 7, 0)), (.iconst (-1), 1, (0, 0, 0)), (.iconst 0, 1, (0, 0, 0)), (.invokevirtual 393, 3, (j_X12_adds, 4, 0)), (.iconst 0, 1, (0, 0, 0)), (.istore_n 1, 1, (0, 0, 0)), (.nop, 0, (51, 0, 0))]
def s_X12_finds_51 : List ZN := [(.iload_n 1, 1, (0, 0, 0)), (.aload_n 0, 1, (0, 0, 0)), (.getfield 383, 3, (12, 60, 0)), (.if_icmp .ge 34, 3, (90, 0, 0)), (.aload_n 0, 1, (0, 0, 0)), (.iload_n 1, 1, (0, 0, 0)), (.putfield 397, 3, (12, 61, 0)), (.aload_n 0, 1, (0, 0, 0)), (.aload_n 0, 1, (0, 0, 0)), (.getfield 131, 3, (12, 57, 2)), (.iload_n 1, 1, (0, 0, 0)), (.iaload, 1, (0, 0, 0)), (.invokevirtual 400, 3, (j_X12_isOut, 2, 0)), (.ifCond .eq 5, 3, (79, 0, 0)), (.iconst 1, 1, (0, 0, 0)), (.ireturn, 1, (1, 0, 0))]
def s_X12_finds_79 : List ZN := [(.aload_n 0, 1, (0, 0, 0)), (.iload_n 1, 1, (0, 0, 0)), (.invokevirtual 403, 3, (j_X12_opens, 2, 0)), (.iinc 1 1, 3, (0, 0, 0)), (.goto (-36), 3, (51, 0, 0))]
def s_X12_finds_90 : List ZN := [(.iconst 0, 1, (0, 0, 0)), (.ireturn, 1, (1, 0, 0))]
def p_X12_finds : List (Nat × List ZN) := [(0, s_X12_finds_0), (2, s_X12_finds_2), (22, s_X12_finds_22), (51, s_X12_finds_51), (79, s_X12_finds_79), (90, s_X12_finds_90)]
def s_X12_plan_0 : List ZN := [(.aload_n 0, 1, (0, 0, 0)), (.iconst 0, 1, (0, 0, 0)), (.putfield 1, 3, (12, 0, 0)), (.aload_n 0, 1, (0, 0, 0)), (.invokevirtual 406, 3, (j_X12_finds, 1, 0)), (.ifCond .ne 5, 3, (14, 0, 0)), (.iconst (-1), 1, (0, 0, 0)), (.ireturn, 1, (0, 0, 0))]
def s_X12_plan_14 : List ZN := [(.iconst 0, 1, (0, 0, 0)), (.istore_n 2, 1, (0, 0, 0)), (.aload_n 0, 1, (0, 0, 0)), (.getfield 397, 3, (12, 61, 0)), (.istore_n 3, 1, (0, 0, 0)), (.nop, 0, (21, 0, 0))]
def s_X12_plan_21 : List ZN := [(.aload_n 0, 1, (0, 0, 0)), (.getfield 134, 3, (12, 58, 2)), (.iload_n 3, 1, (0, 0, 0)), (.iaload, 1, (0, 0, 0)), (.iconst (-1), 1, (0, 0, 0)), (.if_icmp .eq 16, 3, (44, 0, 0)), (.iinc 2 1, 3, (0, 0, 0)), (.aload_n 0, 1, (0, 0, 0)), (.getfield 134, 3, (12, 58, 2)), (.iload_n 3, 1, (0, 0, 0)), (.iaload, 1, (0, 0, 0)), (.istore_n 3, 1, (0, 0, 0)), (.goto (-20), 3, (21, 0, 0))]
def s_X12_plan_44 : List ZN := [(.iload_n 1, 1, (0, 0, 0)), (.iconst (-1), 1, (0, 0, 0)), (.if_icmp .ne 5, 3, (51, 0, 0)), (.iload_n 2, 1, (0, 0, 0)), (.ireturn, 1, (0, 0, 0))]
def s_X12_plan_51 : List ZN := [(.iload_n 1, 1, (0, 0, 0)), (.i2l, 1, (0, 0, 0)), (.lconst 0, 1, (0, 0, 0)), (.iload_n 2, 1, (0, 0, 0)), (.iconst 1, 1, (0, 0, 0)), (.isub, 1, (0, 0, 0)), (.i2l, 1, (0, 0, 0)), (.invokestatic 240, 3, (j_X12_within, 3, 0)), (.ifCond .ne 5, 3, (66, 0, 0)), (.iconst (-1), 1, (0, 0, 0)), (.ireturn, 1, (0, 0, 0))]
def s_X12_plan_66 : List ZN := [(.aload_n 0, 1, (0, 0, 0)), (.getfield 397, 3, (12, 61, 0)), (.istore_n 3, 1, (0, 0, 0)), (.iload_n 2, 1, (0, 0, 0)), (.iconst 1, 1, (0, 0, 0)), (.isub, 1, (0, 0, 0)), (.istore 4, 2, (0, 0, 0)), (.nop, 0, (76, 0, 0))]
def s_X12_plan_76 : List ZN := [(.iload 4, 2, (0, 0, 0)), (.iload_n 1, 1, (0, 0, 0)), (.if_icmp .le 16, 3, (95, 0, 0)), (.aload_n 0, 1, (0, 0, 0)), (.getfield 134, 3, (12, 58, 2)), (.iload_n 3, 1, (0, 0, 0)), (.iaload, 1, (0, 0, 0)), (.istore_n 3, 1, (0, 0, 0)), (.iinc 4 (-1), 3, (0, 0, 0)), (.goto (-16), 3, (76, 0, 0))]
def s_X12_plan_95 : List ZN := [(.aload_n 0, 1, (0, 0, 0)), (.getfield 137, 3, (12, 59, 2)), (.iload_n 3, 1, (0, 0, 0)), (.iaload, 1, (0, 0, 0)), (.ireturn, 1, (0, 0, 0))]
def p_X12_plan : List (Nat × List ZN) := [(0, s_X12_plan_0), (14, s_X12_plan_14), (21, s_X12_plan_21), (44, s_X12_plan_44), (51, s_X12_plan_51), (66, s_X12_plan_66), (76, s_X12_plan_76), (95, s_X12_plan_95)]
def s_X12_copies_0 : List ZN := [(.aload_n 0, 1, (0, 0, 0)), (.iconst 0, 1, (0, 0, 0)), (.putfield 1, 3, (12, 0, 0)), (.iload_n 1, 1, (0, 0, 0)), (.i2l, 1, (0, 0, 0)), (.lconst 1, 1, (0, 0, 0)), (.ldc2_w 410, 3, (0, 0, 40)), (.invokestatic 240, 3, (j_X12_within, 3, 0)), (.ifCond .ne 6, 3, (20, 0, 0)), (.bipush (-3), 2, (0, 0, 0)), (.ireturn, 1, (0, 0, 0))]
def s_X12_copies_20 : List ZN := [(.aload_n 0, 1, (0, 0, 0)), (.getfield 120, 3, (12, 54, 2)), (.bipush 30, 2, (0, 0, 0)), (.iaload, 1, (0, 0, 0)), (.istore_n 2, 1, (0, 0, 0)), (.aload_n 0, 1, (0, 0, 0)), (.getfield 120, 3, (12, 54, 2)), (.bipush 30, 2, (0, 0, 0)), (.iload_n 1, 1, (0, 0, 0)), (.iastore, 1, (0, 0, 0)), (.iload_n 2, 1, (0, 0, 0)), (.ireturn, 1, (0, 0, 0))]
def p_X12_copies : List (Nat × List ZN) := [(0, s_X12_copies_0), (20, s_X12_copies_20)]
def s_X12_out_0 : List ZN := [(.aload_n 0, 1, (0, 0, 0)), (.iconst 0, 1, (0, 0, 0)), (.putfield 1, 3, (12, 0, 0)), (.iload_n 1, 1, (0, 0, 0)), (.i2l, 1, (0, 0, 0)), (.lconst 0, 1, (0, 0, 0)), (.aload_n 0, 1, (0, 0, 0)), (.getfield 120, 3, (12, 54, 2)), (.bipush 31, 2, (0, 0, 0)), (.iaload, 1, (0, 0, 0)), (.iconst 1, 1, (0, 0, 0)), (.isub, 1, (0, 0, 0)), (.i2l, 1, (0, 0, 0)), (.invokestatic 240, 3, (j_X12_within, 3, 0)), (.ifCond .ne 6, 3, (27, 0, 0)), (.bipush (-2), 2, (0, 0, 0)), (.ireturn, 1, (0, 0, 0))]
def s_X12_out_27 : List ZN := [(.aload_n 0, 1, (0, 0, 0)), (.getfield 120, 3, (12, 54, 2)), (.bipush 32, 2, (0, 0, 0)), (.iaload, 1, (0, 0, 0)), (.bipush 60, 2, (0, 0, 0)), (.if_icmp .ne 6, 3, (42, 0, 0)), (.bipush (-4), 2, (0, 0, 0)), (.ireturn, 1, (0, 0, 0))]
def s_X12_out_42 : List ZN := [(.aload_n 0, 1, (0, 0, 0)), (.getfield 120, 3, (12, 54, 2)), (.bipush 33, 2, (0, 0, 0)), (.aload_n 0, 1, (0, 0, 0)), (.getfield 120, 3, (12, 54, 2)), (.bipush 32, 2, (0, 0, 0)), (.iaload, 1, (0, 0, 0)), (.iadd, 1, (0, 0, 0)), (.iload_n 1, 1, (0, 0, 0)), (.iastore, 1, (0, 0, 0)), (.aload_n 0, 1, (0, 0, 0)), (.getfield 120, 3, (12, 54, 2)), (.bipush 32, 2, (0, 0, 0)), (.dup2, 1, (0, 0, 0)), (.iaload, 1, (0, 0, 0)), (.iconst 1, 1, (0, 0, 0)), (.iadd, 1, (0, 0, 0)), (.iastore, 1, (0, 0, 0)), (.aload_n 0, 1, (0, 0, 0)), (.getfield 120, 3, (12, 54, 2)), (.bipush 32, 2, (0, 0, 0)), (.iaload, 1, (0, 0, 0)), (.ireturn, 1, (0, 0, 0))]
def p_X12_out : List (Nat × List ZN) := [(0, s_X12_out_0), (27, s_X12_out_27), (42, s_X12_out_42)]
def s_X12_empty_0 : List ZN := [(.aload_n 0, 1, (0, 0, 0)), (.iconst 0, 1, (0, 0, 0)), (.putfield 1, 3, (12, 0, 0)), (.aload_n 0, 1, (0, 0, 0)), (.getfield 120, 3, (12, 54, 2)), (.bipush 32, 2, (0, 0, 0)), (.iaload, 1, (0, 0, 0)), (.istore_n 1, 1, (0, 0, 0)), (.aload_n 0, 1, (0, 0, 0)), (.getfield 120, 3, (12, 54, 2)), (.bipush 32, 2, (0, 0, 0)), (.iconst 0, 1, (0, 0, 0)), (.iastore, 1, (0, 0, 0)), (.iload_n 1, 1, (0, 0, 0)), (.ireturn, 1, (0, 0, 0))]
def p_X12_empty : List (Nat × List ZN) := [(0, s_X12_empty_0)]
def s_X12_wanted_0 : List ZN := [(.aload_n 0, 1, (0, 0, 0)), (.getfield 120, 3, (12, 54, 2)), (.bipush 30, 2, (0, 0, 0)), (.iaload, 1, (0, 0, 0)), (.aload_n 0, 1, (0, 0, 0)), (.getfield 120, 3, (12, 54, 2)), (.bipush 31, 2, (0, 0, 0)), (.iaload, 1, (0, 0, 0)), (.imul, 1, (0, 0, 0)), (.ireturn, 1, (0, 0, 0))]
def p_X12_wanted : List (Nat × List ZN) := [(0, s_X12_wanted_0)]
def s_X12_mostAt_0 : List ZN := [(.aload_n 0, 1, (0, 0, 0)), (.getfield 140, 3, (12, 62, 2)), (.sipush 321, 3, (0, 0, 0)), (.iload_n 1, 1, (0, 0, 0)), (.imul, 1, (0, 0, 0)), (.iload_n 2, 1, (0, 0, 0)), (.iadd, 1, (0, 0, 0)), (.iaload, 1, (0, 0, 0)), (.ireturn, 1, (0, 0, 0))]
def p_X12_mostAt : List (Nat × List ZN) := [(0, s_X12_mostAt_0)]
def s_X12_pairs_0 : List ZN := [(.aload_n 0, 1, (0, 0, 0)), (.getfield 120, 3, (12, 54, 2)), (.bipush 32, 2, (0, 0, 0)), (.iaload, 1, (0, 0, 0)), (.istore_n 1, 1, (0, 0, 0)), (.aload_n 0, 1, (0, 0, 0)), (.invokevirtual 412, 3, (j_X12_wanted, 1, 0)), (.istore_n 2, 1, (0, 0, 0)), (.iload_n 1, 1, (0, 0, 0)), (.istore_n 3, 1, (0, 0, 0)), (.nop, 0, (15, 0, 0))]
def s_X12_pairs_15 : List ZN := [(.iload_n 3, 1, (0, 0, 0)), (.ifCond .lt 151, 3, (167, 0, 0)), (.iload_n 2, 1, (0, 0, 0)), (.istore 4, 2, (0, 0, 0)), (.nop, 0, (22, 0, 0))]
def s_X12_pairs_22 : List ZN := [(.iload 4, 2, (0, 0, 0)), (.ifCond .lt 137, 3, (161, 0, 0)), (.iconst 0, 1, (0, 0, 0)), (.istore 5, 2, (0, 0, 0)), (.iload_n 3, 1, (0, 0, 0)), (.iload_n 1, 1, (0, 0, 0)), (.if_icmp .ge 108, 3, (140, 0, 0)), (.iload 4, 2, (0, 0, 0)), (.iload_n 2, 1, (0, 0, 0)), (.if_icmp .ge 102, 3, (140, 0, 0)), (.aload_n 0, 1, (0, 0, 0)), (.iload_n 3, 1, (0, 0, 0)), (.iconst 1, 1, (0, 0, 0)), (.iadd, 1, (0, 0, 0)), (.iload 4, 2, (0, 0, 0)), (.invokevirtual 415, 3, (j_X12_mostAt, 3, 0)), (.aload_n 0, 1, (0, 0, 0)), (.iload_n 3, 1, (0, 0, 0)), (.iload 4, 2, (0, 0, 0)), (.iconst 1, 1, (0, 0, 0)), (.iadd, 1, (0, 0, 0)), (.invokevirtual 415, 3, (j_X12_mostAt, 3, 0)), (.if_icmp .le 15, 3, (74, 0, 0)), (.aload_n 0, 1, (0, 0, 0)), (.iload_n 3, 1, (0, 0, 0)), (.iconst 1, 1, (0, 0, 0)), (.iadd, 1, (0, 0, 0)), (.iload 4, 2, (0, 0, 0)), (.invokevirtual 415, 3, (j_X12_mostAt, 3, 0)), (.goto 12, 3, (83, 0, 0))]
def s_X12_pairs_74 : List ZN := [(.aload_n 0, 1, (0, 0, 0)), (.iload_n 3, 1, (0, 0, 0)), (.iload 4, 2, (0, 0, 0)), (.iconst 1, 1, (0, 0, 0)), (.iadd, 1, (0, 0, 0)), (.invokevirtual 415, 3, (j_X12_mostAt, 3, 0)), (.nop, 0, (83, 0, 0))]
def s_X12_pairs_83 : List ZN := [(.istore 5, 2, (0, 0, 0)), (.aload_n 0, 1, (0, 0, 0)), (.getfield 120, 3, (12, 54, 2)), (.bipush 33, 2, (0, 0, 0)), (.iload_n 3, 1, (0, 0, 0)), (.iadd, 1, (0, 0, 0)), (.iaload, 1, (0, 0, 0)), (.iload 4, 2, (0, 0, 0)), (.aload_n 0, 1, (0, 0, 0)), (.getfield 120, 3, (12, 54, 2)), (.bipush 31, 2, (0, 0, 0)), (.iaload, 1, (0, 0, 0)), (.irem, 1, (0, 0, 0)), (.if_icmp .ne 36, 3, (140, 0, 0)), (.aload_n 0, 1, (0, 0, 0)), (.iload_n 3, 1, (0, 0, 0)), (.iconst 1, 1, (0, 0, 0)), (.iadd, 1, (0, 0, 0)), (.iload 4, 2, (0, 0, 0)), (.iconst 1, 1, (0, 0, 0)), (.iadd, 1, (0, 0, 0)), (.invokevirtual 415, 3, (j_X12_mostAt, 3, 0)), (.iconst 1, 1, (0, 0, 0)), (.iadd, 1, (0, 0, 0)), (.iload 5, 2, (0, 0, 0)), (.if_icmp .le 18, 3, (140, 0, 0)), (.aload_n 0, 1, (0, 0, 0)), (.iload_n 3, 1, (0, 0, 0)), (.iconst 1, 1, (0, 0, 0)), (.iadd, 1, (0, 0, 0)), (.iload 4, 2, (0, 0, 0)), (.iconst 1, 1, (0, 0, 0)), (.iadd, 1, (0, 0, 0)), (.invokevirtual 415, 3, (j_X12_mostAt, 3, 0)), (.iconst 1, 1, (0, 0, 0)), (.iadd, 1, (0, 0, 0)), (.istore 5, 2, (0, 0, 0)), (.nop, 0, (140, 0, 0))]
def s_X12_pairs_140 : List ZN := [(.aload_n 0, 1, (0, 0, 0)), (.getfield 140, 3, (12, 62, 2)), (.sipush 321, 3, (0, 0, 0)), (.iload_n 3, 1, (0, 0, 0)), (.imul, 1, (0, 0, 0)), (.iload 4, 2, (0, 0, 0)), (.iadd, 1, (0, 0, 0)), (.iload 5, 2, (0, 0, 0)), (.iastore, 1, (0, 0, 0)), (.iinc 4 (-1), 3, (0, 0, 0)), (.goto (-136), 3, (22, 0, 0))]
def s_X12_pairs_161 : List ZN := [(.iinc 3 (-1), 3, (0, 0, 0)), (.goto (-149), 3, (15, 0, 0))]
def s_X12_pairs_167 : List ZN := [(.iconst 0, 1, (0, 0, 0)), (.istore_n 3, 1, (0, 0, 0)), (.aload_n 0, 1, (0, 0, 0)), (.iconst 0, 1, (0, 0, 0)), (.iconst 0, 1, (0, 0, 0)), (.invokevirtual 415, 3, (j_X12_mostAt, 3, 0)), (.istore 4, 2, (0, 0, 0)), (.iconst 0, 1, (0, 0, 0)), (.istore 5, 2, (0, 0, 0)), (.nop, 0, (180, 0, 0))]
def s_X12_pairs_180 : List ZN := [(.iload 5, 2, (0, 0, 0)), (.iload_n 2, 1, (0, 0, 0)), (.if_icmp .ge 108, 3, (291, 0, 0)), (.aload_n 0, 1, (0, 0, 0)), (.getfield 143, 3, (12, 63, 2)), (.iload 5, 2, (0, 0, 0)), (.iconst (-1), 1, (0, 0, 0)), (.iastore, 1, (0, 0, 0)), (.iload 4, 2, (0, 0, 0)), (.ifCond .ne 6, 3, (202, 0, 0)), (.goto 86, 3, (285, 0, 0))]
def s_X12_pairs_202 : List ZN := [(.iload_n 3, 1, (0, 0, 0)), (.istore 6, 2, (0, 0, 0)), (.nop, 0, (205, 0, 0))]
def s_X12_pairs_205 : List ZN := [(.iload 6, 2, (0, 0, 0)), (.iload_n 1, 1, (0, 0, 0)), (.if_icmp .ge 32, 3, (240, 0, 0)), (.aload_n 0, 1, (0, 0, 0)), (.getfield 120, 3, (12, 54, 2)), (.bipush 33, 2, (0, 0, 0)), (.iload 6, 2, (0, 0, 0)), (.iadd, 1, (0, 0, 0)), (.iaload, 1, (0, 0, 0)), (.iload 5, 2, (0, 0, 0)), (.aload_n 0, 1, (0, 0, 0)), (.getfield 120, 3, (12, 54, 2)), (.bipush 31, 2, (0, 0, 0)), (.iaload, 1, (0, 0, 0)), (.irem, 1, (0, 0, 0)), (.if_icmp .eq 9, 3, (240, 0, 0)), (.iinc 6 1, 3, (0, 0, 0)), (.goto (-32), 3, (205, 0, 0))]
def s_X12_pairs_240 : List ZN := [(.iload 6, 2, (0, 0, 0)), (.iload_n 1, 1, (0, 0, 0)), (.if_icmp .eq 42, 3, (285, 0, 0)), (.iconst 1, 1, (0, 0, 0)), (.aload_n 0, 1, (0, 0, 0)), (.iload 6, 2, (0, 0, 0)), (.iconst 1, 1, (0, 0, 0)), (.iadd, 1, (0, 0, 0)), (.iload 5, 2, (0, 0, 0)), (.iconst 1, 1, (0, 0, 0)), (.iadd, 1, (0, 0, 0)), (.invokevirtual 415, 3, (j_X12_mostAt, 3, 0)), (.iadd, 1, (0, 0, 0)), (.iload 4, 2, (0, 0, 0)), (.if_icmp .eq 6, 3, (268, 0, 0)), (.goto 20, 3, (285, 0, 0))]
def s_X12_pairs_268 : List ZN := [(.aload_n 0, 1, (0, 0, 0)), (.getfield 143, 3, (12, 63, 2)), (.iload 5, 2, (0, 0, 0)), (.iload 6, 2, (0, 0, 0)), (.iastore, 1, (0, 0, 0)), (.iload 6, 2, (0, 0, 0)), (.iconst 1, 1, (0, 0, 0)), (.iadd, 1, (0, 0, 0)), (.istore_n 3, 1, (0, 0, 0)), (.iinc 4 (-1), 3, (0, 0, 0)), (.nop, 0, (285, 0, 0))]
def s_X12_pairs_285 : List ZN := [(.iinc 5 1, 3, (0, 0, 0)), (.goto (-108), 3, (180, 0, 0))]
def s_X12_pairs_291 : List ZN := [(.return_, 1, (0, 0, 0))]
def p_X12_pairs : List (Nat × List ZN) := [(0, s_X12_pairs_0), (15, s_X12_pairs_15), (22, s_X12_pairs_22), (74, s_X12_pairs_74), (83, s_X12_pairs_83), (140, s_X12_pairs_140), (161, s_X12_pairs_161), (167, s_X12_pairs_167), (180, s_X12_pairs_180), (202, s_X12_pairs_202), (205, s_X12_pairs_205), (240, s_X12_pairs_240), (268, s_X12_pairs_268), (285, s_X12_pairs_285), (291, s_X12_pairs_291)]
def s_X12_again_0 : List ZN := [(.aload_n 0, 1, (0, 0, 0)), (.iconst 0, 1, (0, 0, 0)), (.putfield 1, 3, (12, 0, 0)), (.iload_n 1, 1, (0, 0, 0)), (.i2l, 1, (0, 0, 0)), (.lconst 0, 1, (0, 0, 0)), (.ldc2_w 274, 3, (0, 0, 2)), (.invokestatic 240, 3, (j_X12_within, 3, 0)), (.ifCond .ne 5, 3, (19, 0, 0)), (.iconst (-1), 1, (0, 0, 0)), (.ireturn, 1, (0, 0, 0))]
def s_X12_again_19 : List ZN := [(.aload_n 0, 1, (0, 0, 0)), (.invokevirtual 418, 3, (j_X12_pairs, 1, 0)), (.iconst 0, 1, (0, 0, 0)), (.istore_n 2, 1, (0, 0, 0)), (.iconst 0, 1, (0, 0, 0)), (.istore_n 3, 1, (0, 0, 0)), (.nop, 0, (27, 0, 0))]
def s_X12_again_27 : List ZN := [(.iload_n 3, 1, (0, 0, 0)), (.aload_n 0, 1, (0, 0, 0)), (.invokevirtual 412, 3, (j_X12_wanted, 1, 0)), (.if_icmp .ge 27, 3, (59, 0, 0)), (.iload_n 2, 1, (0, 0, 0)), (.aload_n 0, 1, (0, 0, 0)), (.getfield 143, 3, (12, 63, 2)), (.iload_n 3, 1, (0, 0, 0)), (.iaload, 1, (0, 0, 0)), (.iconst (-1), 1, (0, 0, 0)), (.if_icmp .ne 7, 3, (50, 0, 0)), (.iconst 1, 1, (0, 0, 0)), (.goto 4, 3, (51, 0, 0))]
def s_X12_again_50 : List ZN := [(.iconst 0, 1, (0, 0, 0)), (.nop, 0, (51, 0, 0))]
def s_X12_again_51 : List ZN := [(.iadd, 1, (0, 0, 0)), (.istore_n 2, 1, (0, 0, 0)), (.iinc 3 1, 3, (0, 0, 0)), (.goto (-29), 3, (27, 0, 0))]
def s_X12_again_59 : List ZN := [(.iload_n 1, 1, (0, 0, 0)), (.iconst 2, 1, (0, 0, 0)), (.if_icmp .ge 26, 3, (87, 0, 0)), (.iload_n 1, 1, (0, 0, 0)), (.ifCond .ne 7, 3, (72, 0, 0)), (.iload_n 2, 1, (0, 0, 0)), (.goto 17, 3, (86, 0, 0))]
def s_X12_again_72 : List ZN := [(.aload_n 0, 1, (0, 0, 0)), (.getfield 120, 3, (12, 54, 2)), (.bipush 32, 2, (0, 0, 0)), (.iaload, 1, (0, 0, 0)), (.aload_n 0, 1, (0, 0, 0)), (.invokevirtual 412, 3, (j_X12_wanted, 1, 0)), (.isub, 1, (0, 0, 0)), (.iload_n 2, 1, (0, 0, 0)), (.iadd, 1, (0, 0, 0)), (.nop, 0, (86, 0, 0))]
def s_X12_again_86 : List ZN := [(.ireturn, 1, (0, 0, 0))]
def s_X12_again_87 : List ZN := [(.iconst 0, 1, (0, 0, 0)), (.istore_n 3, 1, (0, 0, 0)), (.iconst 0, 1, (0, 0, 0)), (.istore 4, 2, (0, 0, 0)), (.nop, 0, (92, 0, 0))]
def s_X12_again_92 : List ZN := [(.iload 4, 2, (0, 0, 0)), (.aload_n 0, 1, (0, 0, 0)), (.getfield 120, 3, (12, 54, 2)), (.bipush 30, 2, (0, 0, 0)), (.iaload, 1, (0, 0, 0)), (.if_icmp .ge 80, 3, (181, 0, 0)), (.iconst 1, 1, (0, 0, 0)), (.istore 5, 2, (0, 0, 0)), (.iconst 0, 1, (0, 0, 0)), (.istore 6, 2, (0, 0, 0)), (.nop, 0, (110, 0, 0))]
def s_X12_again_110 : List ZN := [(.iload 6, 2, (0, 0, 0)), (.aload_n 0, 1, (0, 0, 0)), (.getfield 120, 3, (12, 54, 2)), (.bipush 31, 2, (0, 0, 0)), (.iaload, 1, (0, 0, 0)), (.if_icmp .ge 43, 3, (162, 0, 0)), (.iload 5, 2, (0, 0, 0)), (.ifCond .eq 29, 3, (153, 0, 0)), (.aload_n 0, 1, (0, 0, 0)), (.getfield 143, 3, (12, 63, 2)), (.aload_n 0, 1, (0, 0, 0)), (.getfield 120, 3, (12, 54, 2)), (.bipush 31, 2, (0, 0, 0)), (.iaload, 1, (0, 0, 0)), (.iload 4, 2, (0, 0, 0)), (.imul, 1, (0, 0, 0)), (.iload 6, 2, (0, 0, 0)), (.iadd, 1, (0, 0, 0)), (.iaload, 1, (0, 0, 0)), (.iconst (-1), 1, (0, 0, 0)), (.if_icmp .eq 7, 3, (153, 0, 0)), (.iconst 1, 1, (0, 0, 0)), (.goto 4, 3, (154, 0, 0))]
def s_X12_again_153 : List ZN := [(.iconst 0, 1, (0, 0, 0)), (.nop, 0, (154, 0, 0))]
def s_X12_again_154 : List ZN := [(.istore 5, 2, (0, 0, 0)), (.iinc 6 1, 3, (0, 0, 0)), (.goto (-49), 3, (110, 0, 0))]
def s_X12_again_162 : List ZN := [(.iload_n 3, 1, (0, 0, 0)), (.iload 5, 2, (0, 0, 0)), (.ifCond .eq 7, 3, (172, 0, 0)), (.iconst 1, 1, (0, 0, 0)), (.goto 4, 3, (173, 0, 0))]
def s_X12_again_172 : List ZN := [(.iconst 0, 1, (0, 0, 0)), (.nop, 0, (173, 0, 0))]
def s_X12_again_173 : List ZN := [(.iadd, 1, (0, 0, 0)), (.istore_n 3, 1, (0, 0, 0)), (.iinc 4 1, 3, (0, 0, 0)), (.goto (-86), 3, (92, 0, 0))]
def s_X12_again_181 : List ZN := [(.iload_n 3, 1, (0, 0, 0)), (.ireturn, 1, (0, 0, 0))]
def p_X12_again : List (Nat × List ZN) := [(0, s_X12_again_0), (19, s_X12_again_19), (27, s_X12_again_27), (50, s_X12_again_50), (51, s_X12_again_51), (59, s_X12_again_59), (72, s_X12_again_72), (86, s_X12_again_86), (87, s_X12_again_87), (92, s_X12_again_92), (110, s_X12_again_110), (153, s_X12_again_153), (154, s_X12_again_154), (162, s_X12_again_162), (172, s_X12_again_172), (173, s_X12_again_173), (181, s_X12_again_181)]
def s_X12_lack_0 : List ZN := [(.aload_n 0, 1, (0, 0, 0)), (.iconst 0, 1, (0, 0, 0)), (.putfield 1, 3, (12, 0, 0)), (.aload_n 0, 1, (0, 0, 0)), (.invokevirtual 418, 3, (j_X12_pairs, 1, 0)), (.iconst 0, 1, (0, 0, 0)), (.istore_n 2, 1, (0, 0, 0)), (.iconst 0, 1, (0, 0, 0)), (.istore_n 3, 1, (0, 0, 0)), (.nop, 0, (13, 0, 0))]
def s_X12_lack_13 : List ZN := [(.iload_n 3, 1, (0, 0, 0)), (.aload_n 0, 1, (0, 0, 0)), (.invokevirtual 412, 3, (j_X12_wanted, 1, 0)), (.if_icmp .ge 32, 3, (50, 0, 0)), (.aload_n 0, 1, (0, 0, 0)), (.getfield 143, 3, (12, 63, 2)), (.iload_n 3, 1, (0, 0, 0)), (.iaload, 1, (0, 0, 0)), (.iconst (-1), 1, (0, 0, 0)), (.if_icmp .eq 6, 3, (34, 0, 0)), (.goto 13, 3, (44, 0, 0))]
def s_X12_lack_34 : List ZN := [(.iload_n 2, 1, (0, 0, 0)), (.iload_n 1, 1, (0, 0, 0)), (.if_icmp .ne 5, 3, (41, 0, 0)), (.iload_n 3, 1, (0, 0, 0)), (.ireturn, 1, (0, 0, 0))]
def s_X12_lack_41 : List ZN := [(.iinc 2 1, 3, (0, 0, 0)), (.nop, 0, (44, 0, 0))]
def s_X12_lack_44 : List ZN := [(.iinc 3 1, 3, (0, 0, 0)), (.goto (-34), 3, (13, 0, 0))]
def s_X12_lack_50 : List ZN := [(.iconst (-1), 1, (0, 0, 0)), (.ireturn, 1, (0, 0, 0))]
def p_X12_lack : List (Nat × List ZN) := [(0, s_X12_lack_0), (13, s_X12_lack_13), (34, s_X12_lack_34), (41, s_X12_lack_41), (44, s_X12_lack_44), (50, s_X12_lack_50)]
def s_X12_kept_0 : List ZN := [(.aload_n 0, 1, (0, 0, 0)), (.iconst 0, 1, (0, 0, 0)), (.putfield 1, 3, (12, 0, 0)), (.aload_n 0, 1, (0, 0, 0)), (.invokevirtual 418, 3, (j_X12_pairs, 1, 0)), (.iload_n 1, 1, (0, 0, 0)), (.i2l, 1, (0, 0, 0)), (.lconst 0, 1, (0, 0, 0)), (.aload_n 0, 1, (0, 0, 0)), (.invokevirtual 412, 3, (j_X12_wanted, 1, 0)), (.iconst 1, 1, (0, 0, 0)), (.isub, 1, (0, 0, 0)), (.i2l, 1, (0, 0, 0)), (.invokestatic 240, 3, (j_X12_within, 3, 0)), (.ifCond .eq 12, 3, (34, 0, 0)), (.aload_n 0, 1, (0, 0, 0)), (.getfield 143, 3, (12, 63, 2)), (.iload_n 1, 1, (0, 0, 0)), (.iaload, 1, (0, 0, 0)), (.goto 4, 3, (35, 0, 0))]
def s_X12_kept_34 : List ZN := [(.iconst (-1), 1, (0, 0, 0)), (.nop, 0, (35, 0, 0))]
def s_X12_kept_35 : List ZN := [(.ireturn, 1, (0, 0, 0))]
def p_X12_kept : List (Nat × List ZN) := [(0, s_X12_kept_0), (34, s_X12_kept_34), (35, s_X12_kept_35)]
def s_X12_pay_0 : List ZN := [(.aload_n 0, 1, (0, 0, 0)), (.iconst 0, 1, (0, 0, 0)), (.putfield 1, 3, (12, 0, 0)), (.iload_n 1, 1, (0, 0, 0)), (.i2l, 1, (0, 0, 0)), (.lconst 0, 1, (0, 0, 0)), (.ldc2_w 272, 3, (0, 0, 1000)), (.invokestatic 240, 3, (j_X12_within, 3, 0)), (.ifCond .eq 27, 3, (41, 0, 0)), (.iload_n 2, 1, (0, 0, 0)), (.i2l, 1, (0, 0, 0)), (.lconst 0, 1, (0, 0, 0)), (.ldc2_w 366, 3, (0, 0, 100)), (.invokestatic 240, 3, (j_X12_within, 3, 0)), (.ifCond .eq 15, 3, (41, 0, 0)), (.iload_n 3, 1, (0, 0, 0)), (.i2l, 1, (0, 0, 0)), (.lconst 0, 1, (0, 0, 0)), (.ldc2_w 366, 3, (0, 0, 100)), (.invokestatic 240, 3, (j_X12_within, 3, 0)), (.ifCond .ne 5, 3, (43, 0, 0)), (.nop, 0, (41, 0, 0))]
def s_X12_pay_41 : List ZN := [(.iconst (-1), 1, (0, 0, 0)), (.ireturn, 1, (0, 0, 0))]
def s_X12_pay_43 : List ZN := [(.iconst 0, 1, (0, 0, 0)), (.istore 4, 2, (0, 0, 0)), (.iconst 0, 1, (0, 0, 0)), (.istore 5, 2, (0, 0, 0)), (.nop, 0, (49, 0, 0))]
def s_X12_pay_49 : List ZN := [(.iload 5, 2, (0, 0, 0)), (.aload_n 0, 1, (0, 0, 0)), (.getfield 120, 3, (12, 54, 2)), (.bipush 32, 2, (0, 0, 0)), (.iaload, 1, (0, 0, 0)), (.if_icmp .ge 32, 3, (90, 0, 0)), (.iload 4, 2, (0, 0, 0)), (.aload_n 0, 1, (0, 0, 0)), (.getfield 120, 3, (12, 54, 2)), (.bipush 8, 2, (0, 0, 0)), (.aload_n 0, 1, (0, 0, 0)), (.getfield 120, 3, (12, 54, 2)), (.bipush 33, 2, (0, 0, 0)), (.iload 5, 2, (0, 0, 0)), (.iadd, 1, (0, 0, 0)), (.iaload, 1, (0, 0, 0)), (.iadd, 1, (0, 0, 0)), (.iaload, 1, (0, 0, 0)), (.iadd, 1, (0, 0, 0)), (.istore 4, 2, (0, 0, 0)), (.iinc 5 1, 3, (0, 0, 0)), (.goto (-38), 3, (49, 0, 0))]
def s_X12_pay_90 : List ZN := [(.iload 4, 2, (0, 0, 0)), (.iload_n 1, 1, (0, 0, 0)), (.if_icmp .ge 10, 3, (103, 0, 0)), (.iload_n 2, 1, (0, 0, 0)), (.iload 4, 2, (0, 0, 0)), (.imul, 1, (0, 0, 0)), (.goto 13, 3, (113, 0, 0))]
def s_X12_pay_103 : List ZN := [(.iload_n 2, 1, (0, 0, 0)), (.iload_n 1, 1, (0, 0, 0)), (.imul, 1, (0, 0, 0)), (.iload_n 3, 1, (0, 0, 0)), (.iload 4, 2, (0, 0, 0)), (.iload_n 1, 1, (0, 0, 0)), (.isub, 1, (0, 0, 0)), (.imul, 1, (0, 0, 0)), (.iadd, 1, (0, 0, 0)), (.nop, 0, (113, 0, 0))]
def s_X12_pay_113 : List ZN := [(.ireturn, 1, (0, 0, 0))]
def p_X12_pay : List (Nat × List ZN) := [(0, s_X12_pay_0), (41, s_X12_pay_41), (43, s_X12_pay_43), (49, s_X12_pay_49), (90, s_X12_pay_90), (103, s_X12_pay_103), (113, s_X12_pay_113)]
def s_X12_part_0 : List ZN := [(.aload_n 0, 1, (0, 0, 0)), (.iconst 0, 1, (0, 0, 0)), (.putfield 1, 3, (12, 0, 0)), (.iload_n 1, 1, (0, 0, 0)), (.i2l, 1, (0, 0, 0)), (.lconst 0, 1, (0, 0, 0)), (.ldc2_w 421, 3, (0, 0, 9)), (.invokestatic 240, 3, (j_X12_within, 3, 0)), (.ifCond .eq 40, 3, (54, 0, 0)), (.iload_n 2, 1, (0, 0, 0)), (.i2l, 1, (0, 0, 0)), (.lconst 0, 1, (0, 0, 0)), (.ldc2_w 423, 3, (0, 0, 99)), (.invokestatic 240, 3, (j_X12_within, 3, 0)), (.ifCond .eq 28, 3, (54, 0, 0)), (.iload_n 3, 1, (0, 0, 0)), (.i2l, 1, (0, 0, 0)), (.lconst 1, 1, (0, 0, 0)), (.ldc2_w 425, 3, (0, 0, 12)), (.invokestatic 240, 3, (j_X12_within, 3, 0)), (.ifCond .eq 16, 3, (54, 0, 0)), (.iload 4, 2, (0, 0, 0)), (.i2l, 1, (0, 0, 0)), (.lconst 0, 1, (0, 0, 0)), (.ldc2_w 425, 3, (0, 0, 12)), (.invokestatic 240, 3, (j_X12_within, 3, 0)), (.ifCond .ne 5, 3, (56, 0, 0)), (.nop, 0, (54, 0, 0))]
def s_X12_part_54 : List ZN := [(.iconst 0, 1, (0, 0, 0)), (.ireturn, 1, (1, 0, 0))]
def s_X12_part_56 : List ZN := [(.aload_n 0, 1, (0, 0, 0)), (.getfield 120, 3, (12, 54, 2)), (.bipush 93, 2, (0, 0, 0)), (.iload_n 1, 1, (0, 0, 0)), (.iadd, 1, (0, 0, 0)), (.iload_n 2, 1, (0, 0, 0)), (.iastore, 1, (0, 0, 0)), (.aload_n 0, 1, (0, 0, 0)), (.getfield 120, 3, (12, 54, 2)), (.bipush 103, 2, (0, 0, 0)), (.iload_n 1, 1, (0, 0, 0)), (.iadd, 1, (0, 0, 0)), (.iload_n 3, 1, (0, 0, 0)), (.iastore, 1, (0, 0, 0)), (.aload_n 0, 1, (0, 0, 0)), (.getfield 120, 3, (12, 54, 2)), (.bipush 113, 2, (0, 0, 0)), (.iload_n 1, 1, (0, 0, 0)), (.iadd, 1, (0, 0, 0)), (.iload 4, 2, (0, 0, 0)), (.iastore, 1, (0, 0, 0)), (.aload_n 0, 1, (0, 0, 0)), (.getfield 120, 3, (12, 54, 2)), (.bipush 123, 2, (0, 0, 0)), (.iload_n 1, 1, (0, 0, 0)), (.iadd, 1, (0, 0, 0)), (.iconst 1, 1, (0, 0, 0)), (.iastore, 1, (0, 0, 0)), (.iconst 1, 1, (0, 0, 0)), (.ireturn, 1, (1, 0, 0))]
def p_X12_part : List (Nat × List ZN) := [(0, s_X12_part_0), (54, s_X12_part_54), (56, s_X12_part_56)]
def s_X12_renewals_0 : List ZN := [(.iconst 0, 1, (0, 0, 0)), (.istore 4, 2, (0, 0, 0)), (.aload_n 0, 1, (0, 0, 0)), (.getfield 120, 3, (12, 54, 2)), (.bipush 113, 2, (0, 0, 0)), (.iload_n 1, 1, (0, 0, 0)), (.iadd, 1, (0, 0, 0)), (.iaload, 1, (0, 0, 0)), (.ineg, 1, (0, 0, 0)), (.istore 5, 2, (0, 0, 0)), (.iconst (-1), 1, (0, 0, 0)), (.istore 6, 2, (0, 0, 0)), (.iconst 0, 1, (0, 0, 0)), (.istore 7, 2, (0, 0, 0)), (.nop, 0, (21, 0, 0))]
def s_X12_renewals_21 : List ZN := [(.iload 7, 2, (0, 0, 0)), (.iload_n 2, 1, (0, 0, 0)), (.if_icmp .ge 84, 3, (108, 0, 0)), (.iload_n 3, 1, (0, 0, 0)), (.iload 7, 2, (0, 0, 0)), (.ishr, 1, (0, 0, 0)), (.iconst 1, 1, (0, 0, 0)), (.iand, 1, (0, 0, 0)), (.iconst 1, 1, (0, 0, 0)), (.if_icmp .ne 7, 3, (41, 0, 0)), (.iload 7, 2, (0, 0, 0)), (.istore 6, 2, (0, 0, 0)), (.nop, 0, (41, 0, 0))]
def s_X12_renewals_41 : List ZN := [(.iload 7, 2, (0, 0, 0)), (.iload 5, 2, (0, 0, 0)), (.isub, 1, (0, 0, 0)), (.iconst 1, 1, (0, 0, 0)), (.iadd, 1, (0, 0, 0)), (.aload_n 0, 1, (0, 0, 0)), (.getfield 120, 3, (12, 54, 2)), (.bipush 103, 2, (0, 0, 0)), (.iload_n 1, 1, (0, 0, 0)), (.iadd, 1, (0, 0, 0)), (.iaload, 1, (0, 0, 0)), (.if_icmp .gt 6, 3, (63, 0, 0)), (.goto 42, 3, (102, 0, 0))]
def s_X12_renewals_63 : List ZN := [(.iload 6, 2, (0, 0, 0)), (.iconst (-1), 1, (0, 0, 0)), (.if_icmp .ne 5, 3, (71, 0, 0)), (.iconst (-1), 1, (0, 0, 0)), (.ireturn, 1, (0, 0, 0))]
def s_X12_renewals_71 : List ZN := [(.iload 6, 2, (0, 0, 0)), (.istore 5, 2, (0, 0, 0)), (.iconst (-1), 1, (0, 0, 0)), (.istore 6, 2, (0, 0, 0)), (.iinc 4 1, 3, (0, 0, 0)), (.iload 7, 2, (0, 0, 0)), (.iload 5, 2, (0, 0, 0)), (.isub, 1, (0, 0, 0)), (.iconst 1, 1, (0, 0, 0)), (.iadd, 1, (0, 0, 0)), (.aload_n 0, 1, (0, 0, 0)), (.getfield 120, 3, (12, 54, 2)), (.bipush 103, 2, (0, 0, 0)), (.iload_n 1, 1, (0, 0, 0)), (.iadd, 1, (0, 0, 0)), (.iaload, 1, (0, 0, 0)), (.if_icmp .le 5, 3, (102, 0, 0)), (.iconst (-1), 1, (0, 0, 0)), (.ireturn, 1, (0, 0, 0))]
def s_X12_renewals_102 : List ZN := [(.iinc 7 1, 3, (0, 0, 0)), (.goto (-84), 3, (21, 0, 0))]
def s_X12_renewals_108 : List ZN := [(.iload 4, 2, (0, 0, 0)), (.ireturn, 1, (0, 0, 0))]
def p_X12_renewals : List (Nat × List ZN) := [(0, s_X12_renewals_0), (21, s_X12_renewals_21), (41, s_X12_renewals_41), (63, s_X12_renewals_63), (71, s_X12_renewals_71), (102, s_X12_renewals_102), (108, s_X12_renewals_108)]
def s_X12_serves_0 : List ZN := [(.aload_n 0, 1, (0, 0, 0)), (.iconst 0, 1, (0, 0, 0)), (.putfield 427, 3, (12, 64, 0)), (.aload_n 0, 1, (0, 0, 0)), (.iconst 0, 1, (0, 0, 0)), (.putfield 430, 3, (12, 65, 0)), (.iconst 0, 1, (0, 0, 0)), (.istore 4, 2, (0, 0, 0)), (.nop, 0, (13, 0, 0))]
def s_X12_serves_13 : List ZN := [(.iload 4, 2, (0, 0, 0)), (.iload_n 1, 1, (0, 0, 0)), (.if_icmp .ge 33, 3, (49, 0, 0)), (.aload_n 0, 1, (0, 0, 0)), (.dup, 1, (0, 0, 0)), (.getfield 427, 3, (12, 64, 0)), (.iload_n 3, 1, (0, 0, 0)), (.iload 4, 2, (0, 0, 0)), (.ishr, 1, (0, 0, 0)), (.iconst 1, 1, (0, 0, 0)), (.iand, 1, (0, 0, 0)), (.iconst 1, 1, (0, 0, 0)), (.if_icmp .ne 7, 3, (38, 0, 0)), (.iload_n 2, 1, (0, 0, 0)), (.goto 4, 3, (39, 0, 0))]
def s_X12_serves_38 : List ZN := [(.iconst 0, 1, (0, 0, 0)), (.nop, 0, (39, 0, 0))]
def s_X12_serves_39 : List ZN := [(.iadd, 1, (0, 0, 0)), (.putfield 427, 3, (12, 64, 0)), (.iinc 4 1, 3, (0, 0, 0)), (.goto (-33), 3, (13, 0, 0))]
def s_X12_serves_49 : List ZN := [(.iconst 0, 1, (0, 0, 0)), (.istore 4, 2, (0, 0, 0)), (.nop, 0, (52, 0, 0))]
def s_X12_serves_52 : List ZN := [(.iload 4, 2, (0, 0, 0)), (.bipush 10, 2, (0, 0, 0)), (.if_icmp .ge 76, 3, (132, 0, 0)), (.aload_n 0, 1, (0, 0, 0)), (.getfield 120, 3, (12, 54, 2)), (.bipush 123, 2, (0, 0, 0)), (.iload 4, 2, (0, 0, 0)), (.iadd, 1, (0, 0, 0)), (.iaload, 1, (0, 0, 0)), (.ifCond .ne 6, 3, (75, 0, 0)), (.goto 54, 3, (126, 0, 0))]
def s_X12_serves_75 : List ZN := [(.aload_n 0, 1, (0, 0, 0)), (.iload 4, 2, (0, 0, 0)), (.iload_n 1, 1, (0, 0, 0)), (.iload_n 3, 1, (0, 0, 0)), (.invokevirtual 433, 3, (j_X12_renewals, 4, 0)), (.istore 5, 2, (0, 0, 0)), (.iload 5, 2, (0, 0, 0)), (.iconst (-1), 1, (0, 0, 0)), (.if_icmp .ne 5, 3, (93, 0, 0)), (.iconst 0, 1, (0, 0, 0)), (.ireturn, 1, (1, 0, 0))]
def s_X12_serves_93 : List ZN := [(.aload_n 0, 1, (0, 0, 0)), (.dup, 1, (0, 0, 0)), (.getfield 427, 3, (12, 64, 0)), (.iload 5, 2, (0, 0, 0)), (.aload_n 0, 1, (0, 0, 0)), (.getfield 120, 3, (12, 54, 2)), (.bipush 93, 2, (0, 0, 0)), (.iload 4, 2, (0, 0, 0)), (.iadd, 1, (0, 0, 0)), (.iaload, 1, (0, 0, 0)), (.imul, 1, (0, 0, 0)), (.iadd, 1, (0, 0, 0)), (.putfield 427, 3, (12, 64, 0)), (.aload_n 0, 1, (0, 0, 0)), (.dup, 1, (0, 0, 0)), (.getfield 430, 3, (12, 65, 0)), (.iload 5, 2, (0, 0, 0)), (.iadd, 1, (0, 0, 0)), (.putfield 430, 3, (12, 65, 0)), (.nop, 0, (126, 0, 0))]
def s_X12_serves_126 : List ZN := [(.iinc 4 1, 3, (0, 0, 0)), (.goto (-77), 3, (52, 0, 0))]
def s_X12_serves_132 : List ZN := [(.iconst 1, 1, (0, 0, 0)), (.ireturn, 1, (1, 0, 0))]
def p_X12_serves : List (Nat × List ZN) := [(0, s_X12_serves_0), (13, s_X12_serves_13), (38, s_X12_serves_38), (39, s_X12_serves_39), (49, s_X12_serves_49), (52, s_X12_serves_52), (75, s_X12_serves_75), (93, s_X12_serves_93), (126, s_X12_serves_126), (132, s_X12_serves_132)]
def s_X12_ones_0 : List ZN := [(.iconst 0, 1, (0, 0, 0)), (.istore_n 1, 1, (0, 0, 0)), (.iload_n 0, 1, (0, 0, 0)), (.istore_n 2, 1, (0, 0, 0)), (.nop, 0, (4, 0, 0))]
def s_X12_ones_4 : List ZN := [(.iload_n 2, 1, (0, 0, 0)), (.ifCond .eq 15, 3, (20, 0, 0)), (.iinc 1 1, 3, (0, 0, 0)), (.iload_n 2, 1, (0, 0, 0)), (.iload_n 2, 1, (0, 0, 0)), (.iconst 1, 1, (0, 0, 0)), (.isub, 1, (0, 0, 0)), (.iand, 1, (0, 0, 0)), (.istore_n 2, 1, (0, 0, 0)), (.goto (-13), 3, (4, 0, 0))]
def s_X12_ones_20 : List ZN := [(.iload_n 1, 1, (0, 0, 0)), (.ireturn, 1, (0, 0, 0))]
def p_X12_ones : List (Nat × List ZN) := [(0, s_X12_ones_0), (4, s_X12_ones_4), (20, s_X12_ones_20)]
def s_X12_service_0 : List ZN := [(.aload_n 0, 1, (0, 0, 0)), (.iconst 0, 1, (0, 0, 0)), (.putfield 1, 3, (12, 0, 0)), (.iload_n 1, 1, (0, 0, 0)), (.i2l, 1, (0, 0, 0)), (.lconst 1, 1, (0, 0, 0)), (.ldc2_w 290, 3, (0, 0, 10)), (.invokestatic 240, 3, (j_X12_within, 3, 0)), (.ifCond .eq 27, 3, (41, 0, 0)), (.iload_n 2, 1, (0, 0, 0)), (.i2l, 1, (0, 0, 0)), (.lconst 0, 1, (0, 0, 0)), (.ldc2_w 436, 3, (0, 0, 999)), (.invokestatic 240, 3, (j_X12_within, 3, 0)), (.ifCond .eq 15, 3, (41, 0, 0)), (.iload_n 3, 1, (0, 0, 0)), (.i2l, 1, (0, 0, 0)), (.lconst 0, 1, (0, 0, 0)), (.ldc2_w 274, 3, (0, 0, 2)), (.invokestatic 240, 3, (j_X12_within, 3, 0)), (.ifCond .ne 5, 3, (43, 0, 0)), (.nop, 0, (41, 0, 0))]
def s_X12_service_41 : List ZN := [(.iconst (-1), 1, (0, 0, 0)), (.ireturn, 1, (0, 0, 0))]
def s_X12_service_43 : List ZN := [(.iconst (-1), 1, (0, 0, 0)), (.istore 4, 2, (0, 0, 0)), (.iconst 0, 1, (0, 0, 0)), (.istore 5, 2, (0, 0, 0)), (.iconst 0, 1, (0, 0, 0)), (.istore 6, 2, (0, 0, 0)), (.iconst 0, 1, (0, 0, 0)), (.istore 7, 2, (0, 0, 0)), (.nop, 0, (55, 0, 0))]
def s_X12_service_55 : List ZN := [(.iload 7, 2, (0, 0, 0)), (.iconst 1, 1, (0, 0, 0)), (.iload_n 1, 1, (0, 0, 0)), (.ishl, 1, (0, 0, 0)), (.if_icmp .ge 79, 3, (139, 0, 0)), (.aload_n 0, 1, (0, 0, 0)), (.iload_n 1, 1, (0, 0, 0)), (.iload_n 2, 1, (0, 0, 0)), (.iload 7, 2, (0, 0, 0)), (.invokevirtual 438, 3, (j_X12_serves, 4, 0)), (.ifCond .ne 6, 3, (77, 0, 0)), (.goto 59, 3, (133, 0, 0))]
def s_X12_service_77 : List ZN := [(.iload 4, 2, (0, 0, 0)), (.iconst (-1), 1, (0, 0, 0)), (.if_icmp .eq 37, 3, (117, 0, 0)), (.aload_n 0, 1, (0, 0, 0)), (.getfield 427, 3, (12, 64, 0)), (.iload 5, 2, (0, 0, 0)), (.if_icmp .gt 44, 3, (133, 0, 0)), (.aload_n 0, 1, (0, 0, 0)), (.getfield 427, 3, (12, 64, 0)), (.iload 5, 2, (0, 0, 0)), (.if_icmp .ne 19, 3, (117, 0, 0)), (.iload 7, 2, (0, 0, 0)), (.invokestatic 441, 3, (j_X12_ones, 1, 0)), (.iload 4, 2, (0, 0, 0)), (.invokestatic 441, 3, (j_X12_ones, 1, 0)), (.if_icmp .lt 6, 3, (117, 0, 0)), (.goto 19, 3, (133, 0, 0))]
def s_X12_service_117 : List ZN := [(.iload 7, 2, (0, 0, 0)), (.istore 4, 2, (0, 0, 0)), (.aload_n 0, 1, (0, 0, 0)), (.getfield 427, 3, (12, 64, 0)), (.istore 5, 2, (0, 0, 0)), (.aload_n 0, 1, (0, 0, 0)), (.getfield 430, 3, (12, 65, 0)), (.istore 6, 2, (0, 0, 0)), (.nop, 0, (133, 0, 0))]
def s_X12_service_133 : List ZN := [(.iinc 7 1, 3, (0, 0, 0)), (.goto (-81), 3, (55, 0, 0))]
def s_X12_service_139 : List ZN := [(.iload_n 3, 1, (0, 0, 0)), (.ifCond .ne 8, 3, (148, 0, 0)), (.iload 5, 2, (0, 0, 0)), (.goto 15, 3, (160, 0, 0))]
def s_X12_service_148 : List ZN := [(.iload_n 3, 1, (0, 0, 0)), (.iconst 1, 1, (0, 0, 0)), (.if_icmp .ne 8, 3, (158, 0, 0)), (.iload 4, 2, (0, 0, 0)), (.goto 5, 3, (160, 0, 0))]
def s_X12_service_158 : List ZN := [(.iload 6, 2, (0, 0, 0)), (.nop, 0, (160, 0, 0))]
def s_X12_service_160 : List ZN := [(.ireturn, 1, (0, 0, 0))]
def p_X12_service : List (Nat × List ZN) := [(0, s_X12_service_0), (41, s_X12_service_41), (43, s_X12_service_43), (55, s_X12_service_55), (77, s_X12_service_77), (117, s_X12_service_117), (133, s_X12_service_133), (139, s_X12_service_139), (148, s_X12_service_148), (158, s_X12_service_158), (160, s_X12_service_160)]
def s_X12_cut_0 : List ZN := [(.iload_n 2, 1, (0, 0, 0)), (.ifCond .ne 10, 3, (11, 0, 0)), (.lload_n 0, 1, (0, 0, 0)), (.l2i, 1, (0, 0, 0)), (.i2b, 1, (0, 0, 0)), (.i2l, 1, (0, 0, 0)), (.goto 27, 3, (35, 0, 0))]
def s_X12_cut_11 : List ZN := [(.iload_n 2, 1, (0, 0, 0)), (.iconst 1, 1, (0, 0, 0)), (.if_icmp .ne 10, 3, (23, 0, 0)), (.lload_n 0, 1, (0, 0, 0)), (.l2i, 1, (0, 0, 0)), (.i2s, 1, (0, 0, 0)), (.i2l, 1, (0, 0, 0)), (.goto 15, 3, (35, 0, 0))]
def s_X12_cut_23 : List ZN := [(.iload_n 2, 1, (0, 0, 0)), (.iconst 2, 1, (0, 0, 0)), (.if_icmp .ne 9, 3, (34, 0, 0)), (.lload_n 0, 1, (0, 0, 0)), (.l2i, 1, (0, 0, 0)), (.i2l, 1, (0, 0, 0)), (.goto 4, 3, (35, 0, 0))]
def s_X12_cut_34 : List ZN := [(.lload_n 0, 1, (0, 0, 0)), (.nop, 0, (35, 0, 0))]
def s_X12_cut_35 : List ZN := [(.lreturn, 1, (0, 0, 0))]
def p_X12_cut : List (Nat × List ZN) := [(0, s_X12_cut_0), (11, s_X12_cut_11), (23, s_X12_cut_23), (34, s_X12_cut_34), (35, s_X12_cut_35)]
def s_X12_row_0 : List ZN := [(.aload_n 0, 1, (0, 0, 0)), (.iconst 0, 1, (0, 0, 0)), (.putfield 1, 3, (12, 0, 0)), (.iload_n 1, 1, (0, 0, 0)), (.i2l, 1, (0, 0, 0)), (.lconst 0, 1, (0, 0, 0)), (.ldc2_w 377, 3, (0, 0, 3)), (.invokestatic 240, 3, (j_X12_within, 3, 0)), (.ifCond .eq 21, 3, (35, 0, 0)), (.iload_n 2, 1, (0, 0, 0)), (.i2l, 1, (0, 0, 0)), (.lconst 0, 1, (0, 0, 0)), (.ldc2_w 377, 3, (0, 0, 3)), (.invokestatic 240, 3, (j_X12_within, 3, 0)), (.ifCond .eq 9, 3, (35, 0, 0)), (.iload_n 3, 1, (0, 0, 0)), (.bipush 60, 2, (0, 0, 0)), (.if_icmp .le 6, 3, (38, 0, 0)), (.nop, 0, (35, 0, 0))]
def s_X12_row_35 : List ZN := [(.bipush (-2), 2, (0, 0, 0)), (.ireturn, 1, (0, 0, 0))]
def s_X12_row_38 : List ZN := [(.iload_n 3, 1, (0, 0, 0)), (.ifCond .ge 6, 3, (45, 0, 0)), (.bipush (-3), 2, (0, 0, 0)), (.ireturn, 1, (0, 0, 0))]
def s_X12_row_45 : List ZN := [(.aload_n 0, 1, (0, 0, 0)), (.getfield 146, 3, (12, 66, 2)), (.iload_n 1, 1, (0, 0, 0)), (.iload_n 2, 1, (0, 0, 0)), (.iastore, 1, (0, 0, 0)), (.aload_n 0, 1, (0, 0, 0)), (.getfield 149, 3, (12, 67, 2)), (.iload_n 1, 1, (0, 0, 0)), (.iload_n 3, 1, (0, 0, 0)), (.iastore, 1, (0, 0, 0)), (.iconst 0, 1, (0, 0, 0)), (.istore 4, 2, (0, 0, 0)), (.nop, 0, (62, 0, 0))]
def s_X12_row_62 : List ZN := [(.iload 4, 2, (0, 0, 0)), (.iload_n 3, 1, (0, 0, 0)), (.if_icmp .ge 22, 3, (87, 0, 0)), (.aload_n 0, 1, (0, 0, 0)), (.getfield 152, 3, (12, 68, 2)), (.bipush 60, 2, (0, 0, 0)), (.iload_n 1, 1, (0, 0, 0)), (.imul, 1, (0, 0, 0)), (.iload 4, 2, (0, 0, 0)), (.iadd, 1, (0, 0, 0)), (.lconst 0, 1, (0, 0, 0)), (.lastore, 1, (0, 0, 0)), (.iinc 4 1, 3, (0, 0, 0)), (.goto (-22), 3, (62, 0, 0))]
def s_X12_row_87 : List ZN := [(.iconst 0, 1, (0, 0, 0)), (.ireturn, 1, (0, 0, 0))]
def p_X12_row : List (Nat × List ZN) := [(0, s_X12_row_0), (35, s_X12_row_35), (38, s_X12_row_38), (45, s_X12_row_45), (62, s_X12_row_62), (87, s_X12_row_87)]
def s_X12_write_0 : List ZN := [(.aload_n 0, 1, (0, 0, 0)), (.iconst 0, 1, (0, 0, 0)), (.putfield 1, 3, (12, 0, 0)), (.iload_n 1, 1, (0, 0, 0)), (.i2l, 1, (0, 0, 0)), (.lconst 0, 1, (0, 0, 0)), (.ldc2_w 377, 3, (0, 0, 3)), (.invokestatic 240, 3, (j_X12_within, 3, 0)), (.ifCond .eq 31, 3, (45, 0, 0)), (.aload_n 0, 1, (0, 0, 0)), (.getfield 146, 3, (12, 66, 2)), (.iload_n 1, 1, (0, 0, 0)), (.iaload, 1, (0, 0, 0)), (.iconst (-1), 1, (0, 0, 0)), (.if_icmp .eq 21, 3, (45, 0, 0)), (.iload_n 2, 1, (0, 0, 0)), (.i2l, 1, (0, 0, 0)), (.lconst 0, 1, (0, 0, 0)), (.aload_n 0, 1, (0, 0, 0)), (.getfield 149, 3, (12, 67, 2)), (.iload_n 1, 1, (0, 0, 0)), (.iaload, 1, (0, 0, 0)), (.iconst 1, 1, (0, 0, 0)), (.isub, 1, (0, 0, 0)), (.i2l, 1, (0, 0, 0)), (.invokestatic 240, 3, (j_X12_within, 3, 0)), (.ifCond .ne 7, 3, (49, 0, 0)), (.nop, 0, (45, 0, 0))]
def s_X12_write_45 : List ZN := [(.ldc2_w 444, 3, (0, 0, -1000000)), (.lreturn, 1, (0, 0, 0))]
def s_X12_write_49 : List ZN := [(.aload_n 0, 1, (0, 0, 0)), (.getfield 152, 3, (12, 68, 2)), (.bipush 60, 2, (0, 0, 0)), (.iload_n 1, 1, (0, 0, 0)), (.imul, 1, (0, 0, 0)), (.iload_n 2, 1, (0, 0, 0)), (.iadd, 1, (0, 0, 0)), (.lload_n 3, 1, (0, 0, 0)), (.aload_n 0, 1, (0, 0, 0)), (.getfield 146, 3, (12, 66, 2)), (.iload_n 1, 1, (0, 0, 0)), (.iaload, 1, (0, 0, 0)), (.invokestatic 446, 3, (j_X12_cut, 2, 0)), (.lastore, 1, (0, 0, 0)), (.aload_n 0, 1, (0, 0, 0)), (.getfield 152, 3, (12, 68, 2)), (.bipush 60, 2, (0, 0, 0)), (.iload_n 1, 1, (0, 0, 0)), (.imul, 1, (0, 0, 0)), (.iload_n 2, 1, (0, 0, 0)), (.iadd, 1, (0, 0, 0)), (.laload, 1, (0, 0, 0)), (.lreturn, 1, (0, 0, 0))]
def p_X12_write : List (Nat × List ZN) := [(0, s_X12_write_0), (45, s_X12_write_45), (49, s_X12_write_49)]
def s_X12_save_0 : List ZN := [(.aload_n 0, 1, (0, 0, 0)), (.iconst 0, 1, (0, 0, 0)), (.putfield 1, 3, (12, 0, 0)), (.iload_n 1, 1, (0, 0, 0)), (.i2l, 1, (0, 0, 0)), (.lconst 0, 1, (0, 0, 0)), (.ldc2_w 377, 3, (0, 0, 3)), (.invokestatic 240, 3, (j_X12_within, 3, 0)), (.ifCond .ne 6, 3, (20, 0, 0)), (.bipush (-2), 2, (0, 0, 0)), (.ireturn, 1, (0, 0, 0))]
def s_X12_save_20 : List ZN := [(.aload_n 0, 1, (0, 0, 0)), (.getfield 146, 3, (12, 66, 2)), (.iload_n 1, 1, (0, 0, 0)), (.iaload, 1, (0, 0, 0)), (.iconst (-1), 1, (0, 0, 0)), (.if_icmp .ne 6, 3, (33, 0, 0)), (.bipush (-6), 2, (0, 0, 0)), (.ireturn, 1, (0, 0, 0))]
def s_X12_save_33 : List ZN := [(.aload_n 0, 1, (0, 0, 0)), (.getfield 149, 3, (12, 67, 2)), (.iload_n 1, 1, (0, 0, 0)), (.iaload, 1, (0, 0, 0)), (.aload_n 0, 1, (0, 0, 0)), (.getfield 120, 3, (12, 54, 2)), (.bipush 32, 2, (0, 0, 0)), (.iaload, 1, (0, 0, 0)), (.if_icmp .ge 6, 3, (52, 0, 0)), (.bipush (-7), 2, (0, 0, 0)), (.ireturn, 1, (0, 0, 0))]
def s_X12_save_52 : List ZN := [(.iconst 0, 1, (0, 0, 0)), (.istore_n 2, 1, (0, 0, 0)), (.nop, 0, (54, 0, 0))]
def s_X12_save_54 : List ZN := [(.iload_n 2, 1, (0, 0, 0)), (.aload_n 0, 1, (0, 0, 0)), (.getfield 120, 3, (12, 54, 2)), (.bipush 32, 2, (0, 0, 0)), (.iaload, 1, (0, 0, 0)), (.if_icmp .ge 30, 3, (92, 0, 0)), (.aload_n 0, 1, (0, 0, 0)), (.getfield 152, 3, (12, 68, 2)), (.bipush 60, 2, (0, 0, 0)), (.iload_n 1, 1, (0, 0, 0)), (.imul, 1, (0, 0, 0)), (.iload_n 2, 1, (0, 0, 0)), (.iadd, 1, (0, 0, 0)), (.aload_n 0, 1, (0, 0, 0)), (.getfield 120, 3, (12, 54, 2)), (.bipush 33, 2, (0, 0, 0)), (.iload_n 2, 1, (0, 0, 0)), (.iadd, 1, (0, 0, 0)), (.iaload, 1, (0, 0, 0)), (.i2l, 1, (0, 0, 0)), (.lastore, 1, (0, 0, 0)), (.iinc 2 1, 3, (0, 0, 0)), (.goto (-35), 3, (54, 0, 0))]
def s_X12_save_92 : List ZN := [(.aload_n 0, 1, (0, 0, 0)), (.getfield 120, 3, (12, 54, 2)), (.bipush 32, 2, (0, 0, 0)), (.iaload, 1, (0, 0, 0)), (.ireturn, 1, (0, 0, 0))]
def p_X12_save : List (Nat × List ZN) := [(0, s_X12_save_0), (20, s_X12_save_20), (33, s_X12_save_33), (52, s_X12_save_52), (54, s_X12_save_54), (92, s_X12_save_92)]
def s_X12_load_0 : List ZN := [(.aload_n 0, 1, (0, 0, 0)), (.iconst 0, 1, (0, 0, 0)), (.putfield 1, 3, (12, 0, 0)), (.iload_n 1, 1, (0, 0, 0)), (.i2l, 1, (0, 0, 0)), (.lconst 0, 1, (0, 0, 0)), (.ldc2_w 377, 3, (0, 0, 3)), (.invokestatic 240, 3, (j_X12_within, 3, 0)), (.ifCond .ne 6, 3, (20, 0, 0)), (.bipush (-2), 2, (0, 0, 0)), (.ireturn, 1, (0, 0, 0))]
def s_X12_load_20 : List ZN := [(.aload_n 0, 1, (0, 0, 0)), (.getfield 146, 3, (12, 66, 2)), (.iload_n 1, 1, (0, 0, 0)), (.iaload, 1, (0, 0, 0)), (.iconst (-1), 1, (0, 0, 0)), (.if_icmp .ne 6, 3, (33, 0, 0)), (.bipush (-6), 2, (0, 0, 0)), (.ireturn, 1, (0, 0, 0))]
def s_X12_load_33 : List ZN := [(.iload_n 2, 1, (0, 0, 0)), (.i2l, 1, (0, 0, 0)), (.lconst 0, 1, (0, 0, 0)), (.aload_n 0, 1, (0, 0, 0)), (.getfield 149, 3, (12, 67, 2)), (.iload_n 1, 1, (0, 0, 0)), (.iaload, 1, (0, 0, 0)), (.i2l, 1, (0, 0, 0)), (.invokestatic 240, 3, (j_X12_within, 3, 0)), (.ifCond .ne 6, 3, (52, 0, 0)), (.bipush (-7), 2, (0, 0, 0)), (.ireturn, 1, (0, 0, 0))]
def s_X12_load_52 : List ZN := [(.iconst 0, 1, (0, 0, 0)), (.istore_n 3, 1, (0, 0, 0)), (.nop, 0, (54, 0, 0))]
def s_X12_load_54 : List ZN := [(.iload_n 3, 1, (0, 0, 0)), (.iload_n 2, 1, (0, 0, 0)), (.if_icmp .ge 40, 3, (96, 0, 0)), (.aload_n 0, 1, (0, 0, 0)), (.getfield 152, 3, (12, 68, 2)), (.bipush 60, 2, (0, 0, 0)), (.iload_n 1, 1, (0, 0, 0)), (.imul, 1, (0, 0, 0)), (.iload_n 3, 1, (0, 0, 0)), (.iadd, 1, (0, 0, 0)), (.laload, 1, (0, 0, 0)), (.lconst 0, 1, (0, 0, 0)), (.aload_n 0, 1, (0, 0, 0)), (.getfield 120, 3, (12, 54, 2)), (.bipush 31, 2, (0, 0, 0)), (.iaload, 1, (0, 0, 0)), (.iconst 1, 1, (0, 0, 0)), (.isub, 1, (0, 0, 0)), (.i2l, 1, (0, 0, 0)), (.invokestatic 240, 3, (j_X12_within, 3, 0)), (.ifCond .ne 6, 3, (90, 0, 0)), (.bipush (-5), 2, (0, 0, 0)), (.ireturn, 1, (0, 0, 0))]
def s_X12_load_90 : List ZN := [(.iinc 3 1, 3, (0, 0, 0)), (.goto (-39), 3, (54, 0, 0))]
def s_X12_load_96 : List ZN := [(.iconst 0, 1, (0, 0, 0)), (.istore_n 3, 1, (0, 0, 0)), (.nop, 0, (98, 0, 0))]
def s_X12_load_98 : List ZN := [(.iload_n 3, 1, (0, 0, 0)), (.iload_n 2, 1, (0, 0, 0)), (.if_icmp .ge 30, 3, (130, 0, 0)), (.aload_n 0, 1, (0, 0, 0)), (.getfield 120, 3, (12, 54, 2)), (.bipush 33, 2, (0, 0, 0)), (.iload_n 3, 1, (0, 0, 0)), (.iadd, 1, (0, 0, 0)), (.aload_n 0, 1, (0, 0, 0)), (.getfield 152, 3, (12, 68, 2)), (.bipush 60, 2, (0, 0, 0)), (.iload_n 1, 1, (0, 0, 0)), (.imul, 1, (0, 0, 0)), (.iload_n 3, 1, (0, 0, 0)), (.iadd, 1, (0, 0, 0)), (.laload, 1, (0, 0, 0)), (.l2i, 1, (0, 0, 0)), (.iastore, 1, (0, 0, 0)), (.iinc 3 1, 3, (0, 0, 0)), (.goto (-29), 3, (98, 0, 0))]
def s_X12_load_130 : List ZN := [(.aload_n 0, 1, (0, 0, 0)), (.getfield 120, 3, (12, 54, 2)), (.bipush 32, 2, (0, 0, 0)), (.iload_n 2, 1, (0, 0, 0)), (.iastore, 1, (0, 0, 0)), (.iload_n 2, 1, (0, 0, 0)), (.ireturn, 1, (0, 0, 0))]
def p_X12_load : List (Nat × List ZN) := [(0, s_X12_load_0), (20, s_X12_load_20), (33, s_X12_load_33), (52, s_X12_load_52), (54, s_X12_load_54), (90, s_X12_load_90), (96, s_X12_load_96), (98, s_X12_load_98), (130, s_X12_load_130)]
def s_X12_image_0 : List ZN := [(.aload_n 0, 1, (0, 0, 0)), (.iconst 0, 1, (0, 0, 0)), (.putfield 1, 3, (12, 0, 0)), (.iload_n 1, 1, (0, 0, 0)), (.i2l, 1, (0, 0, 0)), (.lconst 0, 1, (0, 0, 0)), (.lconst 1, 1, (0, 0, 0)), (.invokestatic 240, 3, (j_X12_within, 3, 0)), (.ifCond .ne 5, 3, (17, 0, 0)), (.iconst 0, 1, (0, 0, 0)), (.ireturn, 1, (1, 0, 0))]
def s_X12_image_17 : List ZN := [(.iconst 0, 1, (0, 0, 0)), (.istore_n 2, 1, (0, 0, 0)), (.nop, 0, (19, 0, 0))]
def s_X12_image_19 : List ZN := [(.iload_n 2, 1, (0, 0, 0)), (.sipush 133, 3, (0, 0, 0)), (.if_icmp .ge 29, 3, (52, 0, 0)), (.aload_n 0, 1, (0, 0, 0)), (.getfield 120, 3, (12, 54, 2)), (.sipush 133, 3, (0, 0, 0)), (.iload_n 1, 1, (0, 0, 0)), (.iconst 1, 1, (0, 0, 0)), (.iadd, 1, (0, 0, 0)), (.imul, 1, (0, 0, 0)), (.iload_n 2, 1, (0, 0, 0)), (.iadd, 1, (0, 0, 0)), (.aload_n 0, 1, (0, 0, 0)), (.getfield 120, 3, (12, 54, 2)), (.iload_n 2, 1, (0, 0, 0)), (.iaload, 1, (0, 0, 0)), (.iastore, 1, (0, 0, 0)), (.iinc 2 1, 3, (0, 0, 0)), (.goto (-30), 3, (19, 0, 0))]
def s_X12_image_52 : List ZN := [(.aload_n 0, 1, (0, 0, 0)), (.getfield 123, 3, (12, 55, 2)), (.iload_n 1, 1, (0, 0, 0)), (.iconst 1, 1, (0, 0, 0)), (.bastore, 1, (0, 0, 0)), (.iconst 1, 1, (0, 0, 0)), (.ireturn, 1, (1, 0, 0))]
def p_X12_image : List (Nat × List ZN) := [(0, s_X12_image_0), (17, s_X12_image_17), (19, s_X12_image_19), (52, s_X12_image_52)]
def s_X12_restore_0 : List ZN := [(.aload_n 0, 1, (0, 0, 0)), (.iconst 0, 1, (0, 0, 0)), (.putfield 1, 3, (12, 0, 0)), (.iload_n 1, 1, (0, 0, 0)), (.i2l, 1, (0, 0, 0)), (.lconst 0, 1, (0, 0, 0)), (.lconst 1, 1, (0, 0, 0)), (.invokestatic 240, 3, (j_X12_within, 3, 0)), (.ifCond .eq 12, 3, (24, 0, 0)), (.aload_n 0, 1, (0, 0, 0)), (.getfield 123, 3, (12, 55, 2)), (.iload_n 1, 1, (0, 0, 0)), (.baload, 1, (0, 0, 0)), (.ifCond .ne 5, 3, (26, 0, 0)), (.nop, 0, (24, 0, 0))]
def s_X12_restore_24 : List ZN := [(.iconst 0, 1, (0, 0, 0)), (.ireturn, 1, (1, 0, 0))]
def s_X12_restore_26 : List ZN := [(.iconst 0, 1, (0, 0, 0)), (.istore_n 2, 1, (0, 0, 0)), (.nop, 0, (28, 0, 0))]
def s_X12_restore_28 : List ZN := [(.iload_n 2, 1, (0, 0, 0)), (.sipush 133, 3, (0, 0, 0)), (.if_icmp .ge 29, 3, (61, 0, 0)), (.aload_n 0, 1, (0, 0, 0)), (.getfield 120, 3, (12, 54, 2)), (.iload_n 2, 1, (0, 0, 0)), (.aload_n 0, 1, (0, 0, 0)), (.getfield 120, 3, (12, 54, 2)), (.sipush 133, 3, (0, 0, 0)), (.iload_n 1, 1, (0, 0, 0)), (.iconst 1, 1, (0, 0, 0)), (.iadd, 1, (0, 0, 0)), (.imul, 1, (0, 0, 0)), (.iload_n 2, 1, (0, 0, 0)), (.iadd, 1, (0, 0, 0)), (.iaload, 1, (0, 0, 0)), (.iastore, 1, (0, 0, 0)), (.iinc 2 1, 3, (0, 0, 0)), (.goto (-30), 3, (28, 0, 0))]
def s_X12_restore_61 : List ZN := [(.iconst 1, 1, (0, 0, 0)), (.ireturn, 1, (1, 0, 0))]
def p_X12_restore : List (Nat × List ZN) := [(0, s_X12_restore_0), (24, s_X12_restore_24), (26, s_X12_restore_26), (28, s_X12_restore_28), (61, s_X12_restore_61)]
def s_X12_count_0 : List ZN := [(.aload_n 0, 1, (0, 0, 0)), (.iconst 0, 1, (0, 0, 0)), (.putfield 1, 3, (12, 0, 0)), (.iload_n 1, 1, (0, 0, 0)), (.tableswitch 148 0 12 #[66, 74, 82, 89, 94, 99, 104, 109, 114, 119, 127, 135, 143], 66, (6, 0, 0))]
def s_X12_count_72 : List ZN := [(.aload_n 0, 1, (0, 0, 0)), (.getfield 17, 3, (12, 3, 2)), (.bipush 6, 2, (0, 0, 0)), (.iaload, 1, (0, 0, 0)), (.ireturn, 1, (0, 0, 0))]
def s_X12_count_80 : List ZN := [(.aload_n 0, 1, (0, 0, 0)), (.getfield 17, 3, (12, 3, 2)), (.bipush 7, 2, (0, 0, 0)), (.iaload, 1, (0, 0, 0)), (.ireturn, 1, (0, 0, 0))]
def s_X12_count_88 : List ZN := [(.aload_n 0, 1, (0, 0, 0)), (.getfield 17, 3, (12, 3, 2)), (.iconst 0, 1, (0, 0, 0)), (.iaload, 1, (0, 0, 0)), (.ireturn, 1, (0, 0, 0))]
def s_X12_count_95 : List ZN := [(.aload_n 0, 1, (0, 0, 0)), (.getfield 177, 3, (12, 28, 0)), (.ireturn, 1, (0, 0, 0))]
def s_X12_count_100 : List ZN := [(.aload_n 0, 1, (0, 0, 0)), (.getfield 174, 3, (12, 27, 0)), (.ireturn, 1, (0, 0, 0))]
def s_X12_count_105 : List ZN := [(.aload_n 0, 1, (0, 0, 0)), (.invokevirtual 298, 3, (j_X12_inPocket, 1, 0)), (.ireturn, 1, (0, 0, 0))]
def s_X12_count_110 : List ZN := [(.aload_n 0, 1, (0, 0, 0)), (.getfield 53, 3, (12, 29, 0)), (.ireturn, 1, (0, 0, 0))]
def s_X12_count_115 : List ZN := [(.aload_n 0, 1, (0, 0, 0)), (.getfield 171, 3, (12, 26, 0)), (.ireturn, 1, (0, 0, 0))]
def s_X12_count_120 : List ZN := [(.aload_n 0, 1, (0, 0, 0)), (.invokevirtual 350, 3, (j_X12_observed, 1, 0)), (.ireturn, 1, (0, 0, 0))]
def s_X12_count_125 : List ZN := [(.aload_n 0, 1, (0, 0, 0)), (.getfield 120, 3, (12, 54, 2)), (.bipush 31, 2, (0, 0, 0)), (.iaload, 1, (0, 0, 0)), (.ireturn, 1, (0, 0, 0))]
def s_X12_count_133 : List ZN := [(.aload_n 0, 1, (0, 0, 0)), (.getfield 120, 3, (12, 54, 2)), (.bipush 30, 2, (0, 0, 0)), (.iaload, 1, (0, 0, 0)), (.ireturn, 1, (0, 0, 0))]
def s_X12_count_141 : List ZN := [(.aload_n 0, 1, (0, 0, 0)), (.getfield 120, 3, (12, 54, 2)), (.bipush 32, 2, (0, 0, 0)), (.iaload, 1, (0, 0, 0)), (.ireturn, 1, (0, 0, 0))]
def s_X12_count_149 : List ZN := [(.aload_n 0, 1, (0, 0, 0)), (.getfield 180, 3, (12, 2, 0)), (.ireturn, 1, (0, 0, 0))]
def s_X12_count_154 : List ZN := [(.bipush (-2), 2, (0, 0, 0)), (.ireturn, 1, (0, 0, 0))]
def p_X12_count : List (Nat × List ZN) := [(0, s_X12_count_0), (72, s_X12_count_72), (80, s_X12_count_80), (88, s_X12_count_88), (95, s_X12_count_95), (100, s_X12_count_100), (105, s_X12_count_105), (110, s_X12_count_110), (115, s_X12_count_115), (120, s_X12_count_120), (125, s_X12_count_125), (133, s_X12_count_133), (141, s_X12_count_141), (149, s_X12_count_149), (154, s_X12_count_154)]
def s_L_law_0 : List ZN := [(.new 7, 3, (11, 13, 0)), (.dup, 1, (0, 0, 0)), (.invokespecial 9, 3, (j_X11_init, 1, 0)), (.astore_n 1, 1, (0, 0, 0)), (.new 10, 3, (12, 69, 0)), (.dup, 1, (0, 0, 0)), (.invokespecial 12, 3, (j_X12_init, 1, 0)), (.astore_n 2, 1, (0, 0, 0)), (.iconst 0, 1, (0, 0, 0)), (.istore_n 3, 1, (0, 0, 0)), (.nop, 0, (18, 0, 0))]
def s_L_law_18 : List ZN := [(.iload_n 3, 1, (0, 0, 0)), (.aload_n 0, 1, (0, 0, 0)), (.arraylength, 1, (0, 0, 0)), (.bipush 6, 2, (0, 0, 0)), (.isub, 1, (0, 0, 0)), (.if_icmp .gt 1510, 3, (1534, 0, 0)), (.aload_n 0, 1, (0, 0, 0)), (.iload_n 3, 1, (0, 0, 0)), (.iaload, 1, (0, 0, 0)), (.bipush 63, 2, (0, 0, 0)), (.iand, 1, (0, 0, 0)), (.tableswitch 1495 0 36 #[163, 226, 249, 272, 315, 364, 413, 436, 469, 508, 531, 574, 617, 630, 663, 706, 769, 818, 877, 910, 963, 986, 1009, 1032, 1045, 1068, 1091, 1114, 1157, 1210, 1253, 1296, 1370, 1393, 1426, 1449, 1472], 163, (33, 0, 0))]
def s_L_law_196 : List ZN := [(.aload_n 1, 1, (0, 0, 0)), (.aload_n 0, 1, (0, 0, 0)), (.iload_n 3, 1, (0, 0, 0)), (.iconst 1, 1, (0, 0, 0)), (.iadd, 1, (0, 0, 0)), (.iaload, 1, (0, 0, 0)), (.aload_n 0, 1, (0, 0, 0)), (.iload_n 3, 1, (0, 0, 0)), (.iconst 2, 1, (0, 0, 0)), (.iadd, 1, (0, 0, 0)), (.iaload, 1, (0, 0, 0)), (.aload_n 0, 1, (0, 0, 0)), (.iload_n 3, 1, (0, 0, 0)), (.iconst 3, 1, (0, 0, 0)), (.iadd, 1, (0, 0, 0)), (.iaload, 1, (0, 0, 0)), (.aload_n 0, 1, (0, 0, 0)), (.iload_n 3, 1, (0, 0, 0)), (.iconst 4, 1, (0, 0, 0)), (.iadd, 1, (0, 0, 0)), (.iaload, 1, (0, 0, 0)), (.aload_n 0, 1, (0, 0, 0)), (.iload_n 3, 1, (0, 0, 0)), (.iconst 5, 1, (0, 0, 0)), (.iadd, 1, (0, 0, 0)), (.iaload, 1, (0, 0, 0)), (.invokevirtual 13, 3, (j_X11_feed, 6, 0)), (.aload_n 2, 1, (0, 0, 0)), (.aload_n 0, 1, (0, 0, 0)), (.iload_n 3, 1, (0, 0, 0)), (.iconst 1, 1, (0, 0, 0)), (.iadd, 1, (0, 0, 0)), (.iaload, 1, (0, 0, 0)), (.aload_n 0, 1, (0, 0, 0)), (.iload_n 3, 1, (0, 0, 0)), (.iconst 2, 1, (0, 0, 0)), (.iadd, 1, (0, 0, 0)), (.iaload, 1, (0, 0, 0)), (.aload_n 0, 1, (0, 0, 0)), (.iload_n 3, 1, (0, 0, 0)), (.iconst 3, 1, (0, 0, 0)), (.iadd, 1, (0, 0, 0)), (.iaload, 1, (0, 0, 0)), (.aload_n 0, 1, (0, 0, 0)), (.iload_n 3, 1, (0, 0, 0)), (.iconst 4, 1, (0, 0, 0)), (.iadd, 1, (0, 0, 0)), (.iaload, 1, (0, 0, 0)), (.aload_n 0, 1, (0, 0, 0)), (.iload_n 3, 1, (0, 0, 0)), (.iconst 5, 1, (0, 0, 0)), (.iadd, 1, (0, 0, 0)), (.iaload, 1, (0, 0, 0)), (.invokevirtual 17, 3, (j_X12_feed, 6, 0)), (.if_icmp .eq 1274, 3, (1528, 0, 0)), (.iconst 0, 1, (0, 0, 0)), (.ireturn, 1, (1, 0, 0))]
def s_L_law_259 : List ZN := [(.aload_n 1, 1, (0, 0, 0)), (.aload_n 0, 1, (0, 0, 0)), (.iload_n 3, 1, (0, 0, 0)), (.iconst 1, 1, (0, 0, 0)), (.iadd, 1, (0, 0, 0)), (.iaload, 1, (0, 0, 0)), (.invokevirtual 18, 3, (j_X11_text, 2, 0)), (.aload_n 2, 1, (0, 0, 0)), (.aload_n 0, 1, (0, 0, 0)), (.iload_n 3, 1, (0, 0, 0)), (.iconst 1, 1, (0, 0, 0)), (.iadd, 1, (0, 0, 0)), (.iaload, 1, (0, 0, 0)), (.invokevirtual 22, 3, (j_X12_text, 2, 0)), (.if_icmp .eq 1251, 3, (1528, 0, 0)), (.iconst 0, 1, (0, 0, 0)), (.ireturn, 1, (1, 0, 0))]
def s_L_law_282 : List ZN := [(.aload_n 1, 1, (0, 0, 0)), (.aload_n 0, 1, (0, 0, 0)), (.iload_n 3, 1, (0, 0, 0)), (.iconst 1, 1, (0, 0, 0)), (.iadd, 1, (0, 0, 0)), (.iaload, 1, (0, 0, 0)), (.invokevirtual 23, 3, (j_X11_fault, 2, 0)), (.aload_n 2, 1, (0, 0, 0)), (.aload_n 0, 1, (0, 0, 0)), (.iload_n 3, 1, (0, 0, 0)), (.iconst 1, 1, (0, 0, 0)), (.iadd, 1, (0, 0, 0)), (.iaload, 1, (0, 0, 0)), (.invokevirtual 26, 3, (j_X12_fault, 2, 0)), (.if_icmp .eq 1228, 3, (1528, 0, 0)), (.iconst 0, 1, (0, 0, 0)), (.ireturn, 1, (1, 0, 0))]
def s_L_law_305 : List ZN := [(.aload_n 1, 1, (0, 0, 0)), (.aload_n 0, 1, (0, 0, 0)), (.iload_n 3, 1, (0, 0, 0)), (.iconst 1, 1, (0, 0, 0)), (.iadd, 1, (0, 0, 0)), (.iaload, 1, (0, 0, 0)), (.aload_n 0, 1, (0, 0, 0)), (.iload_n 3, 1, (0, 0, 0)), (.iconst 2, 1, (0, 0, 0)), (.iadd, 1, (0, 0, 0)), (.iaload, 1, (0, 0, 0)), (.aload_n 0, 1, (0, 0, 0)), (.iload_n 3, 1, (0, 0, 0)), (.iconst 3, 1, (0, 0, 0)), (.iadd, 1, (0, 0, 0)), (.iaload, 1, (0, 0, 0)), (.invokevirtual 27, 3, (j_X11_set, 4, 0)), (.aload_n 2, 1, (0, 0, 0)), (.aload_n 0, 1, (0, 0, 0)), (.iload_n 3, 1, (0, 0, 0)), (.iconst 1, 1, (0, 0, 0)), (.iadd, 1, (0, 0, 0)), (.iaload, 1, (0, 0, 0)), (.aload_n 0, 1, (0, 0, 0)), (.iload_n 3, 1, (0, 0, 0)), (.iconst 2, 1, (0, 0, 0)), (.iadd, 1, (0, 0, 0)), (.iaload, 1, (0, 0, 0)), (.aload_n 0, 1, (0, 0, 0)), (.iload_n 3, 1, (0, 0, 0)), (.iconst 3, 1, (0, 0, 0)), (.iadd, 1, (0, 0, 0)), (.iaload, 1, (0, 0, 0)), (.invokevirtual 31, 3, (j_X12_set, 4, 0)), (.if_icmp .eq 1185, 3, (1528, 0, 0)), (.iconst 0, 1, (0, 0, 0)), (.ireturn, 1, (1, 0, 0))]
def s_L_law_348 : List ZN := [(.aload_n 1, 1, (0, 0, 0)), (.aload_n 0, 1, (0, 0, 0)), (.iload_n 3, 1, (0, 0, 0)), (.iconst 1, 1, (0, 0, 0)), (.iadd, 1, (0, 0, 0)), (.iaload, 1, (0, 0, 0)), (.aload_n 0, 1, (0, 0, 0)), (.iload_n 3, 1, (0, 0, 0)), (.iconst 2, 1, (0, 0, 0)), (.iadd, 1, (0, 0, 0)), (.iaload, 1, (0, 0, 0)), (.ifCond .eq 7, 3, (366, 0, 0)), (.iconst 1, 1, (0, 0, 0)), (.goto 4, 3, (367, 0, 0))]
def s_L_law_366 : List ZN := [(.iconst 0, 1, (0, 0, 0)), (.nop, 0, (367, 0, 0))]
def s_L_law_367 : List ZN := [(.invokevirtual 32, 3, (j_X11_corner, 3, 0)), (.aload_n 2, 1, (0, 0, 0)), (.aload_n 0, 1, (0, 0, 0)), (.iload_n 3, 1, (0, 0, 0)), (.iconst 1, 1, (0, 0, 0)), (.iadd, 1, (0, 0, 0)), (.iaload, 1, (0, 0, 0)), (.aload_n 0, 1, (0, 0, 0)), (.iload_n 3, 1, (0, 0, 0)), (.iconst 2, 1, (0, 0, 0)), (.iadd, 1, (0, 0, 0)), (.iaload, 1, (0, 0, 0)), (.ifCond .eq 7, 3, (388, 0, 0)), (.iconst 1, 1, (0, 0, 0)), (.goto 4, 3, (389, 0, 0))]
def s_L_law_388 : List ZN := [(.iconst 0, 1, (0, 0, 0)), (.nop, 0, (389, 0, 0))]
def s_L_law_389 : List ZN := [(.invokevirtual 36, 3, (j_X12_corner, 3, 0)), (.if_icmp .eq 1136, 3, (1528, 0, 0)), (.iconst 0, 1, (0, 0, 0)), (.ireturn, 1, (1, 0, 0))]
def s_L_law_397 : List ZN := [(.aload_n 1, 1, (0, 0, 0)), (.aload_n 0, 1, (0, 0, 0)), (.iload_n 3, 1, (0, 0, 0)), (.iconst 1, 1, (0, 0, 0)), (.iadd, 1, (0, 0, 0)), (.iaload, 1, (0, 0, 0)), (.aload_n 0, 1, (0, 0, 0)), (.iload_n 3, 1, (0, 0, 0)), (.iconst 2, 1, (0, 0, 0)), (.iadd, 1, (0, 0, 0)), (.iaload, 1, (0, 0, 0)), (.ifCond .eq 7, 3, (415, 0, 0)), (.iconst 1, 1, (0, 0, 0)), (.goto 4, 3, (416, 0, 0))]
def s_L_law_415 : List ZN := [(.iconst 0, 1, (0, 0, 0)), (.nop, 0, (416, 0, 0))]
def s_L_law_416 : List ZN := [(.invokevirtual 37, 3, (j_X11_lay, 3, 0)), (.aload_n 2, 1, (0, 0, 0)), (.aload_n 0, 1, (0, 0, 0)), (.iload_n 3, 1, (0, 0, 0)), (.iconst 1, 1, (0, 0, 0)), (.iadd, 1, (0, 0, 0)), (.iaload, 1, (0, 0, 0)), (.aload_n 0, 1, (0, 0, 0)), (.iload_n 3, 1, (0, 0, 0)), (.iconst 2, 1, (0, 0, 0)), (.iadd, 1, (0, 0, 0)), (.iaload, 1, (0, 0, 0)), (.ifCond .eq 7, 3, (437, 0, 0)), (.iconst 1, 1, (0, 0, 0)), (.goto 4, 3, (438, 0, 0))]
def s_L_law_437 : List ZN := [(.iconst 0, 1, (0, 0, 0)), (.nop, 0, (438, 0, 0))]
def s_L_law_438 : List ZN := [(.invokevirtual 41, 3, (j_X12_lay, 3, 0)), (.if_icmp .eq 1087, 3, (1528, 0, 0)), (.iconst 0, 1, (0, 0, 0)), (.ireturn, 1, (1, 0, 0))]
def s_L_law_446 : List ZN := [(.aload_n 1, 1, (0, 0, 0)), (.aload_n 0, 1, (0, 0, 0)), (.iload_n 3, 1, (0, 0, 0)), (.iconst 1, 1, (0, 0, 0)), (.iadd, 1, (0, 0, 0)), (.iaload, 1, (0, 0, 0)), (.invokevirtual 42, 3, (j_X11_tick, 2, 0)), (.aload_n 2, 1, (0, 0, 0)), (.aload_n 0, 1, (0, 0, 0)), (.iload_n 3, 1, (0, 0, 0)), (.iconst 1, 1, (0, 0, 0)), (.iadd, 1, (0, 0, 0)), (.iaload, 1, (0, 0, 0)), (.invokevirtual 45, 3, (j_X12_tick, 2, 0)), (.if_icmp .eq 1064, 3, (1528, 0, 0)), (.iconst 0, 1, (0, 0, 0)), (.ireturn, 1, (1, 0, 0))]
def s_L_law_469 : List ZN := [(.aload_n 1, 1, (0, 0, 0)), (.aload_n 0, 1, (0, 0, 0)), (.iload_n 3, 1, (0, 0, 0)), (.iconst 1, 1, (0, 0, 0)), (.iadd, 1, (0, 0, 0)), (.iaload, 1, (0, 0, 0)), (.aload_n 0, 1, (0, 0, 0)), (.iload_n 3, 1, (0, 0, 0)), (.iconst 2, 1, (0, 0, 0)), (.iadd, 1, (0, 0, 0)), (.iaload, 1, (0, 0, 0)), (.invokevirtual 46, 3, (j_X11_sheet, 3, 0)), (.aload_n 2, 1, (0, 0, 0)), (.aload_n 0, 1, (0, 0, 0)), (.iload_n 3, 1, (0, 0, 0)), (.iconst 1, 1, (0, 0, 0)), (.iadd, 1, (0, 0, 0)), (.iaload, 1, (0, 0, 0)), (.aload_n 0, 1, (0, 0, 0)), (.iload_n 3, 1, (0, 0, 0)), (.iconst 2, 1, (0, 0, 0)), (.iadd, 1, (0, 0, 0)), (.iaload, 1, (0, 0, 0)), (.invokevirtual 50, 3, (j_X12_sheet, 3, 0)), (.if_icmp .eq 1031, 3, (1528, 0, 0)), (.iconst 0, 1, (0, 0, 0)), (.ireturn, 1, (1, 0, 0))]
def s_L_law_502 : List ZN := [(.aload_n 1, 1, (0, 0, 0)), (.aload_n 0, 1, (0, 0, 0)), (.iload_n 3, 1, (0, 0, 0)), (.iconst 1, 1, (0, 0, 0)), (.iadd, 1, (0, 0, 0)), (.iaload, 1, (0, 0, 0)), (.ifCond .eq 7, 3, (515, 0, 0)), (.iconst 1, 1, (0, 0, 0)), (.goto 4, 3, (516, 0, 0))]
def s_L_law_515 : List ZN := [(.iconst 0, 1, (0, 0, 0)), (.nop, 0, (516, 0, 0))]
def s_L_law_516 : List ZN := [(.invokevirtual 51, 3, (j_X11_clear, 2, 0)), (.aload_n 2, 1, (0, 0, 0)), (.aload_n 0, 1, (0, 0, 0)), (.iload_n 3, 1, (0, 0, 0)), (.iconst 1, 1, (0, 0, 0)), (.iadd, 1, (0, 0, 0)), (.iaload, 1, (0, 0, 0)), (.ifCond .eq 7, 3, (532, 0, 0)), (.iconst 1, 1, (0, 0, 0)), (.goto 4, 3, (533, 0, 0))]
def s_L_law_532 : List ZN := [(.iconst 0, 1, (0, 0, 0)), (.nop, 0, (533, 0, 0))]
def s_L_law_533 : List ZN := [(.invokevirtual 55, 3, (j_X12_clear, 2, 0)), (.if_icmp .eq 992, 3, (1528, 0, 0)), (.iconst 0, 1, (0, 0, 0)), (.ireturn, 1, (1, 0, 0))]
def s_L_law_541 : List ZN := [(.aload_n 1, 1, (0, 0, 0)), (.aload_n 0, 1, (0, 0, 0)), (.iload_n 3, 1, (0, 0, 0)), (.iconst 1, 1, (0, 0, 0)), (.iadd, 1, (0, 0, 0)), (.iaload, 1, (0, 0, 0)), (.invokevirtual 56, 3, (j_X11_sees, 2, 0)), (.aload_n 2, 1, (0, 0, 0)), (.aload_n 0, 1, (0, 0, 0)), (.iload_n 3, 1, (0, 0, 0)), (.iconst 1, 1, (0, 0, 0)), (.iadd, 1, (0, 0, 0)), (.iaload, 1, (0, 0, 0)), (.invokevirtual 59, 3, (j_X12_sees, 2, 0)), (.if_icmp .eq 969, 3, (1528, 0, 0)), (.iconst 0, 1, (0, 0, 0)), (.ireturn, 1, (1, 0, 0))]
def s_L_law_564 : List ZN := [(.aload_n 1, 1, (0, 0, 0)), (.aload_n 0, 1, (0, 0, 0)), (.iload_n 3, 1, (0, 0, 0)), (.iconst 1, 1, (0, 0, 0)), (.iadd, 1, (0, 0, 0)), (.iaload, 1, (0, 0, 0)), (.aload_n 0, 1, (0, 0, 0)), (.iload_n 3, 1, (0, 0, 0)), (.iconst 2, 1, (0, 0, 0)), (.iadd, 1, (0, 0, 0)), (.iaload, 1, (0, 0, 0)), (.aload_n 0, 1, (0, 0, 0)), (.iload_n 3, 1, (0, 0, 0)), (.iconst 3, 1, (0, 0, 0)), (.iadd, 1, (0, 0, 0)), (.iaload, 1, (0, 0, 0)), (.invokevirtual 60, 3, (j_X11_passing, 4, 0)), (.aload_n 2, 1, (0, 0, 0)), (.aload_n 0, 1, (0, 0, 0)), (.iload_n 3, 1, (0, 0, 0)), (.iconst 1, 1, (0, 0, 0)), (.iadd, 1, (0, 0, 0)), (.iaload, 1, (0, 0, 0)), (.aload_n 0, 1, (0, 0, 0)), (.iload_n 3, 1, (0, 0, 0)), (.iconst 2, 1, (0, 0, 0)), (.iadd, 1, (0, 0, 0)), (.iaload, 1, (0, 0, 0)), (.aload_n 0, 1, (0, 0, 0)), (.iload_n 3, 1, (0, 0, 0)), (.iconst 3, 1, (0, 0, 0)), (.iadd, 1, (0, 0, 0)), (.iaload, 1, (0, 0, 0)), (.invokevirtual 63, 3, (j_X12_passing, 4, 0)), (.if_icmp .eq 926, 3, (1528, 0, 0)), (.iconst 0, 1, (0, 0, 0)), (.ireturn, 1, (1, 0, 0))]
def s_L_law_607 : List ZN := [(.aload_n 1, 1, (0, 0, 0)), (.aload_n 0, 1, (0, 0, 0)), (.iload_n 3, 1, (0, 0, 0)), (.iconst 1, 1, (0, 0, 0)), (.iadd, 1, (0, 0, 0)), (.iaload, 1, (0, 0, 0)), (.aload_n 0, 1, (0, 0, 0)), (.iload_n 3, 1, (0, 0, 0)), (.iconst 2, 1, (0, 0, 0)), (.iadd, 1, (0, 0, 0)), (.iaload, 1, (0, 0, 0)), (.aload_n 0, 1, (0, 0, 0)), (.iload_n 3, 1, (0, 0, 0)), (.iconst 3, 1, (0, 0, 0)), (.iadd, 1, (0, 0, 0)), (.iaload, 1, (0, 0, 0)), (.invokevirtual 64, 3, (j_X11_saw, 4, 0)), (.aload_n 2, 1, (0, 0, 0)), (.aload_n 0, 1, (0, 0, 0)), (.iload_n 3, 1, (0, 0, 0)), (.iconst 1, 1, (0, 0, 0)), (.iadd, 1, (0, 0, 0)), (.iaload, 1, (0, 0, 0)), (.aload_n 0, 1, (0, 0, 0)), (.iload_n 3, 1, (0, 0, 0)), (.iconst 2, 1, (0, 0, 0)), (.iadd, 1, (0, 0, 0)), (.iaload, 1, (0, 0, 0)), (.aload_n 0, 1, (0, 0, 0)), (.iload_n 3, 1, (0, 0, 0)), (.iconst 3, 1, (0, 0, 0)), (.iadd, 1, (0, 0, 0)), (.iaload, 1, (0, 0, 0)), (.invokevirtual 68, 3, (j_X12_saw, 4, 0)), (.if_icmp .eq 883, 3, (1528, 0, 0)), (.iconst 0, 1, (0, 0, 0)), (.ireturn, 1, (1, 0, 0))]
def s_L_law_650 : List ZN := [(.aload_n 1, 1, (0, 0, 0)), (.invokevirtual 69, 3, (j_X11_forget, 1, 0)), (.aload_n 2, 1, (0, 0, 0)), (.invokevirtual 73, 3, (j_X12_forget, 1, 0)), (.if_icmp .eq 870, 3, (1528, 0, 0)), (.iconst 0, 1, (0, 0, 0)), (.ireturn, 1, (1, 0, 0))]
def s_L_law_663 : List ZN := [(.aload_n 1, 1, (0, 0, 0)), (.aload_n 0, 1, (0, 0, 0)), (.iload_n 3, 1, (0, 0, 0)), (.iconst 1, 1, (0, 0, 0)), (.iadd, 1, (0, 0, 0)), (.iaload, 1, (0, 0, 0)), (.aload_n 0, 1, (0, 0, 0)), (.iload_n 3, 1, (0, 0, 0)), (.iconst 2, 1, (0, 0, 0)), (.iadd, 1, (0, 0, 0)), (.iaload, 1, (0, 0, 0)), (.invokevirtual 74, 3, (j_X11_explain, 3, 0)), (.aload_n 2, 1, (0, 0, 0)), (.aload_n 0, 1, (0, 0, 0)), (.iload_n 3, 1, (0, 0, 0)), (.iconst 1, 1, (0, 0, 0)), (.iadd, 1, (0, 0, 0)), (.iaload, 1, (0, 0, 0)), (.aload_n 0, 1, (0, 0, 0)), (.iload_n 3, 1, (0, 0, 0)), (.iconst 2, 1, (0, 0, 0)), (.iadd, 1, (0, 0, 0)), (.iaload, 1, (0, 0, 0)), (.invokevirtual 77, 3, (j_X12_explain, 3, 0)), (.if_icmp .eq 837, 3, (1528, 0, 0)), (.iconst 0, 1, (0, 0, 0)), (.ireturn, 1, (1, 0, 0))]
def s_L_law_696 : List ZN := [(.aload_n 1, 1, (0, 0, 0)), (.aload_n 0, 1, (0, 0, 0)), (.iload_n 3, 1, (0, 0, 0)), (.iconst 1, 1, (0, 0, 0)), (.iadd, 1, (0, 0, 0)), (.iaload, 1, (0, 0, 0)), (.aload_n 0, 1, (0, 0, 0)), (.iload_n 3, 1, (0, 0, 0)), (.iconst 2, 1, (0, 0, 0)), (.iadd, 1, (0, 0, 0)), (.iaload, 1, (0, 0, 0)), (.aload_n 0, 1, (0, 0, 0)), (.iload_n 3, 1, (0, 0, 0)), (.iconst 3, 1, (0, 0, 0)), (.iadd, 1, (0, 0, 0)), (.iaload, 1, (0, 0, 0)), (.invokevirtual 78, 3, (j_X11_foretold, 4, 0)), (.aload_n 2, 1, (0, 0, 0)), (.aload_n 0, 1, (0, 0, 0)), (.iload_n 3, 1, (0, 0, 0)), (.iconst 1, 1, (0, 0, 0)), (.iadd, 1, (0, 0, 0)), (.iaload, 1, (0, 0, 0)), (.aload_n 0, 1, (0, 0, 0)), (.iload_n 3, 1, (0, 0, 0)), (.iconst 2, 1, (0, 0, 0)), (.iadd, 1, (0, 0, 0)), (.iaload, 1, (0, 0, 0)), (.aload_n 0, 1, (0, 0, 0)), (.iload_n 3, 1, (0, 0, 0)), (.iconst 3, 1, (0, 0, 0)), (.iadd, 1, (0, 0, 0)), (.iaload, 1, (0, 0, 0)), (.invokevirtual 81, 3, (j_X12_foretold, 4, 0)), (.if_icmp .eq 794, 3, (1528, 0, 0)), (.iconst 0, 1, (0, 0, 0)), (.ireturn, 1, (1, 0, 0))]
def s_L_law_739 : List ZN := [(.aload_n 1, 1, (0, 0, 0)), (.aload_n 0, 1, (0, 0, 0)), (.iload_n 3, 1, (0, 0, 0)), (.iconst 1, 1, (0, 0, 0)), (.iadd, 1, (0, 0, 0)), (.iaload, 1, (0, 0, 0)), (.aload_n 0, 1, (0, 0, 0)), (.iload_n 3, 1, (0, 0, 0)), (.iconst 2, 1, (0, 0, 0)), (.iadd, 1, (0, 0, 0)), (.iaload, 1, (0, 0, 0)), (.aload_n 0, 1, (0, 0, 0)), (.iload_n 3, 1, (0, 0, 0)), (.iconst 3, 1, (0, 0, 0)), (.iadd, 1, (0, 0, 0)), (.iaload, 1, (0, 0, 0)), (.aload_n 0, 1, (0, 0, 0)), (.iload_n 3, 1, (0, 0, 0)), (.iconst 4, 1, (0, 0, 0)), (.iadd, 1, (0, 0, 0)), (.iaload, 1, (0, 0, 0)), (.aload_n 0, 1, (0, 0, 0)), (.iload_n 3, 1, (0, 0, 0)), (.iconst 5, 1, (0, 0, 0)), (.iadd, 1, (0, 0, 0)), (.iaload, 1, (0, 0, 0)), (.invokevirtual 82, 3, (j_X11_crease, 6, 0)), (.aload_n 2, 1, (0, 0, 0)), (.aload_n 0, 1, (0, 0, 0)), (.iload_n 3, 1, (0, 0, 0)), (.iconst 1, 1, (0, 0, 0)), (.iadd, 1, (0, 0, 0)), (.iaload, 1, (0, 0, 0)), (.aload_n 0, 1, (0, 0, 0)), (.iload_n 3, 1, (0, 0, 0)), (.iconst 2, 1, (0, 0, 0)), (.iadd, 1, (0, 0, 0)), (.iaload, 1, (0, 0, 0)), (.aload_n 0, 1, (0, 0, 0)), (.iload_n 3, 1, (0, 0, 0)), (.iconst 3, 1, (0, 0, 0)), (.iadd, 1, (0, 0, 0)), (.iaload, 1, (0, 0, 0)), (.aload_n 0, 1, (0, 0, 0)), (.iload_n 3, 1, (0, 0, 0)), (.iconst 4, 1, (0, 0, 0)), (.iadd, 1, (0, 0, 0)), (.iaload, 1, (0, 0, 0)), (.aload_n 0, 1, (0, 0, 0)), (.iload_n 3, 1, (0, 0, 0)), (.iconst 5, 1, (0, 0, 0)), (.iadd, 1, (0, 0, 0)), (.iaload, 1, (0, 0, 0)), (.invokevirtual 85, 3, (j_X12_crease, 6, 0)), (.if_icmp .eq 731, 3, (1528, 0, 0)), (.iconst 0, 1, (0, 0, 0)), (.ireturn, 1, (1, 0, 0))]
def s_L_law_802 : List ZN := [(.aload_n 1, 1, (0, 0, 0)), (.aload_n 0, 1, (0, 0, 0)), (.iload_n 3, 1, (0, 0, 0)), (.iconst 1, 1, (0, 0, 0)), (.iadd, 1, (0, 0, 0)), (.iaload, 1, (0, 0, 0)), (.aload_n 0, 1, (0, 0, 0)), (.iload_n 3, 1, (0, 0, 0)), (.iconst 2, 1, (0, 0, 0)), (.iadd, 1, (0, 0, 0)), (.iaload, 1, (0, 0, 0)), (.ifCond .eq 7, 3, (820, 0, 0)), (.iconst 1, 1, (0, 0, 0)), (.goto 4, 3, (821, 0, 0))]
def s_L_law_820 : List ZN := [(.iconst 0, 1, (0, 0, 0)), (.nop, 0, (821, 0, 0))]
def s_L_law_821 : List ZN := [(.invokevirtual 86, 3, (j_X11_page, 3, 0)), (.aload_n 2, 1, (0, 0, 0)), (.aload_n 0, 1, (0, 0, 0)), (.iload_n 3, 1, (0, 0, 0)), (.iconst 1, 1, (0, 0, 0)), (.iadd, 1, (0, 0, 0)), (.iaload, 1, (0, 0, 0)), (.aload_n 0, 1, (0, 0, 0)), (.iload_n 3, 1, (0, 0, 0)), (.iconst 2, 1, (0, 0, 0)), (.iadd, 1, (0, 0, 0)), (.iaload, 1, (0, 0, 0)), (.ifCond .eq 7, 3, (842, 0, 0)), (.iconst 1, 1, (0, 0, 0)), (.goto 4, 3, (843, 0, 0))]
def s_L_law_842 : List ZN := [(.iconst 0, 1, (0, 0, 0)), (.nop, 0, (843, 0, 0))]
def s_L_law_843 : List ZN := [(.invokevirtual 89, 3, (j_X12_page, 3, 0)), (.if_icmp .eq 682, 3, (1528, 0, 0)), (.iconst 0, 1, (0, 0, 0)), (.ireturn, 1, (1, 0, 0))]
def s_L_law_851 : List ZN := [(.aload_n 1, 1, (0, 0, 0)), (.aload_n 0, 1, (0, 0, 0)), (.iload_n 3, 1, (0, 0, 0)), (.iconst 1, 1, (0, 0, 0)), (.iadd, 1, (0, 0, 0)), (.iaload, 1, (0, 0, 0)), (.aload_n 0, 1, (0, 0, 0)), (.iload_n 3, 1, (0, 0, 0)), (.iconst 2, 1, (0, 0, 0)), (.iadd, 1, (0, 0, 0)), (.iaload, 1, (0, 0, 0)), (.aload_n 0, 1, (0, 0, 0)), (.iload_n 3, 1, (0, 0, 0)), (.iconst 3, 1, (0, 0, 0)), (.iadd, 1, (0, 0, 0)), (.iaload, 1, (0, 0, 0)), (.ifCond .eq 7, 3, (874, 0, 0)), (.iconst 1, 1, (0, 0, 0)), (.goto 4, 3, (875, 0, 0))]
def s_L_law_874 : List ZN := [(.iconst 0, 1, (0, 0, 0)), (.nop, 0, (875, 0, 0))]
def s_L_law_875 : List ZN := [(.invokevirtual 90, 3, (j_X11_tray, 4, 0)), (.aload_n 2, 1, (0, 0, 0)), (.aload_n 0, 1, (0, 0, 0)), (.iload_n 3, 1, (0, 0, 0)), (.iconst 1, 1, (0, 0, 0)), (.iadd, 1, (0, 0, 0)), (.iaload, 1, (0, 0, 0)), (.aload_n 0, 1, (0, 0, 0)), (.iload_n 3, 1, (0, 0, 0)), (.iconst 2, 1, (0, 0, 0)), (.iadd, 1, (0, 0, 0)), (.iaload, 1, (0, 0, 0)), (.aload_n 0, 1, (0, 0, 0)), (.iload_n 3, 1, (0, 0, 0)), (.iconst 3, 1, (0, 0, 0)), (.iadd, 1, (0, 0, 0)), (.iaload, 1, (0, 0, 0)), (.ifCond .eq 7, 3, (901, 0, 0)), (.iconst 1, 1, (0, 0, 0)), (.goto 4, 3, (902, 0, 0))]
def s_L_law_901 : List ZN := [(.iconst 0, 1, (0, 0, 0)), (.nop, 0, (902, 0, 0))]
def s_L_law_902 : List ZN := [(.invokevirtual 94, 3, (j_X12_tray, 4, 0)), (.if_icmp .eq 623, 3, (1528, 0, 0)), (.iconst 0, 1, (0, 0, 0)), (.ireturn, 1, (1, 0, 0))]
def s_L_law_910 : List ZN := [(.aload_n 1, 1, (0, 0, 0)), (.aload_n 0, 1, (0, 0, 0)), (.iload_n 3, 1, (0, 0, 0)), (.iconst 1, 1, (0, 0, 0)), (.iadd, 1, (0, 0, 0)), (.iaload, 1, (0, 0, 0)), (.aload_n 0, 1, (0, 0, 0)), (.iload_n 3, 1, (0, 0, 0)), (.iconst 2, 1, (0, 0, 0)), (.iadd, 1, (0, 0, 0)), (.iaload, 1, (0, 0, 0)), (.invokevirtual 95, 3, (j_X11_pocket, 3, 0)), (.aload_n 2, 1, (0, 0, 0)), (.aload_n 0, 1, (0, 0, 0)), (.iload_n 3, 1, (0, 0, 0)), (.iconst 1, 1, (0, 0, 0)), (.iadd, 1, (0, 0, 0)), (.iaload, 1, (0, 0, 0)), (.aload_n 0, 1, (0, 0, 0)), (.iload_n 3, 1, (0, 0, 0)), (.iconst 2, 1, (0, 0, 0)), (.iadd, 1, (0, 0, 0)), (.iaload, 1, (0, 0, 0)), (.invokevirtual 99, 3, (j_X12_pocket, 3, 0)), (.if_icmp .eq 590, 3, (1528, 0, 0)), (.iconst 0, 1, (0, 0, 0)), (.ireturn, 1, (1, 0, 0))]
def s_L_law_943 : List ZN := [(.aload_n 1, 1, (0, 0, 0)), (.aload_n 0, 1, (0, 0, 0)), (.iload_n 3, 1, (0, 0, 0)), (.iconst 1, 1, (0, 0, 0)), (.iadd, 1, (0, 0, 0)), (.iaload, 1, (0, 0, 0)), (.aload_n 0, 1, (0, 0, 0)), (.iload_n 3, 1, (0, 0, 0)), (.iconst 2, 1, (0, 0, 0)), (.iadd, 1, (0, 0, 0)), (.iaload, 1, (0, 0, 0)), (.aload_n 0, 1, (0, 0, 0)), (.iload_n 3, 1, (0, 0, 0)), (.iconst 3, 1, (0, 0, 0)), (.iadd, 1, (0, 0, 0)), (.iaload, 1, (0, 0, 0)), (.aload_n 0, 1, (0, 0, 0)), (.iload_n 3, 1, (0, 0, 0)), (.iconst 4, 1, (0, 0, 0)), (.iadd, 1, (0, 0, 0)), (.iaload, 1, (0, 0, 0)), (.invokevirtual 100, 3, (j_X11_heat, 5, 0)), (.aload_n 2, 1, (0, 0, 0)), (.aload_n 0, 1, (0, 0, 0)), (.iload_n 3, 1, (0, 0, 0)), (.iconst 1, 1, (0, 0, 0)), (.iadd, 1, (0, 0, 0)), (.iaload, 1, (0, 0, 0)), (.aload_n 0, 1, (0, 0, 0)), (.iload_n 3, 1, (0, 0, 0)), (.iconst 2, 1, (0, 0, 0)), (.iadd, 1, (0, 0, 0)), (.iaload, 1, (0, 0, 0)), (.aload_n 0, 1, (0, 0, 0)), (.iload_n 3, 1, (0, 0, 0)), (.iconst 3, 1, (0, 0, 0)), (.iadd, 1, (0, 0, 0)), (.iaload, 1, (0, 0, 0)), (.aload_n 0, 1, (0, 0, 0)), (.iload_n 3, 1, (0, 0, 0)), (.iconst 4, 1, (0, 0, 0)), (.iadd, 1, (0, 0, 0)), (.iaload, 1, (0, 0, 0)), (.invokevirtual 104, 3, (j_X12_heat, 5, 0)), (.if_icmp .eq 537, 3, (1528, 0, 0)), (.iconst 0, 1, (0, 0, 0)), (.ireturn, 1, (1, 0, 0))]
def s_L_law_996 : List ZN := [(.aload_n 1, 1, (0, 0, 0)), (.aload_n 0, 1, (0, 0, 0)), (.iload_n 3, 1, (0, 0, 0)), (.iconst 1, 1, (0, 0, 0)), (.iadd, 1, (0, 0, 0)), (.iaload, 1, (0, 0, 0)), (.invokevirtual 105, 3, (j_X11_plan, 2, 0)), (.aload_n 2, 1, (0, 0, 0)), (.aload_n 0, 1, (0, 0, 0)), (.iload_n 3, 1, (0, 0, 0)), (.iconst 1, 1, (0, 0, 0)), (.iadd, 1, (0, 0, 0)), (.iaload, 1, (0, 0, 0)), (.invokevirtual 108, 3, (j_X12_plan, 2, 0)), (.if_icmp .eq 514, 3, (1528, 0, 0)), (.iconst 0, 1, (0, 0, 0)), (.ireturn, 1, (1, 0, 0))]
def s_L_law_1019 : List ZN := [(.aload_n 1, 1, (0, 0, 0)), (.aload_n 0, 1, (0, 0, 0)), (.iload_n 3, 1, (0, 0, 0)), (.iconst 1, 1, (0, 0, 0)), (.iadd, 1, (0, 0, 0)), (.iaload, 1, (0, 0, 0)), (.invokevirtual 109, 3, (j_X11_copies, 2, 0)), (.aload_n 2, 1, (0, 0, 0)), (.aload_n 0, 1, (0, 0, 0)), (.iload_n 3, 1, (0, 0, 0)), (.iconst 1, 1, (0, 0, 0)), (.iadd, 1, (0, 0, 0)), (.iaload, 1, (0, 0, 0)), (.invokevirtual 112, 3, (j_X12_copies, 2, 0)), (.if_icmp .eq 491, 3, (1528, 0, 0)), (.iconst 0, 1, (0, 0, 0)), (.ireturn, 1, (1, 0, 0))]
def s_L_law_1042 : List ZN := [(.aload_n 1, 1, (0, 0, 0)), (.aload_n 0, 1, (0, 0, 0)), (.iload_n 3, 1, (0, 0, 0)), (.iconst 1, 1, (0, 0, 0)), (.iadd, 1, (0, 0, 0)), (.iaload, 1, (0, 0, 0)), (.invokevirtual 113, 3, (j_X11_out, 2, 0)), (.aload_n 2, 1, (0, 0, 0)), (.aload_n 0, 1, (0, 0, 0)), (.iload_n 3, 1, (0, 0, 0)), (.iconst 1, 1, (0, 0, 0)), (.iadd, 1, (0, 0, 0)), (.iaload, 1, (0, 0, 0)), (.invokevirtual 116, 3, (j_X12_out, 2, 0)), (.if_icmp .eq 468, 3, (1528, 0, 0)), (.iconst 0, 1, (0, 0, 0)), (.ireturn, 1, (1, 0, 0))]
def s_L_law_1065 : List ZN := [(.aload_n 1, 1, (0, 0, 0)), (.invokevirtual 117, 3, (j_X11_empty, 1, 0)), (.aload_n 2, 1, (0, 0, 0)), (.invokevirtual 120, 3, (j_X12_empty, 1, 0)), (.if_icmp .eq 455, 3, (1528, 0, 0)), (.iconst 0, 1, (0, 0, 0)), (.ireturn, 1, (1, 0, 0))]
def s_L_law_1078 : List ZN := [(.aload_n 1, 1, (0, 0, 0)), (.aload_n 0, 1, (0, 0, 0)), (.iload_n 3, 1, (0, 0, 0)), (.iconst 1, 1, (0, 0, 0)), (.iadd, 1, (0, 0, 0)), (.iaload, 1, (0, 0, 0)), (.invokevirtual 121, 3, (j_X11_again, 2, 0)), (.aload_n 2, 1, (0, 0, 0)), (.aload_n 0, 1, (0, 0, 0)), (.iload_n 3, 1, (0, 0, 0)), (.iconst 1, 1, (0, 0, 0)), (.iadd, 1, (0, 0, 0)), (.iaload, 1, (0, 0, 0)), (.invokevirtual 124, 3, (j_X12_again, 2, 0)), (.if_icmp .eq 432, 3, (1528, 0, 0)), (.iconst 0, 1, (0, 0, 0)), (.ireturn, 1, (1, 0, 0))]
def s_L_law_1101 : List ZN := [(.aload_n 1, 1, (0, 0, 0)), (.aload_n 0, 1, (0, 0, 0)), (.iload_n 3, 1, (0, 0, 0)), (.iconst 1, 1, (0, 0, 0)), (.iadd, 1, (0, 0, 0)), (.iaload, 1, (0, 0, 0)), (.invokevirtual 125, 3, (j_X11_lack, 2, 0)), (.aload_n 2, 1, (0, 0, 0)), (.aload_n 0, 1, (0, 0, 0)), (.iload_n 3, 1, (0, 0, 0)), (.iconst 1, 1, (0, 0, 0)), (.iadd, 1, (0, 0, 0)), (.iaload, 1, (0, 0, 0)), (.invokevirtual 128, 3, (j_X12_lack, 2, 0)), (.if_icmp .eq 409, 3, (1528, 0, 0)), (.iconst 0, 1, (0, 0, 0)), (.ireturn, 1, (1, 0, 0))]
def s_L_law_1124 : List ZN := [(.aload_n 1, 1, (0, 0, 0)), (.aload_n 0, 1, (0, 0, 0)), (.iload_n 3, 1, (0, 0, 0)), (.iconst 1, 1, (0, 0, 0)), (.iadd, 1, (0, 0, 0)), (.iaload, 1, (0, 0, 0)), (.invokevirtual 129, 3, (j_X11_kept, 2, 0)), (.aload_n 2, 1, (0, 0, 0)), (.aload_n 0, 1, (0, 0, 0)), (.iload_n 3, 1, (0, 0, 0)), (.iconst 1, 1, (0, 0, 0)), (.iadd, 1, (0, 0, 0)), (.iaload, 1, (0, 0, 0)), (.invokevirtual 132, 3, (j_X12_kept, 2, 0)), (.if_icmp .eq 386, 3, (1528, 0, 0)), (.iconst 0, 1, (0, 0, 0)), (.ireturn, 1, (1, 0, 0))]
def s_L_law_1147 : List ZN := [(.aload_n 1, 1, (0, 0, 0)), (.aload_n 0, 1, (0, 0, 0)), (.iload_n 3, 1, (0, 0, 0)), (.iconst 1, 1, (0, 0, 0)), (.iadd, 1, (0, 0, 0)), (.iaload, 1, (0, 0, 0)), (.aload_n 0, 1, (0, 0, 0)), (.iload_n 3, 1, (0, 0, 0)), (.iconst 2, 1, (0, 0, 0)), (.iadd, 1, (0, 0, 0)), (.iaload, 1, (0, 0, 0)), (.aload_n 0, 1, (0, 0, 0)), (.iload_n 3, 1, (0, 0, 0)), (.iconst 3, 1, (0, 0, 0)), (.iadd, 1, (0, 0, 0)), (.iaload, 1, (0, 0, 0)), (.invokevirtual 133, 3, (j_X11_pay, 4, 0)), (.aload_n 2, 1, (0, 0, 0)), (.aload_n 0, 1, (0, 0, 0)), (.iload_n 3, 1, (0, 0, 0)), (.iconst 1, 1, (0, 0, 0)), (.iadd, 1, (0, 0, 0)), (.iaload, 1, (0, 0, 0)), (.aload_n 0, 1, (0, 0, 0)), (.iload_n 3, 1, (0, 0, 0)), (.iconst 2, 1, (0, 0, 0)), (.iadd, 1, (0, 0, 0)), (.iaload, 1, (0, 0, 0)), (.aload_n 0, 1, (0, 0, 0)), (.iload_n 3, 1, (0, 0, 0)), (.iconst 3, 1, (0, 0, 0)), (.iadd, 1, (0, 0, 0)), (.iaload, 1, (0, 0, 0)), (.invokevirtual 136, 3, (j_X12_pay, 4, 0)), (.if_icmp .eq 343, 3, (1528, 0, 0)), (.iconst 0, 1, (0, 0, 0)), (.ireturn, 1, (1, 0, 0))]
def s_L_law_1190 : List ZN := [(.aload_n 1, 1, (0, 0, 0)), (.aload_n 0, 1, (0, 0, 0)), (.iload_n 3, 1, (0, 0, 0)), (.iconst 1, 1, (0, 0, 0)), (.iadd, 1, (0, 0, 0)), (.iaload, 1, (0, 0, 0)), (.aload_n 0, 1, (0, 0, 0)), (.iload_n 3, 1, (0, 0, 0)), (.iconst 2, 1, (0, 0, 0)), (.iadd, 1, (0, 0, 0)), (.iaload, 1, (0, 0, 0)), (.aload_n 0, 1, (0, 0, 0)), (.iload_n 3, 1, (0, 0, 0)), (.iconst 3, 1, (0, 0, 0)), (.iadd, 1, (0, 0, 0)), (.iaload, 1, (0, 0, 0)), (.aload_n 0, 1, (0, 0, 0)), (.iload_n 3, 1, (0, 0, 0)), (.iconst 4, 1, (0, 0, 0)), (.iadd, 1, (0, 0, 0)), (.iaload, 1, (0, 0, 0)), (.invokevirtual 137, 3, (j_X11_part, 5, 0)), (.aload_n 2, 1, (0, 0, 0)), (.aload_n 0, 1, (0, 0, 0)), (.iload_n 3, 1, (0, 0, 0)), (.iconst 1, 1, (0, 0, 0)), (.iadd, 1, (0, 0, 0)), (.iaload, 1, (0, 0, 0)), (.aload_n 0, 1, (0, 0, 0)), (.iload_n 3, 1, (0, 0, 0)), (.iconst 2, 1, (0, 0, 0)), (.iadd, 1, (0, 0, 0)), (.iaload, 1, (0, 0, 0)), (.aload_n 0, 1, (0, 0, 0)), (.iload_n 3, 1, (0, 0, 0)), (.iconst 3, 1, (0, 0, 0)), (.iadd, 1, (0, 0, 0)), (.iaload, 1, (0, 0, 0)), (.aload_n 0, 1, (0, 0, 0)), (.iload_n 3, 1, (0, 0, 0)), (.iconst 4, 1, (0, 0, 0)), (.iadd, 1, (0, 0, 0)), (.iaload, 1, (0, 0, 0)), (.invokevirtual 140, 3, (j_X12_part, 5, 0)), (.if_icmp .eq 290, 3, (1528, 0, 0)), (.iconst 0, 1, (0, 0, 0)), (.ireturn, 1, (1, 0, 0))]
def s_L_law_1243 : List ZN := [(.aload_n 1, 1, (0, 0, 0)), (.aload_n 0, 1, (0, 0, 0)), (.iload_n 3, 1, (0, 0, 0)), (.iconst 1, 1, (0, 0, 0)), (.iadd, 1, (0, 0, 0)), (.iaload, 1, (0, 0, 0)), (.aload_n 0, 1, (0, 0, 0)), (.iload_n 3, 1, (0, 0, 0)), (.iconst 2, 1, (0, 0, 0)), (.iadd, 1, (0, 0, 0)), (.iaload, 1, (0, 0, 0)), (.aload_n 0, 1, (0, 0, 0)), (.iload_n 3, 1, (0, 0, 0)), (.iconst 3, 1, (0, 0, 0)), (.iadd, 1, (0, 0, 0)), (.iaload, 1, (0, 0, 0)), (.invokevirtual 141, 3, (j_X11_service, 4, 0)), (.aload_n 2, 1, (0, 0, 0)), (.aload_n 0, 1, (0, 0, 0)), (.iload_n 3, 1, (0, 0, 0)), (.iconst 1, 1, (0, 0, 0)), (.iadd, 1, (0, 0, 0)), (.iaload, 1, (0, 0, 0)), (.aload_n 0, 1, (0, 0, 0)), (.iload_n 3, 1, (0, 0, 0)), (.iconst 2, 1, (0, 0, 0)), (.iadd, 1, (0, 0, 0)), (.iaload, 1, (0, 0, 0)), (.aload_n 0, 1, (0, 0, 0)), (.iload_n 3, 1, (0, 0, 0)), (.iconst 3, 1, (0, 0, 0)), (.iadd, 1, (0, 0, 0)), (.iaload, 1, (0, 0, 0)), (.invokevirtual 144, 3, (j_X12_service, 4, 0)), (.if_icmp .eq 247, 3, (1528, 0, 0)), (.iconst 0, 1, (0, 0, 0)), (.ireturn, 1, (1, 0, 0))]
def s_L_law_1286 : List ZN := [(.aload_n 1, 1, (0, 0, 0)), (.aload_n 0, 1, (0, 0, 0)), (.iload_n 3, 1, (0, 0, 0)), (.iconst 1, 1, (0, 0, 0)), (.iadd, 1, (0, 0, 0)), (.iaload, 1, (0, 0, 0)), (.aload_n 0, 1, (0, 0, 0)), (.iload_n 3, 1, (0, 0, 0)), (.iconst 2, 1, (0, 0, 0)), (.iadd, 1, (0, 0, 0)), (.iaload, 1, (0, 0, 0)), (.aload_n 0, 1, (0, 0, 0)), (.iload_n 3, 1, (0, 0, 0)), (.iconst 3, 1, (0, 0, 0)), (.iadd, 1, (0, 0, 0)), (.iaload, 1, (0, 0, 0)), (.invokevirtual 145, 3, (j_X11_row, 4, 0)), (.aload_n 2, 1, (0, 0, 0)), (.aload_n 0, 1, (0, 0, 0)), (.iload_n 3, 1, (0, 0, 0)), (.iconst 1, 1, (0, 0, 0)), (.iadd, 1, (0, 0, 0)), (.iaload, 1, (0, 0, 0)), (.aload_n 0, 1, (0, 0, 0)), (.iload_n 3, 1, (0, 0, 0)), (.iconst 2, 1, (0, 0, 0)), (.iadd, 1, (0, 0, 0)), (.iaload, 1, (0, 0, 0)), (.aload_n 0, 1, (0, 0, 0)), (.iload_n 3, 1, (0, 0, 0)), (.iconst 3, 1, (0, 0, 0)), (.iadd, 1, (0, 0, 0)), (.iaload, 1, (0, 0, 0)), (.invokevirtual 148, 3, (j_X12_row, 4, 0)), (.if_icmp .eq 204, 3, (1528, 0, 0)), (.iconst 0, 1, (0, 0, 0)), (.ireturn, 1, (1, 0, 0))]
def s_L_law_1329 : List ZN := [(.aload_n 1, 1, (0, 0, 0)), (.aload_n 0, 1, (0, 0, 0)), (.iload_n 3, 1, (0, 0, 0)), (.iconst 1, 1, (0, 0, 0)), (.iadd, 1, (0, 0, 0)), (.iaload, 1, (0, 0, 0)), (.aload_n 0, 1, (0, 0, 0)), (.iload_n 3, 1, (0, 0, 0)), (.iconst 2, 1, (0, 0, 0)), (.iadd, 1, (0, 0, 0)), (.iaload, 1, (0, 0, 0)), (.aload_n 0, 1, (0, 0, 0)), (.iload_n 3, 1, (0, 0, 0)), (.iconst 3, 1, (0, 0, 0)), (.iadd, 1, (0, 0, 0)), (.iaload, 1, (0, 0, 0)), (.i2l, 1, (0, 0, 0)), (.bipush 32, 2, (0, 0, 0)), (.lshl, 1, (0, 0, 0)), (.aload_n 0, 1, (0, 0, 0)), (.iload_n 3, 1, (0, 0, 0)), (.iconst 4, 1, (0, 0, 0)), (.iadd, 1, (0, 0, 0)), (.iaload, 1, (0, 0, 0)), (.i2l, 1, (0, 0, 0)), (.ldc2_w 149, 3, (0, 0, 4294967295)), (.land, 1, (0, 0, 0)), (.lor, 1, (0, 0, 0)), (.invokevirtual 151, 3, (j_X11_write, 4, 0)), (.aload_n 2, 1, (0, 0, 0)), (.aload_n 0, 1, (0, 0, 0)), (.iload_n 3, 1, (0, 0, 0)), (.iconst 1, 1, (0, 0, 0)), (.iadd, 1, (0, 0, 0)), (.iaload, 1, (0, 0, 0)), (.aload_n 0, 1, (0, 0, 0)), (.iload_n 3, 1, (0, 0, 0)), (.iconst 2, 1, (0, 0, 0)), (.iadd, 1, (0, 0, 0)), (.iaload, 1, (0, 0, 0)), (.aload_n 0, 1, (0, 0, 0)), (.iload_n 3, 1, (0, 0, 0)), (.iconst 3, 1, (0, 0, 0)), (.iadd, 1, (0, 0, 0)), (.iaload, 1, (0, 0, 0)), (.i2l, 1, (0, 0, 0)), (.bipush 32, 2, (0, 0, 0)), (.lshl, 1, (0, 0, 0)), (.aload_n 0, 1, (0, 0, 0)), (.iload_n 3, 1, (0, 0, 0)), (.iconst 4, 1, (0, 0, 0)), (.iadd, 1, (0, 0, 0)), (.iaload, 1, (0, 0, 0)), (.i2l, 1, (0, 0, 0)), (.ldc2_w 149, 3, (0, 0, 4294967295)), (.land, 1, (0, 0, 0)), (.lor, 1, (0, 0, 0)), (.invokevirtual 155, 3, (j_X12_write, 4, 0)), (.lcmp, 1, (0, 0, 0)), (.ifCond .eq 130, 3, (1528, 0, 0)), (.iconst 0, 1, (0, 0, 0)), (.ireturn, 1, (1, 0, 0))]
def s_L_law_1403 : List ZN := [(.aload_n 1, 1, (0, 0, 0)), (.aload_n 0, 1, (0, 0, 0)), (.iload_n 3, 1, (0, 0, 0)), (.iconst 1, 1, (0, 0, 0)), (.iadd, 1, (0, 0, 0)), (.iaload, 1, (0, 0, 0)), (.invokevirtual 156, 3, (j_X11_save, 2, 0)), (.aload_n 2, 1, (0, 0, 0)), (.aload_n 0, 1, (0, 0, 0)), (.iload_n 3, 1, (0, 0, 0)), (.iconst 1, 1, (0, 0, 0)), (.iadd, 1, (0, 0, 0)), (.iaload, 1, (0, 0, 0)), (.invokevirtual 159, 3, (j_X12_save, 2, 0)), (.if_icmp .eq 107, 3, (1528, 0, 0)), (.iconst 0, 1, (0, 0, 0)), (.ireturn, 1, (1, 0, 0))]
def s_L_law_1426 : List ZN := [(.aload_n 1, 1, (0, 0, 0)), (.aload_n 0, 1, (0, 0, 0)), (.iload_n 3, 1, (0, 0, 0)), (.iconst 1, 1, (0, 0, 0)), (.iadd, 1, (0, 0, 0)), (.iaload, 1, (0, 0, 0)), (.aload_n 0, 1, (0, 0, 0)), (.iload_n 3, 1, (0, 0, 0)), (.iconst 2, 1, (0, 0, 0)), (.iadd, 1, (0, 0, 0)), (.iaload, 1, (0, 0, 0)), (.invokevirtual 160, 3, (j_X11_load, 3, 0)), (.aload_n 2, 1, (0, 0, 0)), (.aload_n 0, 1, (0, 0, 0)), (.iload_n 3, 1, (0, 0, 0)), (.iconst 1, 1, (0, 0, 0)), (.iadd, 1, (0, 0, 0)), (.iaload, 1, (0, 0, 0)), (.aload_n 0, 1, (0, 0, 0)), (.iload_n 3, 1, (0, 0, 0)), (.iconst 2, 1, (0, 0, 0)), (.iadd, 1, (0, 0, 0)), (.iaload, 1, (0, 0, 0)), (.invokevirtual 163, 3, (j_X12_load, 3, 0)), (.if_icmp .eq 74, 3, (1528, 0, 0)), (.iconst 0, 1, (0, 0, 0)), (.ireturn, 1, (1, 0, 0))]
def s_L_law_1459 : List ZN := [(.aload_n 1, 1, (0, 0, 0)), (.aload_n 0, 1, (0, 0, 0)), (.iload_n 3, 1, (0, 0, 0)), (.iconst 1, 1, (0, 0, 0)), (.iadd, 1, (0, 0, 0)), (.iaload, 1, (0, 0, 0)), (.invokevirtual 164, 3, (j_X11_image, 2, 0)), (.aload_n 2, 1, (0, 0, 0)), (.aload_n 0, 1, (0, 0, 0)), (.iload_n 3, 1, (0, 0, 0)), (.iconst 1, 1, (0, 0, 0)), (.iadd, 1, (0, 0, 0)), (.iaload, 1, (0, 0, 0)), (.invokevirtual 168, 3, (j_X12_image, 2, 0)), (.if_icmp .eq 51, 3, (1528, 0, 0)), (.iconst 0, 1, (0, 0, 0)), (.ireturn, 1, (1, 0, 0))]
def s_L_law_1482 : List ZN := [(.aload_n 1, 1, (0, 0, 0)), (.aload_n 0, 1, (0, 0, 0)), (.iload_n 3, 1, (0, 0, 0)), (.iconst 1, 1, (0, 0, 0)), (.iadd, 1, (0, 0, 0)), (.iaload, 1, (0, 0, 0)), (.invokevirtual 169, 3, (j_X11_restore, 2, 0)), (.aload_n 2, 1, (0, 0, 0)), (.aload_n 0, 1, (0, 0, 0)), (.iload_n 3, 1, (0, 0, 0)), (.iconst 1, 1, (0, 0, 0)), (.iadd, 1, (0, 0, 0)), (.iaload, 1, (0, 0, 0)), (.invokevirtual 172, 3, (j_X12_restore, 2, 0)), (.if_icmp .eq 28, 3, (1528, 0, 0)), (.iconst 0, 1, (0, 0, 0)), (.ireturn, 1, (1, 0, 0))]
def s_L_law_1505 : List ZN := [(.aload_n 1, 1, (0, 0, 0)), (.aload_n 0, 1, (0, 0, 0)), (.iload_n 3, 1, (0, 0, 0)), (.iconst 1, 1, (0, 0, 0)), (.iadd, 1, (0, 0, 0)), (.iaload, 1, (0, 0, 0)), (.invokevirtual 173, 3, (j_X11_count, 2, 0)), (.aload_n 2, 1, (0, 0, 0)), (.aload_n 0, 1, (0, 0, 0)), (.iload_n 3, 1, (0, 0, 0)), (.iconst 1, 1, (0, 0, 0)), (.iadd, 1, (0, 0, 0)), (.iaload, 1, (0, 0, 0)), (.invokevirtual 176, 3, (j_X12_count, 2, 0)), (.if_icmp .eq 5, 3, (1528, 0, 0)), (.iconst 0, 1, (0, 0, 0)), (.ireturn, 1, (1, 0, 0))]
def s_L_law_1528 : List ZN := [(.iinc 3 6, 3, (0, 0, 0)), (.goto (-1513), 3, (18, 0, 0))]
def s_L_law_1534 : List ZN := [(.iconst 1, 1, (0, 0, 0)), (.ireturn, 1, (1, 0, 0))]
def p_L_law : List (Nat × List ZN) := [(0, s_L_law_0), (18, s_L_law_18), (196, s_L_law_196), (259, s_L_law_259), (282, s_L_law_282), (305, s_L_law_305), (348, s_L_law_348), (366, s_L_law_366), (367, s_L_law_367), (388, s_L_law_388), (389, s_L_law_389), (397, s_L_law_397), (415, s_L_law_415), (416, s_L_law_416), (437, s_L_law_437), (438, s_L_law_438), (446, s_L_law_446), (469, s_L_law_469), (502, s_L_law_502), (515, s_L_law_515), (516, s_L_law_516), (532, s_L_law_532), (533, s_L_law_533), (541, s_L_law_541), (564, s_L_law_564), (607, s_L_law_607), (650, s_L_law_650), (663, s_L_law_663), (696, s_L_law_696), (739, s_L_law_739), (802, s_L_law_802), (820, s_L_law_820), (821, s_L_law_821), (842, s_L_law_842), (843, s_L_law_843), (851, s_L_law_851), (874, s_L_law_874), (875, s_L_law_875), (901, s_L_law_901), (902, s_L_law_902), (910, s_L_law_910), (943, s_L_law_943), (996, s_L_law_996), (1019, s_L_law_1019), (1042, s_L_law_1042), (1065, s_L_law_1065), (1078, s_L_law_1078), (1101, s_L_law_1101), (1124, s_L_law_1124), (1147, s_L_law_1147), (1190, s_L_law_1190), (1243, s_L_law_1243), (1286, s_L_law_1286), (1329, s_L_law_1329), (1403, s_L_law_1403), (1426, s_L_law_1426), (1459, s_L_law_1459), (1482, s_L_law_1482), (1505, s_L_law_1505), (1528, s_L_law_1528), (1534, s_L_law_1534)]
def zprog : List (List (Nat × List ZN)) := [p_J6_bitCount_0f7a4, p_J0_length_8abf5, p_J0_charAt_5068e, p_J0_coder_7d493, p_J0_isLatin1_aae02, p_J0_checkIndex_df160, p_J1_charAt_3b067, p_J7_fill_d0a16, p_J7_fill_53178, p_J3_checkIndex_8e157, p_X0_init, p_X0_observe, p_X0_canBe, p_X0_dropObserved, p_X0_seek, p_X0_isWorthTrying, p_X0_canMatter, p_X0_explains, p_X0_putFlaw, p_X0_isSeenSo, p_X0_allSeenBy, p_X0_firstToFail, p_X1_init, p_X1_reset, p_X1_becomeLike, p_X1_changeWear, p_X1_changeBeat, p_X1_leaveCorner, p_X1_takeCorner, p_X1_cornerAt, p_X1_cornerLimit, p_X1_driveOf, p_X2_init, p_X2_addPage, p_X2_stackSides, p_X2_becomeLike, p_X3_init, p_X3_pair, p_X3_measureRoom, p_X3_lastPlaceBelow, p_X3_pairInOrder, p_X3_earliest, p_X3_lackingPlace, p_X3_wholeCopies, p_X4_init, p_X4_make, p_X4_cut, p_X4_tellsPages, p_X5_init, p_X5_seek, p_X5_hasPaperForAll, p_X5_gives, p_X5_leave, p_X5_takesNext, p_X5_feedFromEach, p_X5_agedPocket, p_X5_unpack, p_X5_meet, p_X5_traceBack, p_X5_parentOf, p_X6_init, p_X6_hasRoomForFive, p_X6_append, p_X6_readWay, p_X6_splitTokens, p_X6_nextKind, p_X6_nextNumber, p_X6_nextWord, p_X6_wordOfFour, p_X6_isAt, p_X6_readLine, p_X6_readRoller, p_X6_readEye, p_X6_readTurn, p_X6_readDamp, p_X6_readNumber, p_X6_want, p_X6_goOn, p_X6_blame, p_X6_isBlank, p_X6_isLetter, p_X6_isDigit, p_X7_init, p_X7_seek, p_X7_isBetter, p_X7_costOfNewOnes, p_X7_timesNew, p_X8_init, p_X8_start, p_X8_isFull, p_X8_tailOf, p_X8_isFreeFor, p_X8_begin, p_X8_liesFree, p_X8_putOnWay, p_X8_goOnce, p_X8_carryOn, p_X8_move, p_X8_waits, p_X8_drive, p_X8_enterPocket, p_X8_findJam, p_X8_comeBack, p_X8_isUnderEye, p_X8_takeAll, p_X9_init, p_X9_reset, p_X9_cutOff, p_X9_look, p_X9_close, p_X10_init, p_X10_reset, p_X10_hasRoller, p_X10_hasEye, p_X10_lastRollerPlace, p_X10_lastEyePlace, p_X10_creasesAre, p_X11_init, p_X11_feed, p_X11_text, p_X11_fault, p_X11_set, p_X11_corner, p_X11_lay, p_X11_tick, p_X11_sheet, p_X11_clear, p_X11_sees, p_X11_passing, p_X11_saw, p_X11_forget, p_X11_explain, p_X11_foretold, p_X11_crease, p_X11_page, p_X11_tray, p_X11_pocket, p_X11_heat, p_X11_plan, p_X11_copies, p_X11_out, p_X11_empty, p_X11_again, p_X11_lack, p_X11_kept, p_X11_pay, p_X11_part, p_X11_service, p_X11_row, p_X11_write, p_X11_save, p_X11_load, p_X11_image, p_X11_restore, p_X11_count, p_X11_countOfSet, p_X11_isSheetLength, p_X11_isCreaseRow, p_X11_isCrease, p_X11_falls, p_X12_within, p_X12_init, p_X12_begins, p_X12_becomes, p_X12_feed, p_X12_see, p_X12_isSmall, p_X12_isDigit, p_X12_keyAt, p_X12_next, p_X12_fails, p_X12_is, p_X12_needs, p_X12_reads, p_X12_readsRoller, p_X12_readsEye, p_X12_readsTurn, p_X12_readsDamp, p_X12_text, p_X12_fault, p_X12_isRoller, p_X12_isEye, p_X12_set, p_X12_cornerOf, p_X12_leaves, p_X12_corner, p_X12_isGoing, p_X12_tail, p_X12_isOver, p_X12_lay, p_X12_drive, p_X12_bound, p_X12_ahead, p_X12_inPocket, p_X12_waits, p_X12_waitsNow, p_X12_goes, p_X12_ticks, p_X12_comesBack, p_X12_looks, p_X12_tick, p_X12_sheet, p_X12_clear, p_X12_sees, p_X12_passing, p_X12_goesAlone, p_X12_isOutAlone, p_X12_looksAlone, p_X12_saw, p_X12_observed, p_X12_forget, p_X12_isCause, p_X12_takesCause, p_X12_explains, p_X12_explain, p_X12_foretold, p_X12_creaseOf, p_X12_crease, p_X12_setsOut, p_X12_page, p_X12_tray, p_X12_pocket, p_X12_heat, p_X12_stateOf, p_X12_adds, p_X12_lain, p_X12_isOut, p_X12_opens, p_X12_finds, p_X12_plan, p_X12_copies, p_X12_out, p_X12_empty, p_X12_wanted, p_X12_mostAt, p_X12_pairs, p_X12_again, p_X12_lack, p_X12_kept, p_X12_pay, p_X12_part, p_X12_renewals, p_X12_serves, p_X12_ones, p_X12_service, p_X12_cut, p_X12_row, p_X12_write, p_X12_save, p_X12_load, p_X12_image, p_X12_restore, p_X12_count, p_L_law]
def zfind : List (Nat × List ZN) → Nat → List ZN
  | [], _ => []
  | (l, c) :: t, k => bif l == k then c else zfind t k
def zseg (j l : Nat) : List ZN := zfind (zprog.getD j []) l
def zmaxLs : List Nat := [1, 1, 2, 1, 1, 2, 2, 5, 4, 3, 1, 4, 3, 3, 7, 4, 3, 6, 3, 8, 4, 8, 1, 1, 2, 4, 4, 2, 3, 3, 5, 10, 1, 3, 3, 2, 1, 2, 8, 3, 7, 4, 4, 6, 1, 4, 3, 5, 1, 3, 4, 3, 9, 2, 9, 6, 3, 11, 4, 2, 1, 1, 3, 4, 3, 2, 3, 2, 2, 5, 3, 2, 2, 2, 2, 3, 2, 1, 2, 1, 1, 1, 1, 7, 3, 7, 8, 1, 3, 1, 2, 3, 4, 5, 5, 2, 5, 3, 2, 5, 2, 3, 4, 3, 3, 1, 1, 2, 5, 4, 1, 1, 2, 2, 1, 1, 10, 1, 6, 4, 2, 4, 3, 3, 3, 3, 4, 2, 4, 4, 1, 3, 4, 8, 3, 4, 3, 6, 2, 3, 2, 2, 2, 2, 2, 6, 5, 4, 4, 5, 3, 4, 2, 2, 2, 2, 1, 3, 1, 2, 6, 1, 2, 2, 8, 2, 1, 1, 4, 1, 2, 2, 2, 4, 3, 2, 1, 1, 2, 2, 2, 2, 5, 3, 2, 4, 2, 2, 4, 3, 11, 6, 4, 3, 2, 2, 4, 4, 3, 4, 3, 3, 6, 2, 4, 4, 4, 6, 5, 3, 3, 2, 2, 6, 5, 5, 6, 9, 2, 3, 4, 3, 5, 7, 4, 2, 3, 15, 2, 5, 3, 2, 2, 1, 3, 7, 7, 4, 2, 6, 5, 8, 6, 3, 8, 3, 5, 5, 3, 4, 3, 3, 2, 4]
def zmaxL (j : Nat) : Nat := zmaxLs.getD j 0
end
end
section
/-! What a state of the machine of numbers says of the JVM's heap; instruction by instruction. -/
def zcv (e0 : Nat → Nat → Option Nat) (ad : Nat → Nat → Nat) : ZV → Value
  | .inl n => .int (Int32.ofInt n)
  | .inr (.inl n) => .long (Int64.ofInt n)
  | .inr (.inr (t, r, o)) => if t = 1 then .ref (ad r o) else va_rf (e0 t r)
def zop1 (ad : Nat → Nat → Nat) : ZV → Option Nat
  | .inr (.inr (t, r, o)) => if t = 1 then some (ad r o) else none
  | _ => none
def zcell (cA : Nat → ClassId) (e0 : Nat → Nat → Option Nat) (ad : Nat → Nat → Nat) (κ : ZK) (f : ZF) (a : ZA) (r o : Nat) : va_E := match κ r o with
  | some (k, n) => if k ≤ 2 then .inl (cA k, n, .inl fun j => Int32.ofInt (a r o j)) else if k = 3 then .inl (cA 3, n, .inr (.inl fun j => Int64.ofInt (a r o j)))
    else if k ≤ 5 then .inl (cA k, n, .inr (.inr (.inr (.inr fun j => zop1 ad (f r o j))))) else .inr (k - 10, (List.range n).map fun j => zcv e0 ad (f r o j))
  | none => .inr (0, [])
def zws (cA : Nat → ClassId) (e0 : Nat → Nat → Option Nat) (ad : Nat → Nat → Nat) (κ : ZK) (f : ZF) (a : ZA) (L : List (Nat × Nat)) : va_W := L.map fun q => (ad q.1 q.2, zcell cA e0 ad κ f a q.1 q.2)
def zI32 (x : Int) : Prop := -2147483648 ≤ x ∧ x < 2147483648
def zI64 (x : Int) : Prop := -9223372036854775808 ≤ x ∧ x < 9223372036854775808
def zvok (κ : ZK) : ZV → Prop
  | .inl n => zI32 n
  | .inr (.inl n) => zI64 n
  | .inr (.inr (t, r, o)) => t = 1 → κ r o ≠ none
/-- memory is as it should be: numbers in their bounds, no name of a cell that isn't there, the script at bS -/
def zok (bS nS : Nat) (xS : Nat → Int) (ad : Nat → Nat → Nat) (κ : ZK) (f : ZF) (a : ZA) : Prop :=
  (∀ r o k n, κ r o = some (k, n) → (k ≤ 2 ∨ k = 6 → ∀ j, zI32 (a r o j) ∧ (k = 1 → a r o j = 0 ∨ a r o j = 1)) ∧ (k = 3 → ∀ j, zI64 (a r o j)) ∧ (k = 4 ∨ k = 5 → ∀ j, ∃ t r' o', f r o j = .inr (.inr (t, r', o')) ∧ t ≤ 1) ∧ (k = 6 → ad r o = bS ∧ n = nS ∧ ∀ j, a r o j = xS j)) ∧
  ∀ r o j, zvok κ (f r o j)
def zTY (cA : Nat → ClassId) : List (ClassId × FieldType) := [(cA 0, .int), (cA 1, .boolean), (cA 2, .byte), (cA 3, .long), (cA 4, .object "PaperWay$Job"), (cA 5, .array .long)]
def zsown (k : Nat) : String := if k = 9 then "PaperWayModel" else "PaperWay$Reader"
def zsidx (k : Nat) : Nat := [89, 95, 101, 103, 105, 107, 109, 111, 113, 186].getD k 0
def zstx (k : Nat) : String := ["way", "eye", "speed", "roller", "turn", "back", "hold", "rest", "damp", " way roller speed eye turn back hold rest damp "].getD k ""
def zslen : List Nat := zstrs.map List.length
def zsbyt : List (List Int32) := zstrs.map fun l => l.map Int32.ofInt
abbrev yNest (c : String) : MethodName := ⟨c, "<init>", "()V"⟩
/-- constructors of nest mates, as their callers' pools name them -/
def znest : List Cond := [.methodLinkNest RX11 9 (yNest RX6) RX11, .methodLinkNest RX11 18 (yNest RX1) RX11, .methodLinkNest RX11 25 (yNest RX8) RX11, .methodLinkNest RX11 32 (yNest RX0) RX11, .methodLinkNest RX11 39 (yNest RX2) RX11, .methodLinkNest RX11 54 (yNest RX5) RX11, .methodLinkNest RX11 61 (yNest RX3) RX11, .methodLinkNest RX11 68 (yNest RX7) RX11, .methodLinkNest RX11 75 (yNest RX4) RX11, .methodLinkNest RX0 29 (yNest RX8) RX11, .methodLinkNest RX0 36 (yNest RX1) RX11, .methodLinkNest RX5 25 (yNest RX2) RX11, .methodLinkNest RX8 11 (yNest RX9) RX11, .methodLinkNest RX8 60 (yNest RX1) RX11]
def zgood : List Cond := lw_tbl.filter goodWord
/-- what the tables say, in each frame -/
def zEnv (D : va_G) (cA : Nat → ClassId) (e0 : Nat → Nat → Option Nat) (U : State) : Prop :=
  va_K D vwCl (zTY cA) U ∧ (∀ w ∈ znest, va_Nw w U) ∧ va_AO "PaperWay$Job" U ∧ zAOA .long U ∧ ∀ k, k < 10 → ∃ q, e0 4 k = some q ∧ vk_R (zsown k) (zsidx k) (zstx k) q U
/-- what is read alone: String constants, two statics, the script -/
def zRO (e0 : Nat → Nat → Option Nat) (bS nS : Nat) (xS : Nat → Int) (A : Nat → Prop) (U : State) (H : Heap) : Prop :=
  (∃ adK adV : Nat → Nat, (∀ k, k < 10 → e0 4 k = some (adK k) ∧ e0 5 k = some (adV k)) ∧ vk_S 10 zslen zsbyt adK adV A U H) ∧ va_Z "java/lang/String" "COMPACT_STRINGS" "Z" (.int 1) A U H ∧
  va_Z "jdk/internal/util/Preconditions" "SIOOBE_FORMATTER" "Ljava/util/function/BiFunction;" (va_rf (e0 6 0)) A U H ∧ va_X bS nS (fun j => Int32.ofInt (xS j)) U H ∧ bS < H.size ∧ ¬ A bS
theorem zEnv.moved {D : va_G} {cA : Nat → ClassId} {e0 : Nat → Nat → Option Nat} {s U : State} (hW : s.WarmedH U.vm) (h : zEnv D cA e0 s) : zEnv D cA e0 U := by
  obtain ⟨h1, h2, h3, h4, h5⟩ := h
  refine ⟨va_K.moved hW.alike h1, fun w hw => ?_, va_AO.moved hW.alike h3, zAOA.moved hW.alike h4, fun k hk => ?_⟩
  · have hz := h2 w hw
    unfold znest at hw
    simp only [List.mem_cons, List.not_mem_nil, or_false] at hw
    rcases hw with rfl | rfl | rfl | rfl | rfl | rfl | rfl | rfl | rfl | rfl | rfl | rfl | rfl | rfl <;> exact va_Nw.warmM hW hz
  · obtain ⟨q, a, b⟩ := h5 k hk
    exact ⟨q, a, vk_R.warm hW b⟩
theorem zRO.kept {e0 : Nat → Nat → Option Nat} {bS nS : Nat} {xS : Nat → Int} {A B : Nat → Prop} {s U : State} {H H1 : Heap} (hW : s.WarmedH U.vm) (hq : ∀ a : Nat, a < H.size → ¬ A a → H1[a]? = H[a]?) (hAB : ∀ q, B q → A q) (hz : H.size ≤ H1.size)
    (h : zRO e0 bS nS xS A s H) : zRO e0 bS nS xS B U H1 := by
  obtain ⟨⟨adK, adV, h0, h1⟩, h2, h3, h4, h5, h6⟩ := h
  exact ⟨⟨adK, adV, h0, ((h1.kept hq).narrow hAB).moved hW.alike⟩, ((h2.kept hq).narrow hAB).moved hW.alike, ((h3.kept hq).narrow hAB).moved hW.alike, (h4.kept (hq bS h5 h6)).moved hW.alike, Nat.lt_of_lt_of_le h5 hz, fun q => h6 (hAB _ q)⟩
end
section
/-! ops without the heap: numbers, locals, the stack -/
theorem zI32_of (x : Int32) : zI32 x.toInt := by
  have h1 := Int32.le_toInt x
  have h2 := Int32.toInt_lt x
  unfold zI32
  omega
theorem zI64_of (x : Int64) : zI64 x.toInt := by
  have h1 := Int64.le_toInt x
  have h2 := Int64.toInt_lt x
  unfold zI64
  omega
theorem zI32_to {n : Int} (h : zI32 n) : (Int32.ofInt n).toInt = n := Int32.toInt_ofInt_of_le (by unfold zI32 at h; omega) (by unfold zI32 at h; omega)
theorem zI64_to {n : Int} (h : zI64 n) : (Int64.ofInt n).toInt = n := Int64.toInt_ofInt_of_le (by unfold zI64 at h; omega) (by unfold zI64 at h; omega)
theorem zlt32 {x y : Int} (hx : zI32 x) (hy : zI32 y) : (Int32.ofInt x < Int32.ofInt y) ↔ x < y := by rw [Int32.lt_iff_toInt_lt, zI32_to hx, zI32_to hy]
theorem zeq32 {x y : Int} (hx : zI32 x) (hy : zI32 y) : (Int32.ofInt x = Int32.ofInt y) ↔ x = y := by rw [← Int32.toInt_inj, zI32_to hx, zI32_to hy]
theorem zI32_0 : zI32 0 := by unfold zI32; omega
theorem zin {i : Int} {n : Nat} (hi : zI32 i) (h0 : 0 ≤ i) (h1 : i < (n : Int)) : vp_in (Int32.ofInt i) n ∧ (Int32.ofInt i).toNatClampNeg = i.toNat := by
  have e : (Int32.ofInt i).toNatClampNeg = i.toNat := by
    show ((Int32.ofInt i).toInt).toNat = i.toNat
    rw [zI32_to hi]
  refine ⟨?_, e⟩
  unfold vp_in
  rw [e]
  intro h
  rcases h with h | h
  · have := (zlt32 hi zI32_0).mp h
    omega
  · omega
theorem zcv_cat {e0 : Nat → Nat → Option Nat} {ad : Nat → Nat → Nat} (v : ZV) : (zcv e0 ad v).category = zcat v := by
  rcases v with n | n | ⟨t, r, o⟩
  · rfl
  · rfl
  · unfold zcv zcat
    by_cases h : t = 1
    · simp [h, Value.category]
    · simp only [h, if_false]
      cases e0 t r <;> simp [va_rf, Value.category]
theorem zcat1 {v : ZV} (h : ¬ zislong v = true) : zcat v = 1 := by
  rcases v with n | n | ⟨t, r, o⟩
  · rfl
  · exact absurd rfl h
  · rfl
def zpairs (e0 : Nat → Nat → Option Nat) (ad : Nat → Nat → Nat) : Nat → List ZV → List (Nat × Value)
  | _, [] => []
  | i, v :: t => if v = zu then zpairs e0 ad (i + 1) t else (i, zcv e0 ad v) :: zpairs e0 ad (i + 1) t
theorem zpairs_mem {e0 : Nat → Nat → Option Nat} {ad : Nat → Nat → Nat} {q : Nat × Value} : ∀ (l : List ZV) (i : Nat), q ∈ zpairs e0 ad i l ↔ ∃ (k : Nat) (v : ZV), q.1 = i + k ∧ l[k]? = some v ∧ v ≠ zu ∧ q.2 = zcv e0 ad v
  | [], i => by simp [zpairs]
  | w :: t, i => by
    have ih := zpairs_mem (e0 := e0) (ad := ad) (q := q) t (i + 1)
    unfold zpairs
    constructor
    · intro h
      by_cases hw : w = zu
      · rw [if_pos hw] at h
        obtain ⟨k, v, h1, h2, h3, h4⟩ := ih.mp h
        exact ⟨k + 1, v, by omega, by simpa using h2, h3, h4⟩
      · rw [if_neg hw] at h
        rcases List.mem_cons.mp h with h | h
        · exact ⟨0, w, by rw [h]; rfl, rfl, hw, by rw [h]⟩
        · obtain ⟨k, v, h1, h2, h3, h4⟩ := ih.mp h
          exact ⟨k + 1, v, by omega, by simpa using h2, h3, h4⟩
    · intro ⟨k, v, h1, h2, h3, h4⟩
      cases k with
      | zero =>
        have e : w = v := by simpa using h2
        subst e
        rw [if_neg h3]
        exact List.mem_cons.mpr (Or.inl (Prod.ext (by simpa using h1) h4))
      | succ k =>
        have hm := ih.mpr ⟨k, v, by omega, by simpa using h2, h3, h4⟩
        by_cases hw : w = zu
        · rw [if_pos hw]; exact hm
        · rw [if_neg hw]; exact List.mem_cons_of_mem _ hm
theorem zlv_sub {ls : Array Slot} {n : Nat} {l l' : List (Nat × Value)} (h : lv_has ls n l) (hs : ∀ q ∈ l', q ∈ l) : lv_has ls n l' := ⟨h.1, h.2.1, fun q hq => h.2.2 q (hs q hq)⟩
theorem zlv_get {e0 : Nat → Nat → Option Nat} {ad : Nat → Nat → Nat} {ls : Array Slot} {l : List ZV} {i : Nat} {v : ZV} (h : lv_has ls l.length (zpairs e0 ad 0 l)) (hi : l[i]? = some v) (hv : v ≠ zu) : ls[i]? = some (.val (zcv e0 ad v)) :=
  h.2.2 (i, zcv e0 ad v) ((zpairs_mem l 0).mpr ⟨i, v, by simp, hi, hv, rfl⟩)
theorem zst1_len : ∀ (l : List ZV) (i : Nat) (v : ZV), (zst1 l i v).length = l.length
  | [], _, _ => rfl
  | _ :: _, 0, _ => rfl
  | _ :: t, i + 1, v => by simp [zst1, zst1_len t i v]
theorem zst1_get : ∀ (l : List ZV) (i : Nat) (v : ZV) (k : Nat) (w : ZV), (zst1 l i v)[k]? = some w → w ≠ zu → (k = i ∧ w = v) ∨ (k ≠ i ∧ l[k]? = some w ∧ ¬ (k + 1 = i ∧ zislong w = true))
  | [], _, _, _, _, h, _ => by simp [zst1] at h
  | a :: t, 0, v, k, w, h, _ => by
    cases k with
    | zero => left; simpa [zst1] using h.symm
    | succ k => right; exact ⟨by omega, by simpa [zst1] using h, by omega⟩
  | a :: t, i + 1, v, k, w, h, hw => by
    cases k with
    | zero =>
      right
      simp only [zst1, List.getElem?_cons_zero, Option.some.injEq] at h
      cases hb : (i == 0 && zislong a) with
      | true => rw [hb] at h; exact absurd h.symm hw
      | false =>
        rw [hb] at h
        have e : a = w := h
        subst e
        refine ⟨by omega, rfl, fun q => ?_⟩
        have h0 : i = 0 := by omega
        rw [h0, q.2] at hb
        cases hb
    | succ k =>
      have h2 : (zst1 t i v)[k]? = some w := by simpa [zst1] using h
      rcases zst1_get t i v k w h2 hw with ⟨h3, h4⟩ | ⟨h3, h4, h5⟩
      · exact Or.inl ⟨by omega, h4⟩
      · exact Or.inr ⟨by omega, by simpa using h4, fun q => h5 ⟨by omega, q.2⟩⟩
theorem zst2_len : ∀ (l : List ZV) (i : Nat) (v : ZV), i + 1 < l.length → (zst2 l i v).length = l.length
  | [], _, _, h => by simp at h
  | _ :: [], 0, _, h => by simp at h
  | _ :: _ :: _, 0, _, _ => rfl
  | _ :: t, i + 1, v, h => by
    have h1 : i + 1 < t.length := by simpa using h
    simp [zst2, zst2_len t i v h1]
theorem zst2_get : ∀ (l : List ZV) (i : Nat) (v : ZV) (k : Nat) (w : ZV), (zst2 l i v)[k]? = some w → w ≠ zu → (k = i ∧ w = v) ∨ (k ≠ i ∧ k ≠ i + 1 ∧ l[k]? = some w ∧ ¬ (k + 1 = i ∧ zislong w = true))
  | [], _, _, _, _, h, _ => by simp [zst2] at h
  | a :: [], 0, v, k, w, h, _ => by simp [zst2] at h
  | a :: b :: t, 0, v, k, w, h, hw => by
    match k, h with
    | 0, h => left; simpa [zst2] using h.symm
    | 1, h =>
      have e : zu = w := by simpa [zst2] using h
      exact absurd e.symm hw
    | k + 2, h => right; exact ⟨by omega, by omega, by simpa [zst2] using h, by omega⟩
  | a :: t, i + 1, v, k, w, h, hw => by
    cases k with
    | zero =>
      right
      simp only [zst2, List.getElem?_cons_zero, Option.some.injEq] at h
      cases hb : (i == 0 && zislong a) with
      | true => rw [hb] at h; exact absurd h.symm hw
      | false =>
        rw [hb] at h
        have e : a = w := h
        subst e
        refine ⟨by omega, by omega, rfl, fun q => ?_⟩
        have h0 : i = 0 := by omega
        rw [h0, q.2] at hb
        cases hb
    | succ k =>
      have h2 : (zst2 t i v)[k]? = some w := by simpa [zst2] using h
      rcases zst2_get t i v k w h2 hw with ⟨h3, h4⟩ | ⟨h3, h4, h5, h6⟩
      · exact Or.inl ⟨by omega, h4⟩
      · exact Or.inr ⟨by omega, by omega, by simpa using h5, fun q => h6 ⟨by omega, q.2⟩⟩
theorem zlv_st1 {e0 : Nat → Nat → Option Nat} {ad : Nat → Nat → Nat} {ls : Array Slot} {l : List ZV} {i : Nat} {v : ZV}
    (h : lv_has ls l.length ((i, zcv e0 ad v) :: (zpairs e0 ad 0 l).filter (fun q => !(q.1 == i) && !(q.1 + 1 == i && q.2.category == 2)))) : lv_has ls (zst1 l i v).length (zpairs e0 ad 0 (zst1 l i v)) := by
  rw [zst1_len]
  refine zlv_sub h fun q hq => ?_
  obtain ⟨k, w, h1, h2, h3, h4⟩ := (zpairs_mem _ 0).mp hq
  have hk : q.1 = k := by omega
  rcases zst1_get l i v k w h2 h3 with ⟨h5, h6⟩ | ⟨h5, h6, h7⟩
  · exact List.mem_cons.mpr (Or.inl (Prod.ext (by omega) (by rw [h4, h6])))
  · refine List.mem_cons_of_mem _ (List.mem_filter.mpr ⟨(zpairs_mem l 0).mpr ⟨k, w, h1, h6, h3, h4⟩, ?_⟩)
    rw [hk, h4, zcv_cat]
    simp only [Bool.and_eq_true, Bool.not_eq_true', beq_eq_false_iff_ne, ne_eq, Bool.and_eq_false_imp, beq_iff_eq]
    refine ⟨h5, fun hq2 => ?_⟩
    have : ¬ zislong w = true := fun z => h7 ⟨hq2, z⟩
    rw [zcat1 this]
    decide
theorem zlv_st2 {e0 : Nat → Nat → Option Nat} {ad : Nat → Nat → Nat} {ls : Array Slot} {l : List ZV} {i : Nat} {v : ZV} (hi : i + 1 < l.length)
    (h : lv_has ls l.length ((i, zcv e0 ad v) :: (zpairs e0 ad 0 l).filter (fun q => !(q.1 == i) && (!(q.1 == i + 1) && !(q.1 + 1 == i && q.2.category == 2))))) : lv_has ls (zst2 l i v).length (zpairs e0 ad 0 (zst2 l i v)) := by
  rw [zst2_len l i v hi]
  refine zlv_sub h fun q hq => ?_
  obtain ⟨k, w, h1, h2, h3, h4⟩ := (zpairs_mem _ 0).mp hq
  have hk : q.1 = k := by omega
  rcases zst2_get l i v k w h2 h3 with ⟨h5, h6⟩ | ⟨h5, h5', h6, h7⟩
  · exact List.mem_cons.mpr (Or.inl (Prod.ext (by omega) (by rw [h4, h6])))
  · refine List.mem_cons_of_mem _ (List.mem_filter.mpr ⟨(zpairs_mem l 0).mpr ⟨k, w, h1, h6, h3, h4⟩, ?_⟩)
    rw [hk, h4, zcv_cat]
    simp only [Bool.and_eq_true, Bool.not_eq_true', beq_eq_false_iff_ne, ne_eq, Bool.and_eq_false_imp, beq_iff_eq]
    refine ⟨h5, h5', fun hq2 => ?_⟩
    have : ¬ zislong w = true := fun z => h7 ⟨hq2, z⟩
    rw [zcat1 this]
    decide
theorem zst1_ok {κ : ZK} {l : List ZV} {i : Nat} {v : ZV} (h : ∀ w ∈ l, zvok κ w) (hv : zvok κ v) : ∀ w ∈ zst1 l i v, zvok κ w := by
  intro w hw
  by_cases hz : w = zu
  · subst hz; intro h; cases h
  · obtain ⟨k, hk⟩ := List.getElem?_of_mem hw
    rcases zst1_get l i v k w hk hz with ⟨-, h1⟩ | ⟨-, h1, -⟩
    · rw [h1]; exact hv
    · exact h w (List.mem_of_getElem? h1)
theorem zst2_ok {κ : ZK} {l : List ZV} {i : Nat} {v : ZV} (h : ∀ w ∈ l, zvok κ w) (hv : zvok κ v) : ∀ w ∈ zst2 l i v, zvok κ w := by
  intro w hw
  by_cases hz : w = zu
  · subst hz; intro h; cases h
  · obtain ⟨k, hk⟩ := List.getElem?_of_mem hw
    rcases zst2_get l i v k w hk hz with ⟨-, h1⟩ | ⟨-, -, h1, -⟩
    · rw [h1]; exact hv
    · exact h w (List.mem_of_getElem? h1)
/-- a frame: the machine, its code, the tables' words, what is read alone -/
def zFr (D : va_G) (cA : Nat → ClassId) (e0 : Nat → Nat → Option Nat) (bS nS : Nat) (xS : Nat → Int) (A : Nat → Prop) (p : Program) (s : State) (m : MethodId) (args : Array Value) (meth : Method) (c : Code) (own nm : String) (cc : ByteArray) (nL : Nat) : Prop :=
  p.tables.exec = Jvm.exec ∧ c.code = cc ∧ c.maxLocals = nL ∧ s.vm.findClass own = some m.cls ∧ (∀ w ∈ zgood, w.before args s = true) ∧ zEnv D cA e0 s ∧ zRO e0 bS nS xS A s s.heap ∧ meth.locks = false ∧ meth.name = nm ∧ ∀ q : Nat, s.heap.size ≤ q → A q
/-- the heap holds the memory -/
def zRel (D : va_G) (cA : Nat → ClassId) (e0 : Nat → Nat → Option Nat) (bS nS : Nat) (xS : Nat → Int) (A : Nat → Prop) (s : State) (L : List (Nat × Nat)) (ad : Nat → Nat → Nat) (κ : ZK) (f : ZF) (a : ZA) (H : Heap) (locs : List Loc) : Prop :=
  va_P D vwCl (zws cA e0 ad κ f a L) H ∧ va_D A (zws cA e0 ad κ f a L) ∧ va_S A s.heap H locs ∧ L.Nodup ∧ (∀ r o, (r, o) ∈ L ↔ ∃ k n, κ r o = some (k, n) ∧ k ≠ 6) ∧ zok bS nS xS ad κ f a
section ZC
variable (D : va_G) (cA : Nat → ClassId) (e0 : Nat → Nat → Option Nat) (bS nS : Nat) (xS : Nat → Int) (A : Nat → Prop) (p : Program) (l : Launch) (e : Env) (R : Room) (s : State) (m : MethodId) (args : Array Value) (below : List Frame) (meth : Method) (c : Code) (Q : State → Prop) (L0 : List (Nat × Nat)) (ad0 : Nat → Nat → Nat) (u0 v0 : Nat)
/-- from this place on the method comes to Q, whatever the heap that holds the memory -/
def zcont (pc : Nat) (lsv stv : List ZV) (μ : ZM) : Prop :=
  ∀ (L : List (Nat × Nat)) (ad : Nat → Nat → Nat) (H : Heap) (locs : List Loc) (ls : Array Slot) (cells slots : Nat), (∀ q ∈ L0, q ∈ L ∧ ad q.1 q.2 = ad0 q.1 q.2) → zRel D cA e0 bS nS xS A s L ad μ.1 μ.2.1 μ.2.2.1 H locs → lv_has ls lsv.length (zpairs e0 ad 0 lsv) →
    (∀ v ∈ lsv, zvok μ.1 v) → (∀ v ∈ stv, zvok μ.1 v) → cells + u0 = μ.2.2.2.2.1 → slots + v0 = μ.2.2.2.2.2 → W p l e R s m args below meth c H locs cells slots Q (F0 m pc ls (stv.map (zcv e0 ad)))
end ZC
end
section
/-! one instruction of the machine of numbers is one of the JVM's: those without the heap -/
section ZO
variable {D : va_G} {cA : Nat → ClassId} {e0 : Nat → Nat → Option Nat} {bS nS : Nat} {xS : Nat → Int} {A : Nat → Prop} {p : Program} {l : Launch} {e : Env} {R : Room} {s : State} {m : MethodId} {args : Array Value} {below : List Frame} {meth : Method} {c : Code} {Q : State → Prop} {L0 : List (Nat × Nat)} {ad0 : Nat → Nat → Nat} {u0 v0 : Nat}
variable {own nm : String} {cc : ByteArray} {nL pc : Nat} {lsv stv lsv' stv' : List ZV} {μ μ' : ZM}
/-- a computed int -/
theorem zcv_int (ad : Nat → Nat → Nat) (x : Int32) : zcv e0 ad (.inl x.toInt) = .int x := by unfold zcv; simp
theorem zcv_long (ad : Nat → Nat → Nat) (x : Int64) : zcv e0 ad (.inr (.inl x.toInt)) = .long x := by unfold zcv; simp
theorem zvok_cons {κ : ZK} {v : ZV} {t : List ZV} (hv : zvok κ v) (ht : ∀ w ∈ t, zvok κ w) : ∀ w ∈ v :: t, zvok κ w := fun w hw => by
  rcases List.mem_cons.mp hw with h | h
  · rw [h]; exact hv
  · exact ht w h
theorem zvok_head {κ : ZK} {v : ZV} {t : List ZV} (h : ∀ w ∈ v :: t, zvok κ w) : zvok κ v := h v List.mem_cons_self
theorem zvok_tail {κ : ZK} {v : ZV} {t : List ZV} (h : ∀ w ∈ v :: t, zvok κ w) : ∀ w ∈ t, zvok κ w := fun w hw => h w (List.mem_cons_of_mem _ hw)
theorem zo_bin {g : Int → Int → Int} {G : Int32 → Int32 → Int32} (hg : ∀ x y, g x y = (G (Int32.ofInt x) (Int32.ofInt y)).toInt) (h : zbin stv lsv μ g = some (lsv', stv', μ'))
    (row : ∀ {H : Heap} {locs : List Loc} {cells slots : Nat} {ls : Array Slot} {rest : List Value} {x y : Int32}, W p l e R s m args below meth c H locs cells slots Q (F0 m (pc + 1) ls (.int (G x y) :: rest)) → W p l e R s m args below meth c H locs cells slots Q (F0 m pc ls (.int y :: .int x :: rest)))
    (kk : zcont D cA e0 bS nS xS A p l e R s m args below meth c Q L0 ad0 u0 v0 (pc + 1) lsv' stv' μ') : zcont D cA e0 bS nS xS A p l e R s m args below meth c Q L0 ad0 u0 v0 pc lsv stv μ := by
  unfold zbin at h
  split at h
  · cases h
    intro L ad H locs ls cells slots hext hrel hl hlv hsv hc hs
    have k := kk L ad H locs ls cells slots hext hrel hl hlv (zvok_cons (by show zI32 _; rw [hg]; exact zI32_of _) (zvok_tail (zvok_tail hsv))) hc hs
    rw [List.map_cons, hg, zcv_int] at k
    exact row k
  · cases h
theorem zo_bind {g : Int → Int → Int} {G : Int32 → Int32 → Int32} (hg : ∀ x y, g x y = (G (Int32.ofInt x) (Int32.ofInt y)).toInt) (h : zbind stv lsv μ g = some (lsv', stv', μ'))
    (row : ∀ {H : Heap} {locs : List Loc} {cells slots : Nat} {ls : Array Slot} {rest : List Value} {x y : Int32}, ¬ y = 0 → W p l e R s m args below meth c H locs cells slots Q (F0 m (pc + 1) ls (.int (G x y) :: rest)) → W p l e R s m args below meth c H locs cells slots Q (F0 m pc ls (.int y :: .int x :: rest)))
    (kk : zcont D cA e0 bS nS xS A p l e R s m args below meth c Q L0 ad0 u0 v0 (pc + 1) lsv' stv' μ') : zcont D cA e0 bS nS xS A p l e R s m args below meth c Q L0 ad0 u0 v0 pc lsv stv μ := by
  unfold zbind at h
  split at h
  · split at h
    · cases h
    · rename_i y x st0 hy
      cases h
      intro L ad H locs ls cells slots hext hrel hl hlv hsv hc hs
      have k := kk L ad H locs ls cells slots hext hrel hl hlv (zvok_cons (by show zI32 _; rw [hg]; exact zI32_of _) (zvok_tail (zvok_tail hsv))) hc hs
      rw [List.map_cons, hg, zcv_int] at k
      exact row (fun q => hy ((zeq32 (zvok_head hsv) zI32_0).mp q)) k
  · cases h
theorem zo_un {g : Int → Int} {G : Int32 → Int32} (hg : ∀ x, g x = (G (Int32.ofInt x)).toInt) (h : zun stv lsv μ g = some (lsv', stv', μ'))
    (row : ∀ {H : Heap} {locs : List Loc} {cells slots : Nat} {ls : Array Slot} {rest : List Value} {x : Int32}, W p l e R s m args below meth c H locs cells slots Q (F0 m (pc + 1) ls (.int (G x) :: rest)) → W p l e R s m args below meth c H locs cells slots Q (F0 m pc ls (.int x :: rest)))
    (kk : zcont D cA e0 bS nS xS A p l e R s m args below meth c Q L0 ad0 u0 v0 (pc + 1) lsv' stv' μ') : zcont D cA e0 bS nS xS A p l e R s m args below meth c Q L0 ad0 u0 v0 pc lsv stv μ := by
  unfold zun at h
  split at h
  · cases h
    intro L ad H locs ls cells slots hext hrel hl hlv hsv hc hs
    have k := kk L ad H locs ls cells slots hext hrel hl hlv (zvok_cons (by show zI32 _; rw [hg]; exact zI32_of _) (zvok_tail hsv)) hc hs
    rw [List.map_cons, hg, zcv_int] at k
    exact row k
  · cases h
theorem zo_lbin {g : Int → Int → Int} {G : Int64 → Int64 → Int64} (hg : ∀ x y, g x y = (G (Int64.ofInt x) (Int64.ofInt y)).toInt) (h : zlbin stv lsv μ g = some (lsv', stv', μ'))
    (row : ∀ {H : Heap} {locs : List Loc} {cells slots : Nat} {ls : Array Slot} {rest : List Value} {x y : Int64}, W p l e R s m args below meth c H locs cells slots Q (F0 m (pc + 1) ls (.long (G x y) :: rest)) → W p l e R s m args below meth c H locs cells slots Q (F0 m pc ls (.long y :: .long x :: rest)))
    (kk : zcont D cA e0 bS nS xS A p l e R s m args below meth c Q L0 ad0 u0 v0 (pc + 1) lsv' stv' μ') : zcont D cA e0 bS nS xS A p l e R s m args below meth c Q L0 ad0 u0 v0 pc lsv stv μ := by
  unfold zlbin at h
  split at h
  · cases h
    intro L ad H locs ls cells slots hext hrel hl hlv hsv hc hs
    have k := kk L ad H locs ls cells slots hext hrel hl hlv (zvok_cons (by show zI64 _; rw [hg]; exact zI64_of _) (zvok_tail (zvok_tail hsv))) hc hs
    rw [List.map_cons, hg, zcv_long] at k
    exact row k
  · cases h
theorem zo_lsh {g : Int → Int → Int} {G : Int64 → Int32 → Int64} (hg : ∀ x y, g x y = (G (Int64.ofInt x) (Int32.ofInt y)).toInt) (h : zlsh stv lsv μ g = some (lsv', stv', μ'))
    (row : ∀ {H : Heap} {locs : List Loc} {cells slots : Nat} {ls : Array Slot} {rest : List Value} {x : Int64} {y : Int32}, W p l e R s m args below meth c H locs cells slots Q (F0 m (pc + 1) ls (.long (G x y) :: rest)) → W p l e R s m args below meth c H locs cells slots Q (F0 m pc ls (.int y :: .long x :: rest)))
    (kk : zcont D cA e0 bS nS xS A p l e R s m args below meth c Q L0 ad0 u0 v0 (pc + 1) lsv' stv' μ') : zcont D cA e0 bS nS xS A p l e R s m args below meth c Q L0 ad0 u0 v0 pc lsv stv μ := by
  unfold zlsh at h
  split at h
  · cases h
    intro L ad H locs ls cells slots hext hrel hl hlv hsv hc hs
    have k := kk L ad H locs ls cells slots hext hrel hl hlv (zvok_cons (by show zI64 _; rw [hg]; exact zI64_of _) (zvok_tail (zvok_tail hsv))) hc hs
    rw [List.map_cons, hg, zcv_long] at k
    exact row k
  · cases h
/-- a constant int -/
theorem zo_ic {n : Int} {len : Nat} {v : Int32} (hn : zI32 n) (hv : Int32.ofInt n = v)
    (row : ∀ {H : Heap} {locs : List Loc} {cells slots : Nat} {ls : Array Slot} {rest : List Value}, W p l e R s m args below meth c H locs cells slots Q (F0 m (pc + len) ls (.int v :: rest)) → W p l e R s m args below meth c H locs cells slots Q (F0 m pc ls rest))
    (kk : zcont D cA e0 bS nS xS A p l e R s m args below meth c Q L0 ad0 u0 v0 (pc + len) lsv (.inl n :: stv) μ) : zcont D cA e0 bS nS xS A p l e R s m args below meth c Q L0 ad0 u0 v0 pc lsv stv μ := by
  intro L ad H locs ls cells slots hext hrel hl hlv hsv hc hs
  have k := kk L ad H locs ls cells slots hext hrel hl hlv (zvok_cons hn hsv) hc hs
  have e1 : zcv e0 ad (.inl n) = .int v := by show Value.int (Int32.ofInt n) = _; rw [hv]
  rw [List.map_cons, e1] at k
  exact row k
theorem zo_lc {n : Int} {len : Nat} {v : Int64} (hn : zI64 n) (hv : Int64.ofInt n = v)
    (row : ∀ {H : Heap} {locs : List Loc} {cells slots : Nat} {ls : Array Slot} {rest : List Value}, W p l e R s m args below meth c H locs cells slots Q (F0 m (pc + len) ls (.long v :: rest)) → W p l e R s m args below meth c H locs cells slots Q (F0 m pc ls rest))
    (kk : zcont D cA e0 bS nS xS A p l e R s m args below meth c Q L0 ad0 u0 v0 (pc + len) lsv (.inr (.inl n) :: stv) μ) : zcont D cA e0 bS nS xS A p l e R s m args below meth c Q L0 ad0 u0 v0 pc lsv stv μ := by
  intro L ad H locs ls cells slots hext hrel hl hlv hsv hc hs
  have k := kk L ad H locs ls cells slots hext hrel hl hlv (zvok_cons hn hsv) hc hs
  have e1 : zcv e0 ad (.inr (.inl n)) = .long v := by show Value.long (Int64.ofInt n) = _; rw [hv]
  rw [List.map_cons, e1] at k
  exact row k
theorem zo_ldI {i len : Nat} (h : zldI i lsv stv μ = some (lsv', stv', μ'))
    (row : ∀ {H : Heap} {locs : List Loc} {cells slots : Nat} {ls : Array Slot} {rest : List Value} {x : Int32}, ls[i]? = some (.val (.int x)) → W p l e R s m args below meth c H locs cells slots Q (F0 m (pc + len) ls (.int x :: rest)) → W p l e R s m args below meth c H locs cells slots Q (F0 m pc ls rest))
    (kk : zcont D cA e0 bS nS xS A p l e R s m args below meth c Q L0 ad0 u0 v0 (pc + len) lsv' stv' μ') : zcont D cA e0 bS nS xS A p l e R s m args below meth c Q L0 ad0 u0 v0 pc lsv stv μ := by
  unfold zldI at h
  split at h
  · rename_i x hx
    cases h
    intro L ad H locs ls cells slots hext hrel hl hlv hsv hc hs
    exact row (x := Int32.ofInt x) (zlv_get hl hx (fun q => by cases q)) (kk L ad H locs ls cells slots hext hrel hl hlv (zvok_cons (hlv _ (List.mem_of_getElem? hx)) hsv) hc hs)
  · cases h
theorem zo_ldL {i len : Nat} (h : zldL i lsv stv μ = some (lsv', stv', μ'))
    (row : ∀ {H : Heap} {locs : List Loc} {cells slots : Nat} {ls : Array Slot} {rest : List Value} {x : Int64}, ls[i]? = some (.val (.long x)) → W p l e R s m args below meth c H locs cells slots Q (F0 m (pc + len) ls (.long x :: rest)) → W p l e R s m args below meth c H locs cells slots Q (F0 m pc ls rest))
    (kk : zcont D cA e0 bS nS xS A p l e R s m args below meth c Q L0 ad0 u0 v0 (pc + len) lsv' stv' μ') : zcont D cA e0 bS nS xS A p l e R s m args below meth c Q L0 ad0 u0 v0 pc lsv stv μ := by
  unfold zldL at h
  split at h
  · rename_i x hx
    cases h
    intro L ad H locs ls cells slots hext hrel hl hlv hsv hc hs
    exact row (x := Int64.ofInt x) (zlv_get hl hx (fun q => by cases q)) (kk L ad H locs ls cells slots hext hrel hl hlv (zvok_cons (hlv _ (List.mem_of_getElem? hx)) hsv) hc hs)
  · cases h
/-- what a reference that isn't null is -/
theorem zcv_ref (hz : ∀ k, k < 10 → ∃ q q', e0 4 k = some q ∧ e0 5 k = some q') (ad : Nat → Nat → Nat) {t r o : Nat} (ht : t = 1 ∨ t = 4 ∨ t = 5) (hr : t = 1 ∨ r < 10) : ∃ q : Nat, zcv e0 ad (.inr (.inr (t, r, o))) = .ref q := by
  unfold zcv
  rcases ht with h | h | h
  · exact ⟨ad r o, by simp [h]⟩
  · rcases hr with h1 | h1
    · omega
    · obtain ⟨q, q', a, b⟩ := hz r h1
      exact ⟨q, by simp [h, a, va_rf]⟩
  · rcases hr with h1 | h1
    · omega
    · obtain ⟨q, q', a, b⟩ := hz r h1
      exact ⟨q', by simp [h, b, va_rf]⟩
theorem zo_ldA {i len : Nat} (hz : ∀ k, k < 10 → ∃ q q', e0 4 k = some q ∧ e0 5 k = some q') (h : zldA i lsv stv μ = some (lsv', stv', μ'))
    (row : ∀ {H : Heap} {locs : List Loc} {cells slots : Nat} {ls : Array Slot} {rest : List Value} {x : Nat}, ls[i]? = some (.val (.ref x)) → W p l e R s m args below meth c H locs cells slots Q (F0 m (pc + len) ls (.ref x :: rest)) → W p l e R s m args below meth c H locs cells slots Q (F0 m pc ls rest))
    (kk : zcont D cA e0 bS nS xS A p l e R s m args below meth c Q L0 ad0 u0 v0 (pc + len) lsv' stv' μ') : zcont D cA e0 bS nS xS A p l e R s m args below meth c Q L0 ad0 u0 v0 pc lsv stv μ := by
  unfold zldA at h
  split at h
  · rename_i t r o hx
    split at h
    · rename_i ht
      cases h
      intro L ad H locs ls cells slots hext hrel hl hlv hsv hc hs
      obtain ⟨q, hq⟩ := zcv_ref hz ad (t := t) (r := r) (o := o) (by omega) (by omega)
      have h1 := zlv_get hl hx (fun q => by have := congrArg (fun z : ZV => match z with | .inr (.inr (t, _, _)) => t | _ => 0) q; simp at this; omega)
      rw [hq] at h1
      have k := kk L ad H locs ls cells slots hext hrel hl hlv (zvok_cons (hlv _ (List.mem_of_getElem? hx)) hsv) hc hs
      rw [List.map_cons, hq] at k
      exact row h1 k
    · cases h
  · cases h
theorem zo_stI {i len : Nat} (h : zstI i lsv stv μ = some (lsv', stv', μ'))
    (row : ∀ {H : Heap} {locs : List Loc} {cells slots : Nat} {ls : Array Slot} {rest : List Value} {x : Int32} {nn : Nat} {lv : List (Nat × Value)}, lv_has ls nn lv → i < nn → (∀ ls' : Array Slot, lv_has ls' nn ((i, Value.int x) :: lv.filter (fun q => !(q.1 == i) && !(q.1 + 1 == i && q.2.category == 2))) → W p l e R s m args below meth c H locs cells slots Q (F0 m (pc + len) ls' rest)) → W p l e R s m args below meth c H locs cells slots Q (F0 m pc ls (.int x :: rest)))
    (kk : zcont D cA e0 bS nS xS A p l e R s m args below meth c Q L0 ad0 u0 v0 (pc + len) lsv' stv' μ') : zcont D cA e0 bS nS xS A p l e R s m args below meth c Q L0 ad0 u0 v0 pc lsv stv μ := by
  unfold zstI at h
  split at h
  · split at h
    · rename_i x st0 hi
      cases h
      intro L ad H locs ls cells slots hext hrel hl hlv hsv hc hs
      exact row hl hi fun ls' hl' => kk L ad H locs ls' cells slots hext hrel (zlv_st1 (v := .inl x) hl') (zst1_ok hlv (zvok_head hsv)) (zvok_tail hsv) hc hs
    · cases h
  · cases h
theorem zo_stL {i len : Nat} (h : zstL i lsv stv μ = some (lsv', stv', μ'))
    (row : ∀ {H : Heap} {locs : List Loc} {cells slots : Nat} {ls : Array Slot} {rest : List Value} {x : Int64} {nn : Nat} {lv : List (Nat × Value)}, lv_has ls nn lv → i + 1 < nn → (∀ ls' : Array Slot, lv_has ls' nn ((i, Value.long x) :: lv.filter (fun q => !(q.1 == i) && (!(q.1 == i + 1) && !(q.1 + 1 == i && q.2.category == 2)))) → W p l e R s m args below meth c H locs cells slots Q (F0 m (pc + len) ls' rest)) → W p l e R s m args below meth c H locs cells slots Q (F0 m pc ls (.long x :: rest)))
    (kk : zcont D cA e0 bS nS xS A p l e R s m args below meth c Q L0 ad0 u0 v0 (pc + len) lsv' stv' μ') : zcont D cA e0 bS nS xS A p l e R s m args below meth c Q L0 ad0 u0 v0 pc lsv stv μ := by
  unfold zstL at h
  split at h
  · split at h
    · rename_i x st0 hi
      cases h
      intro L ad H locs ls cells slots hext hrel hl hlv hsv hc hs
      exact row hl hi fun ls' hl' => kk L ad H locs ls' cells slots hext hrel (zlv_st2 (v := .inr (.inl x)) hi hl') (zst2_ok hlv (zvok_head hsv)) (zvok_tail hsv) hc hs
    · cases h
  · cases h
theorem zo_stA {i len : Nat} (h : zstA i lsv stv μ = some (lsv', stv', μ'))
    (row : ∀ {H : Heap} {locs : List Loc} {cells slots : Nat} {ls : Array Slot} {rest : List Value} {x : Nat} {nn : Nat} {lv : List (Nat × Value)}, lv_has ls nn lv → i < nn → (∀ ls' : Array Slot, lv_has ls' nn ((i, Value.ref x) :: lv.filter (fun q => !(q.1 == i) && !(q.1 + 1 == i && q.2.category == 2))) → W p l e R s m args below meth c H locs cells slots Q (F0 m (pc + len) ls' rest)) → W p l e R s m args below meth c H locs cells slots Q (F0 m pc ls (.ref x :: rest)))
    (kk : zcont D cA e0 bS nS xS A p l e R s m args below meth c Q L0 ad0 u0 v0 (pc + len) lsv' stv' μ') : zcont D cA e0 bS nS xS A p l e R s m args below meth c Q L0 ad0 u0 v0 pc lsv stv μ := by
  unfold zstA at h
  split at h
  · split at h
    · rename_i t r o st0 hi
      obtain ⟨hi, rfl⟩ := hi
      cases h
      intro L ad H locs ls cells slots hext hrel hl hlv hsv hc hs
      have e1 : zcv e0 ad (.inr (.inr (1, r, o))) = .ref (ad r o) := rfl
      rw [List.map_cons, e1]
      exact row hl hi fun ls' hl' => kk L ad H locs ls' cells slots hext hrel (zlv_st1 (v := .inr (.inr (1, r, o))) hl') (zst1_ok hlv (zvok_head hsv)) (zvok_tail hsv) hc hs
    · cases h
  · cases h
end ZO
end
section
/-! reads and writes of the heap -/
section ZH
variable {D : va_G} {cA : Nat → ClassId} {e0 : Nat → Nat → Option Nat} {bS nS : Nat} {xS : Nat → Int} {A : Nat → Prop} {p : Program} {l : Launch} {e : Env} {R : Room} {s : State} {m : MethodId} {args : Array Value} {below : List Frame} {meth : Method} {c : Code} {Q : State → Prop} {L0 : List (Nat × Nat)} {ad0 : Nat → Nat → Nat} {u0 v0 : Nat}
variable {own nm : String} {cc : ByteArray} {nL pc : Nat} {lsv stv lsv' stv' : List ZV} {μ μ' : ZM}
theorem zws_get {ad : Nat → Nat → Nat} {κ : ZK} {f : ZF} {a : ZA} {L : List (Nat × Nat)} {i r o : Nat} (h : L[i]? = some (r, o)) : (zws cA e0 ad κ f a L)[i]? = some (ad r o, zcell cA e0 ad κ f a r o) := by
  unfold zws
  rw [List.getElem?_map, h]
  rfl
theorem zws_set {ad : Nat → Nat → Nat} {κ : ZK} {f f' : ZF} {a a' : ZA} {L : List (Nat × Nat)} {i r o : Nat} (hn : L.Nodup) (h : L[i]? = some (r, o)) (hq : ∀ r' o', ¬ (r' = r ∧ o' = o) → zcell cA e0 ad κ f' a' r' o' = zcell cA e0 ad κ f a r' o') :
    (zws cA e0 ad κ f a L).set i (ad r o, zcell cA e0 ad κ f' a' r o) = zws cA e0 ad κ f' a' L := by
  apply List.ext_getElem?
  intro j
  have hi : i < L.length := (List.getElem?_eq_some_iff.mp h).1
  by_cases hj : i = j
  · subst hj
    rw [List.getElem?_set_self (by simpa [zws] using hi), zws_get h]
  · rw [List.getElem?_set_ne hj]
    unfold zws
    rw [List.getElem?_map, List.getElem?_map]
    cases hl : L[j]? with
    | none => rfl
    | some q =>
      have hne : ¬ (q.1 = r ∧ q.2 = o) := by
        intro ⟨h1, h2⟩
        have e1 : L[j]? = some (r, o) := by rw [hl]; exact congrArg some (Prod.ext h1 h2)
        have h3 := (List.getElem?_inj (j := j) hi hn).mp (by rw [h, e1])
        exact hj h3
      simp only [Option.map_some]
      rw [hq q.1 q.2 hne]
theorem zRel_place {L : List (Nat × Nat)} {ad : Nat → Nat → Nat} {κ : ZK} {f : ZF} {a : ZA} {H : Heap} {locs : List Loc} (h : zRel D cA e0 bS nS xS A s L ad κ f a H locs) {r o k n : Nat} (hk : κ r o = some (k, n)) (h6 : k ≠ 6) : ∃ i : Nat, L[i]? = some (r, o) :=
  List.getElem?_of_mem ((h.2.2.2.2.1 r o).mpr ⟨k, n, hk, h6⟩)
theorem zTY_at (k : Nat) (h : k ≤ 5) : ∃ ty, (zTY cA)[k]? = some (cA k, ty) := by
  match k, h with
  | 0, _ => exact ⟨_, rfl⟩
  | 1, _ => exact ⟨_, rfl⟩
  | 2, _ => exact ⟨_, rfl⟩
  | 3, _ => exact ⟨_, rfl⟩
  | 4, _ => exact ⟨_, rfl⟩
  | 5, _ => exact ⟨_, rfl⟩
/-- a write of a number into a row -/
theorem zRel_wr {L : List (Nat × Nat)} {ad : Nat → Nat → Nat} {κ : ZK} {f : ZF} {a : ZA} {H H1 : Heap} {locs locs1 : List Loc} (h : zRel D cA e0 bS nS xS A s L ad κ f a H locs) {r o k n i : Nat} {x : Int} (hk : κ r o = some (k, n)) (h6 : k ≠ 6) {q : Nat} (hq : L[q]? = some (r, o))
    (hx : (k ≤ 2 → zI32 x ∧ (k = 1 → x = 0 ∨ x = 1)) ∧ (k = 3 → zI64 x)) (hP : va_P D vwCl ((zws cA e0 ad κ f a L).set q (ad r o, zcell cA e0 ad κ f (zua a r o i x) r o)) H1) (hD : va_D A ((zws cA e0 ad κ f a L).set q (ad r o, zcell cA e0 ad κ f (zua a r o i x) r o))) (hS : va_S A s.heap H1 locs1) : zRel D cA e0 bS nS xS A s L ad κ f (zua a r o i x) H1 locs1 := by
  obtain ⟨h1, h2, h3, h4, h5, h6', h7⟩ := h
  have e1 : (zws cA e0 ad κ f a L).set q (ad r o, zcell cA e0 ad κ f (zua a r o i x) r o) = zws cA e0 ad κ f (zua a r o i x) L := by
    refine zws_set h4 hq fun r' o' hne => ?_
    unfold zcell zua
    have : ∀ j, ¬ (r' = r ∧ o' = o ∧ j = i) := fun j z => hne ⟨z.1, z.2.1⟩
    simp only [this, if_false]
  rw [e1] at hP hD
  refine ⟨hP, hD, hS, h4, h5, fun r' o' k' n' hk' => ?_, h7⟩
  obtain ⟨g1, g2, g3, g4⟩ := h6' r' o' k' n' hk'
  by_cases hrr : r' = r ∧ o' = o
  · obtain ⟨rfl, rfl⟩ := hrr
    rw [hk] at hk'
    cases hk'
    refine ⟨fun hz j => ?_, fun hz j => ?_, g3, fun hz => absurd hz h6⟩
    · by_cases hj : j = i
      · unfold zua; simp only [hj, and_self, if_true]; exact hx.1 (by omega)
      · unfold zua; simp only [hj, and_false, if_false]; exact g1 hz j
    · by_cases hj : j = i
      · unfold zua; simp only [hj, and_self, if_true]; exact hx.2 hz
      · unfold zua; simp only [hj, and_false, if_false]; exact g2 hz j
  · have : ∀ j, zua a r o i x r' o' j = a r' o' j := fun j => by
      unfold zua
      rw [if_neg (fun z => hrr ⟨z.1, z.2.1⟩)]
    exact ⟨fun hz j => by rw [this]; exact g1 hz j, fun hz j => by rw [this]; exact g2 hz j, g3, fun hz => ⟨(g4 hz).1, (g4 hz).2.1, fun j => by rw [this]; exact (g4 hz).2.2 j⟩⟩
/-- a write of a value into a field or a row of references -/
theorem zRel_wf {L : List (Nat × Nat)} {ad : Nat → Nat → Nat} {κ : ZK} {f : ZF} {a : ZA} {H H1 : Heap} {locs locs1 : List Loc} (h : zRel D cA e0 bS nS xS A s L ad κ f a H locs) {r o k n i : Nat} {v : ZV} (hk : κ r o = some (k, n)) (h6 : k ≠ 6) {q : Nat} (hq : L[q]? = some (r, o))
    (hx : zvok κ v) (hv : k = 4 ∨ k = 5 → ∃ t r' o', v = .inr (.inr (t, r', o')) ∧ t ≤ 1) (hP : va_P D vwCl ((zws cA e0 ad κ f a L).set q (ad r o, zcell cA e0 ad κ (zuf f r o i v) a r o)) H1) (hD : va_D A ((zws cA e0 ad κ f a L).set q (ad r o, zcell cA e0 ad κ (zuf f r o i v) a r o))) (hS : va_S A s.heap H1 locs1) : zRel D cA e0 bS nS xS A s L ad κ (zuf f r o i v) a H1 locs1 := by
  obtain ⟨h1, h2, h3, h4, h5, h6', h7⟩ := h
  have e1 : (zws cA e0 ad κ f a L).set q (ad r o, zcell cA e0 ad κ (zuf f r o i v) a r o) = zws cA e0 ad κ (zuf f r o i v) a L := by
    refine zws_set h4 hq fun r' o' hne => ?_
    unfold zcell zuf
    have : ∀ j, ¬ (r' = r ∧ o' = o ∧ j = i) := fun j z => hne ⟨z.1, z.2.1⟩
    simp only [this, if_false]
  rw [e1] at hP hD
  have hz : ∀ r' o' j, (zuf f r o i v r' o' j = v ∧ r' = r ∧ o' = o) ∨ zuf f r o i v r' o' j = f r' o' j := fun r' o' j => by
    unfold zuf
    by_cases hc : r' = r ∧ o' = o ∧ j = i
    · left; rw [if_pos hc]; exact ⟨rfl, hc.1, hc.2.1⟩
    · right; rw [if_neg hc]
  refine ⟨hP, hD, hS, h4, h5, fun r' o' k' n' hk' => ?_, fun r' o' j => ?_⟩
  · obtain ⟨g1, g2, g3, g4⟩ := h6' r' o' k' n' hk'
    refine ⟨g1, g2, fun hz4 j => ?_, g4⟩
    rcases hz r' o' j with ⟨e2, rfl, rfl⟩ | e2
    · rw [e2]
      rw [hk] at hk'
      cases hk'
      exact hv hz4
    · rw [e2]; exact g3 hz4 j
  · rcases hz r' o' j with ⟨e2, -, -⟩ | e2
    · rw [e2]; exact hx
    · rw [e2]; exact h7 r' o' j
theorem zcell_n {ad : Nat → Nat → Nat} {κ : ZK} {f : ZF} {a : ZA} {r o k n : Nat} (hk : κ r o = some (k, n)) (h : k ≤ 2) : zcell cA e0 ad κ f a r o = .inl (cA k, n, .inl fun j => Int32.ofInt (a r o j)) := by
  unfold zcell; simp only [hk, if_pos h]
theorem zcell_l {ad : Nat → Nat → Nat} {κ : ZK} {f : ZF} {a : ZA} {r o n : Nat} (hk : κ r o = some (3, n)) : zcell cA e0 ad κ f a r o = .inl (cA 3, n, .inr (.inl fun j => Int64.ofInt (a r o j))) := by
  unfold zcell; simp only [hk]; rfl
theorem zcell_q {ad : Nat → Nat → Nat} {κ : ZK} {f : ZF} {a : ZA} {r o k n : Nat} (hk : κ r o = some (k, n)) (h : k = 4 ∨ k = 5) : zcell cA e0 ad κ f a r o = .inl (cA k, n, .inr (.inr (.inr (.inr fun j => zop1 ad (f r o j))))) := by
  unfold zcell; rcases h with rfl | rfl <;> simp only [hk] <;> rfl
theorem zcell_o {ad : Nat → Nat → Nat} {κ : ZK} {f : ZF} {a : ZA} {r o k n : Nat} (hk : κ r o = some (k + 10, n)) : zcell cA e0 ad κ f a r o = .inr (k, (List.range n).map fun j => zcv e0 ad (f r o j)) := by
  unfold zcell
  simp only [hk]
  rw [if_neg (by omega), if_neg (by omega), if_neg (by omega)]
  rfl
theorem zo_iald (F : zFr D cA e0 bS nS xS A p s m args meth c own nm cc nL) (hdg : decode cc pc = .ok (.iaload, 1)) (h : zaldN 0 false stv lsv μ = some (lsv', stv', μ'))
    (kk : zcont D cA e0 bS nS xS A p l e R s m args below meth c Q L0 ad0 u0 v0 (pc + 1) lsv' stv' μ') : zcont D cA e0 bS nS xS A p l e R s m args below meth c Q L0 ad0 u0 v0 pc lsv stv μ := by
  obtain ⟨hx, hb, hml, hown, hts, hE, hRO, hlk, hnm, hA⟩ := F
  unfold zaldN at h
  split at h
  · rename_i i t r o st0
    split at h
    · rename_i k n hk
      split at h
      · rename_i hc0
        cases h
        intro L ad H locs ls cells slots hext hrel hl hlv hsv hc hs
        obtain ⟨hi, hn⟩ := zin (zvok_head hsv) hc0.2.1 hc0.2.2
        have e1 : zcv e0 ad (.inr (.inr (1, r, o))) = .ref (ad r o) := rfl
        have hok := hrel.2.2.2.2.2.1 r o k n hk
        have kx := kk L ad H locs ls cells slots hext hrel hl hlv (zvok_cons (show zI32 _ from (hok.1 (by omega) i.toNat).1) (zvok_tail (zvok_tail hsv))) hc hs
        simp only [List.map_cons, cond_false] at kx ⊢
        rw [e1]
        by_cases h6 : k = 6
        · obtain ⟨q1, q2, q3⟩ := hok.2.2.2 h6
          rw [q1]
          refine va_sld hx hb (xs := fun j => Int32.ofInt (xS j)) hRO.2.2.2.1 hRO.2.2.2.2.1 hRO.2.2.2.2.2 hrel.2.2.1 (L := nS) (by rw [← q2]; exact hi) hdg ?_
          rw [hn, ← q3]
          exact kx
        · have h0 : k = 0 := by omega
          subst h0
          obtain ⟨q, hq⟩ := zRel_place hrel hk (by omega)
          have hg := zws_get (cA := cA) (e0 := e0) (ad := ad) (κ := μ.1) (f := μ.2.1) (a := μ.2.2.1) hq
          rw [zcell_n hk (by omega)] at hg
          refine va_iald (D := D) (cl := vwCl) hx hb hE.1 hrel.1 q 0 hg rfl hi hdg ?_
          rw [hn]
          exact kx
      · cases h
    · cases h
  · cases h
theorem zo_lald (F : zFr D cA e0 bS nS xS A p s m args meth c own nm cc nL) (hdg : decode cc pc = .ok (.laload, 1)) (h : zaldN 3 true stv lsv μ = some (lsv', stv', μ'))
    (kk : zcont D cA e0 bS nS xS A p l e R s m args below meth c Q L0 ad0 u0 v0 (pc + 1) lsv' stv' μ') : zcont D cA e0 bS nS xS A p l e R s m args below meth c Q L0 ad0 u0 v0 pc lsv stv μ := by
  obtain ⟨hx, hb, hml, hown, hts, hE, hRO, hlk, hnm, hA⟩ := F
  unfold zaldN at h
  split at h
  · rename_i i t r o st0
    split at h
    · rename_i k n hk
      split at h
      · rename_i hc0
        cases h
        intro L ad H locs ls cells slots hext hrel hl hlv hsv hc hs
        obtain ⟨hi, hn⟩ := zin (zvok_head hsv) hc0.2.1 hc0.2.2
        have e1 : zcv e0 ad (.inr (.inr (1, r, o))) = .ref (ad r o) := rfl
        have hok := hrel.2.2.2.2.2.1 r o k n hk
        have h0 : k = 3 := by omega
        subst h0
        have kx := kk L ad H locs ls cells slots hext hrel hl hlv (zvok_cons (show zI64 _ from hok.2.1 rfl i.toNat) (zvok_tail (zvok_tail hsv))) hc hs
        simp only [List.map_cons, cond_true] at kx ⊢
        rw [e1]
        obtain ⟨q, hq⟩ := zRel_place hrel hk (by omega)
        have hg := zws_get (cA := cA) (e0 := e0) (ad := ad) (κ := μ.1) (f := μ.2.1) (a := μ.2.2.1) hq
        rw [zcell_l hk] at hg
        refine va_lald (D := D) (cl := vwCl) hx hb hE.1 hrel.1 q 3 hg rfl hi hdg ?_
        rw [hn]
        exact kx
      · cases h
    · cases h
  · cases h
theorem zo_aald (F : zFr D cA e0 bS nS xS A p s m args meth c own nm cc nL) (hn0 : ∀ r, e0 0 r = none) (hdg : decode cc pc = .ok (.aaload, 1)) (h : zaald stv lsv μ = some (lsv', stv', μ'))
    (kk : zcont D cA e0 bS nS xS A p l e R s m args below meth c Q L0 ad0 u0 v0 (pc + 1) lsv' stv' μ') : zcont D cA e0 bS nS xS A p l e R s m args below meth c Q L0 ad0 u0 v0 pc lsv stv μ := by
  obtain ⟨hx, hb, hml, hown, hts, hE, hRO, hlk, hnm, hA⟩ := F
  unfold zaald at h
  split at h
  · rename_i i t r o st0
    split at h
    · rename_i k n hk
      split at h
      · rename_i hc0
        cases h
        intro L ad H locs ls cells slots hext hrel hl hlv hsv hc hs
        obtain ⟨hi, hn⟩ := zin (zvok_head hsv) hc0.2.1 hc0.2.2
        have e1 : zcv e0 ad (.inr (.inr (1, r, o))) = .ref (ad r o) := rfl
        have hok := hrel.2.2.2.2.2.1 r o k n hk
        have kx := kk L ad H locs ls cells slots hext hrel hl hlv (zvok_cons (hrel.2.2.2.2.2.2 r o i.toNat) (zvok_tail (zvok_tail hsv))) hc hs
        simp only [List.map_cons] at kx ⊢
        rw [e1]
        obtain ⟨q, hq⟩ := zRel_place hrel hk (by omega)
        have hg := zws_get (cA := cA) (e0 := e0) (ad := ad) (κ := μ.1) (f := μ.2.1) (a := μ.2.2.1) hq
        rw [zcell_q hk hc0.1] at hg
        obtain ⟨t, r', o', e2, ht⟩ := hok.2.2.1 hc0.1 i.toNat
        have e3 : zcv e0 ad (μ.2.1 r o i.toNat) = va_rf (zop1 ad (μ.2.1 r o i.toNat)) := by
          rw [e2]
          unfold zcv zop1
          by_cases h1 : t = 1
          · simp [h1, va_rf]
          · have h0 : t = 0 := by omega
            simp [h0, hn0]
        rw [e3] at kx
        rcases hc0.1 with rfl | rfl
        · refine va_aldq (D := D) (cl := vwCl) hx hb hE.1 hrel.1 q 4 hg rfl hi hdg ?_
          rw [hn]
          exact kx
        · have hlt : (Int32.ofInt i).toNatClampNeg < n := Nat.not_le.mp fun q => hi (Or.inr q)
          refine W.aald (v := va_rf (zop1 ad (μ.2.1 r o i.toNat))) (ty := .array .long) hx hb (hrel.1 q _ hg) ((hE.1.2 5 _ rfl).1 n (fun j => va_rf (zop1 ad (μ.2.1 r o j)))) rfl (fun q => by cases q) (by show ¬ (_ < 0 ∨ (arrV _ _ _).slots.size ≤ _); rw [arrV_size]; exact hi) (by show (arrV _ _ _).slots[_]? = _; rw [arrV_read _ _ hlt, hn]) rfl rfl hdg kx
      · cases h
    · cases h
  · cases h
end ZH
end
section
/-! the classes' tables; fields; stores into rows -/
def zcl (ci : Nat) : vw_C := vwCl.getD ci (RX12, TX12, 69)
def zty (ci : Nat) : Nat → FieldType := match ci with
  | 0 => tyX0
  | 1 => tyX1
  | 2 => tyX2
  | 3 => tyX3
  | 4 => tyX4
  | 5 => tyX5
  | 6 => tyX6
  | 7 => tyX7
  | 8 => tyX8
  | 9 => tyX9
  | 10 => tyX10
  | 11 => tyX11
  | _ => tyX12
theorem zcl_at {ci : Nat} (h : ci < 13) : vwCl[ci]? = some (zcl ci) := by
  match ci, h with
  | 0, _ => rfl
  | 1, _ => rfl
  | 2, _ => rfl
  | 3, _ => rfl
  | 4, _ => rfl
  | 5, _ => rfl
  | 6, _ => rfl
  | 7, _ => rfl
  | 8, _ => rfl
  | 9, _ => rfl
  | 10, _ => rfl
  | 11, _ => rfl
  | 12, _ => rfl
theorem zty_ok {ci : Nat} (h : ci < 13) : ∀ k, k < (zcl ci).2.2 → parseFieldDescriptor ((zcl ci).2.1 k).2.2.1 = some (zty ci k) := by
  match ci, h with
  | 0, _ => exact tyX0_ok
  | 1, _ => exact tyX1_ok
  | 2, _ => exact tyX2_ok
  | 3, _ => exact tyX3_ok
  | 4, _ => exact tyX4_ok
  | 5, _ => exact tyX5_ok
  | 6, _ => exact tyX6_ok
  | 7, _ => exact tyX7_ok
  | 8, _ => exact tyX8_ok
  | 9, _ => exact tyX9_ok
  | 10, _ => exact tyX10_ok
  | 11, _ => exact tyX11_ok
  | 12, _ => exact tyX12_ok
theorem znm_ok {ci : Nat} (h : ci < 13) : ∀ a, a < (zcl ci).2.2 → ∀ b, b < (zcl ci).2.2 → a ≠ b → ((zcl ci).2.1 a).2.1 ≠ ((zcl ci).2.1 b).2.1 := by
  match ci, h with
  | 0, _ => exact nmX0
  | 1, _ => exact nmX1
  | 2, _ => exact nmX2
  | 3, _ => exact nmX3
  | 4, _ => exact nmX4
  | 5, _ => exact nmX5
  | 6, _ => exact nmX6
  | 7, _ => exact nmX7
  | 8, _ => exact nmX8
  | 9, _ => exact nmX9
  | 10, _ => exact nmX10
  | 11, _ => exact nmX11
  | 12, _ => exact nmX12
set_option maxRecDepth 100000 in
theorem zin_a : ∀ w ∈ wsX00 ++ wsX10 ++ wsX20 ++ wsX30 ++ wsX40 ++ wsX50 ++ wsX60, w ∈ lw_tbl := by decide +kernel
set_option maxRecDepth 100000 in
theorem zin_b : ∀ w ∈ wsX70 ++ wsX80 ++ wsX90 ++ wsX100 ++ wsX110, w ∈ lw_tbl := by decide +kernel
set_option maxRecDepth 100000 in
theorem zin_c : ∀ w ∈ wsX120, w ∈ lw_tbl := by decide +kernel
theorem u_ws_good {C : String} {T : u_T} {N : Nat} : ∀ w ∈ u_ws C T N, goodWord w = true := by
  intro w hw
  obtain ⟨k, -, rfl⟩ := List.mem_map.mp hw
  unfold u_lay
  split <;> rfl
theorem zcl_in {ci : Nat} (h : ci < 13) : ∀ w ∈ u_ws (zcl ci).1 (zcl ci).2.1 (zcl ci).2.2, w ∈ zgood := by
  intro w hw
  refine List.mem_filter.mpr ⟨?_, u_ws_good w hw⟩
  match ci, h with
  | 0, _ => exact zin_a w (by simp only [List.mem_append]; exact Or.inl (Or.inl (Or.inl (Or.inl (Or.inl (Or.inl hw))))))
  | 1, _ => exact zin_a w (by simp only [List.mem_append]; exact Or.inl (Or.inl (Or.inl (Or.inl (Or.inl (Or.inr hw))))))
  | 2, _ => exact zin_a w (by simp only [List.mem_append]; exact Or.inl (Or.inl (Or.inl (Or.inl (Or.inr hw)))))
  | 3, _ => exact zin_a w (by simp only [List.mem_append]; exact Or.inl (Or.inl (Or.inl (Or.inr hw))))
  | 4, _ => exact zin_a w (by simp only [List.mem_append]; exact Or.inl (Or.inl (Or.inr hw)))
  | 5, _ => exact zin_a w (by simp only [List.mem_append]; exact Or.inl (Or.inr hw))
  | 6, _ => exact zin_a w (by simp only [List.mem_append]; exact Or.inr hw)
  | 7, _ => exact zin_b w (by simp only [List.mem_append]; exact Or.inl (Or.inl (Or.inl (Or.inl hw))))
  | 8, _ => exact zin_b w (by simp only [List.mem_append]; exact Or.inl (Or.inl (Or.inl (Or.inr hw))))
  | 9, _ => exact zin_b w (by simp only [List.mem_append]; exact Or.inl (Or.inl (Or.inr hw)))
  | 10, _ => exact zin_b w (by simp only [List.mem_append]; exact Or.inl (Or.inr hw))
  | 11, _ => exact zin_b w (by simp only [List.mem_append]; exact Or.inr hw)
  | 12, _ => exact zin_c w hw
end
section
/-! fields; stores into rows -/
section ZG
variable {D : va_G} {cA : Nat → ClassId} {e0 : Nat → Nat → Option Nat} {bS nS : Nat} {xS : Nat → Int} {A : Nat → Prop} {p : Program} {l : Launch} {e : Env} {R : Room} {s : State} {m : MethodId} {args : Array Value} {below : List Frame} {meth : Method} {c : Code} {Q : State → Prop} {L0 : List (Nat × Nat)} {ad0 : Nat → Nat → Nat} {u0 v0 : Nat}
variable {own nm : String} {cc : ByteArray} {nL pc : Nat} {lsv stv lsv' stv' : List ZV} {μ μ' : ZM}
theorem zo_get (F : zFr D cA e0 bS nS xS A p s m args meth c own nm cc nL) {idx ci k : Nat} (hci : ci < 13) (hk : k < (zcl ci).2.2) (hlink : Cond.fieldLink own idx ((zcl ci).2.1 k).1 ((zcl ci).2.1 k).2.1 ((zcl ci).2.1 k).2.2.1 ∈ zgood) (hdg : decode cc pc = .ok (.getfield idx, 3))
    {r o n : Nat} {st0 : List ZV} (hκ : μ.1 r o = some (ci + 10, n)) (hkn : k < n)
    (kk : zcont D cA e0 bS nS xS A p l e R s m args below meth c Q L0 ad0 u0 v0 (pc + 3) lsv (μ.2.1 r o k :: st0) μ) : zcont D cA e0 bS nS xS A p l e R s m args below meth c Q L0 ad0 u0 v0 pc lsv (.inr (.inr (1, r, o)) :: st0) μ := by
  obtain ⟨hx, hb, hml, hown, hts, hE, hRO, hlk, hnm, hA⟩ := F
  intro L ad H locs ls cells slots hext hrel hl hlv hsv hc hs
  have kx := kk L ad H locs ls cells slots hext hrel hl hlv (zvok_cons (hrel.2.2.2.2.2.2 r o k) (zvok_tail hsv)) hc hs
  have e1 : zcv e0 ad (.inr (.inr (1, r, o))) = .ref (ad r o) := rfl
  rw [List.map_cons] at kx ⊢
  rw [e1]
  obtain ⟨q, hq⟩ := zRel_place hrel hκ (by omega)
  have hg := zws_get (cA := cA) (e0 := e0) (ad := ad) (κ := μ.1) (f := μ.2.1) (a := μ.2.2.1) hq
  rw [zcell_o hκ] at hg
  refine va_get (D := D) (cl := vwCl) (ci := ci) (C := (zcl ci).1) (T := (zcl ci).2.1) (N := (zcl ci).2.2) hx hb hts (zcl_in hci) hown hE.1 hrel.1 q hg (zcl_at hci) k hk (hts _ hlink) (fun _ h9 => h9) (v := zcv e0 ad (μ.2.1 r o k)) ?_ hdg kx
  rw [List.getElem?_map, List.getElem?_range hkn]
  rfl
theorem zfits_ok {ci k : Nat} (hci : ci < 13) {ad : Nat → Nat → Nat} {v : ZV} (hv : zfits (zsrt ci k) v = true) (hok : ∀ n, v = .inl n → zI32 n) (hs2 : zsrt ci k = 2 → ∀ x : Nat, narrow (zty ci k) (.ref x) = .ref x ∧ fits (zty ci k) (.ref x) = true) (hs0 : zsrt ci k = 0 → zty ci k = .int) (hs1 : zsrt ci k = 1 → zty ci k = .boolean) : narrow (zty ci k) (zcv e0 ad v) = zcv e0 ad v ∧ fits (zty ci k) (zcv e0 ad v) = true := by
  rcases v with n | n | ⟨t, r, o⟩
  · simp only [zfits, Bool.or_eq_true, Bool.and_eq_true, beq_iff_eq] at hv
    rcases hv with hv | ⟨hv, hz⟩
    · rw [hs0 hv]; exact ⟨rfl, rfl⟩
    · rw [hs1 hv]
      rcases hz with rfl | rfl
      · show narrow .boolean (.int (Int32.ofInt 0)) = .int (Int32.ofInt 0) ∧ fits .boolean (.int (Int32.ofInt 0)) = true
        exact ⟨by rfl, by decide⟩
      · show narrow .boolean (.int (Int32.ofInt 1)) = .int (Int32.ofInt 1) ∧ fits .boolean (.int (Int32.ofInt 1)) = true
        exact ⟨by rfl, by decide⟩
  · cases hv
  · simp only [zfits, Bool.and_eq_true, beq_iff_eq] at hv
    obtain ⟨h2, rfl⟩ := hv
    exact hs2 h2 (ad r o)
/-- the sorts are the types' own -/
def zsok (ci : Nat) : Bool := (List.range (zcl ci).2.2).all fun k => match zty ci k with
  | .int => zsrt ci k == 0
  | .boolean => zsrt ci k == 1
  | .object _ => zsrt ci k == 2
  | .array _ => zsrt ci k == 2
  | _ => false
theorem zsok_all : (List.range 13).all zsok = true := by decide +kernel
theorem zsok_at {ci k : Nat} (hci : ci < 13) (hk : k < (zcl ci).2.2) : (zsrt ci k = 2 → ∀ x : Nat, narrow (zty ci k) (.ref x) = .ref x ∧ fits (zty ci k) (.ref x) = true) ∧ (zsrt ci k = 0 → zty ci k = .int) ∧ (zsrt ci k = 1 → zty ci k = .boolean) := by
  have h1 := List.all_eq_true.mp zsok_all ci (List.mem_range.mpr hci)
  have h2 := List.all_eq_true.mp h1 k (List.mem_range.mpr hk)
  revert h2
  cases hty : zty ci k <;> intro h2 <;> simp only [beq_iff_eq] at h2 <;> first
    | (rw [h2]; exact ⟨fun z => absurd z (by decide), fun _ => rfl, fun z => absurd z (by decide)⟩)
    | (rw [h2]; exact ⟨fun z => absurd z (by decide), fun z => absurd z (by decide), fun _ => rfl⟩)
    | (rw [h2]; exact ⟨fun _ x => ⟨rfl, rfl⟩, fun z => absurd z (by decide), fun z => absurd z (by decide)⟩)
    | cases h2
theorem zset_range {r o k n : Nat} {f : ZF} {v : ZV} {ad : Nat → Nat → Nat} (hk : k < n) : ((List.range n).map fun j => zcv e0 ad (f r o j)).set k (zcv e0 ad v) = (List.range n).map fun j => zcv e0 ad (zuf f r o k v r o j) := by
  apply List.ext_getElem?
  intro j
  by_cases hj : k = j
  · subst hj
    rw [List.getElem?_set_self (by simpa using hk), List.getElem?_map, List.getElem?_range hk]
    simp [zuf]
  · rw [List.getElem?_set_ne hj, List.getElem?_map, List.getElem?_map]
    by_cases h2 : j < n
    · rw [List.getElem?_range h2]
      simp [zuf, Ne.symm hj]
    · rw [List.getElem?_eq_none (by simpa using h2)]
      rfl
theorem zo_put (F : zFr D cA e0 bS nS xS A p s m args meth c own nm cc nL) {idx ci k : Nat} (hci : ci < 13) (hk : k < (zcl ci).2.2) (hlink : Cond.fieldLink own idx ((zcl ci).2.1 k).1 ((zcl ci).2.1 k).2.1 ((zcl ci).2.1 k).2.2.1 ∈ zgood)
    (hfin : ((zcl ci).2.1 k).2.2.2 = true → nm = "<init>" ∧ ((zcl ci).2.1 k).1 = own) (hdg : decode cc pc = .ok (.putfield idx, 3))
    {r o n : Nat} {st0 : List ZV} {v : ZV} (hκ : μ.1 r o = some (ci + 10, n)) (hkn : k < n) (hv : zfits (zsrt ci k) v = true)
    (kk : zcont D cA e0 bS nS xS A p l e R s m args below meth c Q L0 ad0 u0 v0 (pc + 3) lsv st0 (μ.1, zuf μ.2.1 r o k v, μ.2.2)) : zcont D cA e0 bS nS xS A p l e R s m args below meth c Q L0 ad0 u0 v0 pc lsv (v :: .inr (.inr (1, r, o)) :: st0) μ := by
  obtain ⟨hx, hb, hml, hown, hts, hE, hRO, hlk, hnm, hA⟩ := F
  intro L ad H locs ls cells slots hext hrel hl hlv hsv hc hs
  have e1 : zcv e0 ad (.inr (.inr (1, r, o))) = .ref (ad r o) := rfl
  rw [List.map_cons, List.map_cons, e1]
  obtain ⟨q, hq⟩ := zRel_place hrel hκ (by omega)
  have hg := zws_get (cA := cA) (e0 := e0) (ad := ad) (κ := μ.1) (f := μ.2.1) (a := μ.2.2.1) hq
  rw [zcell_o hκ] at hg
  obtain ⟨s2, s0, s1⟩ := zsok_at hci hk
  obtain ⟨f1, f2⟩ := zfits_ok (e0 := e0) (ad := ad) hci hv (fun n e2 => by have := zvok_head hsv; rw [e2] at this; exact this) s2 s0 s1
  have hgo : ∀ (H1 : Heap) (locs1 : List Loc), va_P D vwCl ((zws cA e0 ad μ.1 μ.2.1 μ.2.2.1 L).set q (ad r o, .inr (ci, ((List.range n).map fun j => zcv e0 ad (μ.2.1 r o j)).set k (zcv e0 ad v)))) H1 → va_D A ((zws cA e0 ad μ.1 μ.2.1 μ.2.2.1 L).set q (ad r o, .inr (ci, ((List.range n).map fun j => zcv e0 ad (μ.2.1 r o j)).set k (zcv e0 ad v)))) → va_S A s.heap H1 locs1 → W p l e R s m args below meth c H1 locs1 cells slots Q (F0 m (pc + 3) ls (st0.map (zcv e0 ad))) := by
    intro H1 locs1 hP1 hD1 hS1
    rw [zset_range hkn, ← zcell_o (cA := cA) (e0 := e0) (ad := ad) (f := zuf μ.2.1 r o k v) (a := μ.2.2.1) hκ] at hP1 hD1
    exact kk L ad H1 locs1 ls cells slots hext (zRel_wf hrel hκ (by omega) hq (zvok_head hsv) (fun z => by omega) hP1 hD1 hS1) hl hlv (zvok_tail (zvok_tail hsv)) hc hs
  by_cases hf : ((zcl ci).2.1 k).2.2.2 = true
  · obtain ⟨g1, g2⟩ := hfin hf
    exact va_putF (D := D) (cl := vwCl) (ci := ci) (C := (zcl ci).1) (T := (zcl ci).2.1) (N := (zcl ci).2.2) hx hb hts (zcl_in hci) (zty ci) (zty_ok hci) (znm_ok hci) hown hE.1 hrel.1 hrel.2.1 hrel.2.2.1 q hg (zcl_at hci) k hk (hts _ hlink) (fun _ h9 => h9) hf (hnm.trans g1) g2 (zty_ok hci k hk) f1 f2 (by simpa using hkn) hdg hgo
  · exact va_put (D := D) (cl := vwCl) (ci := ci) (C := (zcl ci).1) (T := (zcl ci).2.1) (N := (zcl ci).2.2) hx hb hts (zcl_in hci) (zty ci) (zty_ok hci) (znm_ok hci) hown hE.1 hrel.1 hrel.2.1 hrel.2.2.1 q hg (zcl_at hci) k hk (hts _ hlink) (fun _ h9 => h9) (by simpa using hf) (zty_ok hci k hk) f1 f2 (by simpa using hkn) hdg hgo
theorem upd_zua {a : ZA} {r o i : Nat} {x : Int} : upd (fun j => Int32.ofInt (a r o j)) i (Int32.ofInt x) = fun j => Int32.ofInt (zua a r o i x r o j) := by
  funext j
  by_cases hj : j = i
  · subst hj; simp [upd, zua]
  · simp [upd, zua, hj]
theorem updL_zua {a : ZA} {r o i : Nat} {x : Int} : vp_updL (fun j => Int64.ofInt (a r o j)) i (Int64.ofInt x) = fun j => Int64.ofInt (zua a r o i x r o j) := by
  funext j
  by_cases hj : j = i
  · subst hj; simp [vp_updL, zua]
  · simp [vp_updL, zua, hj]
theorem zo_iast (F : zFr D cA e0 bS nS xS A p s m args meth c own nm cc nL) (hdg : decode cc pc = .ok (.iastore, 1)) (h : zastI stv lsv μ = some (lsv', stv', μ'))
    (kk : zcont D cA e0 bS nS xS A p l e R s m args below meth c Q L0 ad0 u0 v0 (pc + 1) lsv' stv' μ') : zcont D cA e0 bS nS xS A p l e R s m args below meth c Q L0 ad0 u0 v0 pc lsv stv μ := by
  obtain ⟨hx, hb, hml, hown, hts, hE, hRO, hlk, hnm, hA⟩ := F
  unfold zastI at h
  split at h
  · rename_i x i t r o st0
    split at h
    · rename_i k n hk
      split at h
      · rename_i hc0
        cases h
        intro L ad H locs ls cells slots hext hrel hl hlv hsv hc hs
        obtain ⟨hi, hn⟩ := zin (zvok_head (zvok_tail hsv)) hc0.2.1 hc0.2.2
        have e1 : zcv e0 ad (.inr (.inr (1, r, o))) = .ref (ad r o) := rfl
        obtain ⟨rfl, -, -⟩ := hc0
        simp only [List.map_cons]
        rw [e1]
        obtain ⟨q, hq⟩ := zRel_place hrel hk (by omega)
        have hg := zws_get (cA := cA) (e0 := e0) (ad := ad) (κ := μ.1) (f := μ.2.1) (a := μ.2.2.1) hq
        rw [zcell_n hk (by omega)] at hg
        refine va_iast (D := D) (cl := vwCl) (x := Int32.ofInt x) hx hb hE.1 hrel.1 hrel.2.1 hrel.2.2.1 q 0 hg rfl hi hdg fun H1 locs1 hP1 hD1 hS1 => ?_
        rw [hn, upd_zua, ← zcell_n (cA := cA) (e0 := e0) (ad := ad) (f := μ.2.1) (a := zua μ.2.2.1 r o i.toNat x) hk (by omega)] at hP1 hD1
        exact kk L ad H1 locs1 ls cells slots hext (zRel_wr hrel hk (by omega) hq ⟨fun _ => ⟨zvok_head hsv, fun z => by omega⟩, fun z => by omega⟩ hP1 hD1 hS1) hl hlv (zvok_tail (zvok_tail (zvok_tail hsv))) hc hs
      · cases h
    · cases h
  · cases h
theorem znar_b {x : Int} (h1 : -128 ≤ x) (h2 : x < 128) : vp_nar .byte (Int32.ofInt x) = Int32.ofInt x := by
  have hx : zI32 x := by unfold zI32; omega
  have e : narrow .byte (.int (Int32.ofInt x)) = .int (Int32.ofInt x).toInt8.toInt32 := rfl
  unfold vp_nar
  rw [e]
  show (Int32.ofInt x).toInt8.toInt32 = Int32.ofInt x
  apply Int32.toInt_inj.mp
  rw [Int8.toInt_toInt32, Int32.toInt_toInt8, zI32_to hx]
  show x.bmod 256 = x
  rw [Int.bmod_def]
  omega
theorem znar_z {x : Int} (h : x = 0 ∨ x = 1) : vp_nar .boolean (Int32.ofInt x) = Int32.ofInt x := by
  rcases h with rfl | rfl
  · rfl
  · rfl
theorem zo_bast (F : zFr D cA e0 bS nS xS A p s m args meth c own nm cc nL) (hdg : decode cc pc = .ok (.bastore, 1)) (h : zastB stv lsv μ = some (lsv', stv', μ'))
    (kk : zcont D cA e0 bS nS xS A p l e R s m args below meth c Q L0 ad0 u0 v0 (pc + 1) lsv' stv' μ') : zcont D cA e0 bS nS xS A p l e R s m args below meth c Q L0 ad0 u0 v0 pc lsv stv μ := by
  obtain ⟨hx, hb, hml, hown, hts, hE, hRO, hlk, hnm, hA⟩ := F
  unfold zastB at h
  split at h
  · rename_i x i t r o st0
    split at h
    · rename_i k n hk
      split at h
      · rename_i hc0
        cases h
        intro L ad H locs ls cells slots hext hrel hl hlv hsv hc hs
        obtain ⟨hi, hn⟩ := zin (zvok_head (zvok_tail hsv)) hc0.2.1 hc0.2.2
        have e1 : zcv e0 ad (.inr (.inr (1, r, o))) = .ref (ad r o) := rfl
        simp only [List.map_cons]
        rw [e1]
        obtain ⟨q, hq⟩ := zRel_place hrel hk (by omega)
        have hg := zws_get (cA := cA) (e0 := e0) (ad := ad) (κ := μ.1) (f := μ.2.1) (a := μ.2.2.1) hq
        rw [zcell_n hk (by omega)] at hg
        rcases hc0.1 with ⟨rfl, hv⟩ | ⟨rfl, hv1, hv2⟩
        · refine va_zast (D := D) (cl := vwCl) (x := Int32.ofInt x) hx hb hE.1 hrel.1 hrel.2.1 hrel.2.2.1 q 1 hg rfl hi hdg fun H1 locs1 hP1 hD1 hS1 => ?_
          rw [hn, znar_z hv, upd_zua, ← zcell_n (cA := cA) (e0 := e0) (ad := ad) (f := μ.2.1) (a := zua μ.2.2.1 r o i.toNat x) hk (by omega)] at hP1 hD1
          exact kk L ad H1 locs1 ls cells slots hext (zRel_wr hrel hk (by omega) hq ⟨fun _ => ⟨zvok_head hsv, fun _ => hv⟩, fun z => by omega⟩ hP1 hD1 hS1) hl hlv (zvok_tail (zvok_tail (zvok_tail hsv))) hc hs
        · refine va_bast (D := D) (cl := vwCl) (x := Int32.ofInt x) hx hb hE.1 hrel.1 hrel.2.1 hrel.2.2.1 q 2 hg rfl hi hdg fun H1 locs1 hP1 hD1 hS1 => ?_
          rw [hn, znar_b hv1 hv2, upd_zua, ← zcell_n (cA := cA) (e0 := e0) (ad := ad) (f := μ.2.1) (a := zua μ.2.2.1 r o i.toNat x) hk (by omega)] at hP1 hD1
          exact kk L ad H1 locs1 ls cells slots hext (zRel_wr hrel hk (by omega) hq ⟨fun _ => ⟨zvok_head hsv, fun z => by omega⟩, fun z => by omega⟩ hP1 hD1 hS1) hl hlv (zvok_tail (zvok_tail (zvok_tail hsv))) hc hs
      · cases h
    · cases h
  · cases h
theorem zo_last (F : zFr D cA e0 bS nS xS A p s m args meth c own nm cc nL) (hdg : decode cc pc = .ok (.lastore, 1)) (h : zastL stv lsv μ = some (lsv', stv', μ'))
    (kk : zcont D cA e0 bS nS xS A p l e R s m args below meth c Q L0 ad0 u0 v0 (pc + 1) lsv' stv' μ') : zcont D cA e0 bS nS xS A p l e R s m args below meth c Q L0 ad0 u0 v0 pc lsv stv μ := by
  obtain ⟨hx, hb, hml, hown, hts, hE, hRO, hlk, hnm, hA⟩ := F
  unfold zastL at h
  split at h
  · rename_i x i t r o st0
    split at h
    · rename_i k n hk
      split at h
      · rename_i hc0
        cases h
        intro L ad H locs ls cells slots hext hrel hl hlv hsv hc hs
        obtain ⟨hi, hn⟩ := zin (zvok_head (zvok_tail hsv)) hc0.2.1 hc0.2.2
        have e1 : zcv e0 ad (.inr (.inr (1, r, o))) = .ref (ad r o) := rfl
        obtain ⟨rfl, -, -⟩ := hc0
        simp only [List.map_cons]
        rw [e1]
        obtain ⟨q, hq⟩ := zRel_place hrel hk (by omega)
        have hg := zws_get (cA := cA) (e0 := e0) (ad := ad) (κ := μ.1) (f := μ.2.1) (a := μ.2.2.1) hq
        rw [zcell_l hk] at hg
        refine va_last (D := D) (cl := vwCl) (x := Int64.ofInt x) hx hb hE.1 hrel.1 hrel.2.1 hrel.2.2.1 q 3 hg rfl hi hdg fun H1 locs1 hP1 hD1 hS1 => ?_
        rw [hn, updL_zua, ← zcell_l (cA := cA) (e0 := e0) (ad := ad) (f := μ.2.1) (a := zua μ.2.2.1 r o i.toNat x) hk] at hP1 hD1
        exact kk L ad H1 locs1 ls cells slots hext (zRel_wr hrel hk (by omega) hq ⟨fun z => by omega, fun _ => zvok_head hsv⟩ hP1 hD1 hS1) hl hlv (zvok_tail (zvok_tail (zvok_tail hsv))) hc hs
      · cases h
    · cases h
  · cases h
theorem zo_aast (F : zFr D cA e0 bS nS xS A p s m args meth c own nm cc nL) (hdg : decode cc pc = .ok (.aastore, 1)) (h : zaast stv lsv μ = some (lsv', stv', μ'))
    (kk : zcont D cA e0 bS nS xS A p l e R s m args below meth c Q L0 ad0 u0 v0 (pc + 1) lsv' stv' μ') : zcont D cA e0 bS nS xS A p l e R s m args below meth c Q L0 ad0 u0 v0 pc lsv stv μ := by
  obtain ⟨hx, hb, hml, hown, hts, hE, hRO, hlk, hnm, hA⟩ := F
  unfold zaast at h
  split at h
  · rename_i t' r' o' i t r o st0
    split at h
    · rename_i k n k' n' hk hk'
      split at h
      · rename_i hc0
        cases h
        intro L ad H locs ls cells slots hext hrel hl hlv hsv hc hs
        obtain ⟨hi, hn⟩ := zin (zvok_head (zvok_tail hsv)) hc0.2.2.1 hc0.2.2.2
        have e1 : zcv e0 ad (.inr (.inr (1, r, o))) = .ref (ad r o) := rfl
        have e2 : zcv e0 ad (.inr (.inr (1, r', o'))) = .ref (ad r' o') := rfl
        obtain ⟨rfl, rfl, -, -⟩ := hc0
        simp only [List.map_cons]
        rw [e1, e2]
        obtain ⟨q, hq⟩ := zRel_place hrel hk (by omega)
        obtain ⟨q', hq'⟩ := zRel_place hrel hk' (by omega)
        have hg := zws_get (cA := cA) (e0 := e0) (ad := ad) (κ := μ.1) (f := μ.2.1) (a := μ.2.2.1) hq
        have hg' := zws_get (cA := cA) (e0 := e0) (ad := ad) (κ := μ.1) (f := μ.2.1) (a := μ.2.2.1) hq'
        rw [zcell_q hk (by omega)] at hg
        rw [zcell_o (k := 2) hk'] at hg'
        refine va_astq (D := D) (cl := vwCl) (r := (RX2, TX2, 18)) hx hb hE.1 hrel.1 hrel.2.1 hrel.2.2.1 q 4 q' 2 hg rfl hg' rfl hi hdg fun H1 locs1 hP1 hD1 hS1 => ?_
        have e3 : va_up (fun j => zop1 ad (μ.2.1 r o j)) (Int32.ofInt i).toNatClampNeg (some (ad r' o')) = fun j => zop1 ad (zuf μ.2.1 r o i.toNat (.inr (.inr (1, r', o'))) r o j) := by
          rw [hn]
          funext j
          by_cases hj : j = i.toNat
          · subst hj; simp [va_up, zuf, zop1]
          · simp [va_up, zuf, hj]
        rw [e3, ← zcell_q (cA := cA) (e0 := e0) (ad := ad) (f := zuf μ.2.1 r o i.toNat (.inr (.inr (1, r', o')))) (a := μ.2.2.1) hk (by omega)] at hP1 hD1
        exact kk L ad H1 locs1 ls cells slots hext (zRel_wf hrel hk (by omega) hq (zvok_head hsv) (fun _ => ⟨1, r', o', rfl, by omega⟩) hP1 hD1 hS1) hl hlv (zvok_tail (zvok_tail (zvok_tail hsv))) hc hs
      · cases h
    · cases h
  · cases h
end ZG
end
section
/-! new cells; what is read alone -/
section ZE
variable {D : va_G} {cA : Nat → ClassId} {e0 : Nat → Nat → Option Nat} {bS nS : Nat} {xS : Nat → Int} {A : Nat → Prop} {p : Program} {l : Launch} {e : Env} {R : Room} {s : State} {m : MethodId} {args : Array Value} {below : List Frame} {meth : Method} {c : Code} {Q : State → Prop} {L0 : List (Nat × Nat)} {ad0 : Nat → Nat → Nat} {u0 v0 : Nat}
variable {own nm : String} {cc : ByteArray} {nL pc : Nat} {lsv stv lsv' stv' : List ZV} {μ μ' : ZM}
theorem zvok_zn {κ : ZK} : zvok κ zn := fun h => absurd h (by decide)
/-- one address more -/
def zad (ad : Nat → Nat → Nat) (r o q : Nat) : Nat → Nat → Nat := fun r' o' => if r' = r ∧ o' = o then q else ad r' o'
theorem zcv_ad {ad : Nat → Nat → Nat} {κ : ZK} {r o q : Nat} (hf : κ r o = none) {v : ZV} (hv : zvok κ v) : zcv e0 (zad ad r o q) v = zcv e0 ad v := by
  rcases v with n | n | ⟨t, r', o'⟩
  · rfl
  · rfl
  · unfold zcv zad
    by_cases h : t = 1
    · have hne : ¬ (r' = r ∧ o' = o) := fun z => hv h (by rw [z.1, z.2]; exact hf)
      simp only [h, if_true, if_neg hne]
    · simp only [h, if_false]
theorem zop1_ad {ad : Nat → Nat → Nat} {κ : ZK} {r o q : Nat} (hf : κ r o = none) {v : ZV} (hv : zvok κ v) : zop1 (zad ad r o q) v = zop1 ad v := by
  rcases v with n | n | ⟨t, r', o'⟩
  · rfl
  · rfl
  · unfold zop1 zad
    by_cases h : t = 1
    · have hne : ¬ (r' = r ∧ o' = o) := fun z => hv h (by rw [z.1, z.2]; exact hf)
      simp only [h, if_true, if_neg hne]
    · simp only [h, if_false]
theorem zvok_uk {κ : ZK} {r o : Nat} {w : Nat × Nat} {v : ZV} (hv : zvok κ v) : zvok (zuk κ r o w) v := by
  rcases v with n | n | ⟨t, r', o'⟩
  · exact hv
  · exact hv
  · intro h
    have h1 := hv h
    unfold zuk
    split
    · exact fun z => by cases z
    · exact h1
theorem zmap_ad {ad : Nat → Nat → Nat} {κ : ZK} {r o q : Nat} (hf : κ r o = none) : ∀ {st : List ZV}, (∀ v ∈ st, zvok κ v) → st.map (zcv e0 (zad ad r o q)) = st.map (zcv e0 ad)
  | [], _ => rfl
  | v :: t, h => by
    rw [List.map_cons, List.map_cons, zcv_ad hf (zvok_head h), zmap_ad hf (zvok_tail h)]
theorem zpairs_ad {ad : Nat → Nat → Nat} {κ : ZK} {r o q : Nat} (hf : κ r o = none) : ∀ {st : List ZV} {i : Nat}, (∀ v ∈ st, zvok κ v) → zpairs e0 (zad ad r o q) i st = zpairs e0 ad i st
  | [], _, _ => rfl
  | v :: t, i, h => by
    unfold zpairs
    rw [zcv_ad hf (zvok_head h), zpairs_ad hf (zvok_tail h)]
theorem zcell_ad {ad : Nat → Nat → Nat} {κ : ZK} {f : ZF} {a : ZA} {r o q : Nat} {w : Nat × Nat} {g : Nat → ZV} {h : Nat → Int} (hf : κ r o = none) (hok : ∀ r o j, zvok κ (f r o j)) {r' o' : Nat} (hne : ¬ (r' = r ∧ o' = o)) :
    zcell cA e0 (zad ad r o q) (zuk κ r o w) (zuF f r o g) (zuA a r o h) r' o' = zcell cA e0 ad κ f a r' o' := by
  have e1 : zuk κ r o w r' o' = κ r' o' := by unfold zuk; rw [if_neg hne]
  have e2 : ∀ j, zuF f r o g r' o' j = f r' o' j := fun j => by unfold zuF; rw [if_neg hne]
  have e3 : ∀ j, zuA a r o h r' o' j = a r' o' j := fun j => by unfold zuA; rw [if_neg hne]
  unfold zcell
  rw [e1]
  have e4 : (fun j => zop1 (zad ad r o q) (zuF f r o g r' o' j)) = fun j => zop1 ad (f r' o' j) := funext fun j => by rw [e2, zop1_ad hf (hok r' o' j)]
  have e5 : (fun j => zcv e0 (zad ad r o q) (zuF f r o g r' o' j)) = fun j => zcv e0 ad (f r' o' j) := funext fun j => by rw [e2, zcv_ad hf (hok r' o' j)]
  simp only [e3, e4, e5]
theorem zws_new {ad : Nat → Nat → Nat} {κ : ZK} {f : ZF} {a : ZA} {L : List (Nat × Nat)} {r o q : Nat} {w : Nat × Nat} {g : Nat → ZV} {h : Nat → Int} (hf : κ r o = none) (hok : ∀ r o j, zvok κ (f r o j)) (hL : (r, o) ∉ L) :
    zws cA e0 (zad ad r o q) (zuk κ r o w) (zuF f r o g) (zuA a r o h) (L ++ [(r, o)]) = zws cA e0 ad κ f a L ++ [(q, zcell cA e0 (zad ad r o q) (zuk κ r o w) (zuF f r o g) (zuA a r o h) r o)] := by
  unfold zws
  rw [List.map_append]
  congr 1
  · apply List.map_congr_left
    intro z hz
    have hne : ¬ (z.1 = r ∧ z.2 = o) := fun y => hL (by rw [← y.1, ← y.2]; exact hz)
    have e6 : zad ad r o q z.1 z.2 = ad z.1 z.2 := by unfold zad; rw [if_neg hne]
    rw [e6, zcell_ad hf hok hne]
  · simp [zad]
theorem zRel_new {L : List (Nat × Nat)} {ad : Nat → Nat → Nat} {κ : ZK} {f : ZF} {a : ZA} {H1 : Heap} {locs1 : List Loc} {r o q k n : Nat} {g : Nat → ZV} (hrel : zRel D cA e0 bS nS xS A s L ad κ f a H1 locs1) (hf : κ r o = none) (h6 : k ≠ 6)
    (hg : ∀ j, zvok (zuk κ r o (k, n)) (g j)) (hg4 : k = 4 ∨ k = 5 → ∀ j, ∃ t r' o', g j = .inr (.inr (t, r', o')) ∧ t ≤ 1)
    (hP : va_P D vwCl (zws cA e0 ad κ f a L ++ [(q, zcell cA e0 (zad ad r o q) (zuk κ r o (k, n)) (zuF f r o g) (zuA a r o (fun _ => 0)) r o)]) H1) (hD : va_D A (zws cA e0 ad κ f a L ++ [(q, zcell cA e0 (zad ad r o q) (zuk κ r o (k, n)) (zuF f r o g) (zuA a r o (fun _ => 0)) r o)])) :
    zRel D cA e0 bS nS xS A s (L ++ [(r, o)]) (zad ad r o q) (zuk κ r o (k, n)) (zuF f r o g) (zuA a r o (fun _ => 0)) H1 locs1 := by
  obtain ⟨h1, h2, h3, h4, h5, h6', h7⟩ := hrel
  have hL : (r, o) ∉ L := fun z => by
    obtain ⟨k', n', e1, -⟩ := (h5 r o).mp z
    rw [hf] at e1
    cases e1
  rw [← zws_new hf h7 hL] at hP hD
  refine ⟨hP, hD, h3, ?_, fun r' o' => ?_, fun r' o' k' n' hk' => ?_, fun r' o' j => ?_⟩
  · rw [List.nodup_append]
    exact ⟨h4, by simp, fun x hx y hy => by
      simp only [List.mem_singleton] at hy
      subst hy
      intro z
      subst z
      exact hL hx⟩
  · rw [List.mem_append, List.mem_singleton]
    unfold zuk
    by_cases hne : r' = r ∧ o' = o
    · rw [if_pos hne]
      exact ⟨fun _ => ⟨k, n, rfl, h6⟩, fun _ => Or.inr (Prod.ext hne.1 hne.2)⟩
    · rw [if_neg hne, ← h5]
      exact ⟨fun z => z.resolve_right (fun y => hne ⟨congrArg Prod.fst y, congrArg Prod.snd y⟩), Or.inl⟩
  · by_cases hne : r' = r ∧ o' = o
    · unfold zuk at hk'
      rw [if_pos hne] at hk'
      cases hk'
      have ea : ∀ j, zuA a r o (fun _ => 0) r' o' j = 0 := fun j => by unfold zuA; rw [if_pos hne]
      have ef : ∀ j, zuF f r o g r' o' j = g j := fun j => by unfold zuF; rw [if_pos hne]
      exact ⟨fun _ j => by rw [ea]; exact ⟨zI32_0, fun _ => Or.inl rfl⟩, fun _ j => by rw [ea]; unfold zI64; omega, fun z j => by rw [ef]; exact hg4 z j, fun z => absurd z h6⟩
    · unfold zuk at hk'
      rw [if_neg hne] at hk'
      obtain ⟨g1, g2, g3, g4⟩ := h6' r' o' k' n' hk'
      have ea : ∀ j, zuA a r o (fun _ => 0) r' o' j = a r' o' j := fun j => by unfold zuA; rw [if_neg hne]
      have ef : ∀ j, zuF f r o g r' o' j = f r' o' j := fun j => by unfold zuF; rw [if_neg hne]
      have ed : zad ad r o q r' o' = ad r' o' := by unfold zad; rw [if_neg hne]
      exact ⟨fun z j => by rw [ea]; exact g1 z j, fun z j => by rw [ea]; exact g2 z j, fun z j => by rw [ef]; exact g3 z j, fun z => ⟨by rw [ed]; exact (g4 z).1, (g4 z).2.1, fun j => by rw [ea]; exact (g4 z).2.2 j⟩⟩
  · by_cases hne : r' = r ∧ o' = o
    · have ef : zuF f r o g r' o' j = g j := by unfold zuF; rw [if_pos hne]
      rw [ef]
      exact hg j
    · have ef : zuF f r o g r' o' j = f r' o' j := by unfold zuF; rw [if_neg hne]
      rw [ef]
      exact zvok_uk (h7 r' o' j)
theorem zext_new {L : List (Nat × Nat)} {ad : Nat → Nat → Nat} {κ : ZK} {f : ZF} {a : ZA} {H1 : Heap} {locs1 : List Loc} {r o q : Nat} (hrel : zRel D cA e0 bS nS xS A s L ad κ f a H1 locs1) (hf : κ r o = none) (hext : ∀ z ∈ L0, z ∈ L ∧ ad z.1 z.2 = ad0 z.1 z.2) : ∀ z ∈ L0, z ∈ L ++ [(r, o)] ∧ zad ad r o q z.1 z.2 = ad0 z.1 z.2 := fun z hz => by
  obtain ⟨h1, h2⟩ := hext z hz
  refine ⟨List.mem_append_left _ h1, ?_⟩
  unfold zad
  rw [if_neg, h2]
  intro y
  obtain ⟨k', n', e1, -⟩ := (hrel.2.2.2.2.1 z.1 z.2).mp h1
  rw [y.1, y.2, hf] at e1
  cases e1
/-- the class of the arrays of a kind is the one of that name -/
theorem zcA_eq {s : State} (hE : zEnv D cA e0 s) {k : Nat} {ty : FieldType} (hk : (zTY cA)[k]? = some (cA k, ty)) {cy : ClassId} (h : va_RA s cy ty) : cy = cA k := by
  have h1 := (hE.1.2 k _ hk).2
  cases ty with
  | object C =>
    obtain ⟨-, -, -, -, -, a⟩ := h
    obtain ⟨-, -, -, -, -, b⟩ := h1
    exact Option.some.inj (a.symm.trans b)
  | _ => exact Option.some.inj (Eq.trans (Eq.symm h) h1)
theorem zarr_cell {k n : Nat} {ty : FieldType} (hk : (zTY cA)[k]? = some (cA k, ty)) (hk5 : k ≤ 5) {κ : ZK} {f : ZF} {a : ZA} {r o : Nat} (hf : κ r o = some (k, n)) (h0 : ∀ j, a r o j = 0) (hz : ∀ j, f r o j = zn) :
    ∃ z : vp_A, (∀ ad : Nat → Nat → Nat, zcell cA e0 ad κ f a r o = .inl (cA k, z)) ∧ ∀ c : ClassId, vp_cell c z = arrV c n (fun _ => defaultValue ty) := by
  have e4 : ∀ ad : Nat → Nat → Nat, (fun j => zop1 ad (f r o j)) = fun _ => none := fun ad => funext fun j => by rw [hz]; rfl
  have ea : (fun j => Int32.ofInt (a r o j)) = fun _ => 0 := funext fun j => by rw [h0]; rfl
  have eb : (fun j => Int64.ofInt (a r o j)) = fun _ => 0 := funext fun j => by rw [h0]; rfl
  match k, hk5, hk with
  | 0, _, hk => cases hk; exact ⟨(n, .inl fun _ => 0), fun ad => by rw [zcell_n hf (by omega), ea], fun c => by rw [vp_cell_i]; rfl⟩
  | 1, _, hk => cases hk; exact ⟨(n, .inl fun _ => 0), fun ad => by rw [zcell_n hf (by omega), ea], fun c => by rw [vp_cell_i]; rfl⟩
  | 2, _, hk => cases hk; exact ⟨(n, .inl fun _ => 0), fun ad => by rw [zcell_n hf (by omega), ea], fun c => by rw [vp_cell_i]; rfl⟩
  | 3, _, hk => cases hk; exact ⟨(n, .inr (.inl fun _ => 0)), fun ad => by rw [zcell_l hf, eb], fun c => by rw [vp_cell_l]; rfl⟩
  | 4, _, hk => cases hk; exact ⟨(n, .inr (.inr (.inr (.inr fun _ => none)))), fun ad => by rw [zcell_q hf (by omega), e4], fun c => by rw [vp_cell_q]; rfl⟩
  | 5, _, hk => cases hk; exact ⟨(n, .inr (.inr (.inr (.inr fun _ => none)))), fun ad => by rw [zcell_q hf (by omega), e4], fun c => by rw [vp_cell_q]; rfl⟩
theorem zP_pre {X Y : va_W} {H : Heap} (h : va_P D vwCl (X ++ Y) H) : va_P D vwCl X H := fun k q hk => h k q (by rw [List.getElem?_append_left (List.getElem?_eq_some_iff.mp hk).1]; exact hk)
theorem zD_pre {X Y : va_W} (h : va_D A (X ++ Y)) : va_D A X := ⟨fun i j x y hi hj => h.1 i j x y (by rw [List.getElem?_append_left (List.getElem?_eq_some_iff.mp hi).1]; exact hi) (by rw [List.getElem?_append_left (List.getElem?_eq_some_iff.mp hj).1]; exact hj), fun k q hk => h.2 k q (by rw [List.getElem?_append_left (List.getElem?_eq_some_iff.mp hk).1]; exact hk)⟩
/-- behind an instruction that makes one cell -/
theorem zo_alloc {r o k n : Nat} {g : Nat → ZV} {κ : ZK} {f : ZF} {a : ZA} {ns : List (Nat × Nat)} {c0 s0 len : Nat} {st0 : List ZV} (hfree : κ r o = none) (h6 : k ≠ 6) (hg : ∀ j, zvok (zuk κ r o (k, n)) (g j)) (hg4 : k = 4 ∨ k = 5 → ∀ j, ∃ t r' o', g j = .inr (.inr (t, r', o')) ∧ t ≤ 1)
    (kk : zcont D cA e0 bS nS xS A p l e R s m args below meth c Q L0 ad0 u0 v0 (pc + len) lsv (.inr (.inr (1, r, o)) :: st0) (zuk κ r o (k, n), zuF f r o g, zuA a r o (fun _ => 0), ns, c0 + 1, s0 + n))
    {L : List (Nat × Nat)} {ad : Nat → Nat → Nat} {H H1 : Heap} {locs locs1 : List Loc} {ls : Array Slot} {cells slots q : Nat} (hext : ∀ q ∈ L0, q ∈ L ∧ ad q.1 q.2 = ad0 q.1 q.2) (hrel : zRel D cA e0 bS nS xS A s L ad κ f a H locs) (hl : lv_has ls lsv.length (zpairs e0 ad 0 lsv))
    (hlv : ∀ v ∈ lsv, zvok κ v) (hsv : ∀ v ∈ st0, zvok κ v) (hc : cells + u0 = c0) (hs : slots + v0 = s0)
    (hP1 : va_P D vwCl (zws cA e0 ad κ f a L ++ [(q, zcell cA e0 (zad ad r o q) (zuk κ r o (k, n)) (zuF f r o g) (zuA a r o (fun _ => 0)) r o)]) H1) (hD1 : va_D A (zws cA e0 ad κ f a L ++ [(q, zcell cA e0 (zad ad r o q) (zuk κ r o (k, n)) (zuF f r o g) (zuA a r o (fun _ => 0)) r o)])) (hS1 : va_S A s.heap H1 locs1) :
    W p l e R s m args below meth c H1 locs1 (cells + 1) (slots + n) Q (F0 m (pc + len) ls (.ref q :: st0.map (zcv e0 ad))) := by
  have hrel1 : zRel D cA e0 bS nS xS A s L ad κ f a H1 locs1 := ⟨zP_pre hP1, zD_pre hD1, hS1, hrel.2.2.2⟩
  have hrel2 := zRel_new hrel1 hfree h6 hg hg4 hP1 hD1
  have kx := kk (L ++ [(r, o)]) (zad ad r o q) H1 locs1 ls (cells + 1) (slots + n) (zext_new hrel1 hfree hext) hrel2 (by rw [zpairs_ad hfree hlv]; exact hl) (fun v hv => zvok_uk (hlv v hv)) (zvok_cons (fun _ z => by simp [zuk] at z) (fun v hv => zvok_uk (hsv v hv))) (by dsimp only; omega) (by dsimp only; omega)
  rw [List.map_cons, zmap_ad hfree hsv] at kx
  have e1 : zcv e0 (zad ad r o q) (.inr (.inr (1, r, o))) = .ref q := by simp [zcv, zad]
  rw [e1] at kx
  exact kx
theorem zo_newa (F : zFr D cA e0 bS nS xS A p s m args meth c own nm cc nL) {t : ClassFile.ArrayType} (hw : Cond.arrayClass (newarray.typeOf t) ∈ zgood) (ht : (zTY cA)[zakind t]? = some (cA (zakind t), newarray.typeOf t)) (ht3 : zakind t ≤ 3) (hcb : componentBytes (newarray.typeOf t) ≤ 8) (hdg : decode cc pc = .ok (.newarray t, 2)) (h : znewa (zakind t) stv lsv μ = some (lsv', stv', μ'))
    (hR : μ'.2.2.2.2.1 ≤ R.cells + u0 ∧ μ'.2.2.2.2.2 ≤ R.slots + v0)
    (kk : zcont D cA e0 bS nS xS A p l e R s m args below meth c Q L0 ad0 u0 v0 (pc + 2) lsv' stv' μ') : zcont D cA e0 bS nS xS A p l e R s m args below meth c Q L0 ad0 u0 v0 pc lsv stv μ := by
  obtain ⟨hx, hb, hml, hown, hts, hE, hRO, hlk, hnm, hA⟩ := F
  unfold znewa at h
  split at h
  · rename_i n st0
    split at h
    · rename_i hn0
      split at h
      · rename_i r o μ1 hz
        cases h
        unfold znew at hz
        split at hz
        · rename_i κ f a r' o' ns c0 s0
          split at hz
          · rename_i hfree
            cases hz
            intro L ad H locs ls cells slots hext hrel hl hlv hsv hc hs
            dsimp only at hrel hc hs hlv hsv hR
            have hnI : zI32 n := zvok_head hsv
            obtain ⟨z, hz1, hz2⟩ := zarr_cell (e0 := e0) ht (by omega) (κ := zuk κ r o (zakind t, n.toNat)) (f := zuF f r o (fun _ => zn)) (a := zuA a r o (fun _ => 0)) (r := r) (o := o) (n := n.toNat) (by simp [zuk]) (fun j => by simp [zuA]) (fun j => by simp [zuF])
            rw [List.map_cons]
            show W p l e R s m args below meth c H locs cells slots Q (F0 m pc ls (.int (Int32.ofInt n) :: _))
            have hnn : ¬ Int32.ofInt n < 0 := fun q => by have := (zlt32 hnI zI32_0).mp q; omega
            have hN : (Int32.ofInt n).toNatClampNeg = n.toNat := by
              show ((Int32.ofInt n).toInt).toNat = n.toNat
              rw [zI32_to hnI]
            refine va_newa (D := D) (cl := vwCl) (a0 := z) (ty := newarray.typeOf t) hx hb (hts _ hw) rfl hE.1 hrel.1 hrel.2.1 hrel.2.2.1 hA hz2 hnn hN (by
              have h1 : n.toNat ≤ 1000000 := by omega
              have h2 : n.toNat * componentBytes (newarray.typeOf t) ≤ 1000000 * 8 := Nat.mul_le_mul h1 hcb
              omega) (by omega) (by omega) hdg fun q cy H1 hK1 hP1 hD1 hS1 => ?_
            have hcy : cy = cA (zakind t) := zcA_eq hE ht (hK1.2 6 (cy, newarray.typeOf t) (by rfl)).2
            rw [hcy, ← hz1 (zad ad r o q)] at hP1 hD1
            exact zo_alloc (k := zakind t) (n := n.toNat) (g := fun _ => zn) hfree (by omega) (fun j => zvok_zn) (fun _ j => ⟨0, 0, 0, rfl, by omega⟩) kk hext hrel hl hlv (zvok_tail hsv) hc hs hP1 hD1 hS1
          · cases hz
        · cases hz
      · cases h
    · cases h
  · cases h
theorem zo_anew (F : zFr D cA e0 bS nS xS A p s m args meth c own nm cc nL) {idx : Nat} (hw : Cond.classLink own idx "PaperWay$Job" ∈ zgood) (hdg : decode cc pc = .ok (.anewarray idx, 3)) (h : znewa 4 stv lsv μ = some (lsv', stv', μ'))
    (hR : μ'.2.2.2.2.1 ≤ R.cells + u0 ∧ μ'.2.2.2.2.2 ≤ R.slots + v0)
    (kk : zcont D cA e0 bS nS xS A p l e R s m args below meth c Q L0 ad0 u0 v0 (pc + 3) lsv' stv' μ') : zcont D cA e0 bS nS xS A p l e R s m args below meth c Q L0 ad0 u0 v0 pc lsv stv μ := by
  obtain ⟨hx, hb, hml, hown, hts, hE, hRO, hlk, hnm, hA⟩ := F
  unfold znewa at h
  split at h
  · rename_i n st0
    split at h
    · rename_i hn0
      split at h
      · rename_i r o μ1 hz
        cases h
        unfold znew at hz
        split at hz
        · rename_i κ f a r' o' ns c0 s0
          split at hz
          · rename_i hfree
            cases hz
            intro L ad H locs ls cells slots hext hrel hl hlv hsv hc hs
            dsimp only at hrel hc hs hlv hsv hR
            have hnI : zI32 n := zvok_head hsv
            rw [List.map_cons]
            show W p l e R s m args below meth c H locs cells slots Q (F0 m pc ls (.int (Int32.ofInt n) :: _))
            have hnn : ¬ Int32.ofInt n < 0 := fun q => by have := (zlt32 hnI zI32_0).mp q; omega
            have hN : (Int32.ofInt n).toNatClampNeg = n.toNat := by
              show ((Int32.ofInt n).toInt).toNat = n.toNat
              rw [zI32_to hnI]
            refine va_newq (D := D) (cl := vwCl) hx hb hown (hts _ hw) hE.2.2.1 hE.1 hrel.1 hrel.2.1 hrel.2.2.1 hA hnn hN (by omega) (by omega) (by omega) hdg fun q cy H1 hK1 hP1 hD1 hS1 => ?_
            have hcy : cy = cA 4 := zcA_eq hE (k := 4) rfl (hK1.2 6 (cy, .object "PaperWay$Job") (by rfl)).2
            have e4 : (fun j => zop1 (zad ad r o q) (zuF f r o (fun _ => zn) r o j)) = fun _ => none := funext fun j => by simp [zuF, zop1]
            have hz1 : zcell cA e0 (zad ad r o q) (zuk κ r o (4, n.toNat)) (zuF f r o (fun _ => zn)) (zuA a r o (fun _ => 0)) r o = .inl (cA 4, n.toNat, .inr (.inr (.inr (.inr fun _ => none)))) := by
              rw [zcell_q (k := 4) (n := n.toNat) (by simp [zuk]) (by omega), e4]
            rw [hcy, ← hz1] at hP1 hD1
            exact zo_alloc (k := 4) (n := n.toNat) (g := fun _ => zn) hfree (by omega) (fun j => zvok_zn) (fun _ j => ⟨0, 0, 0, rfl, by omega⟩) kk hext hrel hl hlv (zvok_tail hsv) hc hs hP1 hD1 hS1
          · cases hz
        · cases hz
      · cases h
    · cases h
  · cases h
theorem zo_new (F : zFr D cA e0 bS nS xS A p s m args meth c own nm cc nL) {idx : Nat} {pl : ZP} (hN : pl.1 < 13 → pl.2.1 = (zcl pl.1).2.2) (hw1 : pl.1 < 13 → Cond.classLink own idx (zcl pl.1).1 ∈ zgood) (hw2 : pl.1 < 13 → Cond.instantiable (zcl pl.1).1 (zcl pl.1).2.2 ∈ zgood) (hw3 : pl.1 < 13 → Cond.initialized (zcl pl.1).1 ∈ zgood)
    (hdg : decode cc pc = .ok (.new idx, 3)) (hn0 : ∀ r, e0 0 r = none) (h : znewo pl stv lsv μ = some (lsv', stv', μ')) (hR : μ'.2.2.2.2.1 ≤ R.cells + u0 ∧ μ'.2.2.2.2.2 ≤ R.slots + v0)
    (kk : zcont D cA e0 bS nS xS A p l e R s m args below meth c Q L0 ad0 u0 v0 (pc + 3) lsv' stv' μ') : zcont D cA e0 bS nS xS A p l e R s m args below meth c Q L0 ad0 u0 v0 pc lsv stv μ := by
  obtain ⟨hx, hb, hml, hown, hts, hE, hRO, hlk, hnm, hA⟩ := F
  obtain ⟨ci, N, pz⟩ := pl
  unfold znewo at h
  split at h
  · rename_i hci
    have hN := hN hci
    have hw1 := hw1 hci
    have hw2 := hw2 hci
    have hw3 := hw3 hci
    dsimp only at h hN hw1 hw2 hw3 hci
    split at h
    · rename_i r o μ1 hz
      cases h
      unfold znew at hz
      split at hz
      · rename_i κ f a r' o' ns c0 s0
        split at hz
        · rename_i hfree
          cases hz
          intro L ad H locs ls cells slots hext hrel hl hlv hsv hc hs
          dsimp only at hrel hc hs hlv hsv hR
          have hgz : ∀ j, zdfl ci (zsrt ci) j = zn ∨ zdfl ci (zsrt ci) j = .inl 0 := fun j => by unfold zdfl; split; exact Or.inl rfl; exact Or.inr rfl
          refine va_new (D := D) (cl := vwCl) (ci := ci) (fs := (List.range N).map fun j => zcv e0 ad (zdfl ci (zsrt ci) j)) (C := (zcl ci).1) (T := (zcl ci).2.1) (N := (zcl ci).2.2) hx hb hts (zcl_in hci) (zty ci) (zty_ok hci) hown (hts _ hw1) (hts _ hw2) (hts _ hw3) hE.1 hrel.1 hrel.2.1 hrel.2.2.1 hA (zcl_at hci) (fun j hj => ?_) (by omega) (by omega) hdg fun q H1 hP1 hD1 hS1 => ?_
          · unfold vp_V
            rw [List.getD_eq_getElem?_getD, List.getElem?_map, List.getElem?_range (by omega)]
            obtain ⟨s2, s0, s1⟩ := zsok_at hci hj
            have h1 := List.all_eq_true.mp zsok_all ci (List.mem_range.mpr hci)
            have h2 := List.all_eq_true.mp h1 j (List.mem_range.mpr hj)
            show defaultValue (zty ci j) = zcv e0 ad (zdfl ci (zsrt ci) j)
            unfold zdfl
            revert h2
            cases hty : zty ci j <;> intro h2 <;> simp only [beq_iff_eq] at h2 <;> first
              | (rw [h2, if_neg (by decide)]; rfl)
              | (rw [h2, if_pos rfl]; unfold zcv; simp only [if_neg (show ¬ (0 : Nat) = 1 by decide), hn0]; rfl)
              | cases h2
          · have e4 : ((List.range N).map fun j => zcv e0 ad (zdfl ci (zsrt ci) j)) = (List.range N).map fun j => zcv e0 (zad ad r o q) (zuF f r o (zdfl ci (zsrt ci)) r o j) := by
              apply List.map_congr_left
              intro j _
              have e5 : zuF f r o (zdfl ci (zsrt ci)) r o j = zdfl ci (zsrt ci) j := by simp [zuF]
              rw [e5]
              rcases hgz j with e6 | e6 <;> rw [e6] <;> rfl
            rw [e4, ← zcell_o (cA := cA) (e0 := e0) (ad := zad ad r o q) (κ := zuk κ r o (ci + 10, N)) (f := zuF f r o (zdfl ci (zsrt ci))) (a := zuA a r o (fun _ => 0)) (k := ci) (n := N) (by simp [zuk])] at hP1 hD1
            rw [← hN]
            exact zo_alloc (k := ci + 10) (n := N) (g := zdfl ci (zsrt ci)) hfree (by omega) (fun j => (hgz j).elim (fun e6 => by rw [e6]; exact zvok_zn) (fun e6 => by rw [e6]; exact zI32_0)) (fun z => by omega) kk hext hrel hl hlv hsv hc hs hP1 hD1 hS1
        · cases hz
      · cases hz
    · cases h
  · cases h
end ZE
end
section
/-! arraycopy, four rows at once, strings and statics, what is left -/
theorem zs_len : ∀ r, r < 10 → zslen.getD r 0 = (zstr r).length ∧ (zstr r).length < 100 := by decide +kernel
theorem zs_byt : ∀ r, r < 10 → zsbyt.getD r [] = (zstr r).map Int32.ofInt := by decide +kernel
theorem zs_all : ∀ r, r < 10 → (zstr r).all (fun x => decide (0 ≤ x) && decide (x < 128)) = true := by decide +kernel
section ZF1
variable {D : va_G} {cA : Nat → ClassId} {e0 : Nat → Nat → Option Nat} {bS nS : Nat} {xS : Nat → Int} {A : Nat → Prop} {p : Program} {l : Launch} {e : Env} {R : Room} {s : State} {m : MethodId} {args : Array Value} {below : List Frame} {meth : Method} {c : Code} {Q : State → Prop} {L0 : List (Nat × Nat)} {ad0 : Nat → Nat → Nat} {u0 v0 : Nat}
variable {own nm : String} {cc : ByteArray} {nL pc : Nat} {lsv stv lsv' stv' : List ZV} {μ μ' : ZM}
theorem zcatsum {ad : Nat → Nat → Nat} (st : List ZV) : ((st.map (zcv e0 ad)).map fun v => v.category).sum = (st.map zcat).sum := by
  rw [List.map_map]
  congr 1
  apply List.map_congr_left
  intro v _
  exact zcv_cat v
/-- a row becomes another -/
theorem zRel_wA {L : List (Nat × Nat)} {ad : Nat → Nat → Nat} {κ : ZK} {f : ZF} {a a' : ZA} {H H1 : Heap} {locs locs1 : List Loc} (h : zRel D cA e0 bS nS xS A s L ad κ f a H locs) {r o k n : Nat} (hk : κ r o = some (k, n)) (h6 : k ≠ 6) {q : Nat} (hq : L[q]? = some (r, o))
    (hne : ∀ r' o' j, ¬ (r' = r ∧ o' = o) → a' r' o' j = a r' o' j) (hx : (k ≤ 2 → ∀ j, zI32 (a' r o j) ∧ (k = 1 → a' r o j = 0 ∨ a' r o j = 1)) ∧ (k = 3 → ∀ j, zI64 (a' r o j)))
    (hP : va_P D vwCl ((zws cA e0 ad κ f a L).set q (ad r o, zcell cA e0 ad κ f a' r o)) H1) (hD : va_D A ((zws cA e0 ad κ f a L).set q (ad r o, zcell cA e0 ad κ f a' r o))) (hS : va_S A s.heap H1 locs1) : zRel D cA e0 bS nS xS A s L ad κ f a' H1 locs1 := by
  obtain ⟨h1, h2, h3, h4, h5, h6', h7⟩ := h
  have e1 : (zws cA e0 ad κ f a L).set q (ad r o, zcell cA e0 ad κ f a' r o) = zws cA e0 ad κ f a' L := by
    refine zws_set h4 hq fun r' o' hn => ?_
    unfold zcell
    simp only [fun j => hne r' o' j hn]
  rw [e1] at hP hD
  refine ⟨hP, hD, hS, h4, h5, fun r' o' k' n' hk' => ?_, h7⟩
  obtain ⟨g1, g2, g3, g4⟩ := h6' r' o' k' n' hk'
  by_cases hrr : r' = r ∧ o' = o
  · obtain ⟨rfl, rfl⟩ := hrr
    rw [hk] at hk'
    cases hk'
    exact ⟨fun hz j => hx.1 (by omega) j, fun hz j => hx.2 hz j, g3, fun hz => absurd hz h6⟩
  · exact ⟨fun hz j => by rw [hne _ _ _ hrr]; exact g1 hz j, fun hz j => by rw [hne _ _ _ hrr]; exact g2 hz j, g3, fun hz => ⟨(g4 hz).1, (g4 hz).2.1, fun j => by rw [hne _ _ _ hrr]; exact (g4 hz).2.2 j⟩⟩
theorem zI32_nn {n : Int} (h : zI32 n) (h0 : 0 ≤ n) : ¬ Int32.ofInt n < 0 ∧ (Int32.ofInt n).toNatClampNeg = n.toNat := by
  refine ⟨fun q => by have := (zlt32 h zI32_0).mp q; omega, ?_⟩
  show ((Int32.ofInt n).toInt).toNat = n.toNat
  rw [zI32_to h]
theorem zo_copy (F : zFr D cA e0 bS nS xS A p s m args meth c own nm cc nL) {idx : Nat} (hw1 : Cond.methodLink own idx arraycopyName ∈ zgood) (hw2 : Cond.native arraycopyName ∈ zgood) (hw3 : Cond.static arraycopyName ∈ zgood) (hw4 : Cond.initialized "java/lang/System" ∈ zgood) (hdg : decode cc pc = .ok (.invokestatic idx, 3))
    (hfr : 1 ≤ R.frames ∧ 37 ≤ R.locals) (hlen : lsv.length = nL) (hsum : (stv.map zcat).sum ≤ 13) (h : zcopy stv lsv μ = some (lsv', stv', μ'))
    (kk : zcont D cA e0 bS nS xS A p l e R s m args below meth c Q L0 ad0 u0 v0 (pc + 3) lsv' stv' μ') : zcont D cA e0 bS nS xS A p l e R s m args below meth c Q L0 ad0 u0 v0 pc lsv stv μ := by
  obtain ⟨hx, hb, hml, hown, hts, hE, hRO, hlk, hnm, hA⟩ := F
  unfold zcopy at h
  split at h
  · rename_i n dp r2 o2 sp r1 o1 st0
    split at h
    · rename_i k1 n1 k2 n2 hk1 hk2
      split at h
      · rename_i hc0
        cases h
        obtain ⟨rfl, hk2', hne, hn0, hsp, hdp, hb1, hb2⟩ := hc0
        intro L ad H locs ls cells slots hext hrel hl hlv hsv hc hs
        obtain ⟨g1, g2⟩ := zI32_nn (zvok_head hsv) hn0
        obtain ⟨g3, g4⟩ := zI32_nn (zvok_head (zvok_tail hsv)) hdp
        obtain ⟨g5, g6⟩ := zI32_nn (zvok_head (zvok_tail (zvok_tail (zvok_tail hsv)))) hsp
        have e1 : zcv e0 ad (.inr (.inr (1, r1, o1))) = .ref (ad r1 o1) := rfl
        have e2 : zcv e0 ad (.inr (.inr (1, r2, o2))) = .ref (ad r2 o2) := rfl
        simp only [List.map_cons]
        rw [e1, e2]
        obtain ⟨q1, hq1⟩ := zRel_place hrel hk1 (by omega)
        obtain ⟨q2, hq2⟩ := zRel_place hrel hk2 (by omega)
        have hg1 := zws_get (cA := cA) (e0 := e0) (ad := ad) (κ := μ.1) (f := μ.2.1) (a := μ.2.2.1) hq1
        have hg2 := zws_get (cA := cA) (e0 := e0) (ad := ad) (κ := μ.1) (f := μ.2.1) (a := μ.2.2.1) hq2
        rw [zcell_n hk1 (by omega)] at hg1
        rw [zcell_n hk2 (by omega)] at hg2
        have hok1 := (hrel.2.2.2.2.2.1 r1 o1 k1 n1 hk1).1 (Or.inl (by omega))
        have hok2 := (hrel.2.2.2.2.2.1 r2 o2 k1 n2 hk2).1 (Or.inl (by omega))
        obtain ⟨ty, hty, hp, hfit⟩ : ∃ ty, (zTY cA)[k1]? = some (cA k1, ty) ∧ refKind ty = false ∧ ∀ j, fits ty (.int (Int32.ofInt (μ.2.2.1 r1 o1 j))) = true := by
          rcases (show k1 = 0 ∨ k1 = 1 by omega) with rfl | rfl
          · exact ⟨.int, rfl, rfl, fun _ => rfl⟩
          · refine ⟨.boolean, rfl, rfl, fun j => ?_⟩
            rcases (hok1 j).2 rfl with h9 | h9 <;> rw [h9] <;> decide
        refine va_copyi (D := D) (cl := vwCl) hx hb (by rw [hl.1, hlen, hml]) hown (hts _ hw1) (hts _ hw2) (hts _ hw3) (hts _ hw4) hE.1 hrel.1 hrel.2.1 hrel.2.2.1 q1 q2 k1 k1 hg1 hg2 hty hty hp g5 g3 g1 (by rw [g6, g2]; omega) (by rw [g4, g2]; omega) (fun i _ => hfit _) hfr.1 ?_ hdg fun H1 locs1 hP1 hD1 hS1 => ?_
        · rw [zcatsum]
          have e9 : nativeFrameWords "java/lang/System" "arraycopy" 5 = 7 := by decide
          rw [e9]
          simp only [List.map_cons, List.sum_cons] at hsum
          omega
        · rw [g2, g4, g6] at hP1 hD1
          have e3 : va_cpy (fun j => Int32.ofInt (μ.2.2.1 r1 o1 j)) (fun j => Int32.ofInt (μ.2.2.1 r2 o2 j)) sp.toNat dp.toNat n.toNat = fun j => Int32.ofInt (if r2 = r2 ∧ o2 = o2 ∧ dp.toNat ≤ j ∧ j < dp.toNat + n.toNat then μ.2.2.1 r1 o1 (sp.toNat + (j - dp.toNat)) else μ.2.2.1 r2 o2 j) := by
            funext j
            unfold va_cpy
            by_cases hj : dp.toNat ≤ j ∧ j < dp.toNat + n.toNat
            · simp [hj]
            · rw [if_neg hj, if_neg (fun z => hj z.2.2)]
          rw [e3, ← zcell_n (cA := cA) (e0 := e0) (ad := ad) (f := μ.2.1) (a := fun r o j => if r = r2 ∧ o = o2 ∧ dp.toNat ≤ j ∧ j < dp.toNat + n.toNat then μ.2.2.1 r1 o1 (sp.toNat + (j - dp.toNat)) else μ.2.2.1 r o j) hk2 (by omega)] at hP1 hD1
          refine kk L ad H1 locs1 ls cells slots hext (zRel_wA hrel hk2 (by omega) hq2 (fun r' o' j hn => by dsimp only; rw [if_neg (fun z => hn ⟨z.1, z.2.1⟩)]) ⟨fun _ j => ?_, fun z => by omega⟩ hP1 hD1 hS1) hl hlv (zvok_tail (zvok_tail (zvok_tail (zvok_tail (zvok_tail hsv))))) hc hs
          dsimp only
          split
          · exact hok1 _
          · exact hok2 _
      · cases h
    · cases h
  · cases h
theorem zo_objinit (F : zFr D cA e0 bS nS xS A p s m args meth c own nm cc nL) {idx : Nat} (hw1 : Cond.methodLink own idx objectInit ∈ zgood) (hw2 : Cond.instanceMethod objectInit ∈ zgood) (hw3 : Cond.code objectInit ⟨#[0xb1]⟩ 1 none ∈ zgood) (hdg : decode cc pc = .ok (.invokespecial idx, 3)) (hfr : 1 ≤ R.frames ∧ 37 ≤ R.locals) (hlen : lsv.length = nL)
    {r o : Nat} {st0 : List ZV} (hsum : (st0.map zcat).sum ≤ 8)
    (kk : zcont D cA e0 bS nS xS A p l e R s m args below meth c Q L0 ad0 u0 v0 (pc + 3) lsv st0 μ) : zcont D cA e0 bS nS xS A p l e R s m args below meth c Q L0 ad0 u0 v0 pc lsv (.inr (.inr (1, r, o)) :: st0) μ := by
  obtain ⟨hx, hb, hml, hown, hts, hE, hRO, hlk, hnm, hA⟩ := F
  intro L ad H locs ls cells slots hext hrel hl hlv hsv hc hs
  have e1 : zcv e0 ad (.inr (.inr (1, r, o))) = .ref (ad r o) := rfl
  rw [List.map_cons, e1]
  refine W.objInit hx hb hown (hts _ hw1) (hts _ hw2) (hts _ hw3) (g := F0 m pc ls (.ref (ad r o) :: st0.map (zcv e0 ad))) rfl (by rw [hml]; exact hl.1.trans hlen) rfl hdg hfr.1 ?_ (kk L ad H locs ls cells slots hext hrel hl hlv (zvok_tail hsv) hc hs)
  have h8 := zcatsum (e0 := e0) (ad := ad) st0
  show 2 * 0 + _ + 12 ≤ _
  omega
theorem zo_bald (F : zFr D cA e0 bS nS xS A p s m args meth c own nm cc nL) (hdg : decode cc pc = .ok (.baload, 1)) (h : zbald stv lsv μ = some (lsv', stv', μ'))
    (kk : zcont D cA e0 bS nS xS A p l e R s m args below meth c Q L0 ad0 u0 v0 (pc + 1) lsv' stv' μ') : zcont D cA e0 bS nS xS A p l e R s m args below meth c Q L0 ad0 u0 v0 pc lsv stv μ := by
  obtain ⟨hx, hb, hml, hown, hts, hE, hRO, hlk, hnm, hA⟩ := F
  unfold zbald at h
  split at h
  · rename_i i t r o st0
    split at h
    · split at h
      · rename_i hc0
        cases h
        obtain ⟨h0, hi, hr⟩ := hc0
        intro L ad H locs ls cells slots hext hrel hl hlv hsv hc hs
        obtain ⟨⟨adK, adV, hK, hS10⟩, -⟩ := hRO
        have e1 : zcv e0 ad (.inr (.inr (5, r, o))) = .ref (adV r) := by unfold zcv; simp [(hK r hr).2, va_rf]
        obtain ⟨hi1, hn⟩ := zin (n := (zstr r).length) (zvok_head hsv) h0 hi
        have hT := (hS10.1 r hr).2.2.2
        have el := (zs_len r hr).1
        have ev : ∀ j, j < (zstr r).length → (zsbyt.getD r []).getD j 0 = Int32.ofInt ((zstr r).getD j 0) := by
          intro j hj
          have e2 := zs_byt r hr
          rw [e2, List.getD_eq_getElem?_getD, List.getElem?_map, List.getD_eq_getElem?_getD, List.getElem?_eq_getElem hj]
          rfl
        have hb1 : zI32 ((zstr r).getD i.toNat 0) := by
          have hlt : i.toNat < (zstr r).length := by omega
          have h9 := List.all_eq_true.mp (zs_all r hr) ((zstr r)[i.toNat]) (List.getElem_mem hlt)
          rw [List.getD_eq_getElem?_getD, List.getElem?_eq_getElem hlt]
          simp only [Bool.and_eq_true, decide_eq_true_eq] at h9
          unfold zI32
          simp only [Option.getD_some]
          omega
        have kx := kk L ad H locs ls cells slots hext hrel hl hlv (zvok_cons hb1 (zvok_tail (zvok_tail hsv))) hc hs
        simp only [List.map_cons] at kx ⊢
        rw [e1]
        exact va_tb hx hb (A := A) hT hrel.2.2.1 (by rw [el]; exact hi1) (v := .int (Int32.ofInt ((zstr r).getD i.toNat 0))) (by rw [hn, ev _ (by omega)]) hdg kx
      · cases h
    · split at h
      · rename_i k n hk
        split at h
        · rename_i hc0
          cases h
          intro L ad H locs ls cells slots hext hrel hl hlv hsv hc hs
          obtain ⟨hi, hn⟩ := zin (zvok_head hsv) hc0.2.1 hc0.2.2
          have e1 : zcv e0 ad (.inr (.inr (1, r, o))) = .ref (ad r o) := rfl
          have hok := hrel.2.2.2.2.2.1 r o k n hk
          have kx := kk L ad H locs ls cells slots hext hrel hl hlv (zvok_cons (show zI32 _ from (hok.1 (by omega) i.toNat).1) (zvok_tail (zvok_tail hsv))) hc hs
          simp only [List.map_cons] at kx ⊢
          rw [e1]
          obtain ⟨q, hq⟩ := zRel_place hrel hk (by omega)
          have hg := zws_get (cA := cA) (e0 := e0) (ad := ad) (κ := μ.1) (f := μ.2.1) (a := μ.2.2.1) hq
          rw [zcell_n hk (by omega)] at hg
          rcases hc0.1 with rfl | rfl
          · refine va_zald (D := D) (cl := vwCl) hx hb hE.1 hrel.1 q 1 hg rfl hi hdg ?_
            rw [hn]
            exact kx
          · refine va_bald (D := D) (cl := vwCl) hx hb hE.1 hrel.1 q 2 hg rfl hi hdg ?_
            rw [hn]
            exact kx
        · cases h
      · cases h
    · cases h
  · cases h
theorem zo_alen (F : zFr D cA e0 bS nS xS A p s m args meth c own nm cc nL) (hdg : decode cc pc = .ok (.arraylength, 1)) (h : zalen stv lsv μ = some (lsv', stv', μ'))
    (kk : zcont D cA e0 bS nS xS A p l e R s m args below meth c Q L0 ad0 u0 v0 (pc + 1) lsv' stv' μ') : zcont D cA e0 bS nS xS A p l e R s m args below meth c Q L0 ad0 u0 v0 pc lsv stv μ := by
  obtain ⟨hx, hb, hml, hown, hts, hE, hRO, hlk, hnm, hA⟩ := F
  unfold zalen at h
  split at h
  · rename_i t r o st0
    split at h
    · split at h
      · rename_i hr
        cases h
        intro L ad H locs ls cells slots hext hrel hl hlv hsv hc hs
        obtain ⟨⟨adK, adV, hK, hS10⟩, -⟩ := hRO
        have e1 : zcv e0 ad (.inr (.inr (5, r, o))) = .ref (adV r) := by unfold zcv; simp [(hK r hr).2, va_rf]
        have hT := (hS10.1 r hr).2.2.2
        have el := zs_len r hr
        have kx := kk L ad H locs ls cells slots hext hrel hl hlv (zvok_cons (show zI32 _ by unfold zI32; omega) (zvok_tail hsv)) hc hs
        simp only [List.map_cons] at kx ⊢
        rw [e1]
        exact va_tlen hx hb (A := A) hT hrel.2.2.1 (v := Int32.ofInt ((zstr r).length : Int)) (by rw [el.1, Int32.ofInt_eq_ofNat]) hdg kx
      · cases h
    · split at h
      · rename_i k n hk
        split at h
        · rename_i hc0
          cases h
          intro L ad H locs ls cells slots hext hrel hl hlv hsv hc hs
          have e1 : zcv e0 ad (.inr (.inr (1, r, o))) = .ref (ad r o) := rfl
          have hok := hrel.2.2.2.2.2.1 r o k n hk
          have kx := kk L ad H locs ls cells slots hext hrel hl hlv (zvok_cons (show zI32 _ by unfold zI32; omega) (zvok_tail hsv)) hc hs
          simp only [List.map_cons] at kx ⊢
          rw [e1]
          have e5 : zcv e0 ad (.inl (n : Int)) = .int (Int32.ofNat n) := by show Value.int (Int32.ofInt (n : Int)) = _; rw [Int32.ofInt_eq_ofNat]
          rw [e5] at kx
          by_cases h6 : k = 6
          · obtain ⟨q1, q2, q3⟩ := hok.2.2.2 h6
            rw [q1]
            rw [q2] at kx
            exact va_slen hx hb (xs := fun j => Int32.ofInt (xS j)) hRO.2.2.2.1 hRO.2.2.2.2.1 hRO.2.2.2.2.2 hrel.2.2.1 hdg kx
          · obtain ⟨q, hq⟩ := zRel_place hrel hk h6
            have hg := zws_get (cA := cA) (e0 := e0) (ad := ad) (κ := μ.1) (f := μ.2.1) (a := μ.2.2.1) hq
            obtain ⟨ty, hty⟩ := zTY_at (cA := cA) k (by omega)
            have hz : ∃ z : vp_A, zcell cA e0 ad μ.1 μ.2.1 μ.2.2.1 r o = .inl (cA k, z) ∧ z.1 = n := by
              by_cases h2 : k ≤ 2
              · exact ⟨_, zcell_n hk h2, rfl⟩
              · by_cases h3 : k = 3
                · subst h3; exact ⟨_, zcell_l hk, rfl⟩
                · exact ⟨_, zcell_q hk (by omega), rfl⟩
            obtain ⟨z, hz1, hz2⟩ := hz
            rw [hz1] at hg
            exact va_alen (D := D) (cl := vwCl) hx hb hE.1 hrel.1 q k hg hty (v := Int32.ofNat n) (by rw [hz2]) hdg kx
        · cases h
      · cases h
    · cases h
  · cases h
theorem zo_max (F : zFr D cA e0 bS nS xS A p s m args meth c own nm cc nL) {idx : Nat} (hw1 : Cond.methodLink own idx Lib.Math.max.name ∈ zgood) (hw2 : Cond.static Lib.Math.max.name ∈ zgood) (hw3 : Cond.initialized "java/lang/Math" ∈ zgood) (hw4 : Cond.code Lib.Math.max.name Lib.Math.max.code 2 (some .int) ∈ zgood) (hdg : decode cc pc = .ok (.invokestatic idx, 3))
    (hfr : 1 ≤ R.frames ∧ 37 ≤ R.locals) (hlen : lsv.length = nL) (hsum : (stv.map zcat).sum ≤ 13) (hR : μ.2.2.2.2.1 ≤ R.cells + u0 ∧ μ.2.2.2.2.2 ≤ R.slots + v0) (h : zbin stv lsv μ zmax = some (lsv', stv', μ'))
    (kk : zcont D cA e0 bS nS xS A p l e R s m args below meth c Q L0 ad0 u0 v0 (pc + 3) lsv' stv' μ') : zcont D cA e0 bS nS xS A p l e R s m args below meth c Q L0 ad0 u0 v0 pc lsv stv μ := by
  obtain ⟨hx, hb, hml, hown, hts, hE, hRO, hlk, hnm, hA⟩ := F
  unfold zbin at h
  split at h
  · rename_i y x st0
    cases h
    intro L ad H locs ls cells slots hext hrel hl hlv hsv hc hs
    have hy := zvok_head hsv
    have hx0 := zvok_head (zvok_tail hsv)
    have kx := kk L ad H locs ls cells slots hext hrel hl hlv (zvok_cons (by unfold zmax; split; exact hy; exact hx0) (zvok_tail (zvok_tail hsv))) hc hs
    have e1 : zcv e0 ad (.inl (zmax x y)) = .int (if Int32.ofInt x < Int32.ofInt y then Int32.ofInt y else Int32.ofInt x) := by
      unfold zmax
      by_cases hh : x < y
      · rw [if_pos hh, if_pos ((zlt32 hx0 hy).mpr hh)]; rfl
      · rw [if_neg hh, if_neg (fun z => hh ((zlt32 hx0 hy).mp z))]; rfl
    rw [List.map_cons, e1] at kx
    refine va_mmax hx hb (by rw [hl.1, hlen, hml]) hown (hts _ hw1) (hts _ hw2) (hts _ hw3) (hts _ hw4) hfr.1 ?_ (by omega) (by omega) hdg kx
    rw [zcatsum]
    simp only [List.map_cons, List.sum_cons] at hsum
    omega
  · cases h
theorem zo_min (F : zFr D cA e0 bS nS xS A p s m args meth c own nm cc nL) {idx : Nat} (hw1 : Cond.methodLink own idx Lib.Math.min.name ∈ zgood) (hw2 : Cond.static Lib.Math.min.name ∈ zgood) (hw3 : Cond.initialized "java/lang/Math" ∈ zgood) (hw4 : Cond.code Lib.Math.min.name Lib.Math.min.code 2 (some .int) ∈ zgood) (hdg : decode cc pc = .ok (.invokestatic idx, 3))
    (hfr : 1 ≤ R.frames ∧ 37 ≤ R.locals) (hlen : lsv.length = nL) (hsum : (stv.map zcat).sum ≤ 13) (hR : μ.2.2.2.2.1 ≤ R.cells + u0 ∧ μ.2.2.2.2.2 ≤ R.slots + v0) (h : zbin stv lsv μ zmin = some (lsv', stv', μ'))
    (kk : zcont D cA e0 bS nS xS A p l e R s m args below meth c Q L0 ad0 u0 v0 (pc + 3) lsv' stv' μ') : zcont D cA e0 bS nS xS A p l e R s m args below meth c Q L0 ad0 u0 v0 pc lsv stv μ := by
  obtain ⟨hx, hb, hml, hown, hts, hE, hRO, hlk, hnm, hA⟩ := F
  unfold zbin at h
  split at h
  · rename_i y x st0
    cases h
    intro L ad H locs ls cells slots hext hrel hl hlv hsv hc hs
    have hy := zvok_head hsv
    have hx0 := zvok_head (zvok_tail hsv)
    have kx := kk L ad H locs ls cells slots hext hrel hl hlv (zvok_cons (by unfold zmin; split; exact hy; exact hx0) (zvok_tail (zvok_tail hsv))) hc hs
    have e1 : zcv e0 ad (.inl (zmin x y)) = .int (if Int32.ofInt y < Int32.ofInt x then Int32.ofInt y else Int32.ofInt x) := by
      unfold zmin
      by_cases hh : y < x
      · rw [if_pos hh, if_pos ((zlt32 hy hx0).mpr hh)]; rfl
      · rw [if_neg hh, if_neg (fun z => hh ((zlt32 hy hx0).mp z))]; rfl
    rw [List.map_cons, e1] at kx
    refine va_mmin hx hb (by rw [hl.1, hlen, hml]) hown (hts _ hw1) (hts _ hw2) (hts _ hw3) (hts _ hw4) hfr.1 ?_ (by omega) (by omega) hdg kx
    rw [zcatsum]
    simp only [List.map_cons, List.sum_cons] at hsum
    omega
  · cases h
end ZF1
end
section
/-! new long[4][60]; fields of Strings, statics, String constants -/
section ZG1
variable {D : va_G} {cA : Nat → ClassId} {e0 : Nat → Nat → Option Nat} {bS nS : Nat} {xS : Nat → Int} {A : Nat → Prop} {p : Program} {l : Launch} {e : Env} {R : Room} {s : State} {m : MethodId} {args : Array Value} {below : List Frame} {meth : Method} {c : Code} {Q : State → Prop} {L0 : List (Nat × Nat)} {ad0 : Nat → Nat → Nat} {u0 v0 : Nat}
variable {own nm : String} {cc : ByteArray} {nL pc : Nat} {lsv stv lsv' stv' : List ZV} {μ μ' : ZM}
theorem zws_mem {ad : Nat → Nat → Nat} {κ : ZK} {f : ZF} {a : ZA} {L : List (Nat × Nat)} {k : Nat} {y : Nat × va_E} (h : (zws cA e0 ad κ f a L)[k]? = some y) : ∃ z ∈ L, y.1 = ad z.1 z.2 := by
  unfold zws at h
  rw [List.getElem?_map] at h
  cases hz : L[k]? with
  | none => rw [hz] at h; cases h
  | some z =>
    rw [hz] at h
    cases h
    exact ⟨z, List.mem_of_getElem? hz, rfl⟩
theorem zRel_new2 {L : List (Nat × Nat)} {ad : Nat → Nat → Nat} {κ : ZK} {f : ZF} {a : ZA} {H1 : Heap} {locs1 : List Loc} {r o q k n : Nat} {g : Nat → ZV} (hrel : zRel D cA e0 bS nS xS A s L ad κ f a H1 locs1) (hf : κ r o = none) (h6 : k ≠ 6)
    (hg : ∀ j, zvok (zuk κ r o (k, n)) (g j)) (hg4 : k = 4 ∨ k = 5 → ∀ j, ∃ t r' o', g j = .inr (.inr (t, r', o')) ∧ t ≤ 1)
    (hat : va_at D vwCl (q, zcell cA e0 (zad ad r o q) (zuk κ r o (k, n)) (zuF f r o g) (zuA a r o (fun _ => 0)) r o) H1) (hA : A q) (hne : ∀ z ∈ L, ad z.1 z.2 ≠ q) :
    zRel D cA e0 bS nS xS A s (L ++ [(r, o)]) (zad ad r o q) (zuk κ r o (k, n)) (zuF f r o g) (zuA a r o (fun _ => 0)) H1 locs1 := by
  refine zRel_new hrel hf h6 hg hg4 (hrel.1.app fun k9 x hx => ?_) ⟨fun i j x y hi hj hxy => ?_, fun k9 x hx => ?_⟩
  · have h0 : k9 < 1 := (List.getElem?_eq_some_iff.mp hx).1
    rw [show k9 = 0 by omega] at hx
    cases hx
    exact hat
  · have key : ∀ (i : Nat) (x : Nat × va_E), (zws cA e0 ad κ f a L ++ [(q, zcell cA e0 (zad ad r o q) (zuk κ r o (k, n)) (zuF f r o g) (zuA a r o (fun _ => 0)) r o)])[i]? = some x → ((zws cA e0 ad κ f a L)[i]? = some x ∧ x.1 ≠ q) ∨ (i = (zws cA e0 ad κ f a L).length ∧ x.1 = q) := by
      intro i x hi
      by_cases hl : i < (zws cA e0 ad κ f a L).length
      · rw [List.getElem?_append_left hl] at hi
        obtain ⟨z, hz, e1⟩ := zws_mem hi
        exact Or.inl ⟨hi, by rw [e1]; exact hne z hz⟩
      · rw [List.getElem?_append_right (by omega)] at hi
        have h0 : i - (zws cA e0 ad κ f a L).length < 1 := (List.getElem?_eq_some_iff.mp hi).1
        have h1 : i = (zws cA e0 ad κ f a L).length := by omega
        rw [show i - (zws cA e0 ad κ f a L).length = 0 by omega] at hi
        cases hi
        exact Or.inr ⟨h1, rfl⟩
    rcases key i x hi with ⟨a1, a2⟩ | ⟨a1, a2⟩ <;> rcases key j y hj with ⟨b1, b2⟩ | ⟨b1, b2⟩
    · exact hrel.2.1.1 i j x y a1 b1 hxy
    · exact absurd (hxy.trans b2) a2
    · exact absurd (hxy.symm.trans a2) b2
    · omega
  · by_cases hl : k9 < (zws cA e0 ad κ f a L).length
    · rw [List.getElem?_append_left hl] at hx
      exact hrel.2.1.2 k9 x hx
    · rw [List.getElem?_append_right (by omega)] at hx
      have h0 : k9 - (zws cA e0 ad κ f a L).length < 1 := (List.getElem?_eq_some_iff.mp hx).1
      rw [show k9 - (zws cA e0 ad κ f a L).length = 0 by omega] at hx
      cases hx
      exact hA
theorem zne_new {L : List (Nat × Nat)} {ad : Nat → Nat → Nat} {r o q x : Nat} (h : ∀ z ∈ L, ad z.1 z.2 ≠ x) (hq : q ≠ x) : ∀ z ∈ L ++ [(r, o)], zad ad r o q z.1 z.2 ≠ x := fun z hz => by
  unfold zad
  by_cases hc : z.1 = r ∧ z.2 = o
  · rw [if_pos hc]; exact hq
  · rw [if_neg hc]
    rcases List.mem_append.mp hz with h1 | h1
    · exact h z h1
    · rw [List.mem_singleton] at h1
      exact absurd ⟨congrArg Prod.fst h1, congrArg Prod.snd h1⟩ hc
theorem zad_ne {ad : Nat → Nat → Nat} {r o q r' o' : Nat} (h : ¬ (r' = r ∧ o' = o)) : zad ad r o q r' o' = ad r' o' := if_neg h
theorem zad_eq {ad : Nat → Nat → Nat} {r o q : Nat} : zad ad r o q r o = q := if_pos ⟨rfl, rfl⟩
theorem zuk_ne {κ : ZK} {r o : Nat} {w : Nat × Nat} {r' o' : Nat} (h : ¬ (r' = r ∧ o' = o)) : zuk κ r o w r' o' = κ r' o' := if_neg h
theorem zuk_eq {κ : ZK} {r o : Nat} {w : Nat × Nat} : zuk κ r o w r o = some w := if_pos ⟨rfl, rfl⟩
theorem zrow_cell {ad : Nat → Nat → Nat} {κ : ZK} {f : ZF} {a : ZA} {r o : Nat} : zcell cA e0 ad (zuk κ r o (3, 60)) f (zuA a r o (fun _ => 0)) r o = .inl (cA 3, 60, .inr (.inl fun _ => 0)) := by
  rw [zcell_l zuk_eq]
  have e : (fun j => Int64.ofInt (zuA a r o (fun _ => 0) r o j)) = fun _ => 0 := funext fun j => by unfold zuA; rw [if_pos ⟨rfl, rfl⟩]; rfl
  rw [e]
theorem zo_multi (F : zFr D cA e0 bS nS xS A p s m args meth c own nm cc nL) {idx : Nat} (hw1 : Cond.classLink own idx ("[" ++ (FieldType.array .long).toString) ∈ zgood) (hw2 : Cond.arrayClass .long ∈ zgood) (hdg : decode cc pc = .ok (.multianewarray idx 2, 4)) (hn0 : ∀ r, e0 0 r = none) (h : zmulti stv lsv μ = some (lsv', stv', μ'))
    (hR : μ'.2.2.2.2.1 ≤ R.cells + u0 ∧ μ'.2.2.2.2.2 ≤ R.slots + v0)
    (kk : zcont D cA e0 bS nS xS A p l e R s m args below meth c Q L0 ad0 u0 v0 (pc + 4) lsv' stv' μ') : zcont D cA e0 bS nS xS A p l e R s m args below meth c Q L0 ad0 u0 v0 pc lsv stv μ := by
  obtain ⟨hx, hb, hml, hown, hts, hE, hRO, hlk, hnm, hA⟩ := F
  unfold zmulti at h
  split at h
  · rename_i k n st0 κ f a r0 o0 r1 o1 r2 o2 r3 o3 r4 o4 ns c0 s0
    split at h
    · rename_i hc0
      cases h
      obtain ⟨rfl, rfl, f0, f1, f2, f3, f4, hnd⟩ := hc0
      intro L ad H locs ls cells slots hext hrel hl hlv hsv hc hs
      dsimp only at hrel hc hs hlv hsv hR
      simp only [List.nodup_cons, List.mem_cons, List.not_mem_nil, or_false, not_or, not_false_eq_true, List.nodup_nil, and_true, Prod.mk.injEq] at hnd
      obtain ⟨⟨d01, d02, d03, d04⟩, ⟨d12, d13, d14⟩, ⟨d23, d24⟩, d34⟩ := hnd
      have hcy : s.vm.findClass (FieldType.array .long).toString = some (cA 3) := (hE.1.2 3 _ rfl).2
      have hP0 : va_P D vwCl (zws cA e0 ad κ f a L ++ va_pl [] (fun _ => .inr (0, []))) H := by simpa [va_pl] using hrel.1
      have hD0 : va_D A (zws cA e0 ad κ f a L ++ va_pl [] (fun _ => .inr (0, []))) := by simpa [va_pl] using hrel.2.1
      show W p l e R s m args below meth c H locs cells slots Q (F0 m pc ls (.int 60 :: .int 4 :: st0.map (zcv e0 ad)))
      refine va_mna (D := D) (cl := vwCl) (z := (60, .inr (.inl fun _ => 0))) hx hb hown (hts _ hw1) hE.2.2.2.1 (hts _ hw2) hcy hE.1 hP0 hD0 hrel.2.2.1 hA (n := 4) (k := 60) (N' := 4) (K' := 60) (by decide) (by decide) rfl rfl (by decide) (by decide) (by decide) (by decide) (by decide) (by omega) (by omega) (fun c => by rw [vp_cell_l]; exact arrV_new _ _ _) hdg fun q r cA' H1 hinj _ hK1 hP1 hD1 hS1 => ?_
      have hcA : cA' = cA 5 := zcA_eq hE (k := 5) rfl (hK1.2 6 (cA', .array .long) (by rfl)).2
      subst hcA
      have hX := zP_pre (zP_pre hP1)
      have hXD := zD_pre (zD_pre hD1)
      have len1 : ((zws cA e0 ad κ f a L) ++ [(q, Sum.inl (cA 5, 4, Sum.inr (Sum.inr (Sum.inr (Sum.inr (fun i => if i < 4 then some (r i) else none))))))] : va_W).length = (zws cA e0 ad κ f a L).length + 1 := by simp
      have gq : (((zws cA e0 ad κ f a L) ++ [(q, .inl (cA 5, 4, .inr (.inr (.inr (.inr (fun i => if i < 4 then some (r i) else none))))))]) ++ va_pl ([] ++ (List.range 4).map r) (vr_up (fun _ => .inr (0, [])) ((List.range 4).map r) (.inl (cA 3, 60, .inr (.inl fun _ => 0)))) : va_W)[(zws cA e0 ad κ f a L).length]? = some (q, .inl (cA 5, 4, .inr (.inr (.inr (.inr (fun i => if i < 4 then some (r i) else none)))))) := by
        rw [List.getElem?_append_left (by rw [len1]; omega), List.getElem?_append_right (Nat.le_refl _), Nat.sub_self]
        rfl
      have gr : ∀ i, i < 4 → (((zws cA e0 ad κ f a L) ++ [(q, .inl (cA 5, 4, .inr (.inr (.inr (.inr (fun i => if i < 4 then some (r i) else none))))))]) ++ va_pl ([] ++ (List.range 4).map r) (vr_up (fun _ => .inr (0, [])) ((List.range 4).map r) (.inl (cA 3, 60, .inr (.inl fun _ => 0)))) : va_W)[(zws cA e0 ad κ f a L).length + 1 + i]? = some (r i, .inl (cA 3, 60, .inr (.inl fun _ => 0))) := by
        intro i hi
        rw [List.getElem?_append_right (by rw [len1]; omega), len1, show (zws cA e0 ad κ f a L).length + 1 + i - ((zws cA e0 ad κ f a L).length + 1) = i by omega]
        unfold va_pl
        rw [List.nil_append, List.getElem?_map, List.getElem?_map, List.getElem?_range hi]
        show some (r i, vr_up _ _ _ (r i)) = _
        rw [vr_up_in (List.mem_map.mpr ⟨i, List.mem_range.mpr hi, rfl⟩)]
      have hold : ∀ z ∈ L, ∀ x : Nat, ∀ (i : Nat) (y : va_E), (zws cA e0 ad κ f a L).length ≤ i → (((zws cA e0 ad κ f a L) ++ [(q, .inl (cA 5, 4, .inr (.inr (.inr (.inr (fun i => if i < 4 then some (r i) else none))))))]) ++ va_pl ([] ++ (List.range 4).map r) (vr_up (fun _ => .inr (0, [])) ((List.range 4).map r) (.inl (cA 3, 60, .inr (.inl fun _ => 0)))) : va_W)[i]? = some (x, y) → ad z.1 z.2 ≠ x := by
        intro z hz x i y hi hy e9
        obtain ⟨j, hj⟩ := List.getElem?_of_mem hz
        have h9 := zws_get (cA := cA) (e0 := e0) (ad := ad) (κ := κ) (f := f) (a := a) (L := L) (i := j) (r := z.1) (o := z.2) hj
        have hjl : j < (zws cA e0 ad κ f a L).length := (List.getElem?_eq_some_iff.mp h9).1
        have h10 : (((zws cA e0 ad κ f a L) ++ [(q, .inl (cA 5, 4, .inr (.inr (.inr (.inr (fun i => if i < 4 then some (r i) else none))))))]) ++ va_pl ([] ++ (List.range 4).map r) (vr_up (fun _ => .inr (0, [])) ((List.range 4).map r) (.inl (cA 3, 60, .inr (.inl fun _ => 0)))) : va_W)[j]? = some (ad z.1 z.2, zcell cA e0 ad κ f a z.1 z.2) := by
          rw [List.getElem?_append_left (by rw [len1]; omega), List.getElem?_append_left hjl]
          exact h9
        have := hD1.1 j i _ _ h10 hy e9
        omega
      have nq : ∀ z ∈ L, ad z.1 z.2 ≠ q := fun z hz => hold z hz q _ _ (Nat.le_refl _) gq
      have nr : ∀ i, i < 4 → ∀ z ∈ L, ad z.1 z.2 ≠ r i := fun i hi z hz => hold z hz (r i) _ _ (by omega) (gr i hi)
      have rq : ∀ i, i < 4 → r i ≠ q := fun i hi e9 => by
        have := hD1.1 _ _ _ _ (gr i hi) gq e9
        omega
      have rr : ∀ i j, i < 4 → j < 4 → i ≠ j → r i ≠ r j := fun i j hi hj hij e9 => hij (hinj i j hi hj e9)
      have hrel1 : zRel D cA e0 bS nS xS A s L ad κ f a H1 locs := ⟨hX, hXD, hS1, hrel.2.2.2⟩
      have at1 : ∀ i, i < 4 → ∀ (ad' : Nat → Nat → Nat) (κ' : ZK) (f' : ZF) (a' : ZA) (r' o' : Nat), va_at D vwCl (r i, zcell cA e0 ad' (zuk κ' r' o' (3, 60)) f' (zuA a' r' o' (fun _ => 0)) r' o') H1 := fun i hi ad' κ' f' a' r' o' => by
        rw [zrow_cell]
        exact hP1 _ _ (gr i hi)
      have hz3 : ∀ (κ' : ZK) (r' o' : Nat) (w : Nat × Nat) (j : Nat), zvok (zuk κ' r' o' w) ((fun _ => zn : Nat → ZV) j) := fun _ _ _ _ _ => zvok_zn
      have h1 := zRel_new2 (k := 3) (n := 60) (g := fun _ => zn) hrel1 f1 (by decide) (hz3 _ _ _ _) (fun z => by omega) (at1 0 (by decide) _ _ _ _ _ _) (hD1.2 _ _ (gr 0 (by decide))) (nr 0 (by decide))
      have x1 := zext_new hrel1 f1 (q := r 0) hext
      have f2' : zuk κ r1 o1 (3, 60) r2 o2 = none := by rw [zuk_ne (fun z => d12 ⟨z.1.symm, z.2.symm⟩)]; exact f2
      have h2 := zRel_new2 (k := 3) (n := 60) (g := fun _ => zn) h1 f2' (by decide) (hz3 _ _ _ _) (fun z => by omega) (at1 1 (by decide) _ _ _ _ _ _) (hD1.2 _ _ (gr 1 (by decide))) (zne_new (nr 1 (by decide)) (rr 0 1 (by decide) (by decide) (by decide)))
      have x2 := zext_new h1 f2' (q := r 1) x1
      have f3' : zuk (zuk κ r1 o1 (3, 60)) r2 o2 (3, 60) r3 o3 = none := by rw [zuk_ne (fun z => d23 ⟨z.1.symm, z.2.symm⟩), zuk_ne (fun z => d13 ⟨z.1.symm, z.2.symm⟩)]; exact f3
      have h3 := zRel_new2 (k := 3) (n := 60) (g := fun _ => zn) h2 f3' (by decide) (hz3 _ _ _ _) (fun z => by omega) (at1 2 (by decide) _ _ _ _ _ _) (hD1.2 _ _ (gr 2 (by decide))) (zne_new (zne_new (nr 2 (by decide)) (rr 0 2 (by decide) (by decide) (by decide))) (rr 1 2 (by decide) (by decide) (by decide)))
      have x3 := zext_new h2 f3' (q := r 2) x2
      have f4' : zuk (zuk (zuk κ r1 o1 (3, 60)) r2 o2 (3, 60)) r3 o3 (3, 60) r4 o4 = none := by rw [zuk_ne (fun z => d34 ⟨z.1.symm, z.2.symm⟩), zuk_ne (fun z => d24 ⟨z.1.symm, z.2.symm⟩), zuk_ne (fun z => d14 ⟨z.1.symm, z.2.symm⟩)]; exact f4
      have h4 := zRel_new2 (k := 3) (n := 60) (g := fun _ => zn) h3 f4' (by decide) (hz3 _ _ _ _) (fun z => by omega) (at1 3 (by decide) _ _ _ _ _ _) (hD1.2 _ _ (gr 3 (by decide))) (zne_new (zne_new (zne_new (nr 3 (by decide)) (rr 0 3 (by decide) (by decide) (by decide))) (rr 1 3 (by decide) (by decide) (by decide))) (rr 2 3 (by decide) (by decide) (by decide)))
      have x4 := zext_new h3 f4' (q := r 3) x3
      have f0' : zuk (zuk (zuk (zuk κ r1 o1 (3, 60)) r2 o2 (3, 60)) r3 o3 (3, 60)) r4 o4 (3, 60) r0 o0 = none := by rw [zuk_ne (fun z => d04 z), zuk_ne (fun z => d03 z), zuk_ne (fun z => d02 z), zuk_ne (fun z => d01 z)]; exact f0
      have x5 := zext_new h4 f0' (q := q) x4
      have hgv : ∀ j, zvok (zuk (zuk (zuk (zuk (zuk κ r1 o1 (3, 60)) r2 o2 (3, 60)) r3 o3 (3, 60)) r4 o4 (3, 60)) r0 o0 (5, 4)) ((fun i => if i = 0 then zr r1 o1 else if i = 1 then zr r2 o2 else if i = 2 then zr r3 o3 else if i = 3 then zr r4 o4 else zn : Nat → ZV) j) := by
        intro j
        dsimp only
        have t1 : ∀ (κ' : ZK) (r' o' : Nat), κ' r' o' ≠ none → zvok κ' (zr r' o') := fun κ' r' o' hh _ => hh
        have sm : ∀ {κ' : ZK} {r' o' r9 o9 : Nat} {w : Nat × Nat}, κ' r' o' ≠ none → zuk κ' r9 o9 w r' o' ≠ none := fun {κ' r' o' r9 o9 w} hh => by
          unfold zuk
          split
          · exact fun z => by cases z
          · exact hh
        have eqn : ∀ {κ' : ZK} {r' o' : Nat} {w : Nat × Nat}, zuk κ' r' o' w r' o' ≠ none := fun {κ' r' o' w} => by rw [zuk_eq]; exact fun z => by cases z
        repeat' split
        · exact t1 _ _ _ (sm (sm (sm (sm eqn))))
        · exact t1 _ _ _ (sm (sm (sm eqn)))
        · exact t1 _ _ _ (sm (sm eqn))
        · exact t1 _ _ _ (sm eqn)
        · exact zvok_zn
      have hg4 : ∀ j, ∃ t r' o', (fun i => if i = 0 then zr r1 o1 else if i = 1 then zr r2 o2 else if i = 2 then zr r3 o3 else if i = 3 then zr r4 o4 else zn : Nat → ZV) j = .inr (.inr (t, r', o')) ∧ t ≤ 1 := by
        intro j
        dsimp only
        repeat' split
        · exact ⟨1, r1, o1, rfl, by decide⟩
        · exact ⟨1, r2, o2, rfl, by decide⟩
        · exact ⟨1, r3, o3, rfl, by decide⟩
        · exact ⟨1, r4, o4, rfl, by decide⟩
        · exact ⟨0, 0, 0, rfl, by decide⟩
      have h5 := zRel_new2 (k := 5) (n := 4) (q := q) h4 f0' (by decide) hgv (fun _ => hg4) (by
        have e9 : (fun j => zop1 (zad (zad (zad (zad (zad ad r1 o1 (r 0)) r2 o2 (r 1)) r3 o3 (r 2)) r4 o4 (r 3)) r0 o0 q) (zuF (zuF (zuF (zuF (zuF f r1 o1 (fun _ => zn)) r2 o2 (fun _ => zn)) r3 o3 (fun _ => zn)) r4 o4 (fun _ => zn)) r0 o0 (fun i => if i = 0 then zr r1 o1 else if i = 1 then zr r2 o2 else if i = 2 then zr r3 o3 else if i = 3 then zr r4 o4 else zn) r0 o0 j)) = fun i => if i < 4 then some (r i) else none := by
          funext j
          have e8 : zuF (zuF (zuF (zuF (zuF f r1 o1 (fun _ => zn)) r2 o2 (fun _ => zn)) r3 o3 (fun _ => zn)) r4 o4 (fun _ => zn)) r0 o0 (fun i => if i = 0 then zr r1 o1 else if i = 1 then zr r2 o2 else if i = 2 then zr r3 o3 else if i = 3 then zr r4 o4 else zn) r0 o0 j = if j = 0 then zr r1 o1 else if j = 1 then zr r2 o2 else if j = 2 then zr r3 o3 else if j = 3 then zr r4 o4 else zn := if_pos ⟨rfl, rfl⟩
          rw [e8]
          have z1 : ∀ (r' o' : Nat) (ad' : Nat → Nat → Nat), zop1 ad' (zr r' o') = some (ad' r' o') := fun _ _ _ => rfl
          match j with
          | 0 => rw [if_pos rfl, z1, zad_ne (fun z => d01 ⟨z.1.symm, z.2.symm⟩), zad_ne (fun z => d14 z), zad_ne (fun z => d13 z), zad_ne (fun z => d12 z), zad_eq]; rfl
          | 1 => rw [if_neg (by decide), if_pos rfl, z1, zad_ne (fun z => d02 ⟨z.1.symm, z.2.symm⟩), zad_ne (fun z => d24 z), zad_ne (fun z => d23 z), zad_eq]; rfl
          | 2 => rw [if_neg (by decide), if_neg (by decide), if_pos rfl, z1, zad_ne (fun z => d03 ⟨z.1.symm, z.2.symm⟩), zad_ne (fun z => d34 z), zad_eq]; rfl
          | 3 => rw [if_neg (by decide), if_neg (by decide), if_neg (by decide), if_pos rfl, z1, zad_ne (fun z => d04 ⟨z.1.symm, z.2.symm⟩), zad_eq]; rfl
          | j + 4 =>
            rw [if_neg (by omega), if_neg (by omega), if_neg (by omega), if_neg (by omega), if_neg (by omega)]
            rfl
        rw [zcell_q (k := 5) (n := 4) zuk_eq (by decide), e9]
        exact hP1 _ _ gq) (hD1.2 _ _ gq) (zne_new (zne_new (zne_new (zne_new nq (rq 0 (by decide))) (rq 1 (by decide))) (rq 2 (by decide))) (rq 3 (by decide)))
      have u5 : ∀ v ∈ (lsv ++ st0), zvok κ v := fun v hv => by
        rcases List.mem_append.mp hv with hv | hv
        · exact hlv v hv
        · exact zvok_tail (zvok_tail hsv) v hv
      have lift : ∀ v, zvok κ v → zvok (zuk (zuk (zuk (zuk (zuk κ r1 o1 (3, 60)) r2 o2 (3, 60)) r3 o3 (3, 60)) r4 o4 (3, 60)) r0 o0 (5, 4)) v := fun v hv => zvok_uk (zvok_uk (zvok_uk (zvok_uk (zvok_uk hv))))
      have ep : ∀ {st : List ZV} {i : Nat}, (∀ v ∈ st, zvok κ v) → zpairs e0 (zad (zad (zad (zad (zad ad r1 o1 (r 0)) r2 o2 (r 1)) r3 o3 (r 2)) r4 o4 (r 3)) r0 o0 q) i st = zpairs e0 ad i st := fun {st i} hh => by
        rw [zpairs_ad f0' (fun v hv => zvok_uk (zvok_uk (zvok_uk (zvok_uk (hh v hv))))), zpairs_ad f4' (fun v hv => zvok_uk (zvok_uk (zvok_uk (hh v hv)))), zpairs_ad f3' (fun v hv => zvok_uk (zvok_uk (hh v hv))), zpairs_ad f2' (fun v hv => zvok_uk (hh v hv)), zpairs_ad f1 hh]
      have em : ∀ {st : List ZV}, (∀ v ∈ st, zvok κ v) → st.map (zcv e0 (zad (zad (zad (zad (zad ad r1 o1 (r 0)) r2 o2 (r 1)) r3 o3 (r 2)) r4 o4 (r 3)) r0 o0 q)) = st.map (zcv e0 ad) := fun {st} hh => by
        rw [zmap_ad f0' (fun v hv => zvok_uk (zvok_uk (zvok_uk (zvok_uk (hh v hv))))), zmap_ad f4' (fun v hv => zvok_uk (zvok_uk (zvok_uk (hh v hv)))), zmap_ad f3' (fun v hv => zvok_uk (zvok_uk (hh v hv))), zmap_ad f2' (fun v hv => zvok_uk (hh v hv)), zmap_ad f1 hh]
      have hst := zvok_tail (zvok_tail hsv)
      have kx := kk _ _ H1 locs ls (cells + 1 + 4) (slots + 4 + 4 * 60) x5 h5 (by rw [ep hlv]; exact hl) (fun v hv => lift v (hlv v hv)) (zvok_cons (fun _ => by dsimp only; rw [zuk_eq]; exact fun z => by cases z) (fun v hv => lift v (hst v hv))) (by dsimp only; omega) (by dsimp only; omega)
      rw [List.map_cons, em hst] at kx
      have e1 : zcv e0 (zad (zad (zad (zad (zad ad r1 o1 (r 0)) r2 o2 (r 1)) r3 o3 (r 2)) r4 o4 (r 3)) r0 o0 q) (.inr (.inr (1, r0, o0))) = .ref q := by
        show Value.ref (zad _ r0 o0 q r0 o0) = _
        rw [zad_eq]
      rw [e1] at kx
      exact kx
    · cases h
  · cases h
theorem zo_sget (F : zFr D cA e0 bS nS xS A p s m args meth c own nm cc nL) {idx r o : Nat} {st0 : List ZV} (hr : r < 10) (hw : Cond.fieldLink own idx "java/lang/String" "value" "[B" ∈ zgood) (hdg : decode cc pc = .ok (.getfield idx, 3))
    (kk : zcont D cA e0 bS nS xS A p l e R s m args below meth c Q L0 ad0 u0 v0 (pc + 3) lsv (.inr (.inr (5, r, 0)) :: st0) μ) : zcont D cA e0 bS nS xS A p l e R s m args below meth c Q L0 ad0 u0 v0 pc lsv (.inr (.inr (4, r, o)) :: st0) μ := by
  obtain ⟨hx, hb, hml, hown, hts, hE, ⟨⟨adK, adV, hK, hS10⟩, -⟩, hlk, hnm, hA⟩ := F
  intro L ad H locs ls cells slots hext hrel hl hlv hsv hc hs
  have e1 : zcv e0 ad (.inr (.inr (5, r, 0))) = .ref (adV r) := by unfold zcv; simp [(hK r hr).2, va_rf]
  have e2 : zcv e0 ad (.inr (.inr (4, r, o))) = .ref (adK r) := by unfold zcv; simp [(hK r hr).1, va_rf]
  have kx := kk L ad H locs ls cells slots hext hrel hl hlv (zvok_cons (fun z => by cases z) (zvok_tail hsv)) hc hs
  rw [List.map_cons] at kx ⊢
  rw [e2]
  rw [e1] at kx
  exact vk_getf hx hb (hS10.1 r hr).2.2.1 hrel.2.2.1 hown (hts _ hw) (fun _ h9 => h9) hdg kx
theorem zo_sgetc (F : zFr D cA e0 bS nS xS A p s m args meth c own nm cc nL) {idx r o : Nat} {st0 : List ZV} (hr : r < 10) (hw : Cond.fieldLink own idx "java/lang/String" "coder" "B" ∈ zgood) (hdg : decode cc pc = .ok (.getfield idx, 3))
    (kk : zcont D cA e0 bS nS xS A p l e R s m args below meth c Q L0 ad0 u0 v0 (pc + 3) lsv (.inl 0 :: st0) μ) : zcont D cA e0 bS nS xS A p l e R s m args below meth c Q L0 ad0 u0 v0 pc lsv (.inr (.inr (4, r, o)) :: st0) μ := by
  obtain ⟨hx, hb, hml, hown, hts, hE, ⟨⟨adK, adV, hK, hS10⟩, -⟩, hlk, hnm, hA⟩ := F
  intro L ad H locs ls cells slots hext hrel hl hlv hsv hc hs
  have e2 : zcv e0 ad (.inr (.inr (4, r, o))) = .ref (adK r) := by unfold zcv; simp [(hK r hr).1, va_rf]
  have kx := kk L ad H locs ls cells slots hext hrel hl hlv (zvok_cons zI32_0 (zvok_tail hsv)) hc hs
  rw [List.map_cons] at kx ⊢
  rw [e2]
  exact vk_getf hx hb (hS10.1 r hr).2.1 hrel.2.2.1 hown (hts _ hw) (fun _ h9 => h9) hdg kx
theorem zo_gets0 (F : zFr D cA e0 bS nS xS A p s m args meth c own nm cc nL) {idx : Nat} (hw : Cond.fieldLink own idx "java/lang/String" "COMPACT_STRINGS" "Z" ∈ zgood) (hdg : decode cc pc = .ok (.getstatic idx, 3))
    (kk : zcont D cA e0 bS nS xS A p l e R s m args below meth c Q L0 ad0 u0 v0 (pc + 3) lsv (.inl 1 :: stv) μ) : zcont D cA e0 bS nS xS A p l e R s m args below meth c Q L0 ad0 u0 v0 pc lsv stv μ := by
  obtain ⟨hx, hb, hml, hown, hts, hE, hRO, hlk, hnm, hA⟩ := F
  intro L ad H locs ls cells slots hext hrel hl hlv hsv hc hs
  have kx := kk L ad H locs ls cells slots hext hrel hl hlv (zvok_cons (show zI32 1 by unfold zI32; omega) hsv) hc hs
  rw [List.map_cons] at kx
  exact va_gets hx hb hRO.2.1 hrel.2.2.1 hown (hts _ hw) (fun _ h9 => h9) hdg kx
theorem zo_gets1 (F : zFr D cA e0 bS nS xS A p s m args meth c own nm cc nL) {idx : Nat} (hw : Cond.fieldLink own idx "jdk/internal/util/Preconditions" "SIOOBE_FORMATTER" "Ljava/util/function/BiFunction;" ∈ zgood) (hdg : decode cc pc = .ok (.getstatic idx, 3))
    (kk : zcont D cA e0 bS nS xS A p l e R s m args below meth c Q L0 ad0 u0 v0 (pc + 3) lsv (.inr (.inr (6, 0, 0)) :: stv) μ) : zcont D cA e0 bS nS xS A p l e R s m args below meth c Q L0 ad0 u0 v0 pc lsv stv μ := by
  obtain ⟨hx, hb, hml, hown, hts, hE, hRO, hlk, hnm, hA⟩ := F
  intro L ad H locs ls cells slots hext hrel hl hlv hsv hc hs
  have kx := kk L ad H locs ls cells slots hext hrel hl hlv (zvok_cons (fun z => by cases z) hsv) hc hs
  rw [List.map_cons] at kx
  exact va_gets hx hb hRO.2.2.1 hrel.2.2.1 hown (hts _ hw) (fun _ h9 => h9) hdg kx
theorem zo_ldcS (F : zFr D cA e0 bS nS xS A p s m args meth c own nm cc nL) {idx r : Nat} (hr : r < 10) (ho : zsown r = own) (hi : zsidx r = idx) (hdg : decode cc pc = .ok (.ldc idx, 2))
    (kk : zcont D cA e0 bS nS xS A p l e R s m args below meth c Q L0 ad0 u0 v0 (pc + 2) lsv (.inr (.inr (4, r, 0)) :: stv) μ) : zcont D cA e0 bS nS xS A p l e R s m args below meth c Q L0 ad0 u0 v0 pc lsv stv μ := by
  obtain ⟨hx, hb, hml, hown, hts, hE, hRO, hlk, hnm, hA⟩ := F
  intro L ad H locs ls cells slots hext hrel hl hlv hsv hc hs
  have kx := kk L ad H locs ls cells slots hext hrel hl hlv (zvok_cons (fun z => by cases z) hsv) hc hs
  rw [List.map_cons] at kx
  obtain ⟨q, h1, h2⟩ := hE.2.2.2.2 r hr
  have e2 : zcv e0 ad (.inr (.inr (4, r, 0))) = .ref q := by unfold zcv; simp [h1, va_rf]
  rw [e2] at kx
  rw [ho, hi] at h2
  exact va_ldcS hx hb hown h2 hdg kx
end ZG1
end
section
/-! what no step takes back -/
def zle (μ μ' : ZM) : Prop := (∀ r o, μ.1 r o ≠ none → μ'.1 r o = μ.1 r o) ∧ μ.2.2.2.2.1 ≤ μ'.2.2.2.2.1 ∧ μ.2.2.2.2.2 ≤ μ'.2.2.2.2.2
theorem zle.rfl {μ : ZM} : zle μ μ := ⟨fun _ _ _ => Eq.refl _, Nat.le_refl _, Nat.le_refl _⟩
theorem zle.trans {μ μ1 μ2 : ZM} (h1 : zle μ μ1) (h2 : zle μ1 μ2) : zle μ μ2 :=
  ⟨fun r o h => (h2.1 r o (by rw [h1.1 r o h]; exact h)).trans (h1.1 r o h), Nat.le_trans h1.2.1 h2.2.1, Nat.le_trans h1.2.2 h2.2.2⟩
theorem zle.same {μ μ' : ZM} (h1 : μ'.1 = μ.1) (h2 : μ'.2.2.2 = μ.2.2.2) : zle μ μ' := ⟨fun r o _ => by rw [h1], by rw [h2]; exact Nat.le_refl _, by rw [h2]; exact Nat.le_refl _⟩
theorem zle_uk {κ κ' : ZK} {r o : Nat} {w : Nat × Nat} (h : ∀ r o, κ r o ≠ none → κ' r o = κ r o) (hf : κ' r o = none) : ∀ r' o', κ r' o' ≠ none → zuk κ' r o w r' o' = κ r' o' := fun r' o' hh => by
  unfold zuk
  rw [if_neg, h r' o' hh]
  intro z
  rw [z.1, z.2] at hh
  have := h r o hh
  rw [hf] at this
  exact hh this.symm
theorem znew_le {k n : Nat} {g : Nat → ZV} {μ μ' : ZM} {q : Nat × Nat} (h : znew k n g μ = some (q, μ')) : zle μ μ' := by
  unfold znew at h
  split at h
  · split at h
    · rename_i hf
      cases h
      exact ⟨zle_uk (fun _ _ _ => Eq.refl _) hf, Nat.le_add_right _ _, Nat.le_add_right _ _⟩
    · cases h
  · cases h
section
variable {p : ZP} {ls st ls' st' : List ZV} {μ μ' : ZM}
theorem zl_ldI {i : Nat} (h : zldI i ls st μ = some (ls', st', μ')) : zle μ μ' := by unfold zldI at h; split at h <;> cases h; exact zle.rfl
theorem zl_ldL {i : Nat} (h : zldL i ls st μ = some (ls', st', μ')) : zle μ μ' := by unfold zldL at h; split at h <;> cases h; exact zle.rfl
theorem zl_ldA {i : Nat} (h : zldA i ls st μ = some (ls', st', μ')) : zle μ μ' := by unfold zldA at h; (repeat' split at h) <;> first | (cases h; done) | (cases h; exact zle.rfl)
theorem zl_stI {i : Nat} (h : zstI i ls st μ = some (ls', st', μ')) : zle μ μ' := by unfold zstI at h; (repeat' split at h) <;> first | (cases h; done) | (cases h; exact zle.rfl)
theorem zl_stL {i : Nat} (h : zstL i ls st μ = some (ls', st', μ')) : zle μ μ' := by unfold zstL at h; (repeat' split at h) <;> first | (cases h; done) | (cases h; exact zle.rfl)
theorem zl_stA {i : Nat} (h : zstA i ls st μ = some (ls', st', μ')) : zle μ μ' := by unfold zstA at h; (repeat' split at h) <;> first | (cases h; done) | (cases h; exact zle.rfl)
theorem zl_ald {k : Nat} {b : Bool} (h : zaldN k b st ls μ = some (ls', st', μ')) : zle μ μ' := by unfold zaldN at h; (repeat' split at h) <;> first | (cases h; done) | (cases h; exact zle.rfl)
theorem zl_bald (h : zbald st ls μ = some (ls', st', μ')) : zle μ μ' := by unfold zbald at h; (repeat' split at h) <;> first | (cases h; done) | (cases h; exact zle.rfl)
theorem zl_aald (h : zaald st ls μ = some (ls', st', μ')) : zle μ μ' := by unfold zaald at h; (repeat' split at h) <;> first | (cases h; done) | (cases h; exact zle.rfl)
theorem zl_astI (h : zastI st ls μ = some (ls', st', μ')) : zle μ μ' := by unfold zastI at h; (repeat' split at h) <;> first | (cases h; done) | (cases h; exact zle.same (Eq.refl _) (Eq.refl _))
theorem zl_astB (h : zastB st ls μ = some (ls', st', μ')) : zle μ μ' := by unfold zastB at h; (repeat' split at h) <;> first | (cases h; done) | (cases h; exact zle.same (Eq.refl _) (Eq.refl _))
theorem zl_astL (h : zastL st ls μ = some (ls', st', μ')) : zle μ μ' := by unfold zastL at h; (repeat' split at h) <;> first | (cases h; done) | (cases h; exact zle.same (Eq.refl _) (Eq.refl _))
theorem zl_aast (h : zaast st ls μ = some (ls', st', μ')) : zle μ μ' := by unfold zaast at h; (repeat' split at h) <;> first | (cases h; done) | (cases h; exact zle.same (Eq.refl _) (Eq.refl _))
theorem zl_alen (h : zalen st ls μ = some (ls', st', μ')) : zle μ μ' := by unfold zalen at h; (repeat' split at h) <;> first | (cases h; done) | (cases h; exact zle.rfl)
theorem zl_getf (h : zgetf p st ls μ = some (ls', st', μ')) : zle μ μ' := by unfold zgetf at h; (repeat' split at h) <;> first | (cases h; done) | (cases h; exact zle.rfl)
theorem zl_putf (h : zputf p st ls μ = some (ls', st', μ')) : zle μ μ' := by unfold zputf at h; (repeat' split at h) <;> first | (cases h; done) | (cases h; exact zle.same (Eq.refl _) (Eq.refl _))
theorem zl_newa {k : Nat} (h : znewa k st ls μ = some (ls', st', μ')) : zle μ μ' := by
  unfold znewa at h
  split at h
  · split at h
    · split at h
      · rename_i hz
        cases h
        exact znew_le hz
      · cases h
    · cases h
  · cases h
theorem zl_newo (h : znewo p st ls μ = some (ls', st', μ')) : zle μ μ' := by
  unfold znewo at h
  split at h
  · split at h
    · rename_i hz
      cases h
      exact znew_le hz
    · cases h
  · cases h
theorem zl_multi (h : zmulti st ls μ = some (ls', st', μ')) : zle μ μ' := by
  unfold zmulti at h
  split at h
  · split at h
    · rename_i κ f a r0 o0 r1 o1 r2 o2 r3 o3 r4 o4 ns c0 s0 hc0
      cases h
      obtain ⟨-, -, f0, f1, f2, f3, f4, hnd⟩ := hc0
      simp only [List.nodup_cons, List.mem_cons, List.not_mem_nil, or_false, not_or, not_false_eq_true, List.nodup_nil, and_true, Prod.mk.injEq] at hnd
      obtain ⟨⟨d01, d02, d03, d04⟩, ⟨d12, d13, d14⟩, ⟨d23, d24⟩, d34⟩ := hnd
      refine ⟨zle_uk (zle_uk (zle_uk (zle_uk (zle_uk (fun _ _ _ => Eq.refl _) f1) ?_) ?_) ?_) ?_, Nat.le_add_right _ _, Nat.le_add_right _ _⟩
      · rw [zuk_ne (fun z => d12 ⟨z.1.symm, z.2.symm⟩)]; exact f2
      · rw [zuk_ne (fun z => d23 ⟨z.1.symm, z.2.symm⟩), zuk_ne (fun z => d13 ⟨z.1.symm, z.2.symm⟩)]; exact f3
      · rw [zuk_ne (fun z => d34 ⟨z.1.symm, z.2.symm⟩), zuk_ne (fun z => d24 ⟨z.1.symm, z.2.symm⟩), zuk_ne (fun z => d14 ⟨z.1.symm, z.2.symm⟩)]; exact f4
      · rw [zuk_ne (fun z => d04 z), zuk_ne (fun z => d03 z), zuk_ne (fun z => d02 z), zuk_ne (fun z => d01 z)]; exact f0
    · cases h
  · cases h
theorem zl_bin {g : Int → Int → Int} (h : zbin st ls μ g = some (ls', st', μ')) : zle μ μ' := by unfold zbin at h; (repeat' split at h) <;> first | (cases h; done) | (cases h; exact zle.rfl)
theorem zl_bind {g : Int → Int → Int} (h : zbind st ls μ g = some (ls', st', μ')) : zle μ μ' := by unfold zbind at h; (repeat' split at h) <;> first | (cases h; done) | (cases h; exact zle.rfl)
theorem zl_un {g : Int → Int} (h : zun st ls μ g = some (ls', st', μ')) : zle μ μ' := by unfold zun at h; (repeat' split at h) <;> first | (cases h; done) | (cases h; exact zle.rfl)
theorem zl_lbin {g : Int → Int → Int} (h : zlbin st ls μ g = some (ls', st', μ')) : zle μ μ' := by unfold zlbin at h; (repeat' split at h) <;> first | (cases h; done) | (cases h; exact zle.rfl)
theorem zl_lsh {g : Int → Int → Int} (h : zlsh st ls μ g = some (ls', st', μ')) : zle μ μ' := by unfold zlsh at h; (repeat' split at h) <;> first | (cases h; done) | (cases h; exact zle.rfl)
theorem zl_copy (h : zcopy st ls μ = some (ls', st', μ')) : zle μ μ' := by unfold zcopy at h; (repeat' split at h) <;> first | (cases h; done) | (cases h; exact zle.same (Eq.refl _) (Eq.refl _))
theorem zl_istat (h : zistat p st ls μ = some (ls', st', μ')) : zle μ μ' := by
  unfold zistat at h
  (repeat' split at h) <;> first | (cases h; done) | exact zl_bin h | exact zl_copy h
theorem zop_le {i : Instr} (h : zop i p ls st μ = some (ls', st', μ')) : zle μ μ' := by
  unfold zop at h
  split at h
  all_goals first
    | exact zl_ldI h
    | exact zl_ldL h
    | exact zl_ldA h
    | exact zl_stI h
    | exact zl_stL h
    | exact zl_stA h
    | exact zl_ald h
    | exact zl_bald h
    | exact zl_aald h
    | exact zl_astI h
    | exact zl_astB h
    | exact zl_astL h
    | exact zl_aast h
    | exact zl_alen h
    | exact zl_getf h
    | exact zl_putf h
    | exact zl_newa h
    | exact zl_newo h
    | exact zl_multi h
    | exact zl_bin h
    | exact zl_bind h
    | exact zl_un h
    | exact zl_lbin h
    | exact zl_lsh h
    | exact zl_istat h
    | (cases h; done)
    | (cases h; exact zle.rfl)
    | (split at h <;> first | (cases h; done) | (cases h; exact zle.rfl) | exact zl_copy h | (split at h <;> first | (cases h; done) | (cases h; exact zle.rfl)))
end
theorem zexec_le {call : Nat → List ZV → ZM → ZO} {rec : Nat → List ZV → List ZV → ZM → ZO} (hc : ∀ j as μ v μ', call j as μ = some (v, μ') → zle μ μ') (hr : ∀ l ls st μ v μ', rec l ls st μ = some (v, μ') → zle μ μ') :
    ∀ (k : List ZN) (ls st : List ZV) (μ : ZM) (v : Option ZV) (μ' : ZM), zexec call rec k ls st μ = some (v, μ') → zle μ μ'
  | [], _, _, _, _, _, h => by simp [zexec] at h
  | (i, n, p) :: k, ls, st, μ, v, μ', h => by
    have ih := zexec_le hc hr k
    unfold zexec at h
    repeat' split at h
    all_goals first
      | (cases h; done)
      | exact hr _ _ _ _ _ _ h
      | exact ih _ _ _ _ _ h
      | (cases h; exact zle.rfl)
      | (rename_i hz; exact (hc _ _ _ _ _ hz).trans (ih _ _ _ _ _ h))
      | (rename_i hz; exact (zop_le hz).trans (ih _ _ _ _ _ h))
theorem zrunF_lem {call : Nat → List ZV → ZM → ZO} {seg : Nat → List ZN} (hc : ∀ j as μ v μ', call j as μ = some (v, μ') → zle μ μ') : ∀ (n : Nat) (l : Nat) (ls st : List ZV) (μ : ZM) (v : Option ZV) (μ' : ZM), zrunF call seg n l ls st μ = some (v, μ') → zle μ μ'
  | 0, _, _, _, _, _, _, h => by simp [zrunF] at h
  | n + 1, l, ls, st, μ, v, μ', h => zexec_le hc (zrunF_lem hc n) (seg l) ls st μ v μ' h
end
section
/-! the constant pools and the methods: by wip/whole/gen.py tabs -/
noncomputable section
def zown (c : Nat) : String := [RX0, RX1, RX2, RX3, RX4, RX5, RX6, RX7, RX8, RX9, RX10, RX11, RX12, RJ0, RJ1, RJ7, RJ6, RJ3, RJ9, RL].getD c ""
/-- of a class: (kind, index, a, b, v, place in the tables) -/
abbrev ZE : Type := Nat × Nat × Nat × Nat × Int × Nat
def zpl_0 : List ZE := [(15, 125, 0, 0, 0, 1058), (16, 144, 0, 0, 0, 1095), (3, 27, 8, 0, 0, 373), (3, 34, 1, 0, 0, 375), (0, 113, 8, 5, 0, 315), (0, 122, 1, 0, 0, 175), (0, 13, 0, 4, 0, 385), (0, 131, 1, 1, 0, 177), (0, 134, 10, 4, 0, 252), (0, 17, 0, 5, 0, 386), (0, 21, 0, 6, 0, 387), (0, 24, 0, 7, 0, 388), (0, 30, 0, 8, 0, 389), (0, 37, 0, 9, 0, 390), (0, 41, 0, 10, 0, 391), (0, 49, 0, 0, 0, 377), (0, 52, 0, 1, 0, 379), (0, 59, 8, 6, 0, 318), (0, 70, 0, 2, 0, 381), (0, 73, 0, 3, 0, 383), (0, 83, 10, 5, 0, 256), (0, 86, 10, 0, 0, 235), (0, 89, 10, 2, 0, 244), (1, 103, j_X8_begin, 0, 0, 1060), (1, 107, j_X8_carryOn, 0, 0, 1061), (1, 110, j_X0_isSeenSo, 0, 0, 1062), (1, 116, j_X0_allSeenBy, 0, 0, 1067), (1, 119, j_X1_leaveCorner, 0, 0, 1057), (1, 137, j_X8_isUnderEye, 0, 0, 1066), (1, 140, j_X1_becomeLike, 0, 0, 1088), (1, 45, j_X0_canBe, 0, 0, 1033), (1, 55, j_X0_explains, 0, 0, 1048), (1, 62, j_X0_isWorthTrying, 0, 0, 1071), (1, 66, j_X0_canMatter, 0, 0, 1077), (1, 76, j_X10_hasRoller, 0, 0, 1075), (1, 80, j_X10_hasEye, 0, 0, 1076), (1, 92, j_X1_reset, 0, 0, 1052), (1, 95, j_X0_putFlaw, 0, 0, 1053), (1, 99, j_X8_start, 0, 0, 1059), (2, 29, j_X8_init, 0, 0, 0), (2, 36, j_X1_init, 0, 0, 0), (13, 7, 0, 0, 0, 372)]
def zpl_1 : List ZE := [(14, 33, 0, 0, 0, 1092), (0, 11, 1, 0, 0, 174), (0, 17, 1, 1, 0, 176), (0, 20, 1, 2, 0, 178), (0, 29, 1, 3, 0, 179), (0, 44, 10, 1, 0, 241), (0, 47, 10, 2, 0, 245), (0, 50, 10, 3, 0, 248), (0, 53, 10, 10, 0, 273), (4, 43, 0, 0, 1000000, 970), (1, 23, j_J7_fill_53178, 0, 0, 863), (1, 39, j_X1_cornerAt, 0, 0, 896), (13, 3, 0, 0, 0, 173)]
def zpl_2 : List ZE := [(14, 59, 0, 0, 0, 1317), (0, 11, 2, 1, 0, 425), (0, 15, 2, 2, 0, 427), (0, 19, 2, 3, 0, 429), (0, 22, 2, 4, 0, 432), (0, 25, 2, 5, 0, 435), (0, 29, 2, 7, 0, 441), (0, 32, 2, 10, 0, 450), (0, 35, 2, 11, 0, 453), (0, 38, 2, 13, 0, 459), (0, 41, 2, 14, 0, 462), (0, 44, 2, 15, 0, 465), (0, 47, 2, 16, 0, 468), (0, 50, 2, 17, 0, 471), (0, 53, 2, 0, 0, 421), (0, 56, 2, 12, 0, 457), (0, 65, 2, 6, 0, 438), (0, 68, 2, 8, 0, 445), (0, 71, 2, 9, 0, 447), (13, 3, 0, 0, 0, 420)]
def zpl_3 : List ZE := [(15, 60, 0, 0, 0, 1223), (0, 11, 3, 3, 0, 580), (0, 17, 3, 4, 0, 582), (0, 20, 3, 0, 0, 574), (0, 24, 2, 0, 0, 422), (0, 28, 2, 11, 0, 454), (0, 31, 3, 1, 0, 576), (0, 38, 3, 2, 0, 578), (0, 41, 2, 12, 0, 456), (0, 53, 2, 13, 0, 460), (1, 34, j_X3_measureRoom, 0, 0, 1215), (1, 44, j_X3_pairInOrder, 0, 0, 1224), (1, 47, j_J7_fill_53178, 0, 0, 1219), (1, 56, j_X3_lastPlaceBelow, 0, 0, 1220), (1, 66, j_X3_earliest, 0, 0, 1228), (13, 5, 0, 0, 0, 573)]
def zpl_4 : List ZE := [(8, 11, 0, 0, 0, 629), (0, 13, 4, 0, 0, 631), (0, 16, 4, 1, 0, 633), (0, 20, 4, 2, 0, 635), (1, 23, j_J7_fill_d0a16, 0, 0, 1288), (13, 3, 0, 0, 0, 628)]
def zpl_5 : List ZE := [(15, 120, 0, 0, 0, 1171), (16, 106, 0, 0, 0, 1170), (3, 1, 2, 0, 0, 519), (0, 100, 5, 11, 0, 535), (0, 103, 2, 10, 0, 451), (0, 111, 5, 8, 0, 532), (0, 114, 5, 12, 0, 536), (0, 117, 2, 9, 0, 448), (0, 128, 2, 2, 0, 428), (0, 13, 5, 2, 0, 525), (0, 135, 5, 9, 0, 533), (0, 144, 2, 5, 0, 436), (0, 147, 5, 13, 0, 537), (0, 150, 2, 6, 0, 439), (0, 18, 5, 3, 0, 527), (0, 22, 5, 4, 0, 528), (0, 26, 5, 7, 0, 531), (0, 30, 5, 0, 0, 521), (0, 34, 5, 1, 0, 523), (0, 38, 5, 6, 0, 530), (0, 51, 5, 5, 0, 529), (0, 54, 2, 8, 0, 444), (0, 57, 2, 7, 0, 442), (0, 71, 2, 0, 0, 423), (0, 78, 2, 4, 0, 433), (0, 82, 2, 3, 0, 430), (0, 85, 2, 1, 0, 426), (0, 93, 5, 10, 0, 534), (4, 153, 0, 0, 178560, 1156), (4, 17, 0, 0, 65536, 518), (5, 123, 0, 0, 16777216, 1172), (5, 88, 0, 0, 16777215, 1161), (1, 125, j_X5_takesNext, 0, 0, 1173), (1, 131, j_X5_feedFromEach, 0, 0, 1183), (1, 138, j_J6_bitCount_0f7a4, 0, 0, 1177), (1, 154, j_X5_parentOf, 0, 0, 1191), (1, 41, j_X5_hasPaperForAll, 0, 0, 1141), (1, 45, j_J7_fill_d0a16, 0, 0, 1149), (1, 60, j_X5_meet, 0, 0, 1152), (1, 64, j_X5_leave, 0, 0, 1157), (1, 68, j_X5_traceBack, 0, 0, 1187), (1, 74, j_X5_gives, 0, 0, 1145), (1, 90, j_X5_unpack, 0, 0, 1162), (1, 96, j_X5_agedPocket, 0, 0, 1166), (2, 25, j_X2_init, 0, 0, 0), (13, 7, 0, 0, 0, 517)]
def zpl_6 : List ZE := [(16, 32, 0, 0, 0, 722), (0, 11, 6, 0, 0, 129), (0, 127, 10, 0, 0, 237), (0, 148, 10, 2, 0, 246), (0, 15, 6, 3, 0, 134), (0, 154, 10, 3, 0, 249), (0, 156, 10, 4, 0, 253), (0, 159, 10, 5, 0, 258), (0, 165, 10, 6, 0, 262), (0, 167, 10, 7, 0, 264), (0, 169, 10, 8, 0, 268), (0, 171, 10, 9, 0, 270), (0, 173, 10, 11, 0, 276), (0, 177, 10, 10, 0, 274), (0, 19, 6, 4, 0, 136), (0, 23, 6, 5, 0, 137), (0, 26, 6, 6, 0, 138), (0, 29, 6, 1, 0, 130), (0, 42, 6, 8, 0, 140), (0, 45, 6, 2, 0, 133), (0, 48, 6, 7, 0, 139), (0, 55, 10, 1, 0, 239), (0, 63, 6, 9, 0, 141), (0, 66, 6, 10, 0, 142), (1, 115, j_J0_length_8abf5, 0, 0, 748), (1, 120, j_J0_charAt_5068e, 0, 0, 758), (1, 124, j_X6_readNumber, 0, 0, 819), (1, 129, j_X6_readRoller, 0, 0, 835), (1, 133, j_X6_readEye, 0, 0, 843), (1, 136, j_X6_readTurn, 0, 0, 851), (1, 139, j_X6_readDamp, 0, 0, 855), (1, 142, j_X6_want, 0, 0, 823), (1, 145, j_X6_goOn, 0, 0, 827), (1, 151, j_X10_lastRollerPlace, 0, 0, 839), (1, 162, j_X10_lastEyePlace, 0, 0, 847), (1, 38, j_X6_splitTokens, 0, 0, 725), (1, 51, j_X6_readLine, 0, 0, 815), (1, 60, j_X6_blame, 0, 0, 831), (1, 69, j_X6_isBlank, 0, 0, 729), (1, 73, j_X6_nextKind, 0, 0, 732), (1, 77, j_X6_isLetter, 0, 0, 736), (1, 80, j_X6_nextWord, 0, 0, 739), (1, 83, j_X6_isDigit, 0, 0, 808), (1, 86, j_X6_nextNumber, 0, 0, 811), (1, 91, j_X6_isAt, 0, 0, 744), (1, 97, j_X6_wordOfFour, 0, 0, 797), (13, 3, 0, 0, 0, 128), (6, 101, 2, 0, 0, 0), (6, 103, 3, 0, 0, 0), (6, 105, 4, 0, 0, 0), (6, 107, 5, 0, 0, 0), (6, 109, 6, 0, 0, 0), (6, 111, 7, 0, 0, 0), (6, 113, 8, 0, 0, 0), (6, 89, 0, 0, 0, 0), (6, 95, 1, 0, 0, 0)]
def zpl_7 : List ZE := [(0, 15, 7, 4, 0, 608), (0, 19, 7, 1, 0, 602), (0, 36, 7, 2, 0, 604), (0, 39, 7, 5, 0, 609), (0, 42, 7, 3, 0, 606), (0, 47, 2, 17, 0, 472), (0, 51, 2, 15, 0, 466), (0, 55, 2, 16, 0, 469), (0, 62, 2, 14, 0, 463), (0, 9, 7, 0, 0, 600), (4, 18, 0, 0, 1000000, 1267), (1, 22, j_X7_costOfNewOnes, 0, 0, 1268), (1, 26, j_J6_bitCount_0f7a4, 0, 0, 1275), (1, 32, j_X7_isBetter, 0, 0, 1276), (1, 58, j_X7_timesNew, 0, 0, 1272), (13, 3, 0, 0, 0, 599)]
def zpl_8 : List ZE := [(16, 99, 0, 0, 0, 936), (3, 51, 10, 0, 0, 223), (3, 58, 1, 0, 0, 302), (3, 9, 9, 0, 0, 196), (0, 108, 10, 4, 0, 251), (0, 111, 10, 5, 0, 257), (0, 12, 8, 0, 0, 304), (0, 143, 10, 0, 0, 236), (0, 146, 10, 6, 0, 261), (0, 156, 10, 8, 0, 267), (0, 159, 10, 7, 0, 265), (0, 162, 10, 9, 0, 271), (0, 18, 8, 3, 0, 310), (0, 22, 8, 5, 0, 314), (0, 26, 8, 6, 0, 317), (0, 29, 8, 7, 0, 320), (0, 32, 8, 8, 0, 322), (0, 35, 8, 9, 0, 324), (0, 38, 8, 10, 0, 325), (0, 41, 8, 11, 0, 326), (0, 45, 8, 12, 0, 327), (0, 48, 8, 14, 0, 329), (0, 54, 8, 15, 0, 330), (0, 61, 8, 16, 0, 331), (0, 65, 8, 1, 0, 306), (0, 68, 8, 2, 0, 308), (0, 71, 8, 4, 0, 312), (0, 74, 8, 13, 0, 328), (0, 80, 10, 2, 0, 243), (4, 122, 0, 0, 1000000, 949), (1, 105, j_X8_carryOn, 0, 0, 945), (1, 114, j_X8_isUnderEye, 0, 0, 983), (1, 118, j_X9_look, 0, 0, 987), (1, 123, j_X8_move, 0, 0, 950), (1, 127, j_X8_findJam, 0, 0, 975), (1, 130, j_X8_comeBack, 0, 0, 979), (1, 133, j_X8_waits, 0, 0, 954), (1, 136, j_X8_drive, 0, 0, 958), (1, 139, j_X8_enterPocket, 0, 0, 971), (1, 149, j_X1_driveOf, 0, 0, 962), (1, 153, j_X1_cornerLimit, 0, 0, 966), (1, 165, j_X9_cutOff, 0, 0, 1012), (1, 53, j_X10_init, 0, 0, 225), (1, 77, j_X9_reset, 0, 0, 650), (1, 83, j_X8_liesFree, 0, 0, 919), (1, 87, j_X8_isFull, 0, 0, 931), (1, 91, j_X8_putOnWay, 0, 0, 932), (1, 95, j_X8_tailOf, 0, 0, 923), (2, 11, j_X9_init, 0, 0, 0), (2, 60, j_X1_init, 0, 0, 0), (13, 3, 0, 0, 0, 195)]
def zpl_9 : List ZE := [(0, 11, 9, 0, 0, 202), (0, 17, 9, 1, 0, 204), (0, 21, 9, 2, 0, 206), (0, 24, 9, 3, 0, 208), (0, 27, 9, 4, 0, 210), (1, 30, j_J7_fill_53178, 0, 0, 654), (1, 36, j_X9_cutOff, 0, 0, 657), (1, 39, j_X9_close, 0, 0, 991), (13, 3, 0, 0, 0, 201)]
def zpl_10 : List ZE := [(0, 11, 10, 2, 0, 242), (0, 15, 10, 3, 0, 247), (0, 18, 10, 5, 0, 255), (0, 24, 10, 0, 0, 233), (0, 28, 10, 1, 0, 238), (0, 31, 10, 4, 0, 250), (0, 34, 10, 6, 0, 259), (0, 37, 10, 7, 0, 263), (0, 40, 10, 8, 0, 266), (0, 43, 10, 9, 0, 269), (0, 46, 10, 10, 0, 272), (0, 49, 10, 11, 0, 275), (1, 21, j_X10_reset, 0, 0, 229), (13, 3, 0, 0, 0, 228)]
def zpl_11 : List ZE := [(7, 37, 0, 0, 0, 415), (15, 194, 0, 0, 0, 1005), (16, 189, 0, 0, 0, 1004), (3, 16, 1, 0, 0, 168), (3, 23, 8, 0, 0, 190), (3, 30, 0, 0, 0, 367), (3, 37, 2, 0, 0, 415), (3, 52, 5, 0, 0, 512), (3, 59, 3, 0, 0, 568), (3, 66, 7, 0, 0, 594), (3, 7, 6, 0, 0, 123), (3, 73, 4, 0, 0, 623), (3, 80, 10, 0, 0, 644), (0, 10, 11, 0, 0, 661), (0, 102, 6, 1, 0, 131), (0, 113, 6, 2, 0, 132), (0, 121, 6, 3, 0, 135), (0, 135, 10, 0, 0, 234), (0, 150, 10, 6, 0, 260), (0, 153, 10, 1, 0, 240), (0, 163, 8, 3, 0, 311), (0, 169, 8, 1, 0, 307), (0, 172, 8, 5, 0, 316), (0, 176, 8, 6, 0, 319), (0, 183, 8, 7, 0, 321), (0, 186, 8, 8, 0, 323), (0, 19, 11, 1, 0, 662), (0, 203, 8, 0, 0, 305), (0, 207, 9, 0, 0, 203), (0, 212, 9, 1, 0, 205), (0, 215, 9, 2, 0, 207), (0, 218, 9, 3, 0, 209), (0, 229, 0, 1, 0, 380), (0, 232, 0, 2, 0, 382), (0, 235, 0, 3, 0, 384), (0, 249, 2, 0, 0, 424), (0, 252, 2, 12, 0, 458), (0, 255, 5, 0, 0, 522), (0, 259, 3, 0, 0, 575), (0, 26, 11, 2, 0, 663), (0, 263, 2, 3, 0, 431), (0, 266, 2, 4, 0, 434), (0, 269, 2, 5, 0, 437), (0, 272, 2, 6, 0, 440), (0, 275, 2, 7, 0, 443), (0, 278, 2, 8, 0, 446), (0, 281, 2, 9, 0, 449), (0, 284, 2, 10, 0, 452), (0, 290, 5, 1, 0, 524), (0, 293, 5, 2, 0, 526), (0, 296, 2, 11, 0, 455), (0, 299, 2, 13, 0, 461), (0, 305, 3, 1, 0, 577), (0, 308, 3, 2, 0, 579), (0, 318, 3, 3, 0, 581), (0, 324, 2, 14, 0, 464), (0, 327, 2, 15, 0, 467), (0, 33, 11, 3, 0, 664), (0, 330, 2, 16, 0, 470), (0, 333, 2, 17, 0, 473), (0, 336, 7, 0, 0, 601), (0, 342, 7, 1, 0, 603), (0, 345, 7, 2, 0, 605), (0, 348, 7, 3, 0, 607), (0, 355, 4, 2, 0, 636), (0, 359, 4, 0, 0, 632), (0, 363, 4, 1, 0, 634), (0, 376, 10, 4, 0, 254), (0, 379, 8, 2, 0, 309), (0, 382, 8, 4, 0, 313), (0, 385, 1, 3, 0, 180), (0, 388, 0, 0, 0, 378), (0, 40, 11, 4, 0, 665), (0, 44, 11, 5, 0, 666), (0, 48, 11, 6, 0, 667), (0, 55, 11, 7, 0, 668), (0, 62, 11, 8, 0, 669), (0, 69, 11, 9, 0, 670), (0, 76, 11, 10, 0, 671), (0, 83, 11, 11, 0, 672), (0, 87, 11, 12, 0, 673), (5, 357, 0, 0, -1000000, 1293), (1, 106, j_X10_reset, 0, 0, 717), (1, 109, j_X6_readWay, 0, 0, 718), (1, 116, j_X1_reset, 0, 0, 859), (1, 117, j_X0_dropObserved, 0, 0, 864), (1, 124, j_X10_hasRoller, 0, 0, 876), (1, 128, j_X1_changeWear, 0, 0, 880), (1, 132, j_X1_changeBeat, 0, 0, 884), (1, 138, j_X1_leaveCorner, 0, 0, 892), (1, 141, j_X1_takeCorner, 0, 0, 900), (1, 144, j_X11_isSheetLength, 0, 0, 908), (1, 147, j_X8_isFull, 0, 0, 911), (1, 156, j_X8_isFreeFor, 0, 0, 915), (1, 159, j_X8_begin, 0, 0, 927), (1, 166, j_X8_goOnce, 0, 0, 941), (1, 179, j_X8_tailOf, 0, 0, 999), (1, 197, j_X8_takeAll, 0, 0, 1008), (1, 200, j_X10_hasEye, 0, 0, 1017), (1, 221, j_X0_observe, 0, 0, 1029), (1, 225, j_X0_seek, 0, 0, 1044), (1, 238, j_X0_firstToFail, 0, 0, 1084), (1, 242, j_X11_isCreaseRow, 0, 0, 1100), (1, 245, j_X10_creasesAre, 0, 0, 1109), (1, 260, j_X2_addPage, 0, 0, 1117), (1, 287, j_X5_seek, 0, 0, 1137), (1, 302, j_X3_pair, 0, 0, 1211), (1, 311, j_X3_wholeCopies, 0, 0, 1231), (1, 315, j_X3_lackingPlace, 0, 0, 1239), (1, 321, j_X2_stackSides, 0, 0, 1251), (1, 339, j_X7_seek, 0, 0, 1263), (1, 351, j_X4_make, 0, 0, 1284), (1, 366, j_X4_cut, 0, 0, 1294), (1, 370, j_X4_tellsPages, 0, 0, 1305), (1, 373, j_X2_becomeLike, 0, 0, 1313), (1, 391, j_X11_countOfSet, 0, 0, 1326), (1, 394, j_X11_isCrease, 0, 0, 1103), (1, 397, j_X11_falls, 0, 0, 1106), (1, 82, j_X10_init, 0, 0, 645), (1, 90, j_X8_start, 0, 0, 646), (1, 94, j_X6_hasRoomForFive, 0, 0, 705), (1, 98, j_X6_append, 0, 0, 709), (2, 18, j_X1_init, 0, 0, 0), (2, 25, j_X8_init, 0, 0, 0), (2, 32, j_X0_init, 0, 0, 0), (2, 39, j_X2_init, 0, 0, 0), (2, 54, j_X5_init, 0, 0, 0), (2, 61, j_X3_init, 0, 0, 0), (2, 68, j_X7_init, 0, 0, 0), (2, 75, j_X4_init, 0, 0, 0), (2, 9, j_X6_init, 0, 0, 0), (13, 1, 0, 0, 0, 120)]
def zpl_12 : List ZE := [(0, 1, 12, 0, 0, 1349), (0, 102, 12, 45, 0, 1394), (0, 105, 12, 46, 0, 1395), (0, 108, 12, 47, 0, 1396), (0, 111, 12, 48, 0, 1397), (0, 114, 12, 49, 0, 1398), (0, 117, 12, 50, 0, 1399), (0, 120, 12, 54, 0, 1403), (0, 123, 12, 55, 0, 1404), (0, 126, 12, 56, 0, 1405), (0, 13, 12, 1, 0, 1350), (0, 131, 12, 57, 0, 1406), (0, 134, 12, 58, 0, 1407), (0, 137, 12, 59, 0, 1408), (0, 140, 12, 62, 0, 1411), (0, 143, 12, 63, 0, 1412), (0, 146, 12, 66, 0, 1415), (0, 149, 12, 67, 0, 1416), (0, 152, 12, 68, 0, 1417), (0, 164, 12, 19, 0, 1368), (0, 168, 12, 20, 0, 1369), (0, 17, 12, 3, 0, 1352), (0, 171, 12, 26, 0, 1375), (0, 174, 12, 27, 0, 1376), (0, 177, 12, 28, 0, 1377), (0, 180, 12, 2, 0, 1351), (0, 183, 12, 13, 0, 1362), (0, 198, 12, 11, 0, 1360), (0, 20, 12, 4, 0, 1353), (0, 201, 12, 12, 0, 1361), (0, 208, 12, 14, 0, 1363), (0, 221, 12, 15, 0, 1364), (0, 224, 12, 16, 0, 1365), (0, 227, 12, 17, 0, 1366), (0, 23, 12, 5, 0, 1354), (0, 251, 12, 18, 0, 1367), (0, 26, 12, 6, 0, 1355), (0, 266, 12, 21, 0, 1370), (0, 29, 12, 7, 0, 1356), (0, 32, 12, 8, 0, 1357), (0, 335, 12, 52, 0, 1401), (0, 338, 12, 51, 0, 1400), (0, 341, 12, 53, 0, 1402), (0, 35, 12, 9, 0, 1358), (0, 38, 12, 10, 0, 1359), (0, 383, 12, 60, 0, 1409), (0, 397, 12, 61, 0, 1410), (0, 41, 12, 22, 0, 1371), (0, 427, 12, 64, 0, 1413), (0, 430, 12, 65, 0, 1414), (0, 44, 12, 23, 0, 1372), (0, 47, 12, 24, 0, 1373), (0, 50, 12, 25, 0, 1374), (0, 53, 12, 29, 0, 1378), (0, 56, 12, 30, 0, 1379), (0, 59, 12, 31, 0, 1380), (0, 62, 12, 32, 0, 1381), (0, 65, 12, 33, 0, 1382), (0, 68, 12, 34, 0, 1383), (0, 71, 12, 35, 0, 1384), (0, 74, 12, 36, 0, 1385), (0, 78, 12, 37, 0, 1386), (0, 81, 12, 38, 0, 1387), (0, 84, 12, 39, 0, 1388), (0, 87, 12, 40, 0, 1389), (0, 90, 12, 41, 0, 1390), (0, 93, 12, 42, 0, 1391), (0, 96, 12, 43, 0, 1392), (0, 99, 12, 44, 0, 1393), (4, 130, 0, 0, 90000, 1336), (5, 272, 0, 0, 1000, 1633), (5, 274, 0, 0, 2, 1634), (5, 276, 0, 0, 20, 1635), (5, 290, 0, 0, 10, 1652), (5, 292, 0, 0, 60, 1653), (5, 327, 0, 0, 300, 1670), (5, 348, 0, 0, 120, 1734), (5, 366, 0, 0, 100, 1771), (5, 371, 0, 0, -1, 1780), (5, 377, 0, 0, 3, 1789), (5, 379, 0, 0, 4, 1798), (5, 381, 0, 0, 30, 1803), (5, 410, 0, 0, 40, 1835), (5, 421, 0, 0, 9, 1876), (5, 423, 0, 0, 99, 1877), (5, 425, 0, 0, 12, 1878), (5, 436, 0, 0, 999, 1883), (5, 444, 0, 0, -1000000, 1903), (1, 155, j_X12_begins, 0, 0, 1337), (1, 158, j_X12_becomes, 0, 0, 1341), (1, 161, j_X12_setsOut, 0, 0, 1345), (1, 188, j_J0_length_8abf5, 0, 0, 1584), (1, 194, j_J0_charAt_5068e, 0, 0, 1585), (1, 204, j_X12_see, 0, 0, 1572), (1, 211, j_X12_isSmall, 0, 0, 1576), (1, 215, j_X12_keyAt, 0, 0, 1579), (1, 218, j_X12_isDigit, 0, 0, 1586), (1, 230, j_X12_is, 0, 0, 1589), (1, 233, j_X12_next, 0, 0, 1568), (1, 236, j_X12_fails, 0, 0, 1597), (1, 240, j_X12_within, 0, 0, 1565), (1, 244, j_X12_reads, 0, 0, 1593), (1, 248, j_X12_needs, 0, 0, 1601), (1, 254, j_X12_readsRoller, 0, 0, 1605), (1, 257, j_X12_readsEye, 0, 0, 1609), (1, 260, j_X12_readsTurn, 0, 0, 1613), (1, 263, j_X12_readsDamp, 0, 0, 1617), (1, 269, j_X12_isRoller, 0, 0, 1629), (1, 278, j_X12_cornerOf, 0, 0, 1644), (1, 281, j_X12_leaves, 0, 0, 1640), (1, 284, j_X12_isGoing, 0, 0, 1658), (1, 287, j_X12_tail, 0, 0, 1662), (1, 294, j_X12_isOver, 0, 0, 1654), (1, 298, j_X12_inPocket, 0, 0, 1687), (1, 301, j_X12_waits, 0, 0, 1679), (1, 304, j_X12_waitsNow, 0, 0, 1683), (1, 307, j_X12_drive, 0, 0, 1691), (1, 311, j_X12_bound, 0, 0, 1695), (1, 315, j_X12_ahead, 0, 0, 1698), (1, 318, j_X12_goes, 0, 0, 1675), (1, 321, j_X12_comesBack, 0, 0, 1702), (1, 324, j_X12_looks, 0, 0, 1706), (1, 329, j_X12_ticks, 0, 0, 1671), (1, 332, j_X12_isEye, 0, 0, 1722), (1, 344, j_X12_goesAlone, 0, 0, 1759), (1, 350, j_X12_observed, 0, 0, 1739), (1, 353, j_X12_takesCause, 0, 0, 1751), (1, 356, j_X12_looksAlone, 0, 0, 1755), (1, 359, j_X12_explains, 0, 0, 1747), (1, 363, j_X12_isCause, 0, 0, 1763), (1, 368, j_X12_isOutAlone, 0, 0, 1772), (1, 373, j_X12_creaseOf, 0, 0, 1781), (1, 386, j_X12_lain, 0, 0, 1827), (1, 389, j_X12_stateOf, 0, 0, 1812), (1, 393, j_X12_adds, 0, 0, 1815), (1, 400, j_X12_isOut, 0, 0, 1819), (1, 403, j_X12_opens, 0, 0, 1823), (1, 406, j_X12_finds, 0, 0, 1808), (1, 412, j_X12_wanted, 0, 0, 1852), (1, 415, j_X12_mostAt, 0, 0, 1856), (1, 418, j_X12_pairs, 0, 0, 1848), (1, 433, j_X12_renewals, 0, 0, 1888), (1, 438, j_X12_serves, 0, 0, 1884), (1, 441, j_X12_ones, 0, 0, 1892), (1, 446, j_X12_cut, 0, 0, 1904), (13, 7, 0, 0, 0, 1335), (6, 186, 9, 0, 0, 0)]
def zpl_13 : List ZE := [(10, 15, 0, 0, 0, 1929), (9, 9, 0, 0, 0, 1928), (12, 1053, 0, 0, 0, 772), (11, 38, 0, 0, 0, 756), (1, 1059, j_J3_checkIndex_8e157, 0, 0, 774), (1, 335, j_J0_coder_7d493, 0, 0, 752), (1, 492, j_J0_isLatin1_aae02, 0, 0, 762), (1, 495, j_J1_charAt_3b067, 0, 0, 766)]
def zpl_14 : List ZE := [(1, 9, j_J0_checkIndex_df160, 0, 0, 769)]
def zpl_15 : List ZE := []
def zpl_16 : List ZE := [(4, 265, 0, 0, 1431655765, 1180), (4, 266, 0, 0, 858993459, 1181), (4, 267, 0, 0, 252645135, 1182)]
def zpl_17 : List ZE := []
def zpl_18 : List ZE := []
def zpl_19 : List ZE := [(3, 10, 12, 0, 0, 1330), (3, 7, 11, 0, 0, 115), (5, 149, 0, 0, 4294967295, 1927), (1, 100, j_X11_heat, 0, 0, 1129), (1, 104, j_X12_heat, 0, 0, 1799), (1, 105, j_X11_plan, 0, 0, 1133), (1, 108, j_X12_plan, 0, 0, 1804), (1, 109, j_X11_copies, 0, 0, 1195), (1, 112, j_X12_copies, 0, 0, 1831), (1, 113, j_X11_out, 0, 0, 1199), (1, 116, j_X12_out, 0, 0, 1836), (1, 117, j_X11_empty, 0, 0, 1203), (1, 12, j_X12_init, 0, 0, 1332), (1, 120, j_X12_empty, 0, 0, 1840), (1, 121, j_X11_again, 0, 0, 1207), (1, 124, j_X12_again, 0, 0, 1844), (1, 125, j_X11_lack, 0, 0, 1235), (1, 128, j_X12_lack, 0, 0, 1860), (1, 129, j_X11_kept, 0, 0, 1243), (1, 13, j_X11_feed, 0, 0, 701), (1, 132, j_X12_kept, 0, 0, 1864), (1, 133, j_X11_pay, 0, 0, 1247), (1, 136, j_X12_pay, 0, 0, 1868), (1, 137, j_X11_part, 0, 0, 1255), (1, 140, j_X12_part, 0, 0, 1872), (1, 141, j_X11_service, 0, 0, 1259), (1, 144, j_X12_service, 0, 0, 1879), (1, 145, j_X11_row, 0, 0, 1280), (1, 148, j_X12_row, 0, 0, 1895), (1, 151, j_X11_write, 0, 0, 1289), (1, 155, j_X12_write, 0, 0, 1899), (1, 156, j_X11_save, 0, 0, 1297), (1, 159, j_X12_save, 0, 0, 1907), (1, 160, j_X11_load, 0, 0, 1301), (1, 163, j_X12_load, 0, 0, 1911), (1, 164, j_X11_image, 0, 0, 1309), (1, 168, j_X12_image, 0, 0, 1915), (1, 169, j_X11_restore, 0, 0, 1318), (1, 17, j_X12_feed, 0, 0, 1557), (1, 172, j_X12_restore, 0, 0, 1919), (1, 173, j_X11_count, 0, 0, 1322), (1, 176, j_X12_count, 0, 0, 1923), (1, 18, j_X11_text, 0, 0, 713), (1, 22, j_X12_text, 0, 0, 1561), (1, 23, j_X11_fault, 0, 0, 868), (1, 26, j_X12_fault, 0, 0, 1621), (1, 27, j_X11_set, 0, 0, 872), (1, 31, j_X12_set, 0, 0, 1625), (1, 32, j_X11_corner, 0, 0, 888), (1, 36, j_X12_corner, 0, 0, 1636), (1, 37, j_X11_lay, 0, 0, 904), (1, 41, j_X12_lay, 0, 0, 1648), (1, 42, j_X11_tick, 0, 0, 937), (1, 45, j_X12_tick, 0, 0, 1666), (1, 46, j_X11_sheet, 0, 0, 995), (1, 50, j_X12_sheet, 0, 0, 1710), (1, 51, j_X11_clear, 0, 0, 1000), (1, 55, j_X12_clear, 0, 0, 1714), (1, 56, j_X11_sees, 0, 0, 1013), (1, 59, j_X12_sees, 0, 0, 1718), (1, 60, j_X11_passing, 0, 0, 1021), (1, 63, j_X12_passing, 0, 0, 1726), (1, 64, j_X11_saw, 0, 0, 1025), (1, 68, j_X12_saw, 0, 0, 1730), (1, 69, j_X11_forget, 0, 0, 1036), (1, 73, j_X12_forget, 0, 0, 1735), (1, 74, j_X11_explain, 0, 0, 1040), (1, 77, j_X12_explain, 0, 0, 1743), (1, 78, j_X11_foretold, 0, 0, 1080), (1, 81, j_X12_foretold, 0, 0, 1767), (1, 82, j_X11_crease, 0, 0, 1096), (1, 85, j_X12_crease, 0, 0, 1776), (1, 86, j_X11_page, 0, 0, 1113), (1, 89, j_X12_page, 0, 0, 1785), (1, 9, j_X11_init, 0, 0, 117), (1, 90, j_X11_tray, 0, 0, 1121), (1, 94, j_X12_tray, 0, 0, 1790), (1, 95, j_X11_pocket, 0, 0, 1125), (1, 99, j_X12_pocket, 0, 0, 1794)]
def zpl (c : Nat) : List ZE := [zpl_0, zpl_1, zpl_2, zpl_3, zpl_4, zpl_5, zpl_6, zpl_7, zpl_8, zpl_9, zpl_10, zpl_11, zpl_12, zpl_13, zpl_14, zpl_15, zpl_16, zpl_17, zpl_18, zpl_19].getD c []
abbrev ZT : Type := MethodName × Nat × Option FieldType × Nat × Nat × Nat × Nat × (Nat × Nat × Nat × Nat)
def zmi_0 : List ZT := [(yJ6_bitCount_0f7a4, 1, some .int, 0, 1, 16, 0, (1179, 114, 1178, 0)),
  (yJ0_length_8abf5, 1, some .int, 1, 0, 13, 21, (751, 109, 749, 750)),
  (yJ0_charAt_5068e, 2, some .char, 1, 1, 13, 21, (761, 109, 759, 760)),
  (yJ0_coder_7d493, 1, some .byte, 1, 0, 13, 21, (755, 109, 753, 754)),
  (yJ0_isLatin1_aae02, 1, some .boolean, 1, 0, 13, 21, (765, 109, 763, 764)),
  (yJ0_checkIndex_df160, 2, none, 0, 2, 13, 0, (771, 109, 770, 0)),
  (yJ1_charAt_3b067, 2, some .char, 0, 2, 14, 0, (768, 110, 767, 0)),
  (yJ7_fill_d0a16, 5, none, 0, 2, 15, 0, (1151, 106, 1150, 0)),
  (yJ7_fill_53178, 4, none, 0, 2, 15, 0, (656, 106, 655, 0)),
  (yJ3_checkIndex_8e157, 3, some .int, 0, 3, 17, 0, (776, 111, 775, 0)),
  (yX0_init, 1, none, 2, 0, 0, 1, (371, 100, 370, 0)),
  (yX0_observe, 4, some .boolean, 1, 3, 0, 1, (1032, 100, 1030, 1031)),
  (yX0_canBe, 3, some .boolean, 0, 2, 0, 0, (1035, 100, 1034, 0)),
  (yX0_dropObserved, 3, some .int, 1, 0, 0, 1, (867, 100, 865, 866)),
  (yX0_seek, 7, none, 1, 2, 0, 1, (1047, 100, 1045, 1046)),
  (yX0_isWorthTrying, 4, some .boolean, 1, 2, 0, 1, (1074, 100, 1073, 29)),
  (yX0_canMatter, 3, some .boolean, 0, 3, 0, 0, (1079, 100, 1078, 0)),
  (yX0_explains, 6, some .boolean, 1, 4, 0, 1, (1051, 100, 1050, 25)),
  (yX0_putFlaw, 3, none, 1, 2, 0, 1, (1056, 100, 1055, 26)),
  (yX0_isSeenSo, 8, some .boolean, 1, 4, 0, 1, (1065, 100, 1064, 27)),
  (yX0_allSeenBy, 4, some .boolean, 1, 2, 0, 1, (1070, 100, 1069, 28)),
  (yX0_firstToFail, 8, some .int, 1, 5, 0, 1, (1087, 100, 1085, 1086)),
  (yX1_init, 1, none, 2, 0, 1, 2, (172, 96, 171, 0)),
  (yX1_reset, 1, none, 1, 0, 1, 2, (862, 96, 860, 861)),
  (yX1_becomeLike, 2, none, 1, 1, 1, 2, (1091, 96, 1089, 1090)),
  (yX1_changeWear, 4, some .int, 1, 2, 1, 2, (883, 96, 881, 882)),
  (yX1_changeBeat, 4, some .int, 1, 2, 1, 2, (887, 96, 885, 886)),
  (yX1_leaveCorner, 2, some .boolean, 1, 1, 1, 2, (895, 96, 893, 894)),
  (yX1_takeCorner, 3, some .boolean, 1, 1, 1, 2, (903, 96, 901, 902)),
  (yX1_cornerAt, 3, some .int, 1, 1, 1, 2, (899, 96, 898, 15)),
  (yX1_cornerLimit, 5, some .int, 1, 1, 1, 2, (969, 96, 967, 968)),
  (yX1_driveOf, 10, some .int, 1, 4, 1, 2, (965, 96, 963, 964)),
  (yX2_init, 1, none, 2, 0, 2, 3, (419, 101, 418, 0)),
  (yX2_addPage, 3, some .int, 1, 2, 2, 3, (1120, 101, 1118, 1119)),
  (yX2_stackSides, 3, some .int, 1, 0, 2, 3, (1254, 101, 1252, 1253)),
  (yX2_becomeLike, 2, none, 1, 1, 2, 3, (1316, 101, 1314, 1315)),
  (yX3_init, 1, none, 2, 0, 3, 4, (572, 103, 571, 0)),
  (yX3_pair, 2, none, 1, 1, 3, 4, (1214, 103, 1212, 1213)),
  (yX3_measureRoom, 8, none, 1, 1, 3, 4, (1218, 103, 1217, 40)),
  (yX3_lastPlaceBelow, 3, some .int, 0, 3, 3, 0, (1222, 103, 1221, 0)),
  (yX3_pairInOrder, 7, none, 1, 1, 3, 4, (1227, 103, 1226, 41)),
  (yX3_earliest, 4, some .int, 0, 3, 3, 0, (1230, 103, 1229, 0)),
  (yX3_lackingPlace, 4, some .int, 1, 1, 3, 4, (1242, 103, 1240, 1241)),
  (yX3_wholeCopies, 6, some .int, 1, 1, 3, 4, (1234, 103, 1232, 1233)),
  (yX4_init, 1, none, 2, 0, 4, 5, (627, 105, 626, 0)),
  (yX4_make, 4, none, 1, 3, 4, 5, (1287, 105, 1285, 1286)),
  (yX4_cut, 3, some .long, 0, 2, 4, 0, (1296, 105, 1295, 0)),
  (yX4_tellsPages, 5, some .boolean, 1, 3, 4, 5, (1308, 105, 1306, 1307)),
  (yX5_init, 1, none, 2, 0, 5, 6, (516, 102, 515, 0)),
  (yX5_seek, 3, none, 1, 1, 5, 6, (1140, 102, 1138, 1139)),
  (yX5_hasPaperForAll, 4, some .boolean, 1, 0, 5, 6, (1144, 102, 1143, 30)),
  (yX5_gives, 3, some .boolean, 1, 2, 5, 6, (1148, 102, 1147, 31)),
  (yX5_leave, 9, none, 1, 1, 5, 6, (1160, 102, 1159, 33)),
  (yX5_takesNext, 2, some .boolean, 1, 0, 5, 6, (1176, 102, 1175, 36)),
  (yX5_feedFromEach, 9, none, 1, 3, 5, 6, (1186, 102, 1185, 37)),
  (yX5_agedPocket, 6, some .int, 1, 2, 5, 6, (1169, 102, 1168, 35)),
  (yX5_unpack, 3, none, 1, 1, 5, 6, (1165, 102, 1164, 34)),
  (yX5_meet, 11, none, 1, 6, 5, 6, (1155, 102, 1154, 32)),
  (yX5_traceBack, 4, none, 1, 0, 5, 6, (1190, 102, 1189, 38)),
  (yX5_parentOf, 2, some .int, 1, 1, 5, 6, (1194, 102, 1193, 39)),
  (yX6_init, 1, none, 2, 0, 6, 7, (127, 95, 126, 0)),
  (yX6_hasRoomForFive, 1, some .boolean, 1, 0, 6, 7, (708, 95, 706, 707)),
  (yX6_append, 3, none, 1, 1, 6, 7, (712, 95, 710, 711)),
  (yX6_readWay, 4, some .int, 1, 2, 6, 7, (721, 95, 719, 720))]
def zmi_1 : List ZT := [(yX6_splitTokens, 3, none, 1, 1, 6, 7, (728, 95, 727, 0)),
  (yX6_nextKind, 2, some .int, 1, 0, 6, 7, (735, 95, 734, 1)),
  (yX6_nextNumber, 3, some .int, 1, 0, 6, 7, (814, 95, 813, 5)),
  (yX6_nextWord, 2, some .int, 1, 0, 6, 7, (742, 95, 741, 2)),
  (yX6_wordOfFour, 2, some .int, 1, 1, 6, 7, (800, 95, 799, 4)),
  (yX6_isAt, 5, some .boolean, 1, 2, 6, 7, (747, 95, 746, 3)),
  (yX6_readLine, 3, none, 1, 2, 6, 7, (818, 95, 817, 6)),
  (yX6_readRoller, 2, none, 1, 1, 6, 7, (838, 95, 837, 11)),
  (yX6_readEye, 2, none, 1, 1, 6, 7, (846, 95, 845, 12)),
  (yX6_readTurn, 2, none, 1, 1, 6, 7, (854, 95, 853, 13)),
  (yX6_readDamp, 2, none, 1, 1, 6, 7, (858, 95, 857, 14)),
  (yX6_readNumber, 3, some .int, 1, 2, 6, 7, (822, 95, 821, 7)),
  (yX6_want, 2, none, 1, 1, 6, 7, (826, 95, 825, 8)),
  (yX6_goOn, 1, none, 1, 0, 6, 7, (830, 95, 829, 9)),
  (yX6_blame, 2, none, 1, 1, 6, 7, (834, 95, 833, 10)),
  (yX6_isBlank, 1, some .boolean, 0, 1, 6, 0, (731, 95, 730, 0)),
  (yX6_isLetter, 1, some .boolean, 0, 1, 6, 0, (738, 95, 737, 0)),
  (yX6_isDigit, 1, some .boolean, 0, 1, 6, 0, (810, 95, 809, 0)),
  (yX7_init, 1, none, 2, 0, 7, 8, (598, 104, 597, 0)),
  (yX7_seek, 7, none, 1, 3, 7, 8, (1266, 104, 1264, 1265)),
  (yX7_isBetter, 3, some .boolean, 1, 2, 7, 8, (1279, 104, 1278, 43)),
  (yX7_costOfNewOnes, 7, some .int, 1, 3, 7, 8, (1271, 104, 1270, 42)),
  (yX7_timesNew, 8, some .int, 0, 4, 7, 0, (1274, 104, 1273, 0)),
  (yX8_init, 1, none, 2, 0, 8, 9, (194, 97, 193, 0)),
  (yX8_start, 3, none, 1, 2, 8, 9, (649, 97, 647, 648)),
  (yX8_isFull, 1, some .boolean, 1, 0, 8, 9, (914, 97, 912, 913)),
  (yX8_tailOf, 2, some .int, 1, 1, 8, 9, (926, 97, 924, 925)),
  (yX8_isFreeFor, 3, some .boolean, 1, 1, 8, 9, (918, 97, 916, 917)),
  (yX8_begin, 4, some .int, 1, 2, 8, 9, (930, 97, 928, 929)),
  (yX8_liesFree, 5, some .boolean, 1, 2, 8, 9, (922, 97, 921, 16)),
  (yX8_putOnWay, 5, none, 1, 3, 8, 9, (935, 97, 934, 17)),
  (yX8_goOnce, 2, none, 1, 0, 8, 9, (944, 97, 942, 943)),
  (yX8_carryOn, 5, none, 1, 0, 8, 9, (948, 97, 946, 947)),
  (yX8_move, 3, none, 1, 2, 8, 9, (953, 97, 952, 18)),
  (yX8_waits, 2, some .boolean, 1, 1, 8, 9, (957, 97, 956, 19)),
  (yX8_drive, 5, none, 1, 2, 8, 9, (961, 97, 960, 20)),
  (yX8_enterPocket, 2, none, 1, 1, 8, 9, (974, 97, 973, 21)),
  (yX8_findJam, 3, none, 1, 0, 8, 9, (978, 97, 977, 22)),
  (yX8_comeBack, 4, none, 1, 0, 8, 9, (982, 97, 981, 23)),
  (yX8_isUnderEye, 3, some .boolean, 1, 1, 8, 9, (986, 97, 984, 985)),
  (yX8_takeAll, 3, some .int, 1, 0, 8, 9, (1011, 97, 1009, 1010)),
  (yX9_init, 1, none, 2, 0, 9, 10, (200, 98, 199, 0)),
  (yX9_reset, 1, none, 1, 0, 9, 10, (653, 98, 651, 652)),
  (yX9_cutOff, 2, none, 1, 0, 9, 10, (660, 98, 658, 659)),
  (yX9_look, 5, none, 1, 3, 9, 10, (990, 98, 988, 989)),
  (yX9_close, 4, none, 1, 2, 9, 10, (994, 98, 993, 24)),
  (yX10_init, 1, none, 2, 0, 10, 11, (227, 99, 226, 0)),
  (yX10_reset, 1, none, 1, 0, 10, 11, (232, 99, 230, 231)),
  (yX10_hasRoller, 2, some .boolean, 1, 1, 10, 11, (879, 99, 877, 878)),
  (yX10_hasEye, 2, some .boolean, 1, 1, 10, 11, (1020, 99, 1018, 1019)),
  (yX10_lastRollerPlace, 1, some .int, 1, 0, 10, 11, (842, 99, 840, 841)),
  (yX10_lastEyePlace, 1, some .int, 1, 0, 10, 11, (850, 99, 848, 849)),
  (yX10_creasesAre, 10, some .boolean, 1, 5, 10, 11, (1112, 99, 1110, 1111)),
  (yX11_init, 1, none, 2, 0, 11, 12, (119, 94, 118, 0)),
  (yX11_feed, 6, some .int, 1, 5, 11, 12, (704, 94, 702, 703)),
  (yX11_text, 4, some .int, 1, 1, 11, 12, (716, 94, 714, 715)),
  (yX11_fault, 2, some .int, 1, 1, 11, 12, (871, 94, 869, 870)),
  (yX11_set, 4, some .int, 1, 3, 11, 12, (875, 94, 873, 874)),
  (yX11_corner, 3, some .boolean, 1, 2, 11, 12, (891, 94, 889, 890)),
  (yX11_lay, 3, some .int, 1, 2, 11, 12, (907, 94, 905, 906)),
  (yX11_tick, 3, some .int, 1, 1, 11, 12, (940, 94, 938, 939)),
  (yX11_sheet, 3, some .int, 1, 2, 11, 12, (998, 94, 996, 997)),
  (yX11_clear, 4, some .int, 1, 1, 11, 12, (1003, 94, 1001, 1002)),
  (yX11_sees, 2, some .int, 1, 1, 11, 12, (1016, 94, 1014, 1015))]
def zmi_2 : List ZT := [(yX11_passing, 4, some .int, 1, 3, 11, 12, (1024, 94, 1022, 1023)),
  (yX11_saw, 4, some .boolean, 1, 3, 11, 12, (1028, 94, 1026, 1027)),
  (yX11_forget, 1, some .int, 1, 0, 11, 12, (1039, 94, 1037, 1038)),
  (yX11_explain, 3, some .int, 1, 2, 11, 12, (1043, 94, 1041, 1042)),
  (yX11_foretold, 4, some .int, 1, 3, 11, 12, (1083, 94, 1081, 1082)),
  (yX11_crease, 8, some .int, 1, 5, 11, 12, (1099, 94, 1097, 1098)),
  (yX11_page, 3, some .int, 1, 2, 11, 12, (1116, 94, 1114, 1115)),
  (yX11_tray, 4, some .boolean, 1, 3, 11, 12, (1124, 94, 1122, 1123)),
  (yX11_pocket, 3, some .boolean, 1, 2, 11, 12, (1128, 94, 1126, 1127)),
  (yX11_heat, 6, some .boolean, 1, 4, 11, 12, (1132, 94, 1130, 1131)),
  (yX11_plan, 2, some .int, 1, 1, 11, 12, (1136, 94, 1134, 1135)),
  (yX11_copies, 3, some .int, 1, 1, 11, 12, (1198, 94, 1196, 1197)),
  (yX11_out, 2, some .int, 1, 1, 11, 12, (1202, 94, 1200, 1201)),
  (yX11_empty, 2, some .int, 1, 0, 11, 12, (1206, 94, 1204, 1205)),
  (yX11_again, 2, some .int, 1, 1, 11, 12, (1210, 94, 1208, 1209)),
  (yX11_lack, 2, some .int, 1, 1, 11, 12, (1238, 94, 1236, 1237)),
  (yX11_kept, 2, some .int, 1, 1, 11, 12, (1246, 94, 1244, 1245)),
  (yX11_pay, 6, some .int, 1, 3, 11, 12, (1250, 94, 1248, 1249)),
  (yX11_part, 5, some .boolean, 1, 4, 11, 12, (1258, 94, 1256, 1257)),
  (yX11_service, 4, some .int, 1, 3, 11, 12, (1262, 94, 1260, 1261)),
  (yX11_row, 4, some .int, 1, 3, 11, 12, (1283, 94, 1281, 1282)),
  (yX11_write, 5, some .long, 1, 3, 11, 12, (1292, 94, 1290, 1291)),
  (yX11_save, 3, some .int, 1, 1, 11, 12, (1300, 94, 1298, 1299)),
  (yX11_load, 4, some .int, 1, 2, 11, 12, (1304, 94, 1302, 1303)),
  (yX11_image, 2, some .boolean, 1, 1, 11, 12, (1312, 94, 1310, 1311)),
  (yX11_restore, 2, some .boolean, 1, 1, 11, 12, (1321, 94, 1319, 1320)),
  (yX11_count, 2, some .int, 1, 1, 11, 12, (1325, 94, 1323, 1324)),
  (yX11_countOfSet, 2, some .int, 1, 1, 11, 12, (1329, 94, 1328, 44)),
  (yX11_isSheetLength, 1, some .boolean, 0, 1, 11, 0, (910, 94, 909, 0)),
  (yX11_isCreaseRow, 3, some .boolean, 0, 3, 11, 0, (1102, 94, 1101, 0)),
  (yX11_isCrease, 1, some .boolean, 0, 1, 11, 0, (1105, 94, 1104, 0)),
  (yX11_falls, 2, some .boolean, 0, 2, 11, 0, (1108, 94, 1107, 0)),
  (yX12_within, 6, some .boolean, 0, 3, 12, 0, (1567, 107, 1566, 0)),
  (yX12_init, 1, none, 2, 0, 12, 13, (1334, 107, 1333, 0)),
  (yX12_begins, 2, none, 1, 0, 12, 13, (1340, 107, 1339, 45)),
  (yX12_becomes, 2, none, 1, 0, 12, 13, (1344, 107, 1343, 46)),
  (yX12_feed, 8, some .int, 1, 5, 12, 13, (1560, 107, 1558, 1559)),
  (yX12_see, 2, some .int, 1, 1, 12, 13, (1575, 107, 1574, 49)),
  (yX12_isSmall, 1, some .boolean, 0, 1, 12, 0, (1578, 107, 1577, 0)),
  (yX12_isDigit, 1, some .boolean, 0, 1, 12, 0, (1588, 107, 1587, 0)),
  (yX12_keyAt, 4, some .int, 1, 0, 12, 13, (1582, 107, 1581, 50)),
  (yX12_next, 1, none, 1, 0, 12, 13, (1571, 107, 1570, 48)),
  (yX12_fails, 2, none, 1, 1, 12, 13, (1600, 107, 1599, 53)),
  (yX12_is, 2, some .boolean, 1, 1, 12, 13, (1592, 107, 1591, 51)),
  (yX12_needs, 2, none, 1, 1, 12, 13, (1604, 107, 1603, 54)),
  (yX12_reads, 4, some .int, 1, 2, 12, 13, (1596, 107, 1595, 52)),
  (yX12_readsRoller, 3, none, 1, 0, 12, 13, (1608, 107, 1607, 55)),
  (yX12_readsEye, 2, none, 1, 0, 12, 13, (1612, 107, 1611, 56)),
  (yX12_readsTurn, 1, none, 1, 0, 12, 13, (1616, 107, 1615, 57)),
  (yX12_readsDamp, 1, none, 1, 0, 12, 13, (1620, 107, 1619, 58)),
  (yX12_text, 2, some .int, 1, 1, 12, 13, (1564, 107, 1562, 1563)),
  (yX12_fault, 2, some .int, 1, 1, 12, 13, (1624, 107, 1622, 1623)),
  (yX12_isRoller, 2, some .boolean, 1, 1, 12, 13, (1632, 107, 1631, 59)),
  (yX12_isEye, 2, some .boolean, 1, 1, 12, 13, (1725, 107, 1724, 74)),
  (yX12_set, 5, some .int, 1, 3, 12, 13, (1628, 107, 1626, 1627)),
  (yX12_cornerOf, 3, some .int, 1, 1, 12, 13, (1647, 107, 1646, 61)),
  (yX12_leaves, 2, some .boolean, 1, 1, 12, 13, (1643, 107, 1642, 60)),
  (yX12_corner, 4, some .boolean, 1, 2, 12, 13, (1639, 107, 1637, 1638)),
  (yX12_isGoing, 2, some .boolean, 1, 1, 12, 13, (1661, 107, 1660, 63)),
  (yX12_tail, 2, some .int, 1, 1, 12, 13, (1665, 107, 1664, 64)),
  (yX12_isOver, 4, some .boolean, 1, 2, 12, 13, (1657, 107, 1656, 62)),
  (yX12_lay, 3, some .int, 1, 2, 12, 13, (1651, 107, 1649, 1650)),
  (yX12_drive, 11, some .int, 1, 5, 12, 13, (1694, 107, 1693, 70)),
  (yX12_bound, 6, some .int, 0, 4, 12, 0, (1697, 107, 1696, 0))]
def zmi_3 : List ZT := [(yX12_ahead, 4, some .int, 1, 1, 12, 13, (1701, 107, 1700, 71)),
  (yX12_inPocket, 3, some .int, 1, 0, 12, 13, (1690, 107, 1689, 69)),
  (yX12_waits, 2, some .boolean, 1, 1, 12, 13, (1682, 107, 1681, 67)),
  (yX12_waitsNow, 2, none, 1, 1, 12, 13, (1686, 107, 1685, 68)),
  (yX12_goes, 4, none, 1, 1, 12, 13, (1678, 107, 1677, 66)),
  (yX12_ticks, 4, none, 1, 0, 12, 13, (1674, 107, 1673, 65)),
  (yX12_comesBack, 3, none, 1, 0, 12, 13, (1705, 107, 1704, 72)),
  (yX12_looks, 4, none, 1, 0, 12, 13, (1709, 107, 1708, 73)),
  (yX12_tick, 3, some .int, 1, 1, 12, 13, (1669, 107, 1667, 1668)),
  (yX12_sheet, 3, some .int, 1, 2, 12, 13, (1713, 107, 1711, 1712)),
  (yX12_clear, 6, some .int, 1, 1, 12, 13, (1717, 107, 1715, 1716)),
  (yX12_sees, 2, some .int, 1, 1, 12, 13, (1721, 107, 1719, 1720)),
  (yX12_passing, 4, some .int, 1, 3, 12, 13, (1729, 107, 1727, 1728)),
  (yX12_goesAlone, 4, none, 1, 2, 12, 13, (1762, 107, 1761, 79)),
  (yX12_isOutAlone, 4, some .boolean, 1, 2, 12, 13, (1775, 107, 1774, 81)),
  (yX12_looksAlone, 6, none, 1, 1, 12, 13, (1758, 107, 1757, 78)),
  (yX12_saw, 5, some .boolean, 1, 3, 12, 13, (1733, 107, 1731, 1732)),
  (yX12_observed, 3, some .int, 1, 0, 12, 13, (1742, 107, 1741, 75)),
  (yX12_forget, 3, some .int, 1, 0, 12, 13, (1738, 107, 1736, 1737)),
  (yX12_isCause, 2, some .boolean, 1, 1, 12, 13, (1766, 107, 1765, 80)),
  (yX12_takesCause, 2, none, 1, 1, 12, 13, (1754, 107, 1753, 77)),
  (yX12_explains, 6, some .boolean, 1, 3, 12, 13, (1750, 107, 1749, 76)),
  (yX12_explain, 5, some .int, 1, 2, 12, 13, (1746, 107, 1744, 1745)),
  (yX12_foretold, 5, some .int, 1, 3, 12, 13, (1770, 107, 1768, 1769)),
  (yX12_creaseOf, 6, some .int, 1, 3, 12, 13, (1784, 107, 1783, 82)),
  (yX12_crease, 9, some .int, 1, 5, 12, 13, (1779, 107, 1777, 1778)),
  (yX12_setsOut, 2, none, 1, 0, 12, 13, (1348, 107, 1347, 47)),
  (yX12_page, 3, some .int, 1, 2, 12, 13, (1788, 107, 1786, 1787)),
  (yX12_tray, 4, some .boolean, 1, 3, 12, 13, (1793, 107, 1791, 1792)),
  (yX12_pocket, 3, some .boolean, 1, 2, 12, 13, (1797, 107, 1795, 1796)),
  (yX12_heat, 5, some .boolean, 1, 4, 12, 13, (1802, 107, 1800, 1801)),
  (yX12_stateOf, 7, some .int, 0, 7, 12, 0, (1814, 107, 1813, 0)),
  (yX12_adds, 4, none, 1, 3, 12, 13, (1818, 107, 1817, 84)),
  (yX12_lain, 2, some .int, 1, 1, 12, 13, (1830, 107, 1829, 87)),
  (yX12_isOut, 3, some .boolean, 1, 1, 12, 13, (1822, 107, 1821, 85)),
  (yX12_opens, 15, none, 1, 1, 12, 13, (1826, 107, 1825, 86)),
  (yX12_finds, 2, some .boolean, 1, 0, 12, 13, (1811, 107, 1810, 83)),
  (yX12_plan, 5, some .int, 1, 1, 12, 13, (1807, 107, 1805, 1806)),
  (yX12_copies, 3, some .int, 1, 1, 12, 13, (1834, 107, 1832, 1833)),
  (yX12_out, 2, some .int, 1, 1, 12, 13, (1839, 107, 1837, 1838)),
  (yX12_empty, 2, some .int, 1, 0, 12, 13, (1843, 107, 1841, 1842)),
  (yX12_wanted, 1, some .int, 1, 0, 12, 13, (1855, 107, 1854, 89)),
  (yX12_mostAt, 3, some .int, 1, 2, 12, 13, (1859, 107, 1858, 90)),
  (yX12_pairs, 7, none, 1, 0, 12, 13, (1851, 107, 1850, 88)),
  (yX12_again, 7, some .int, 1, 1, 12, 13, (1847, 107, 1845, 1846)),
  (yX12_lack, 4, some .int, 1, 1, 12, 13, (1863, 107, 1861, 1862)),
  (yX12_kept, 2, some .int, 1, 1, 12, 13, (1867, 107, 1865, 1866)),
  (yX12_pay, 6, some .int, 1, 3, 12, 13, (1871, 107, 1869, 1870)),
  (yX12_part, 5, some .boolean, 1, 4, 12, 13, (1875, 107, 1873, 1874)),
  (yX12_renewals, 8, some .int, 1, 3, 12, 13, (1891, 107, 1890, 92)),
  (yX12_serves, 6, some .boolean, 1, 3, 12, 13, (1887, 107, 1886, 91)),
  (yX12_ones, 3, some .int, 0, 1, 12, 0, (1894, 107, 1893, 0)),
  (yX12_service, 8, some .int, 1, 3, 12, 13, (1882, 107, 1880, 1881)),
  (yX12_cut, 3, some .long, 0, 2, 12, 0, (1906, 107, 1905, 0)),
  (yX12_row, 5, some .int, 1, 3, 12, 13, (1898, 107, 1896, 1897)),
  (yX12_write, 5, some .long, 1, 3, 12, 13, (1902, 107, 1900, 1901)),
  (yX12_save, 3, some .int, 1, 1, 12, 13, (1910, 107, 1908, 1909)),
  (yX12_load, 4, some .int, 1, 2, 12, 13, (1914, 107, 1912, 1913)),
  (yX12_image, 3, some .boolean, 1, 1, 12, 13, (1918, 107, 1916, 1917)),
  (yX12_restore, 3, some .boolean, 1, 1, 12, 13, (1922, 107, 1920, 1921)),
  (yX12_count, 2, some .int, 1, 1, 12, 13, (1926, 107, 1924, 1925)),
  (yL_law, 4, some .boolean, 0, 1, 19, 0, (0, 0, 0, 0))]
def zmis : List ZT := zmi_0 ++ zmi_1 ++ zmi_2 ++ zmi_3
def zmi (j : Nat) : ZT := zmis.getD j (yL_law, 4, none, 9, 0, 0, 0, (0, 0, 0, 0))
end
def zat (pl : Nat) (w : Cond) : Bool := decide (lw_tbl[pl]? = some w) && goodWord w
theorem zat_in {pl : Nat} {w : Cond} (h : zat pl w = true) : w ∈ zgood := by
  unfold zat at h
  rw [Bool.and_eq_true, decide_eq_true_eq] at h
  exact List.mem_filter.mpr ⟨List.mem_of_getElem? h.1, h.2⟩
/-- an entry of a pool is as the tables say -/
def zpok (own : String) (e : ZE) : Bool := match e with
  | (0, idx, a, b, _, pl) => zat pl (.fieldLink own idx ((zcl a).2.1 b).1 ((zcl a).2.1 b).2.1 ((zcl a).2.1 b).2.2.1) && decide (a < 13) && decide (b < (zcl a).2.2)
  | (1, idx, a, _, _, pl) => zat pl (.methodLink own idx (zmi a).1)
  | (2, idx, a, _, _, _) => decide (Cond.methodLinkNest own idx (zmi a).1 RX11 ∈ znest)
  | (3, idx, a, _, _, pl) => zat pl (.classLink own idx (zcl a).1) && decide (a < 13)
  | (4, idx, _, _, v, pl) => zat pl (.constant own idx (Int32.ofInt v)) && decide (-2147483648 ≤ v) && decide (v < 2147483648)
  | (5, idx, _, _, v, pl) => zat pl (.constantLong own idx (Int64.ofInt v)) && decide (-9223372036854775808 ≤ v) && decide (v < 9223372036854775808)
  | (6, idx, a, _, _, _) => decide (a < 10) && decide (zsown a = own) && decide (zsidx a = idx)
  | (7, idx, _, _, _, pl) => zat pl (.classLink own idx "PaperWay$Job")
  | (8, idx, _, _, _, pl) => zat pl (.classLink own idx ("[" ++ (FieldType.array .long).toString))
  | (9, idx, _, _, _, pl) => zat pl (.fieldLink own idx "java/lang/String" "value" "[B")
  | (10, idx, _, _, _, pl) => zat pl (.fieldLink own idx "java/lang/String" "coder" "B")
  | (11, idx, _, _, _, pl) => zat pl (.fieldLink own idx "java/lang/String" "COMPACT_STRINGS" "Z")
  | (12, idx, _, _, _, pl) => zat pl (.fieldLink own idx "jdk/internal/util/Preconditions" "SIOOBE_FORMATTER" "Ljava/util/function/BiFunction;")
  | (13, idx, _, _, _, pl) => zat pl (.methodLink own idx objectInit)
  | (14, idx, _, _, _, pl) => zat pl (.methodLink own idx arraycopyName)
  | (15, idx, _, _, _, pl) => zat pl (.methodLink own idx Lib.Math.max.name)
  | (16, idx, _, _, _, pl) => zat pl (.methodLink own idx Lib.Math.min.name)
  | _ => false
/-- the bytes that the tables give a method -/
def zcodeAt (pl : Nat) : ByteArray := match lw_tbl[pl]? with
  | some (.code _ b _ _) => b
  | _ => ⟨#[]⟩
def zatc (pl : Nat) (y : MethodName) (maxL : Nat) (ret : Option FieldType) : Bool := match lw_tbl[pl]? with
  | some (.code y' _ n' r') => decide (y' = y) && decide (n' = maxL) && decide (r' = ret)
  | _ => false
theorem zatc_in {pl maxL : Nat} {y : MethodName} {ret : Option FieldType} (h : zatc pl y maxL ret = true) : Cond.code y (zcodeAt pl) maxL ret ∈ zgood := by
  unfold zatc at h
  split at h
  · rename_i y' b n' r' hz
    simp only [Bool.and_eq_true, decide_eq_true_eq] at h
    obtain ⟨⟨rfl, rfl⟩, rfl⟩ := h
    refine List.mem_filter.mpr ⟨List.mem_of_getElem? (i := pl) ?_, rfl⟩
    have e : zcodeAt pl = b := by unfold zcodeAt; rw [hz]
    rw [e]
    exact hz
  · cases h
/-- a method is as the tables say -/
def zmok (t : ZT) : Bool := match t with
  | (y, maxL, ret, sort, na, c, rc, (cp, ip, mp, sp)) => zatc cp y maxL ret && zat ip (.initialized y.cls) && (bif sort == 0 then zat mp (.static y) else zat mp (.instanceMethod y)) && (bif sort == 1 then zat sp (.selects y.cls y y) else true) &&
    decide (y.cls ≠ "java/lang/invoke/MethodHandle") && decide (y.cls ≠ "java/lang/invoke/VarHandle") && decide ((parseMethodDescriptor y.desc).map (fun d => d.parameters.length) = some na) && decide (maxL ≤ 18) && _root_.Jvm.plainName y.cls && decide (zown c = y.cls) &&
    (bif sort == 0 then rc == 0 else (decide (1 ≤ rc) && decide (rc ≤ 13) && decide ((zcl (rc - 1)).1 = y.cls)) || (rc == 21 && decide (y.cls = "java/lang/String") && sort == 1)) && (bif sort == 2 then decide (y.name = "<init>") && decide (ret = none) else true) && decide (ret = none ∨ ret = some .int ∨ ret = some .long ∨ ret = some .boolean ∨ ret = some .byte ∨ ret = some .char)
set_option maxRecDepth 100000 in
theorem zpl_ok_a : (List.range 8).all (fun c => (zpl c).all (zpok (zown c))) = true := by decide +kernel
set_option maxRecDepth 100000 in
theorem zpl_ok_b : ((List.range 20).drop 8).all (fun c => (zpl c).all (zpok (zown c))) = true := by decide +kernel
set_option maxRecDepth 100000 in
theorem zmi_ok_0 : zmi_0.all zmok = true := by decide +kernel
set_option maxRecDepth 100000 in
theorem zmi_ok_1 : zmi_1.all zmok = true := by decide +kernel
set_option maxRecDepth 100000 in
theorem zmi_ok_2 : zmi_2.all zmok = true := by decide +kernel
set_option maxRecDepth 100000 in
theorem zmi_ok_3 : (zmi_3.take 61).all zmok = true := by decide +kernel
def zcok (a : Nat) : Bool := decide (Cond.instantiable (zcl a).1 (zcl a).2.2 ∈ lw_tbl) && goodWord (Cond.instantiable (zcl a).1 (zcl a).2.2) && decide (Cond.initialized (zcl a).1 ∈ lw_tbl) && goodWord (Cond.initialized (zcl a).1)
set_option maxRecDepth 100000 in
theorem zcok_all : (List.range 13).all zcok = true := by decide +kernel
def zfix : List Cond := [.arrayClass .int, .arrayClass .boolean, .arrayClass .byte, .arrayClass .long, .instanceMethod objectInit, .code objectInit ⟨#[0xb1]⟩ 1 none, .native arraycopyName, .static arraycopyName, .initialized "java/lang/System", .static Lib.Math.max.name, .static Lib.Math.min.name, .initialized "java/lang/Math", .code Lib.Math.max.name Lib.Math.max.code 2 (some .int), .code Lib.Math.min.name Lib.Math.min.code 2 (some .int)]
set_option maxRecDepth 100000 in
theorem zfix_ok : zfix.all (fun w => decide (w ∈ lw_tbl) && goodWord w) = true := by decide +kernel
end
section
/-! calls and whole methods -/
theorem zgood_GoodIn {cp maxL : Nat} {y : MethodName} {ret : Option FieldType} (h : Cond.code y (zcodeAt cp) maxL ret ∈ zgood) : GoodIn zgood (Cond.code y (zcodeAt cp) maxL ret :: zgood) := by
  have hg : ∀ w ∈ zgood, w ∈ zgood ∧ ((w.onTables && w.keeps) = true ∨ ∃ ty, w = .arrayClass ty) := fun w hw => ⟨hw, good_of_word (List.mem_filter.mp hw).2⟩
  intro w hw
  rcases List.mem_cons.mp hw with h1 | h1
  · rw [h1]; exact hg _ h
  · exact hg w h1
def zrm (d mc ms : Nat) : Room := { frames := d, cells := mc, slots := ms, locals := 37 * d }
/-- the cells that a method may change -/
def zA (ad : Nat → Nat → Nat) (L : List (Nat × Nat)) (sz : Nat) : Nat → Prop := fun q => (∃ z ∈ L, q = ad z.1 z.2) ∨ sz ≤ q
def zdom (κ : ZK) (L : List (Nat × Nat)) : Prop := ∀ r o, (r, o) ∈ L ↔ ∃ k n, κ r o = some (k, n) ∧ k ≠ 6
def zPc (D : va_G) (cA : Nat → ClassId) (e0 : Nat → Nat → Option Nat) (bS nS : Nat) (xS : Nat → Int) (L : List (Nat × Nat)) (ad : Nat → Nat → Nat) (μ : ZM) (as : List ZV) (sz : Nat) : Array Value → State → Prop :=
  va_Pc (as.map (zcv e0 ad)) (fun U => U.heap.size = sz ∧ zEnv D cA e0 U ∧ zRO e0 bS nS xS (zA ad L sz) U U.heap ∧ va_P D vwCl (zws cA e0 ad μ.1 μ.2.1 μ.2.2.1 L) U.heap ∧ va_D (zA ad L sz) (zws cA e0 ad μ.1 μ.2.1 μ.2.2.1 L))
def zB (D : va_G) (cA : Nat → ClassId) (e0 : Nat → Nat → Option Nat) (bS nS : Nat) (xS : Nat → Int) (L : List (Nat × Nat)) (ad : Nat → Nat → Nat) (A : Nat → Prop) (μ : ZM) (u : List (Nat × Nat) × (Nat → Nat → Nat)) (t : State) : Prop :=
  va_P D vwCl (zws cA e0 u.2 μ.1 μ.2.1 μ.2.2.1 u.1) t.heap ∧ va_D A (zws cA e0 u.2 μ.1 μ.2.1 μ.2.2.1 u.1) ∧ u.1.Nodup ∧ zdom μ.1 u.1 ∧ zok bS nS xS u.2 μ.1 μ.2.1 μ.2.2.1 ∧ ∀ z ∈ L, z ∈ u.1 ∧ u.2 z.1 z.2 = ad z.1 z.2
def zQc (D : va_G) (cA : Nat → ClassId) (e0 : Nat → Nat → Option Nat) (bS nS : Nat) (xS : Nat → Int) (L : List (Nat × Nat)) (ad : Nat → Nat → Nat) (A : Nat → Prop) (rv : Option ZV) (μ : ZM) : Array Value → State → Outcome → State → Prop := match rv with
  | none => va_Qv (fun _ => True) (zB D cA e0 bS nS xS L ad A μ) A
  | some (.inl x) => va_Qi (fun r _ => r = Int32.ofInt x ∧ zI32 x) (zB D cA e0 bS nS xS L ad A μ) A
  | some (.inr (.inl x)) => va_Ql (fun r _ => r = Int64.ofInt x ∧ zI64 x) (zB D cA e0 bS nS xS L ad A μ) A
  | _ => fun _ _ _ _ => False
abbrev zcp (t : ZT) : Nat := t.2.2.2.2.2.2.2.1
abbrev zret (t : ZT) : Option FieldType := t.2.2.1
abbrev zmx (t : ZT) : Nat := t.2.1
def zwd (t : ZT) : List Cond := Cond.code t.1 (zcodeAt (zcp t)) (zmx t) (zret t) :: zgood
/-- the method's contract: what the machine of numbers does, the JVM's does -/
def zMet (l : Launch) (d j : Nat) (as : List ZV) (μ : ZM) (rv : Option ZV) (μ' : ZM) : Prop :=
  ∀ (D : va_G) (cA : Nat → ClassId) (e0 : Nat → Nat → Option Nat) (bS nS : Nat) (xS : Nat → Int) (L : List (Nat × Nat)) (ad : Nat → Nat → Nat) (sz : Nat), (∀ r, e0 0 r = none) → L.Nodup → zdom μ.1 L → zok bS nS xS ad μ.1 μ.2.1 μ.2.2.1 → (∀ v ∈ as, zvok μ.1 v) →
    Met l (zmi j).1 (zwd (zmi j)) (zrm d (μ'.2.2.2.2.1 - μ.2.2.2.2.1) (μ'.2.2.2.2.2 - μ.2.2.2.2.2)) (zPc D cA e0 bS nS xS L ad μ as sz) (zQc D cA e0 bS nS xS L ad (zA ad L sz) rv μ') (μ'.2.2.2.2.1 - μ.2.2.2.2.1) (μ'.2.2.2.2.2 - μ.2.2.2.2.2) (zA ad L sz)
section ZQ
variable {D : va_G} {cA : Nat → ClassId} {e0 : Nat → Nat → Option Nat} {bS nS : Nat} {xS : Nat → Int} {A : Nat → Prop} {p : Program} {l : Launch} {e : Env} {R : Room} {s : State} {m : MethodId} {args : Array Value} {below : List Frame} {meth : Method} {c : Code} {Q : State → Prop} {L0 : List (Nat × Nat)} {ad0 : Nat → Nat → Nat} {u0 v0 : Nat}
variable {own nm : String} {cc : ByteArray} {nL pc : Nat} {lsv stv lsv' stv' : List ZV} {μ μ' : ZM}
theorem zA_in {ad : Nat → Nat → Nat} {κ : ZK} {f : ZF} {a : ZA} {L : List (Nat × Nat)} {sz : Nat} (hD : va_D A (zws cA e0 ad κ f a L)) (hsz : ∀ q : Nat, sz ≤ q → A q) : ∀ q, zA ad L sz q → A q := fun q h => by
  rcases h with ⟨z, hz, rfl⟩ | h
  · obtain ⟨i, hi⟩ := List.getElem?_of_mem hz
    exact hD.2 i _ (zws_get (r := z.1) (o := z.2) hi)
  · exact hsz q h
theorem zcv_same {ad ad' : Nat → Nat → Nat} {κ : ZK} (h : ∀ r o, κ r o ≠ none → ad' r o = ad r o) {v : ZV} (hv : zvok κ v) : zcv e0 ad' v = zcv e0 ad v := by
  rcases v with n | n | ⟨t, r, o⟩
  · rfl
  · rfl
  · unfold zcv
    by_cases ht : t = 1
    · simp only [ht, if_true]
      rw [h r o (hv ht)]
    · simp only [ht, if_false]
theorem zmap_same {ad ad' : Nat → Nat → Nat} {κ : ZK} (h : ∀ r o, κ r o ≠ none → ad' r o = ad r o) : ∀ {st : List ZV}, (∀ v ∈ st, zvok κ v) → st.map (zcv e0 ad') = st.map (zcv e0 ad)
  | [], _ => rfl
  | v :: t, hv => by rw [List.map_cons, List.map_cons, zcv_same h (zvok_head hv), zmap_same h (zvok_tail hv)]
theorem zpairs_same {ad ad' : Nat → Nat → Nat} {κ : ZK} (h : ∀ r o, κ r o ≠ none → ad' r o = ad r o) : ∀ {st : List ZV} {i : Nat}, (∀ v ∈ st, zvok κ v) → zpairs e0 ad' i st = zpairs e0 ad i st
  | [], _, _ => rfl
  | v :: t, i, hv => by unfold zpairs; rw [zcv_same h (zvok_head hv), zpairs_same h (zvok_tail hv)]
theorem zvok_le {μ μ' : ZM} (h : zle μ μ') {v : ZV} (hv : zvok μ.1 v) : zvok μ'.1 v := by
  rcases v with n | n | ⟨t, r, o⟩
  · exact hv
  · exact hv
  · intro ht
    rw [h.1 r o (hv ht)]
    exact hv ht
/-- behind a call -/
theorem zo_back {rest : List ZV} {rv : Option ZV} {L : List (Nat × Nat)} {ad : Nat → Nat → Nat} {H : Heap} {locs : List Loc} {ls : Array Slot} {cells slots : Nat} {st0 : List Value} {a : Array Value} (hle : zle μ μ') (hAs : ∀ q : Nat, s.heap.size ≤ q → A q)
    (hext : ∀ q ∈ L0, q ∈ L ∧ ad q.1 q.2 = ad0 q.1 q.2) (hrel : zRel D cA e0 bS nS xS A s L ad μ.1 μ.2.1 μ.2.2.1 H locs) (hl : lv_has ls lsv.length (zpairs e0 ad 0 lsv)) (hlv : ∀ v ∈ lsv, zvok μ.1 v) (hsv : ∀ v ∈ rest, zvok μ.1 v) (hc : cells + u0 = μ.2.2.2.2.1) (hs : slots + v0 = μ.2.2.2.2.2)
    (hrun : va_Run p l e R s m args below meth c H locs cells slots (μ'.2.2.2.2.1 - μ.2.2.2.2.1) (μ'.2.2.2.2.2 - μ.2.2.2.2.2) (F0 m pc ls st0) (rest.map (zcv e0 ad)) (zQc D cA e0 bS nS xS L ad (zA ad L H.size) rv μ' a) (zA ad L H.size))
    (kk : zcont D cA e0 bS nS xS A p l e R s m args below meth c Q L0 ad0 u0 v0 (pc + 3) lsv (rv.toList ++ rest) μ') : W p l e R s m args below meth c H locs cells slots Q (F0 m pc ls st0) := by
  have hsz : ∀ q : Nat, H.size ≤ q → A q := fun q h => hAs q (Nat.le_trans hrel.2.2.1.1 h)
  have hin := zA_in hrel.2.1 hsz
  have go : ∀ (u : List (Nat × Nat) × (Nat → Nat → Nat)) (t : State) (H1 : Heap) (locs1 : List Loc) (vs : List ZV), t.heap = H1 → zB D cA e0 bS nS xS L ad (zA ad L H.size) μ' u t → va_S A s.heap H1 locs1 → (∀ v ∈ vs, zvok μ'.1 v) → rv.toList = vs → W p l e R s m args below meth c H1 locs1 (cells + (μ'.2.2.2.2.1 - μ.2.2.2.2.1)) (slots + (μ'.2.2.2.2.2 - μ.2.2.2.2.2)) Q (F0 m (pc + 3) ls (vs.map (zcv e0 u.2) ++ rest.map (zcv e0 ad))) := by
    intro u t H1 locs1 vs ht hB hS1 hvs hrv
    obtain ⟨b1, b2, b3, b4, b5, b6⟩ := hB
    have hsame : ∀ r o, μ.1 r o ≠ none → u.2 r o = ad r o := by
      intro r o hne
      cases hk : μ.1 r o with
      | none => exact absurd hk hne
      | some w =>
        obtain ⟨k, n⟩ := w
        by_cases h6 : k = 6
        · subst h6
          have e1 : μ'.1 r o = some (6, n) := (hle.1 r o hne).trans hk
          rw [((b5.1 r o 6 n e1).2.2.2 rfl).1, ((hrel.2.2.2.2.2.1 r o 6 n hk).2.2.2 rfl).1]
        · exact (b6 (r, o) ((hrel.2.2.2.2.1 r o).mpr ⟨k, n, hk, h6⟩)).2
    have kx := kk u.1 u.2 H1 locs1 ls (cells + (μ'.2.2.2.2.1 - μ.2.2.2.2.1)) (slots + (μ'.2.2.2.2.2 - μ.2.2.2.2.2)) (fun z hz => by
        obtain ⟨h1, h2⟩ := hext z hz
        exact ⟨(b6 z h1).1, (b6 z h1).2.trans h2⟩) ⟨by rw [← ht]; exact b1, ⟨b2.1, fun k q hq => hin _ (b2.2 k q hq)⟩, hS1, b3, b4, b5⟩ (by rw [zpairs_same hsame hlv]; exact hl) (fun v hv => zvok_le hle (hlv v hv)) (fun v hv => by
        rcases List.mem_append.mp hv with h | h
        · rw [hrv] at h; exact hvs v h
        · exact zvok_le hle (hsv v h)) (by have := hle.2.1; omega) (by have := hle.2.2; omega)
    rw [List.map_append, zmap_same hsame hsv, hrv] at kx
    exact kx
  match rv, hrun, go with
  | none, hrun, go =>
    refine va_callv (a := a) hrun hrel.2.2.1 (fun q _ h => hin q h) hin fun u t H1 locs1 ht hvm _ hB hz1 hk1 hS1 => ?_
    exact go u t H1 locs1 [] ht hB hS1 (fun v hv => by cases hv) rfl
  | some (.inl x), hrun, go =>
    refine va_calli (a := a) hrun hrel.2.2.1 (fun q _ h => hin q h) hin fun r u t H1 locs1 ht hvm hw hB hz1 hk1 hS1 => ?_
    rw [hw.1]
    exact go u t H1 locs1 [.inl x] ht hB hS1 (fun v hv => by rw [List.mem_singleton] at hv; rw [hv]; exact hw.2) rfl
  | some (.inr (.inl x)), hrun, go =>
    refine va_calll (a := a) hrun hrel.2.2.1 (fun q _ h => hin q h) hin fun r u t H1 locs1 ht hvm hw hB hz1 hk1 hS1 => ?_
    rw [hw.1]
    exact go u t H1 locs1 [.inr (.inl x)] ht hB hS1 (fun v hv => by rw [List.mem_singleton] at hv; rw [hv]; exact hw.2) rfl
  | some (.inr (.inr x)), hrun, go =>
    intro T hT X
    obtain ⟨v, st₀, t, T', L, h0, X', hL, e1, e2, hq, -⟩ := hrun T hT X
    exact hq.elim
/-- what a call begins with -/
theorem zPc_pre {as : List ZV} {L : List (Nat × Nat)} {ad : Nat → Nat → Nat} {H : Heap} {locs : List Loc} (hE : zEnv D cA e0 s) (hRO : zRO e0 bS nS xS A s s.heap) (hrel : zRel D cA e0 bS nS xS A s L ad μ.1 μ.2.1 μ.2.2.1 H locs) (hAs : ∀ q : Nat, s.heap.size ≤ q → A q) :
    FrameBlind (zPc D cA e0 bS nS xS L ad μ as H.size) ∧ ∀ U : State, U.heap = H → s.WarmedH U.vm → zPc D cA e0 bS nS xS L ad μ as H.size (as.map (zcv e0 ad)).toArray U := by
  have hsz : ∀ q : Nat, H.size ≤ q → A q := fun q h => hAs q (Nat.le_trans hrel.2.2.1.1 h)
  have hin := zA_in hrel.2.1 hsz
  refine ⟨fun a U g mk q => ?_, fun U hU hW => ⟨rfl, by rw [hU], hE.moved hW, ?_, by rw [hU]; exact hrel.1, ⟨hrel.2.1.1, fun k q hq => ?_⟩⟩⟩
  · obtain ⟨q0, q1, q2, q3, q4, q5⟩ := q
    have hvm : (U.calling g mk a).vm = U.vm := rfl
    refine ⟨q0, q1, ?_, ?_, q4, q5⟩
    · obtain ⟨h1, h2, h3, h4, h5⟩ := q2
      refine ⟨va_K.moved (u := U) (U := U.calling g mk a) (Vm.Alike.refl U.vm) h1, fun w hw => ?_, va_AO.moved (u := U) (U := U.calling g mk a) (Vm.Alike.refl U.vm) h3, zAOA.moved (u := U) (U := U.calling g mk a) (Vm.Alike.refl U.vm) h4, fun k hk => ?_⟩
      · have hz := h2 w hw
        have ho : w.onTables = true := by
          unfold znest at hw
          simp only [List.mem_cons, List.not_mem_nil, or_false] at hw
          rcases hw with rfl | rfl | rfl | rfl | rfl | rfl | rfl | rfl | rfl | rfl | rfl | rfl | rfl | rfl <;> rfl
        exact va_Nw.same ho hvm.symm hz
      · obtain ⟨q, a9, b9⟩ := h5 k hk
        exact ⟨q, a9, vk_R.same hvm b9⟩
    · obtain ⟨⟨adK, adV, h0, h1⟩, h2, h3, h4, h5, h6⟩ := q3
      exact ⟨⟨adK, adV, h0, vk_S.moved (u := U) (U := U.calling g mk a) (Vm.Alike.refl U.vm) h1⟩, va_Z.moved (u := U) (U := U.calling g mk a) (Vm.Alike.refl U.vm) h2, va_Z.moved (u := U) (U := U.calling g mk a) (Vm.Alike.refl U.vm) h3, va_X.moved (u := U) (U := U.calling g mk a) (Vm.Alike.refl U.vm) h4, h5, h6⟩
  · rw [hU]
    exact zRO.kept hW hrel.2.2.1.2.1 hin hrel.2.2.1.1 hRO
  · unfold zws at hq
    rw [List.getElem?_map] at hq
    cases hz : L[k]? with
    | none => rw [hz] at hq; cases hq
    | some z =>
      rw [hz] at hq
      cases hq
      exact Or.inl ⟨z, List.mem_of_getElem? hz, rfl⟩
end ZQ
end
section
/-! the stretches of code are the methods' bytes: checked by computing -/
def zhas (c kd idx a b : Nat) (v : Int) : Bool := (zpl c).any fun e => e.1 == kd && e.2.1 == idx && e.2.2.1 == a && e.2.2.2.1 == b && e.2.2.2.2.1 == v
def zlenok (i : Instr) (n : Nat) : Bool := match i with
  | .aload _ | .iload _ | .lload _ | .istore _ | .lstore _ | .astore _ | .bipush _ | .ldc _ | .newarray _ => n == 2
  | .iinc _ _ | .sipush _ | .ldc_w _ | .ldc2_w _ | .getfield _ | .putfield _ | .getstatic _ | .anewarray _ | .new _ | .invokestatic _ | .invokevirtual _ | .invokespecial _ | .ifCond _ _ | .if_icmp _ _ | .goto _ => n == 3
  | .multianewarray _ _ => n == 4
  | .tableswitch _ _ _ _ | .lookupswitch _ _ => true
  | _ => n == 1
abbrev zsort (t : ZT) : Nat := t.2.2.2.1
abbrev znar (t : ZT) : Nat := t.2.2.2.2.1
def zretok (ret : Option FieldType) (k : Nat) : Bool := match ret with
  | some .int => k == 0
  | some .boolean => k == 1
  | some .byte => k == 2
  | some .char => k == 3
  | _ => false
def zck (c : Nat) (nm : String) (ret : Option FieldType) (i : Instr) (p : ZP) : Bool := match i with
  | .getfield ix => if p.1 = 50 then zhas c 9 ix 0 0 0 else if p.1 = 51 then zhas c 10 ix 0 0 0 else zhas c 0 ix p.1 p.2.1 0
  | .putfield ix => zhas c 0 ix p.1 p.2.1 0 && p.2.2 == zsrt p.1 p.2.1 && (bif ((zcl p.1).2.1 p.2.1).2.2.2 then decide (nm = "<init>") && decide (((zcl p.1).2.1 p.2.1).1 = zown c) else true)
  | .getstatic ix => if p.1 = 0 then zhas c 11 ix 0 0 0 else zhas c 12 ix 0 0 0
  | .ldc ix => if p.1 = 0 then zhas c 4 ix 0 0 p.2.2 else zhas c 6 ix p.2.1 0 0
  | .ldc_w ix => zhas c 4 ix 0 0 p.2.2
  | .ldc2_w ix => zhas c 5 ix 0 0 p.2.2
  | .new ix => zhas c 3 ix p.1 0 0 && p.2.1 == (zcl p.1).2.2
  | .anewarray ix => zhas c 7 ix 0 0 0
  | .multianewarray ix d => d == 2 && zhas c 8 ix 0 0 0
  | .newarray t => decide (zakind t ≤ 3)
  | .iconst n => decide (-2147483648 ≤ n) && decide (n < 2147483648)
  | .bipush n => decide (-128 ≤ n) && decide (n < 128)
  | .sipush n => decide (-32768 ≤ n) && decide (n < 32768)
  | .invokestatic ix => (match p.2.2 with
    | 0 => zhas c 1 ix p.1 0 0 && zsort (zmi p.1) == 0 && p.2.1 == znar (zmi p.1) && decide (p.1 < 253)
    | 2 => zhas c 14 ix 0 0 0
    | 3 => zhas c 15 ix 0 0 0
    | 4 => zhas c 16 ix 0 0 0
    | _ => false)
  | .invokevirtual ix => (match p.2.2 with
    | 0 => zhas c 1 ix p.1 0 0 && zsort (zmi p.1) == 1 && p.2.1 == znar (zmi p.1) + 1 && decide (p.1 < 253)
    | _ => false)
  | .invokespecial ix => (match p.2.2 with
    | 0 => (zhas c 1 ix p.1 0 0 || zhas c 2 ix p.1 0 0) && zsort (zmi p.1) == 2 && p.2.1 == znar (zmi p.1) + 1 && decide (p.1 < 253)
    | _ => zhas c 13 ix 0 0 0)
  | .ireturn => zretok ret p.1
  | .lreturn => decide (ret = some .long)
  | .return_ => decide (ret = none)
  | _ => true
def zchk (cb : ByteArray) (c : Nat) (nm : String) (ret : Option FieldType) : Nat → List ZN → Bool
  | _, [] => false
  | pc, (i, n, p) :: k => match i with
    | .nop => decide (p.1 = pc) && k.isEmpty
    | i => decide (decode cb pc = .ok (i, n)) && zlenok i n && zck c nm ret i p && (match i with
      | .goto off => decide ((pc : Int) + off = (p.1 : Int)) && k.isEmpty
      | .ifCond _ off => decide ((pc : Int) + off = (p.1 : Int)) && zchk cb c nm ret (pc + n) k
      | .if_icmp _ off => decide ((pc : Int) + off = (p.1 : Int)) && zchk cb c nm ret (pc + n) k
      | .tableswitch d lo hi offs => decide (p.1 = pc) && k.isEmpty && decide ((offs.toList.length : Int) = hi - lo + 1) && decide (0 ≤ (pc : Int) + d) && offs.toList.all (fun o => decide (0 ≤ (pc : Int) + o))
      | .lookupswitch d ps => decide (p.1 = pc) && k.isEmpty && (ps.toList.zip (ps.toList.drop 1)).all (fun (a, next) => a.1 < next.1) && decide (0 ≤ (pc : Int) + d) && ps.toList.all (fun o => decide (0 ≤ (pc : Int) + o.2))
      | .ireturn | .lreturn | .return_ => k.isEmpty
      | _ => zchk cb c nm ret (pc + n) k)
def zchkm (t : ZT) (l : List (Nat × List ZN)) : Bool := match t with
  | (y, _, ret, _, _, c, _, (cp, _, _, _)) => decide (c < 20) && l.all fun x => zchk (zcodeAt cp) c y.name ret x.1 x.2
end
section
/-! the four kinds of a call -/
theorem zhas_in {c kd idx a b : Nat} {v : Int} (h : zhas c kd idx a b v = true) : ∃ pl, (kd, idx, a, b, v, pl) ∈ zpl c := by
  unfold zhas at h
  obtain ⟨e, he, h1⟩ := List.any_eq_true.mp h
  obtain ⟨e1, e2, e3, e4, e5, e6⟩ := e
  simp only [Bool.and_eq_true, beq_iff_eq] at h1
  obtain ⟨⟨⟨⟨rfl, rfl⟩, rfl⟩, rfl⟩, rfl⟩ := h1
  exact ⟨e6, he⟩
theorem zpl_ok {c : Nat} (hc : c < 20) {e : ZE} (he : e ∈ zpl c) : zpok (zown c) e = true := by
  by_cases h8 : c < 8
  · exact List.all_eq_true.mp (List.all_eq_true.mp zpl_ok_a c (List.mem_range.mpr h8)) e he
  · refine List.all_eq_true.mp (List.all_eq_true.mp zpl_ok_b c ?_) e he
    match c, hc, h8 with
    | 8, _, _ => decide
    | 9, _, _ => decide
    | 10, _, _ => decide
    | 11, _, _ => decide
    | 12, _, _ => decide
    | 13, _, _ => decide
    | 14, _, _ => decide
    | 15, _, _ => decide
    | 16, _, _ => decide
    | 17, _, _ => decide
    | 18, _, _ => decide
    | 19, _, _ => decide
    | 0, _, h => exact absurd (by decide) h
    | 1, _, h => exact absurd (by decide) h
    | 2, _, h => exact absurd (by decide) h
    | 3, _, h => exact absurd (by decide) h
    | 4, _, h => exact absurd (by decide) h
    | 5, _, h => exact absurd (by decide) h
    | 6, _, h => exact absurd (by decide) h
    | 7, _, h => exact absurd (by decide) h
theorem zhas_ok {c kd idx a b : Nat} {v : Int} (hc : c < 20) (h : zhas c kd idx a b v = true) : ∃ pl, zpok (zown c) (kd, idx, a, b, v, pl) = true := by
  obtain ⟨pl, hp⟩ := zhas_in h
  exact ⟨pl, zpl_ok hc hp⟩
theorem zmi_len : zmi_0.length = 64 ∧ zmi_1.length = 64 ∧ zmi_2.length = 64 ∧ zmi_3.length = 62 := by decide +kernel
theorem zmi_ok {j : Nat} (h : j < 253) : zmok (zmi j) = true := by
  obtain ⟨l0, l1, l2, l3⟩ := zmi_len
  have key : ∀ (L : List ZT) (i : Nat), L.all zmok = true → i < L.length → ∀ d : ZT, zmok (L.getD i d) = true := fun L i hL hi d => by
    rw [List.getD_eq_getElem?_getD, List.getElem?_eq_getElem hi]
    exact List.all_eq_true.mp hL _ (List.getElem_mem hi)
  have hz : zmis = zmi_0 ++ (zmi_1 ++ (zmi_2 ++ (zmi_3.take 61 ++ zmi_3.drop 61))) := by
    unfold zmis
    rw [List.take_append_drop, List.append_assoc, List.append_assoc]
  unfold zmi
  rw [hz, List.getD_eq_getElem?_getD]
  have l3' : (zmi_3.take 61).length = 61 := by rw [List.length_take, l3]; rfl
  by_cases h0 : j < 64
  · rw [List.getElem?_append_left (by omega), ← List.getD_eq_getElem?_getD]
    exact key _ _ zmi_ok_0 (by omega) _
  · rw [List.getElem?_append_right (by omega), l0]
    by_cases h1 : j < 128
    · rw [List.getElem?_append_left (by omega), ← List.getD_eq_getElem?_getD]
      exact key _ _ zmi_ok_1 (by omega) _
    · rw [List.getElem?_append_right (by omega), l1]
      by_cases h2 : j < 192
      · rw [List.getElem?_append_left (by omega), ← List.getD_eq_getElem?_getD]
        exact key _ _ zmi_ok_2 (by omega) _
      · rw [List.getElem?_append_right (by omega), l2, List.getElem?_append_left (by omega), ← List.getD_eq_getElem?_getD]
        exact key _ _ zmi_ok_3 (by omega) _
abbrev zcls (t : ZT) : Nat := t.2.2.2.2.2.1
abbrev zrcv (t : ZT) : Nat := t.2.2.2.2.2.2.1
/-- what the tables say of a method -/
theorem zmi_facts {j : Nat} (h : j < 253) : Cond.code (zmi j).1 (zcodeAt (zcp (zmi j))) (zmx (zmi j)) (zret (zmi j)) ∈ zgood ∧ Cond.initialized (zmi j).1.cls ∈ zgood ∧ (zsort (zmi j) = 0 → Cond.static (zmi j).1 ∈ zgood) ∧ (zsort (zmi j) ≠ 0 → Cond.instanceMethod (zmi j).1 ∈ zgood) ∧ (zsort (zmi j) = 1 → Cond.selects (zmi j).1.cls (zmi j).1 (zmi j).1 ∈ zgood) ∧
    ((zmi j).1.cls ≠ "java/lang/invoke/MethodHandle" ∧ (zmi j).1.cls ≠ "java/lang/invoke/VarHandle" ∧ (parseMethodDescriptor (zmi j).1.desc).map (fun d => d.parameters.length) = some (znar (zmi j))) ∧ zmx (zmi j) ≤ 18 ∧ _root_.Jvm.plainName (zmi j).1.cls = true ∧ zown (zcls (zmi j)) = (zmi j).1.cls ∧
    (zsort (zmi j) ≠ 0 → (1 ≤ zrcv (zmi j) ∧ zrcv (zmi j) ≤ 13 ∧ (zcl (zrcv (zmi j) - 1)).1 = (zmi j).1.cls) ∨ (zrcv (zmi j) = 21 ∧ (zmi j).1.cls = "java/lang/String" ∧ zsort (zmi j) = 1)) ∧ (zsort (zmi j) = 2 → (zmi j).1.name = "<init>" ∧ zret (zmi j) = none) ∧
    (zret (zmi j) = none ∨ zret (zmi j) = some .int ∨ zret (zmi j) = some .long ∨ zret (zmi j) = some .boolean ∨ zret (zmi j) = some .byte ∨ zret (zmi j) = some .char) := by
  have hk := zmi_ok h
  revert hk
  generalize zmi j = t
  obtain ⟨y, maxL, ret, sort, na, c, rc, cp, ip, mp, sp⟩ := t
  intro hk
  simp only [zmok, Bool.and_eq_true, decide_eq_true_eq] at hk
  obtain ⟨⟨⟨⟨⟨⟨⟨⟨⟨⟨⟨⟨k1, k2⟩, k3⟩, k4⟩, k5⟩, k6⟩, k7⟩, k8⟩, k9⟩, k10⟩, k11⟩, k12⟩, k13⟩ := hk
  refine ⟨zatc_in k1, zat_in k2, fun z => ?_, fun z => ?_, fun z => ?_, ⟨k5, k6, k7⟩, k8, k9, k10, fun z => ?_, fun z => ?_, k13⟩
  · (try dsimp only at z); subst z; exact zat_in k3
  · (try dsimp only at z)
    have : (sort == 0) = false := by simpa using z
    rw [this] at k3
    exact zat_in k3
  · (try dsimp only at z); subst z; exact zat_in k4
  · (try dsimp only at z)
    have : (sort == 0) = false := by simpa using z
    rw [this] at k11
    simp only [cond_false, Bool.or_eq_true, Bool.and_eq_true, decide_eq_true_eq, beq_iff_eq] at k11
    rcases k11 with ⟨⟨a, b⟩, d⟩ | ⟨⟨a, b⟩, d⟩
    · exact Or.inl ⟨a, b, d⟩
    · exact Or.inr ⟨a, b, d⟩
  · (try dsimp only at z); subst z
    simpa using k12
section ZR1
variable {D : va_G} {cA : Nat → ClassId} {e0 : Nat → Nat → Option Nat} {bS nS : Nat} {xS : Nat → Int} {A : Nat → Prop} {p : Program} {l : Launch} {e : Env} {R : Room} {s : State} {m : MethodId} {args : Array Value} {below : List Frame} {meth : Method} {c : Code} {Q : State → Prop} {L0 : List (Nat × Nat)} {ad0 : Nat → Nat → Nat} {u0 v0 : Nat}
variable {own nm : String} {cc : ByteArray} {nL pc : Nat} {lsv stv lsv' stv' : List ZV} {μ μ' : ZM}
theorem zstk {as rest : List ZV} {n : Nat} {ad : Nat → Nat → Nat} (h : n ≤ stv.length) (ha : as = (stv.take n).reverse) (hr : rest = stv.drop n) : stv.map (zcv e0 ad) = (as.map (zcv e0 ad)).reverse ++ rest.map (zcv e0 ad) := by
  rw [ha, hr, List.map_reverse, List.reverse_reverse, ← List.map_append, List.take_append_drop]
theorem zo_calls (F : zFr D cA e0 bS nS xS A p s m args meth c own nm cc nL) {d j idx : Nat} {as : List ZV} {rv : Option ZV} (hn0 : ∀ r, e0 0 r = none) (hj : j < 253) (hM : zMet l d j as μ rv μ') (hle : zle μ μ') (hRd : d + 1 ≤ R.frames ∧ 37 * (d + 1) ≤ R.locals) (hlk0 : Cond.methodLink own idx (zmi j).1 ∈ zgood) (hso : zsort (zmi j) = 0) (hnar : as.length = znar (zmi j))
    (hdg : decode cc pc = .ok (.invokestatic idx, 3)) (hlen : lsv.length = nL) (hn : znar (zmi j) ≤ stv.length) (ha : as = (stv.take (znar (zmi j))).reverse) (hsum : ((stv.drop (znar (zmi j))).map zcat).sum ≤ 8) (hR : μ'.2.2.2.2.1 ≤ R.cells + u0 ∧ μ'.2.2.2.2.2 ≤ R.slots + v0)
    (kk : zcont D cA e0 bS nS xS A p l e R s m args below meth c Q L0 ad0 u0 v0 (pc + 3) lsv (rv.toList ++ stv.drop (znar (zmi j))) μ') : zcont D cA e0 bS nS xS A p l e R s m args below meth c Q L0 ad0 u0 v0 pc lsv stv μ := by
  obtain ⟨hx, hb, hml, hown, hts, hE, hRO, hlk, hnm, hA⟩ := F
  obtain ⟨f1, f2, f3, f4, f5, f6, f7, f8, f9, f10, f11, f12⟩ := zmi_facts hj
  intro L ad H locs ls cells slots hext hrel hl hlv hsv hc hs
  have has : ∀ v ∈ as, zvok μ.1 v := fun v hv => hsv v (List.mem_of_mem_take (List.mem_reverse.mp (ha ▸ hv)))
  have hMM := hM D cA e0 bS nS xS L ad H.size hn0 hrel.2.2.2.1 hrel.2.2.2.2.1 hrel.2.2.2.2.2 has
  have cb := callB_of (R := R) (args := args) (own := own) (index := idx) (maxL := zmx (zmi j)) (ret := zret (zmi j)) (bytes := zcodeAt (zcp (zmi j))) (rm := zrm d (μ'.2.2.2.2.1 - μ.2.2.2.2.1) (μ'.2.2.2.2.2 - μ.2.2.2.2.2)) (mc := μ'.2.2.2.2.1 - μ.2.2.2.2.1) (ms := μ'.2.2.2.2.2 - μ.2.2.2.2.2) (znar (zmi j)) hts (zgood_GoodIn f1) (rfl : zwd (zmi j) = _) rfl rfl (hts _ f2) (hts _ hlk0) f6 ⟨hRd.1, by show 8 + (zmx (zmi j) + 11) + 37 * d ≤ R.locals; omega⟩
  obtain ⟨g1, g2⟩ := zPc_pre (μ := μ) (as := as) hE hRO hrel hA
  have hst := zstk (e0 := e0) (ad := ad) hn ha rfl
  refine zo_back hle hA hext hrel hl hlv (fun v hv => hsv v (List.mem_of_mem_drop hv)) hc hs (va_runS ⟨hx, hb, hml, hown, hts⟩ hMM ⟨cb, hts _ (f3 hso)⟩ ⟨g1, g2⟩ rfl (by rw [List.length_map]; exact hnar) (hl.1.trans hlen) hst (lv_room (by rw [zcatsum]; exact hsum)) hdg ⟨by have := hle.2.1; omega, by have := hle.2.2; omega⟩) kk
theorem zo_callv (F : zFr D cA e0 bS nS xS A p s m args meth c own nm cc nL) {d j idx : Nat} {as : List ZV} {rv : Option ZV} (hn0 : ∀ r, e0 0 r = none) (hj : j < 253) (hM : zMet l d j as μ rv μ') (hle : zle μ μ') (hRd : d + 1 ≤ R.frames ∧ 37 * (d + 1) ≤ R.locals) (hlk0 : Cond.methodLink own idx (zmi j).1 ∈ zgood) (hso : zsort (zmi j) = 1)
    {t r o : Nat} {at' : List ZV} (has0 : as = .inr (.inr (t, r, o)) :: at') (hrc : (t = 1 ∧ ∃ n, μ.1 r o = some (zrcv (zmi j) + 9, n)) ∨ (t = 4 ∧ r < 10)) (hrc2 : t = 1 ∧ zrcv (zmi j) ≤ 13 ∨ t = 4 ∧ zrcv (zmi j) = 21) (hnar : at'.length = znar (zmi j))
    (hdg : decode cc pc = .ok (.invokevirtual idx, 3)) (hlen : lsv.length = nL) (hn : znar (zmi j) + 1 ≤ stv.length) (ha : as = (stv.take (znar (zmi j) + 1)).reverse) (hsum : ((stv.drop (znar (zmi j) + 1)).map zcat).sum ≤ 8) (hR : μ'.2.2.2.2.1 ≤ R.cells + u0 ∧ μ'.2.2.2.2.2 ≤ R.slots + v0)
    (kk : zcont D cA e0 bS nS xS A p l e R s m args below meth c Q L0 ad0 u0 v0 (pc + 3) lsv (rv.toList ++ stv.drop (znar (zmi j) + 1)) μ') : zcont D cA e0 bS nS xS A p l e R s m args below meth c Q L0 ad0 u0 v0 pc lsv stv μ := by
  obtain ⟨hx, hb, hml, hown, hts, hE, hRO, hlk, hnm, hA⟩ := F
  obtain ⟨f1, f2, f3, f4, f5, f6, f7, f8, f9, f10, f11, f12⟩ := zmi_facts hj
  intro L ad H locs ls cells slots hext hrel hl hlv hsv hc hs
  have has : ∀ v ∈ as, zvok μ.1 v := fun v hv => hsv v (List.mem_of_mem_take (List.mem_reverse.mp (ha ▸ hv)))
  have hMM := hM D cA e0 bS nS xS L ad H.size hn0 hrel.2.2.2.1 hrel.2.2.2.2.1 hrel.2.2.2.2.2 has
  have cb := callB_of (R := R) (args := args) (own := own) (index := idx) (maxL := zmx (zmi j)) (ret := zret (zmi j)) (bytes := zcodeAt (zcp (zmi j))) (rm := zrm d (μ'.2.2.2.2.1 - μ.2.2.2.2.1) (μ'.2.2.2.2.2 - μ.2.2.2.2.2)) (mc := μ'.2.2.2.2.1 - μ.2.2.2.2.1) (ms := μ'.2.2.2.2.2 - μ.2.2.2.2.2) (znar (zmi j)) hts (zgood_GoodIn f1) (rfl : zwd (zmi j) = _) rfl rfl (hts _ f2) (hts _ hlk0) f6 ⟨hRd.1, by show 8 + (zmx (zmi j) + 11) + 37 * d ≤ R.locals; omega⟩
  obtain ⟨g1, g2⟩ := zPc_pre (μ := μ) (as := as) hE hRO hrel hA
  have hst := zstk (e0 := e0) (ad := ad) hn ha rfl
  obtain ⟨q, hq, hcell⟩ : ∃ q : Nat, zcv e0 ad (.inr (.inr (t, r, o))) = .ref q ∧ ∃ cellB : Cell, H[q]? = some cellB ∧ cellB.vm.isStatics = false ∧ s.vm.findClass (zmi j).1.cls = some cellB.cls := by
    rcases hrc with ⟨rfl, n, hκ⟩ | ⟨rfl, hr⟩
    · have h13 : zrcv (zmi j) ≤ 13 := by omega
      obtain ⟨a1, a2, a3⟩ : 1 ≤ zrcv (zmi j) ∧ zrcv (zmi j) ≤ 13 ∧ (zcl (zrcv (zmi j) - 1)).1 = (zmi j).1.cls := by
        rcases f10 (by omega) with h | h
        · exact h
        · omega
      have hκ' : μ.1 r o = some (zrcv (zmi j) - 1 + 10, n) := by rw [hκ]; congr 2; omega
      obtain ⟨i, hi⟩ := zRel_place hrel hκ' (by omega)
      have hg := zws_get (cA := cA) (e0 := e0) (ad := ad) (κ := μ.1) (f := μ.2.1) (a := μ.2.2.1) hi
      rw [zcell_o hκ'] at hg
      refine ⟨ad r o, rfl, ?_⟩
      rw [← a3]
      exact va_recv hE.1 hrel.1 (zcl_at (by omega)) hg
    · have h21 : zrcv (zmi j) = 21 := by omega
      obtain ⟨⟨adK, adV, hK, hS10⟩, -⟩ := hRO
      refine ⟨adK r, by unfold zcv; simp [(hK r hr).1, va_rf], ?_⟩
      have hcl : (zmi j).1.cls = "java/lang/String" := by
        rcases f10 (by omega) with h | h
        · omega
        · exact h.2.1
      rw [hcl]
      exact vk_recv hS10 hr hrel.2.2.1
  subst has0
  have hst2 : stv.map (zcv e0 ad) = (at'.map (zcv e0 ad)).reverse ++ .ref q :: (stv.drop (znar (zmi j) + 1)).map (zcv e0 ad) := by
    rw [hst, List.map_cons, hq, List.reverse_cons, List.append_assoc]
    rfl
  rw [List.map_cons, hq] at g2
  have hrun := va_runV (l := l) (e := e) (R := R) (below := below) (meth := meth) (locs := locs) (cells := cells) (slots := slots) ⟨hx, hb, hml, hown, hts⟩ hMM ⟨cb, hts _ (f4 (by omega)), hts _ (f5 hso)⟩ ⟨g1, hcell, g2⟩ (g := F0 m pc ls (stv.map (zcv e0 ad))) rfl (by rw [List.length_map]; exact hnar) (hl.1.trans hlen) hst2 (lv_room (by rw [zcatsum]; exact hsum)) hdg ⟨by have := hle.2.1; omega, by have := hle.2.2; omega⟩
  exact zo_back hle hA hext hrel hl hlv (fun v hv => hsv v (List.mem_of_mem_drop hv)) hc hs hrun kk
theorem zo_calli (F : zFr D cA e0 bS nS xS A p s m args meth c own nm cc nL) {d j idx : Nat} {as : List ZV} {rv : Option ZV} (hn0 : ∀ r, e0 0 r = none) (hj : j < 253) (hM : zMet l d j as μ rv μ') (hle : zle μ μ') (hRd : d + 1 ≤ R.frames ∧ 37 * (d + 1) ≤ R.locals) (hlk0 : Cond.methodLink own idx (zmi j).1 ∈ zgood ∨ Cond.methodLinkNest own idx (zmi j).1 RX11 ∈ znest) (hso : zsort (zmi j) = 2)
    {r o : Nat} {at' : List ZV} (has0 : as = .inr (.inr (1, r, o)) :: at') (hnar : at'.length = znar (zmi j))
    (hdg : decode cc pc = .ok (.invokespecial idx, 3)) (hlen : lsv.length = nL) (hn : znar (zmi j) + 1 ≤ stv.length) (ha : as = (stv.take (znar (zmi j) + 1)).reverse) (hsum : ((stv.drop (znar (zmi j) + 1)).map zcat).sum ≤ 8) (hR : μ'.2.2.2.2.1 ≤ R.cells + u0 ∧ μ'.2.2.2.2.2 ≤ R.slots + v0)
    (kk : zcont D cA e0 bS nS xS A p l e R s m args below meth c Q L0 ad0 u0 v0 (pc + 3) lsv (rv.toList ++ stv.drop (znar (zmi j) + 1)) μ') : zcont D cA e0 bS nS xS A p l e R s m args below meth c Q L0 ad0 u0 v0 pc lsv stv μ := by
  obtain ⟨hx, hb, hml, hown, hts, hE, hRO, hlk, hnm, hA⟩ := F
  obtain ⟨f1, f2, f3, f4, f5, f6, f7, f8, f9, f10, f11, f12⟩ := zmi_facts hj
  intro L ad H locs ls cells slots hext hrel hl hlv hsv hc hs
  have has : ∀ v ∈ as, zvok μ.1 v := fun v hv => hsv v (List.mem_of_mem_take (List.mem_reverse.mp (ha ▸ hv)))
  have hMM := hM D cA e0 bS nS xS L ad H.size hn0 hrel.2.2.2.1 hrel.2.2.2.2.1 hrel.2.2.2.2.2 has
  obtain ⟨g1, g2⟩ := zPc_pre (μ := μ) (as := as) hE hRO hrel hA
  have hst := zstk (e0 := e0) (ad := ad) hn ha rfl
  obtain ⟨hy1, hy2⟩ := f11 hso
  have hq : zcv e0 ad (.inr (.inr (1, r, o))) = .ref (ad r o) := rfl
  subst has0
  have hst2 : stv.map (zcv e0 ad) = (at'.map (zcv e0 ad)).reverse ++ .ref (ad r o) :: (stv.drop (znar (zmi j) + 1)).map (zcv e0 ad) := by
    rw [hst, List.map_cons, hq, List.reverse_cons, List.append_assoc]
    rfl
  rw [List.map_cons, hq] at g2
  have hR2 : (zrm d (μ'.2.2.2.2.1 - μ.2.2.2.2.1) (μ'.2.2.2.2.2 - μ.2.2.2.2.2)).frames + 1 ≤ R.frames ∧ 8 + (zmx (zmi j) + 11) + (zrm d (μ'.2.2.2.2.1 - μ.2.2.2.2.1) (μ'.2.2.2.2.2 - μ.2.2.2.2.2)).locals ≤ R.locals := ⟨hRd.1, by show 8 + (zmx (zmi j) + 11) + 37 * d ≤ R.locals; omega⟩
  have hw : zwd (zmi j) = Cond.code (zmi j).1 (zcodeAt (zcp (zmi j))) (zmx (zmi j)) none :: zgood := by unfold zwd; rw [hy2]
  have f1' : Cond.code (zmi j).1 (zcodeAt (zcp (zmi j))) (zmx (zmi j)) none ∈ zgood := by rw [← hy2]; exact f1
  have hG : GoodIn zgood (zwd (zmi j)) := by rw [hw]; exact zgood_GoodIn f1'
  rcases hlk0 with hk0 | hk0
  · have cb := callB_of (R := R) (args := args) (own := own) (index := idx) (maxL := zmx (zmi j)) (ret := none) (bytes := zcodeAt (zcp (zmi j))) (mc := μ'.2.2.2.2.1 - μ.2.2.2.2.1) (ms := μ'.2.2.2.2.2 - μ.2.2.2.2.2) (znar (zmi j)) hts hG hw rfl rfl (hts _ f2) (hts _ hk0) f6 hR2
    have hrun := va_runI (l := l) (e := e) (R := R) (below := below) (meth := meth) (locs := locs) (cells := cells) (slots := slots) ⟨hx, hb, hml, hown, hts⟩ hMM ⟨cb, hy1, hts _ (f4 (by omega))⟩ ⟨g1, g2⟩ (g := F0 m pc ls (stv.map (zcv e0 ad))) rfl (by rw [List.length_map]; exact hnar) (hl.1.trans hlen) hst2 (lv_room (by rw [zcatsum]; exact hsum)) hdg ⟨by have := hle.2.1; omega, by have := hle.2.2; omega⟩
    exact zo_back hle hA hext hrel hl hlv (fun v hv => hsv v (List.mem_of_mem_drop hv)) hc hs hrun kk
  · have cn := va_cnB (R := R) (args := args) (own := own) (index := idx) (maxL := zmx (zmi j)) (ret := none) (bytes := zcodeAt (zcp (zmi j))) (mc := μ'.2.2.2.2.1 - μ.2.2.2.2.1) (ms := μ'.2.2.2.2.2 - μ.2.2.2.2.2) (znar (zmi j)) hts hG hw rfl rfl (hE.2.1 _ hk0) (hts _ f2) f6 hR2
    have hrun := va_runIN (l := l) (e := e) (R := R) (below := below) (meth := meth) (locs := locs) (cells := cells) (slots := slots) ⟨hx, hb, hml, hown, hts⟩ hMM ⟨cn, hy1, hts _ (f4 (by omega))⟩ ⟨g1, g2⟩ (g := F0 m pc ls (stv.map (zcv e0 ad))) rfl (by rw [List.length_map]; exact hnar) (hl.1.trans hlen) hst2 (lv_room (by rw [zcatsum]; exact hsum)) hdg ⟨by have := hle.2.1; omega, by have := hle.2.2; omega⟩
    exact zo_back hle hA hext hrel hl hlv (fun v hv => hsv v (List.mem_of_mem_drop hv)) hc hs hrun kk
end ZR1
end
section
/-! one step, any instruction -/
section
variable {p : ZP} {ls st ls' st' : List ZV} {μ μ' : ZM}
theorem zop_len {i : Instr} (h : zop i p ls st μ = some (ls', st', μ')) : ls'.length = ls.length := by
  have stI : ∀ n, zstI n ls st μ = some (ls', st', μ') → ls'.length = ls.length := fun n h => by
    unfold zstI at h; (repeat' split at h) <;> first | (cases h; done) | (cases h; exact zst1_len _ _ _)
  have stA : ∀ n, zstA n ls st μ = some (ls', st', μ') → ls'.length = ls.length := fun n h => by
    unfold zstA at h; (repeat' split at h) <;> first | (cases h; done) | (cases h; exact zst1_len _ _ _)
  have stL : ∀ n, zstL n ls st μ = some (ls', st', μ') → ls'.length = ls.length := fun n h => by
    unfold zstL at h; (repeat' split at h) <;> first | (cases h; done) | (rename_i hi; cases h; exact zst2_len _ _ _ hi)
  unfold zop at h
  split at h
  all_goals first
    | exact stI _ h
    | exact stA _ h
    | exact stL _ h
    | (cases h; done)
    | (cases h; rfl)
    | (unfold zldI at h; (repeat' split at h) <;> first | (cases h; done) | (cases h; rfl))
    | (unfold zldL at h; (repeat' split at h) <;> first | (cases h; done) | (cases h; rfl))
    | (unfold zldA at h; (repeat' split at h) <;> first | (cases h; done) | (cases h; rfl))
    | (unfold zaldN at h; (repeat' split at h) <;> first | (cases h; done) | (cases h; rfl))
    | (unfold zbald at h; (repeat' split at h) <;> first | (cases h; done) | (cases h; rfl))
    | (unfold zaald at h; (repeat' split at h) <;> first | (cases h; done) | (cases h; rfl))
    | (unfold zastI at h; (repeat' split at h) <;> first | (cases h; done) | (cases h; rfl))
    | (unfold zastB at h; (repeat' split at h) <;> first | (cases h; done) | (cases h; rfl))
    | (unfold zastL at h; (repeat' split at h) <;> first | (cases h; done) | (cases h; rfl))
    | (unfold zaast at h; (repeat' split at h) <;> first | (cases h; done) | (cases h; rfl))
    | (unfold zalen at h; (repeat' split at h) <;> first | (cases h; done) | (cases h; rfl))
    | (unfold zgetf at h; (repeat' split at h) <;> first | (cases h; done) | (cases h; rfl))
    | (unfold zputf at h; (repeat' split at h) <;> first | (cases h; done) | (cases h; rfl))
    | (unfold znewa at h; (repeat' split at h) <;> first | (cases h; done) | (cases h; rfl))
    | (unfold znewo at h; (repeat' split at h) <;> first | (cases h; done) | (cases h; rfl))
    | (unfold zmulti at h; (repeat' split at h) <;> first | (cases h; done) | (cases h; rfl))
    | (unfold zbin at h; (repeat' split at h) <;> first | (cases h; done) | (cases h; rfl))
    | (unfold zbind at h; (repeat' split at h) <;> first | (cases h; done) | (cases h; rfl))
    | (unfold zun at h; (repeat' split at h) <;> first | (cases h; done) | (cases h; rfl))
    | (unfold zlbin at h; (repeat' split at h) <;> first | (cases h; done) | (cases h; rfl))
    | (unfold zlsh at h; (repeat' split at h) <;> first | (cases h; done) | (cases h; rfl))
    | (unfold zistat zbin zcopy at h; (repeat' split at h) <;> first | (cases h; done) | (cases h; rfl))
    | (split at h <;> first | (cases h; done) | (cases h; rfl) | (cases h; exact zst1_len _ _ _) | (split at h <;> first | (cases h; done) | (cases h; rfl)))
end
theorem zfix_in {w : Cond} (h : w ∈ zfix) : w ∈ zgood := by
  have h1 := List.all_eq_true.mp zfix_ok w h
  rw [Bool.and_eq_true, decide_eq_true_eq] at h1
  exact List.mem_filter.mpr h1
theorem zc8 {n : Int} (h1 : -128 ≤ n) (h2 : n < 128) : (Int8.ofInt n).toInt32 = Int32.ofInt n := by
  apply Int32.toInt_inj.mp
  rw [Int8.toInt_toInt32, Int8.toInt_ofInt_of_le (by omega) (by omega), zI32_to (by unfold zI32; omega)]
theorem zc16 {n : Int} (h1 : -32768 ≤ n) (h2 : n < 32768) : (Int16.ofInt n).toInt32 = Int32.ofInt n := by
  apply Int32.toInt_inj.mp
  rw [Int16.toInt_toInt32, Int16.toInt_ofInt_of_le (by omega) (by omega), zI32_to (by unfold zI32; omega)]
theorem zi2l_eq {x : Int} (h : zI32 x) : (Int32.ofInt x).toInt64 = Int64.ofInt x := by
  apply Int64.toInt_inj.mp
  rw [Int32.toInt_toInt64, zI32_to h, zI64_to (by unfold zI32 at h; unfold zI64; omega)]
theorem zlcmp_eq {x y : Int} (hx : zI64 x) (hy : zI64 y) : lg_cmp (Int64.ofInt x) (Int64.ofInt y) = Int32.ofInt (zlcmp x y) := by
  unfold lg_cmp zlcmp
  simp only [gt_iff_lt, Int64.lt_iff_toInt_lt, ← Int64.toInt_inj, zI64_to hx, zI64_to hy]
  by_cases h1 : x < y
  · rw [if_pos h1, if_neg (by omega), if_neg (by omega)]; rfl
  · by_cases h2 : x = y
    · rw [if_neg h1, if_pos h2, if_neg (by omega), if_pos h2]; rfl
    · have h3 : y < x := by omega
      simp only [if_neg h1, if_neg h2, if_pos h3]; rfl
theorem zlcmp_ok (x y : Int) : zI32 (zlcmp x y) := by
  unfold zlcmp zI32
  split
  · omega
  · split <;> omega
section ZT1
variable {D : va_G} {cA : Nat → ClassId} {e0 : Nat → Nat → Option Nat} {bS nS : Nat} {xS : Nat → Int} {A : Nat → Prop} {p : Program} {l : Launch} {e : Env} {R : Room} {s : State} {m : MethodId} {args : Array Value} {below : List Frame} {meth : Method} {c : Code} {Q : State → Prop} {L0 : List (Nat × Nat)} {ad0 : Nat → Nat → Nat} {u0 v0 : Nat}
variable {own nm : String} {cc : ByteArray} {nL pc : Nat} {lsv stv lsv' stv' : List ZV} {μ μ' : ZM}
theorem zlen1 {i : Instr} {n k : Nat} (h : zlenok i n = true) (hi : zlenok i n = (n == k)) : n = k := by
  rw [hi] at h
  simpa using h
theorem z_op (F : zFr D cA e0 bS nS xS A p s m args meth c own nm cc nL) {cx n : Nat} {i : Instr} {pl : ZP} {ret : Option FieldType} (hn0 : ∀ r, e0 0 r = none) (hcx : cx < 20) (how : own = zown cx) (hck : zck cx nm ret i pl = true) (hlk : zlenok i n = true) (hdg : decode cc pc = .ok (i, n)) (hz : zop i pl lsv stv μ = some (lsv', stv', μ'))
    (hfr : 1 ≤ R.frames ∧ 37 ≤ R.locals) (hlen : lsv.length = nL) (hR : μ'.2.2.2.2.1 ≤ R.cells + u0 ∧ μ'.2.2.2.2.2 ≤ R.slots + v0) (hnc : ∀ ix, i = .invokevirtual ix → False) (hnt : ∀ ix, i = .invokespecial ix ∨ i = .invokestatic ix → pl.2.2 ≠ 0)
    (kk : zcont D cA e0 bS nS xS A p l e R s m args below meth c Q L0 ad0 u0 v0 (pc + n) lsv' stv' μ') : zcont D cA e0 bS nS xS A p l e R s m args below meth c Q L0 ad0 u0 v0 pc lsv stv μ := by
  have hx := F.1
  have hb := F.2.1
  have hown := F.2.2.2.1
  have hts := F.2.2.2.2.1
  have hE := F.2.2.2.2.2.1
  have hzz : ∀ k, k < 10 → ∃ q q', e0 4 k = some q ∧ e0 5 k = some q' := fun k hk => by
    obtain ⟨adK, adV, hK, -⟩ := F.2.2.2.2.2.2.1.1
    exact ⟨_, _, (hK k hk).1, (hK k hk).2⟩
  have hle := zop_le hz
  cases i with
  | aload k => cases zlen1 (k := 2) hlk rfl; exact zo_ldA hzz hz (fun hl k => lv_aload hx hb hdg hl k) kk
  | aload_n k => cases zlen1 (k := 1) hlk rfl; exact zo_ldA hzz hz (fun hl k => lv_aload_n hx hb hdg rfl hl k) kk
  | iload k => cases zlen1 (k := 2) hlk rfl; exact zo_ldI hz (fun hl k => lv_iload hx hb hdg hl k) kk
  | iload_n k => cases zlen1 (k := 1) hlk rfl; exact zo_ldI hz (fun hl k => lv_iload_n hx hb hdg rfl hl k) kk
  | lload k => cases zlen1 (k := 2) hlk rfl; exact zo_ldL hz (fun hl k => lv_lload hx hb hdg hl k) kk
  | lload_n k => cases zlen1 (k := 1) hlk rfl; exact zo_ldL hz (fun hl k => lv_lload_n hx hb hdg rfl hl k) kk
  | istore k => cases zlen1 (k := 2) hlk rfl; exact zo_stI hz (fun h hi k => lv_istore hx hb hdg h hi rfl k) kk
  | istore_n k => cases zlen1 (k := 1) hlk rfl; exact zo_stI hz (fun h hi k => lv_istore_n hx hb hdg rfl h hi rfl k) kk
  | lstore k => cases zlen1 (k := 2) hlk rfl; exact zo_stL hz (fun h hi k => lv_lstore hx hb hdg h hi rfl k) kk
  | lstore_n k => cases zlen1 (k := 1) hlk rfl; exact zo_stL hz (fun h hi k => lv_lstore_n hx hb hdg rfl h hi rfl k) kk
  | astore k => cases zlen1 (k := 2) hlk rfl; exact zo_stA hz (fun h hi k => lv_astore hx hb hdg h hi rfl k) kk
  | astore_n k => cases zlen1 (k := 1) hlk rfl; exact zo_stA hz (fun h hi k => lv_astore_n hx hb hdg rfl h hi rfl k) kk
  | iinc k v =>
    cases zlen1 (k := 3) hlk rfl
    simp only [zop] at hz
    split at hz
    · rename_i x hxk
      cases hz
      intro L ad H locs ls cells slots hext hrel hl hlv hsv hc hs
      have hkl : k < lsv.length := (List.getElem?_eq_some_iff.mp hxk).1
      have hm : (k, Value.int (Int32.ofInt x)) ∈ zpairs e0 ad 0 lsv := (zpairs_mem lsv 0).mpr ⟨k, .inl x, by simp, hxk, (fun q => by cases q), rfl⟩
      obtain ⟨i9, hi9⟩ := List.getElem?_of_mem hm
      refine lv_iinc hx hb hdg hl hi9 rfl hkl rfl fun ls' hl' => ?_
      have e9 : Value.int (Int32.ofInt x + Int32.ofInt v) = zcv e0 ad (.inl (zadd x v)) := by unfold zadd; rw [zcv_int]
      rw [e9] at hl'
      exact kk L ad H locs ls' cells slots hext hrel (zlv_st1 hl') (zst1_ok hlv (show zI32 _ from zI32_of _)) hsv hc hs
    · cases hz
  | iconst k =>
    cases zlen1 (k := 1) hlk rfl
    simp only [zck, Bool.and_eq_true, decide_eq_true_eq] at hck
    cases hz
    exact zo_ic (len := 1) hck rfl (fun k => lv_iconst hx hb hdg rfl k) kk
  | bipush k =>
    cases zlen1 (k := 2) hlk rfl
    simp only [zck, Bool.and_eq_true, decide_eq_true_eq] at hck
    cases hz
    exact zo_ic (len := 2) (by unfold zI32; omega) rfl (fun k => lv_bipush hx hb hdg (zc8 hck.1 hck.2) k) kk
  | sipush k =>
    cases zlen1 (k := 3) hlk rfl
    simp only [zck, Bool.and_eq_true, decide_eq_true_eq] at hck
    cases hz
    exact zo_ic (len := 3) (by unfold zI32; omega) rfl (fun k => lv_sipush hx hb hdg (zc16 hck.1 hck.2) k) kk
  | lconst k =>
    cases zlen1 (k := 1) hlk rfl
    cases hz
    exact zo_lc (len := 1) (by unfold zI64; omega) (v := Int64.ofNat (k : Nat)) (by rw [Int64.ofInt_eq_ofNat]) (fun k => lv_lconst hx hb hdg rfl k) kk
  | ldc ix =>
    cases zlen1 (k := 2) hlk rfl
    obtain ⟨p1, p2, p3⟩ := pl
    simp only [zop] at hz
    simp only [zck] at hck
    split at hz
    · rw [if_pos rfl] at hck
      obtain ⟨q, hq⟩ := zhas_ok hcx hck
      simp only [zpok, Bool.and_eq_true, decide_eq_true_eq] at hq
      cases hz
      exact zo_ic (len := 2) (show zI32 p3 by unfold zI32; omega) rfl (fun k => lv_ldc hx hb (own := own) hown (hts _ (by rw [how]; exact zat_in hq.1.1)) hdg k) kk
    · rename_i hne
      split at hz
      · rename_i hr
        rw [if_neg (by intro z; exact hne z)] at hck
        obtain ⟨q, hq⟩ := zhas_ok hcx hck
        simp only [zpok, Bool.and_eq_true, decide_eq_true_eq] at hq
        cases hz
        exact zo_ldcS F hr (by rw [how]; exact hq.1.2) hq.2 hdg kk
      · cases hz
  | ldc_w ix =>
    cases zlen1 (k := 3) hlk rfl
    obtain ⟨p1, p2, p3⟩ := pl
    simp only [zck] at hck
    obtain ⟨q, hq⟩ := zhas_ok hcx hck
    simp only [zpok, Bool.and_eq_true, decide_eq_true_eq] at hq
    cases hz
    exact zo_ic (len := 3) (show zI32 p3 by unfold zI32; omega) rfl (fun k => lv_ldcw hx hb (own := own) hown (hts _ (by rw [how]; exact zat_in hq.1.1)) hdg k) kk
  | ldc2_w ix =>
    cases zlen1 (k := 3) hlk rfl
    obtain ⟨p1, p2, p3⟩ := pl
    simp only [zck] at hck
    obtain ⟨q, hq⟩ := zhas_ok hcx hck
    simp only [zpok, Bool.and_eq_true, decide_eq_true_eq] at hq
    cases hz
    exact zo_lc (len := 3) (show zI64 p3 by unfold zI64; omega) rfl (fun k => lv_ldc2 hx hb (own := own) hown (hts _ (by rw [how]; exact zat_in hq.1.1)) hdg k) kk
  | getfield ix =>
    cases zlen1 (k := 3) hlk rfl
    obtain ⟨p1, p2, p3⟩ := pl
    simp only [zop] at hz
    simp only [zck] at hck
    unfold zgetf at hz
    split at hz
    · split at hz
      · split at hz
        · rename_i r o st0 h50
          cases hz
          rw [if_pos h50.1] at hck
          obtain ⟨q, hq⟩ := zhas_ok hcx hck
          simp only [zpok] at hq
          exact zo_sget F h50.2 (by rw [how]; exact zat_in hq) hdg kk
        · split at hz
          · rename_i h50 h51
            cases hz
            rw [if_neg (by dsimp only at h51; omega), if_pos h51.1] at hck
            obtain ⟨q, hq⟩ := zhas_ok hcx hck
            simp only [zpok] at hq
            exact zo_sgetc F h51.2 (by rw [how]; exact zat_in hq) hdg kk
          · cases hz
      · split at hz
        · rename_i k9 n9 hκ
          split at hz
          · rename_i hc0
            obtain ⟨rfl, h13, hkn⟩ := hc0
            dsimp only at h13 hkn hκ
            cases hz
            rw [if_neg (by omega), if_neg (by omega)] at hck
            obtain ⟨q, hq⟩ := zhas_ok hcx hck
            simp only [zpok, Bool.and_eq_true, decide_eq_true_eq] at hq
            exact zo_get F h13 hq.2 (by rw [how]; exact zat_in hq.1.1) hdg hκ hkn kk
          · cases hz
        · cases hz
      · cases hz
    · cases hz
  | putfield ix =>
    cases zlen1 (k := 3) hlk rfl
    obtain ⟨p1, p2, p3⟩ := pl
    simp only [zop] at hz
    simp only [zck, Bool.and_eq_true, beq_iff_eq] at hck
    unfold zputf at hz
    split at hz
    · split at hz
      · rename_i k9 n9 hκ
        split at hz
        · rename_i hc0
          obtain ⟨rfl, h13, hkn, hv⟩ := hc0
          dsimp only at h13 hkn hκ hv
          cases hz
          obtain ⟨q, hq⟩ := zhas_ok hcx hck.1.1
          simp only [zpok, Bool.and_eq_true, decide_eq_true_eq] at hq
          have hfin := hck.2
          refine zo_put F h13 hq.2 (by rw [how]; exact zat_in hq.1.1) (fun hf => ?_) hdg hκ hkn (by rw [← hck.1.2]; exact hv) kk
          rw [hf] at hfin
          simp only [cond_true, Bool.and_eq_true, decide_eq_true_eq] at hfin
          exact ⟨hfin.1, by rw [how]; exact hfin.2⟩
        · cases hz
      · cases hz
    · cases hz
  | getstatic ix =>
    cases zlen1 (k := 3) hlk rfl
    obtain ⟨p1, p2, p3⟩ := pl
    simp only [zop] at hz
    simp only [zck] at hck
    split at hz
    · rw [if_pos rfl] at hck
      obtain ⟨q, hq⟩ := zhas_ok hcx hck
      simp only [zpok] at hq
      cases hz
      exact zo_gets0 F (by rw [how]; exact zat_in hq) hdg kk
    · rename_i hne
      rw [if_neg (by intro z; exact hne z)] at hck
      obtain ⟨q, hq⟩ := zhas_ok hcx hck
      simp only [zpok] at hq
      cases hz
      exact zo_gets1 F (by rw [how]; exact zat_in hq) hdg kk
  | iaload => cases zlen1 (k := 1) hlk rfl; exact zo_iald F hdg hz kk
  | laload => cases zlen1 (k := 1) hlk rfl; exact zo_lald F hdg hz kk
  | baload => cases zlen1 (k := 1) hlk rfl; exact zo_bald F hdg hz kk
  | aaload => cases zlen1 (k := 1) hlk rfl; exact zo_aald F hn0 hdg hz kk
  | iastore => cases zlen1 (k := 1) hlk rfl; exact zo_iast F hdg hz kk
  | bastore => cases zlen1 (k := 1) hlk rfl; exact zo_bast F hdg hz kk
  | lastore => cases zlen1 (k := 1) hlk rfl; exact zo_last F hdg hz kk
  | aastore => cases zlen1 (k := 1) hlk rfl; exact zo_aast F hdg hz kk
  | arraylength => cases zlen1 (k := 1) hlk rfl; exact zo_alen F hdg hz kk
  | newarray t =>
    cases zlen1 (k := 2) hlk rfl
    simp only [zck, decide_eq_true_eq] at hck
    cases t with
    | int => exact zo_newa F (t := .int) (zfix_in (by decide)) rfl (by decide) (by decide) hdg hz hR kk
    | boolean => exact zo_newa F (t := .boolean) (zfix_in (by decide)) rfl (by decide) (by decide) hdg hz hR kk
    | byte => exact zo_newa F (t := .byte) (zfix_in (by decide)) rfl (by decide) (by decide) hdg hz hR kk
    | long => exact zo_newa F (t := .long) (zfix_in (by decide)) rfl (by decide) (by decide) hdg hz hR kk
    | _ => exact absurd hck (by decide)
  | anewarray ix =>
    cases zlen1 (k := 3) hlk rfl
    simp only [zck] at hck
    obtain ⟨q, hq⟩ := zhas_ok hcx hck
    simp only [zpok] at hq
    exact zo_anew F (by rw [how]; exact zat_in hq) hdg hz hR kk
  | multianewarray ix dd =>
    cases zlen1 (k := 4) hlk rfl
    simp only [zck, Bool.and_eq_true, beq_iff_eq] at hck
    obtain ⟨rfl, hck⟩ := hck
    obtain ⟨q, hq⟩ := zhas_ok hcx hck
    simp only [zpok] at hq
    exact zo_multi F (by rw [how]; exact zat_in hq) (zfix_in (by decide)) hdg hn0 hz hR kk
  | new ix =>
    cases zlen1 (k := 3) hlk rfl
    simp only [zck, Bool.and_eq_true, beq_iff_eq] at hck
    obtain ⟨q, hq⟩ := zhas_ok hcx hck.1
    simp only [zpok, Bool.and_eq_true, decide_eq_true_eq] at hq
    have hco := List.all_eq_true.mp zcok_all pl.1 (List.mem_range.mpr hq.2)
    simp only [zcok, Bool.and_eq_true, decide_eq_true_eq] at hco
    exact zo_new F (fun _ => hck.2) (fun _ => by rw [how]; exact zat_in hq.1) (fun _ => List.mem_filter.mpr ⟨hco.1.1.1, hco.1.1.2⟩) (fun _ => List.mem_filter.mpr ⟨hco.1.2, hco.2⟩) hdg hn0 hz hR kk
  | iadd => cases zlen1 (k := 1) hlk rfl; exact zo_bin (G := (· + ·)) (fun _ _ => rfl) hz (fun k => lv_iadd hx hb hdg k) kk
  | isub => cases zlen1 (k := 1) hlk rfl; exact zo_bin (G := (· - ·)) (fun _ _ => rfl) hz (fun k => lv_isub hx hb hdg k) kk
  | imul => cases zlen1 (k := 1) hlk rfl; exact zo_bin (G := (· * ·)) (fun _ _ => rfl) hz (fun k => lv_imul hx hb hdg k) kk
  | idiv => cases zlen1 (k := 1) hlk rfl; exact zo_bind (G := (· / ·)) (fun _ _ => rfl) hz (fun hy k => lv_idiv hx hb hdg hy k) kk
  | irem => cases zlen1 (k := 1) hlk rfl; exact zo_bind (G := fun x y => x - x / y * y) (fun _ _ => rfl) hz (fun hy k => lv_irem hx hb hdg hy k) kk
  | ineg => cases zlen1 (k := 1) hlk rfl; exact zo_un (G := fun x => -x) (fun _ => rfl) hz (fun k => lv_ineg hx hb hdg k) kk
  | iand => cases zlen1 (k := 1) hlk rfl; exact zo_bin (G := fun x y => x &&& y) (fun _ _ => rfl) hz (fun k => lv_iand hx hb hdg k) kk
  | ior => cases zlen1 (k := 1) hlk rfl; exact zo_bin (G := fun x y => x ||| y) (fun _ _ => rfl) hz (fun k => lv_ior hx hb hdg k) kk
  | ishl => cases zlen1 (k := 1) hlk rfl; exact zo_bin (G := fun x y => x <<< (y &&& 31)) (fun _ _ => rfl) hz (fun k => lv_ishl hx hb hdg k) kk
  | ishr => cases zlen1 (k := 1) hlk rfl; exact zo_bin (G := fun x y => x >>> (y &&& 31)) (fun _ _ => rfl) hz (fun k => lv_ishr hx hb hdg k) kk
  | iushr => cases zlen1 (k := 1) hlk rfl; exact zo_bin (G := fun x y => (x.toUInt32 >>> (y.toUInt32 &&& Int32.toUInt32 31)).toInt32) (fun _ _ => rfl) hz (fun k => lv_iushr hx hb hdg rfl k) kk
  | land => cases zlen1 (k := 1) hlk rfl; exact zo_lbin (G := fun x y => x &&& y) (fun _ _ => rfl) hz (fun k => lv_land hx hb hdg k) kk
  | lor => cases zlen1 (k := 1) hlk rfl; exact zo_lbin (G := fun x y => x ||| y) (fun _ _ => rfl) hz (fun k => lv_lor hx hb hdg k) kk
  | lshl => cases zlen1 (k := 1) hlk rfl; exact zo_lsh (G := fun x y => x <<< (y.toInt64 &&& 63)) (fun _ _ => rfl) hz (fun k => lv_lshl hx hb hdg rfl k) kk
  | lshr => cases zlen1 (k := 1) hlk rfl; exact zo_lsh (G := fun x y => x >>> (y.toInt64 &&& 63)) (fun _ _ => rfl) hz (fun k => lv_lshr hx hb hdg rfl k) kk
  | lcmp =>
    cases zlen1 (k := 1) hlk rfl
    simp only [zop] at hz
    split at hz
    · rename_i y x st0
      cases hz
      intro L ad H locs ls cells slots hext hrel hl hlv hsv hc hs
      have kx := kk L ad H locs ls cells slots hext hrel hl hlv (zvok_cons (show zI32 _ from zlcmp_ok x y) (zvok_tail (zvok_tail hsv))) hc hs
      rw [List.map_cons] at kx
      show W p l e R s m args below meth c H locs cells slots Q (F0 m pc ls (.long (Int64.ofInt y) :: .long (Int64.ofInt x) :: _))
      refine W.lcmp hx hb hdg ?_
      rw [zlcmp_eq (zvok_head (zvok_tail hsv)) (zvok_head hsv)]
      exact kx
    · cases hz
  | i2l =>
    cases zlen1 (k := 1) hlk rfl
    simp only [zop] at hz
    split at hz
    · rename_i x st0
      cases hz
      intro L ad H locs ls cells slots hext hrel hl hlv hsv hc hs
      have hx0 : zI32 x := zvok_head hsv
      have kx := kk L ad H locs ls cells slots hext hrel hl hlv (zvok_cons (show zI64 _ by unfold zI32 at hx0; unfold zI64; omega) (zvok_tail hsv)) hc hs
      exact lv_i2l hx hb hdg (zi2l_eq hx0) kx
    · cases hz
  | l2i =>
    cases zlen1 (k := 1) hlk rfl
    simp only [zop] at hz
    split at hz
    · rename_i x st0
      cases hz
      intro L ad H locs ls cells slots hext hrel hl hlv hsv hc hs
      have kx := kk L ad H locs ls cells slots hext hrel hl hlv (zvok_cons (show zI32 _ by unfold zl2i; exact zI32_of _) (zvok_tail hsv)) hc hs
      rw [List.map_cons] at kx
      unfold zl2i at kx
      rw [zcv_int] at kx
      exact lv_l2i hx hb hdg rfl kx
    · cases hz
  | i2b => cases zlen1 (k := 1) hlk rfl; exact zo_un (G := fun x => x.toInt8.toInt32) (fun _ => rfl) hz (fun k => lv_i2b hx hb hdg rfl k) kk
  | i2s => cases zlen1 (k := 1) hlk rfl; exact zo_un (G := fun x => x.toInt16.toInt32) (fun _ => rfl) hz (fun k => lv_i2s hx hb hdg rfl k) kk
  | i2c => cases zlen1 (k := 1) hlk rfl; exact zo_un (G := fun x => (x.toUInt32 % 65536).toInt32) (fun _ => rfl) hz (fun k => lv_i2c hx hb hdg rfl k) kk
  | dup =>
    cases zlen1 (k := 1) hlk rfl
    simp only [zop] at hz
    split at hz
    · split at hz
      · cases hz
      · rename_i v st0 hv
        cases hz
        intro L ad H locs ls cells slots hext hrel hl hlv hsv hc hs
        exact lv_dup hx hb hdg (by rw [zcv_cat, zcat1 hv]) (kk L ad H locs ls cells slots hext hrel hl hlv (zvok_cons (zvok_head hsv) hsv) hc hs)
    · cases hz
  | dup2 =>
    cases zlen1 (k := 1) hlk rfl
    simp only [zop] at hz
    split at hz
    · split at hz
      · cases hz
      · rename_i v w st0 hv
        cases hz
        intro L ad H locs ls cells slots hext hrel hl hlv hsv hc hs
        exact lv_dup2_11 hx hb hdg (by rw [zcv_cat, zcat1 (fun z => hv (Or.inl z))]) (by rw [zcv_cat, zcat1 (fun z => hv (Or.inr z))]) (kk L ad H locs ls cells slots hext hrel hl hlv (zvok_cons (zvok_head hsv) (zvok_cons (zvok_head (zvok_tail hsv)) hsv)) hc hs)
    · cases hz
  | pop =>
    cases zlen1 (k := 1) hlk rfl
    simp only [zop] at hz
    split at hz
    · split at hz
      · cases hz
      · rename_i v st0 hv
        cases hz
        intro L ad H locs ls cells slots hext hrel hl hlv hsv hc hs
        exact lv_pop hx hb hdg (by rw [zcv_cat, zcat1 hv]) (kk L ad H locs ls cells slots hext hrel hl hlv (zvok_tail hsv) hc hs)
    · cases hz
  | invokespecial ix =>
    cases zlen1 (k := 3) hlk rfl
    obtain ⟨p1, p2, p3⟩ := pl
    have hne := hnt ix (Or.inl rfl)
    simp only [zop] at hz
    simp only [zck] at hck
    have hck : zhas cx 13 ix 0 0 0 = true := hck
    · obtain ⟨q, hq⟩ := zhas_ok hcx hck
      simp only [zpok] at hq
      split at hz
      · split at hz
        · rename_i hsum
          cases hz
          exact zo_objinit F (by rw [how]; exact zat_in hq) (zfix_in (by decide)) (zfix_in (by unfold zfix; simp)) hdg hfr hlen hsum kk
        · cases hz
      · cases hz
  | invokestatic ix =>
    cases zlen1 (k := 3) hlk rfl
    obtain ⟨p1, p2, p3⟩ := pl
    have hne := hnt ix (Or.inr rfl)
    simp only [zop] at hz
    simp only [zck] at hck
    unfold zistat at hz
    split at hz
    · rename_i hsum
      have hR0 : μ.2.2.2.2.1 ≤ R.cells + u0 ∧ μ.2.2.2.2.2 ≤ R.slots + v0 := ⟨Nat.le_trans hle.2.1 hR.1, Nat.le_trans hle.2.2 hR.2⟩
      split at hck
      · exact absurd rfl hne
      · obtain ⟨q, hq⟩ := zhas_ok hcx hck
        simp only [zpok] at hq
        exact zo_copy F (by rw [how]; exact zat_in hq) (zfix_in (by decide)) (zfix_in (by decide)) (zfix_in (by decide)) hdg hfr hlen hsum hz kk
      · obtain ⟨q, hq⟩ := zhas_ok hcx hck
        simp only [zpok] at hq
        exact zo_max F (by rw [how]; exact zat_in hq) (zfix_in (by decide)) (zfix_in (by decide)) (zfix_in (by unfold zfix; simp)) hdg hfr hlen hsum hR0 hz kk
      · obtain ⟨q, hq⟩ := zhas_ok hcx hck
        simp only [zpok] at hq
        exact zo_min F (by rw [how]; exact zat_in hq) (zfix_in (by decide)) (zfix_in (by decide)) (zfix_in (by unfold zfix; simp)) hdg hfr hlen hsum hR0 hz kk
      · cases hck
    · cases hz
  | invokevirtual ix => exact (hnc ix rfl).elim
  | _ => cases hz
end ZT1
end
section
/-! from the machine of numbers to the JVM's: stretches, methods -/
/-- the receiver is of the method's class -/
def zrcvok (rc : Nat) (as : List ZV) (μ : ZM) : Bool := match rc, as with
  | 0, _ => true
  | n + 1, .inr (.inr (t, r, o)) :: _ => (match t with
    | 1 => (match μ.1 r o with
      | some (k, _) => k == n + 10 && decide (n < 13)
      | none => false)
    | 4 => n == 20 && decide (r < 10)
    | _ => false)
  | _, _ => false
/-- what method j does, by at most d calls within one another -/
noncomputable def zc : Nat → Nat → List ZV → ZM → ZO
  | 0, _, _, _ => none
  | d + 1, j, as, μ => if zrcvok (zrcv (zmi j)) as μ = true ∧ (as.map zcat).sum ≤ zmx (zmi j) ∧ j < 253 then zrun (zc d) (zseg j) 0 (zloc as (zmx (zmi j))) [] μ else none
theorem zc_le : ∀ (d j : Nat) (as : List ZV) (μ : ZM) (v : Option ZV) (μ' : ZM), zc d j as μ = some (v, μ') → zle μ μ'
  | 0, _, _, _, _, _, h => by simp [zc] at h
  | d + 1, j, as, μ, v, μ', h => by
    unfold zc at h
    split at h
    · obtain ⟨n, hn⟩ := zrun_iff.mp h
      exact zrunF_lem (zc_le d) n 0 _ _ μ v μ' hn
    · cases h
theorem zlsw_eq (pc : Nat) (d : Int) (x : Int) : ∀ (ps : List (Int × Int)), zlsw pc d ps x = ((pc : Int) + Op.lookupswitch.offset ps d x).toNat
  | [] => rfl
  | (k, o) :: t => by
    have ih := zlsw_eq pc d x t
    have e : Op.lookupswitch.offset ((k, o) :: t) d x = if k = x then o else Op.lookupswitch.offset t d x := rfl
    unfold zlsw
    rw [ih, e]
    by_cases h : x = k
    · rw [if_pos h, if_pos h.symm]
    · rw [if_neg h, if_neg (fun z => h z.symm)]
theorem zlsw_nn (pc : Nat) (d : Int) (x : Int) (hd : 0 ≤ (pc : Int) + d) : ∀ (ps : List (Int × Int)), (∀ o ∈ ps, 0 ≤ (pc : Int) + o.2) → 0 ≤ (pc : Int) + Op.lookupswitch.offset ps d x
  | [], _ => hd
  | (k, o) :: t, h => by
    have ih := zlsw_nn pc d x hd t (fun o ho => h o (List.mem_cons_of_mem _ ho))
    have e : Op.lookupswitch.offset ((k, o) :: t) d x = if k = x then o else Op.lookupswitch.offset t d x := rfl
    rw [e]
    by_cases hk : k = x
    · rw [if_pos hk]; exact h (k, o) List.mem_cons_self
    · rw [if_neg hk]; exact ih
section ZX1
variable {D : va_G} {cA : Nat → ClassId} {e0 : Nat → Nat → Option Nat} {bS nS : Nat} {xS : Nat → Int} {A : Nat → Prop} {p : Program} {l : Launch} {e : Env} {R : Room} {s : State} {m : MethodId} {args : Array Value} {below : List Frame} {meth : Method} {c : Code} {Q : State → Prop} {L0 : List (Nat × Nat)} {ad0 : Nat → Nat → Nat} {u0 v0 : Nat}
variable {own nm : String} {cc : ByteArray} {nL : Nat}
theorem z_ret_i {x : Int} {pc : Nat} {lsv : List ZV} {μ : ZM} (h : ∀ (L : List (Nat × Nat)) (ad : Nat → Nat → Nat) (H : Heap) (locs : List Loc) (ls : Array Slot) (cells slots : Nat), (∀ q ∈ L0, q ∈ L ∧ ad q.1 q.2 = ad0 q.1 q.2) → zRel D cA e0 bS nS xS A s L ad μ.1 μ.2.1 μ.2.2.1 H locs → zI32 x → cells + u0 = μ.2.2.2.2.1 → slots + v0 = μ.2.2.2.2.2 → W p l e R s m args below meth c H locs cells slots Q (F0 m pc ls [.int (Int32.ofInt x)])) :
    zcont D cA e0 bS nS xS A p l e R s m args below meth c Q L0 ad0 u0 v0 pc lsv [.inl x] μ := fun L ad H locs ls cells slots hext hrel hl hlv hsv hc hs => h L ad H locs ls cells slots hext hrel (hsv _ List.mem_cons_self) hc hs
theorem z_ret_l {x : Int} {pc : Nat} {lsv : List ZV} {μ : ZM} (h : ∀ (L : List (Nat × Nat)) (ad : Nat → Nat → Nat) (H : Heap) (locs : List Loc) (ls : Array Slot) (cells slots : Nat), (∀ q ∈ L0, q ∈ L ∧ ad q.1 q.2 = ad0 q.1 q.2) → zRel D cA e0 bS nS xS A s L ad μ.1 μ.2.1 μ.2.2.1 H locs → zI64 x → cells + u0 = μ.2.2.2.2.1 → slots + v0 = μ.2.2.2.2.2 → W p l e R s m args below meth c H locs cells slots Q (F0 m pc ls [.long (Int64.ofInt x)])) :
    zcont D cA e0 bS nS xS A p l e R s m args below meth c Q L0 ad0 u0 v0 pc lsv [.inr (.inl x)] μ := fun L ad H locs ls cells slots hext hrel hl hlv hsv hc hs => h L ad H locs ls cells slots hext hrel (hsv _ List.mem_cons_self) hc hs
/-- a branch on one int -/
theorem zo_br1 {pc tgt : Nat} {lsv st0 : List ZV} {x : Int} {μ : ZM} {P : Prop} {G : Int32 → Prop} (hP : zI32 x → (G (Int32.ofInt x) ↔ P))
    (row : ∀ {H : Heap} {locs : List Loc} {cells slots : Nat} {ls : Array Slot} {rest : List Value} {x : Int32}, (G x → W p l e R s m args below meth c H locs cells slots Q (F0 m tgt ls rest)) → (¬ G x → W p l e R s m args below meth c H locs cells slots Q (F0 m (pc + 3) ls rest)) → W p l e R s m args below meth c H locs cells slots Q (F0 m pc ls (.int x :: rest)))
    (kt : P → zcont D cA e0 bS nS xS A p l e R s m args below meth c Q L0 ad0 u0 v0 tgt lsv st0 μ) (kf : ¬ P → zcont D cA e0 bS nS xS A p l e R s m args below meth c Q L0 ad0 u0 v0 (pc + 3) lsv st0 μ) : zcont D cA e0 bS nS xS A p l e R s m args below meth c Q L0 ad0 u0 v0 pc lsv (.inl x :: st0) μ := by
  intro L ad H locs ls cells slots hext hrel hl hlv hsv hc hs
  have hx := hP (zvok_head hsv)
  exact row (fun h => kt (hx.mp h) L ad H locs ls cells slots hext hrel hl hlv (zvok_tail hsv) hc hs) (fun h => kf (fun z => h (hx.mpr z)) L ad H locs ls cells slots hext hrel hl hlv (zvok_tail hsv) hc hs)
theorem zo_br2 {pc tgt : Nat} {lsv st0 : List ZV} {x y : Int} {μ : ZM} {P : Prop} {G : Int32 → Int32 → Prop} (hP : zI32 x → zI32 y → (G (Int32.ofInt x) (Int32.ofInt y) ↔ P))
    (row : ∀ {H : Heap} {locs : List Loc} {cells slots : Nat} {ls : Array Slot} {rest : List Value} {x y : Int32}, (G x y → W p l e R s m args below meth c H locs cells slots Q (F0 m tgt ls rest)) → (¬ G x y → W p l e R s m args below meth c H locs cells slots Q (F0 m (pc + 3) ls rest)) → W p l e R s m args below meth c H locs cells slots Q (F0 m pc ls (.int y :: .int x :: rest)))
    (kt : P → zcont D cA e0 bS nS xS A p l e R s m args below meth c Q L0 ad0 u0 v0 tgt lsv st0 μ) (kf : ¬ P → zcont D cA e0 bS nS xS A p l e R s m args below meth c Q L0 ad0 u0 v0 (pc + 3) lsv st0 μ) : zcont D cA e0 bS nS xS A p l e R s m args below meth c Q L0 ad0 u0 v0 pc lsv (.inl y :: .inl x :: st0) μ := by
  intro L ad H locs ls cells slots hext hrel hl hlv hsv hc hs
  have hx := hP (zvok_head (zvok_tail hsv)) (zvok_head hsv)
  exact row (fun h => kt (hx.mp h) L ad H locs ls cells slots hext hrel hl hlv (zvok_tail (zvok_tail hsv)) hc hs) (fun h => kf (fun z => h (hx.mpr z)) L ad H locs ls cells slots hext hrel hl hlv (zvok_tail (zvok_tail hsv)) hc hs)
theorem zle32 {x y : Int} (hx : zI32 x) (hy : zI32 y) : (Int32.ofInt x ≤ Int32.ofInt y) ↔ ¬ y < x := by
  rw [Int32.le_iff_toInt_le, zI32_to hx, zI32_to hy]
  omega
theorem zc_call_ok {d j : Nat} {as : List ZV} {μ : ZM} {v : Option ZV} {μ' : ZM} (h : zc d j as μ = some (v, μ')) : zrcvok (zrcv (zmi j)) as μ = true ∧ j < 253 := by
  cases d with
  | zero => simp [zc] at h
  | succ d =>
    unfold zc at h
    split at h
    · rename_i hh; exact ⟨hh.1, hh.2.2⟩
    · cases h
theorem z_exec (F : zFr D cA e0 bS nS xS A p s m args meth c own nm cc nL) (hn0 : ∀ r, e0 0 r = none) {cx : Nat} (hcx : cx < 20) (how : own = zown cx) {ret : Option FieldType} {d : Nat} (hRd : d + 1 ≤ R.frames ∧ 37 * (d + 1) ≤ R.locals) {rv : Option ZV} {μF : ZM} (hRF : μF.2.2.2.2.1 ≤ R.cells + u0 ∧ μF.2.2.2.2.2 ≤ R.slots + v0)
    {rec : Nat → List ZV → List ZV → ZM → ZO} (hrec : ∀ lbl ls st μ, rec lbl ls st μ = some (rv, μF) → ls.length = nL → zcont D cA e0 bS nS xS A p l e R s m args below meth c Q L0 ad0 u0 v0 lbl ls st μ) (hrle : ∀ lbl ls st μ v μ', rec lbl ls st μ = some (v, μ') → zle μ μ')
    (hcall : ∀ j as μ v μ', zc d j as μ = some (v, μ') → zMet l d j as μ v μ')
    (hri : ∀ pc x lsv k, rv = some (.inl x) → decode cc pc = .ok (.ireturn, 1) → zretok ret k = true → (k = 0 ∨ (k = 1 ∧ (x = 0 ∨ x = 1)) ∨ (k = 2 ∧ -128 ≤ x ∧ x < 128) ∨ (k = 3 ∧ 0 ≤ x ∧ x < 65536)) → zcont D cA e0 bS nS xS A p l e R s m args below meth c Q L0 ad0 u0 v0 pc lsv [.inl x] μF)
    (hrl : ∀ pc x lsv, rv = some (.inr (.inl x)) → decode cc pc = .ok (.lreturn, 1) → ret = some .long → zcont D cA e0 bS nS xS A p l e R s m args below meth c Q L0 ad0 u0 v0 pc lsv [.inr (.inl x)] μF)
    (hrv : ∀ pc lsv, rv = none → decode cc pc = .ok (.return_, 1) → ret = none → zcont D cA e0 bS nS xS A p l e R s m args below meth c Q L0 ad0 u0 v0 pc lsv [] μF) :
    ∀ (k : List ZN) (pc : Nat) (lsv stv : List ZV) (μ : ZM), zchk cc cx nm ret pc k = true → zexec (zc d) rec k lsv stv μ = some (rv, μF) → lsv.length = nL → zcont D cA e0 bS nS xS A p l e R s m args below meth c Q L0 ad0 u0 v0 pc lsv stv μ
  | [], _, _, _, _, _, h, _ => by simp [zexec] at h
  | (i, n, pl) :: k, pc, lsv, stv, μ, hck, h, hlen => by
    have ih := z_exec F hn0 hcx how hRd hRF hrec hrle hcall hri hrl hrv k
    have hxl := zexec_le (zc_le d) hrle k
    have hx := F.1
    have hb := F.2.1
    have hfr : 1 ≤ R.frames ∧ 37 ≤ R.locals := ⟨by omega, by omega⟩
    have other : (∀ ix, i = .invokevirtual ix → False) → (∀ ix, i = .invokespecial ix ∨ i = .invokestatic ix → pl.2.2 ≠ 0) → decode cc pc = .ok (i, n) → zlenok i n = true → zck cx nm ret i pl = true → zchk cc cx nm ret (pc + n) k = true → (match zop i pl lsv stv μ with
        | some (ls', st', μ') => zexec (zc d) rec k ls' st' μ'
        | none => none) = some (rv, μF) → zcont D cA e0 bS nS xS A p l e R s m args below meth c Q L0 ad0 u0 v0 pc lsv stv μ := by
      intro h1 h2 h3 h4 h5 h6 h7
      split at h7
      · rename_i ls' st' μ' hz
        have hl := hxl ls' st' μ' rv μF h7
        exact z_op F hn0 hcx how h5 h4 h3 hz hfr hlen ⟨Nat.le_trans hl.2.1 hRF.1, Nat.le_trans hl.2.2 hRF.2⟩ h1 h2 (ih (pc + n) ls' st' μ' h6 h7 ((zop_len hz).trans hlen))
      · cases h7
    have callk : ∀ {na : Nat} {j : Nat}, (na ≤ stv.length ∧ ((stv.drop na).map zcat).sum ≤ 8) → (match zc d j ((stv.take na).reverse) μ with
        | some (none, μ') => zexec (zc d) rec k lsv (stv.drop na) μ'
        | some (some v, μ') => zexec (zc d) rec k lsv (v :: stv.drop na) μ'
        | none => none) = some (rv, μF) → zchk cc cx nm ret (pc + 3) k = true → ∃ (v : Option ZV) (μ' : ZM), zc d j ((stv.take na).reverse) μ = some (v, μ') ∧ (μ'.2.2.2.2.1 ≤ R.cells + u0 ∧ μ'.2.2.2.2.2 ≤ R.slots + v0) ∧ zcont D cA e0 bS nS xS A p l e R s m args below meth c Q L0 ad0 u0 v0 (pc + 3) lsv (v.toList ++ stv.drop na) μ' := by
      intro na j h1 h7 h6
      split at h7
      · rename_i μ' hz
        have hl := hxl _ _ μ' rv μF h7
        exact ⟨none, μ', hz, ⟨Nat.le_trans hl.2.1 hRF.1, Nat.le_trans hl.2.2 hRF.2⟩, ih _ _ _ _ h6 h7 hlen⟩
      · rename_i v μ' hz
        have hl := hxl _ _ μ' rv μF h7
        exact ⟨some v, μ', hz, ⟨Nat.le_trans hl.2.1 hRF.1, Nat.le_trans hl.2.2 hRF.2⟩, ih _ _ _ _ h6 h7 hlen⟩
      · cases h7
    cases i with
    | nop =>
      simp only [zchk, Bool.and_eq_true, decide_eq_true_eq] at hck
      simp only [zexec] at h
      rw [← hck.1]
      exact hrec _ _ _ _ h hlen
    | goto off =>
      simp only [zchk, Bool.and_eq_true, decide_eq_true_eq] at hck
      simp only [zexec] at h
      obtain ⟨⟨⟨hd, hl⟩, -⟩, ht, -⟩ := hck
      cases zlen1 (k := 3) hl rfl
      intro L ad H locs ls cells slots hext hrel hl hlv hsv hc hs
      exact lv_goto hx hb hd ht (hrec _ _ _ _ h hlen L ad H locs ls cells slots hext hrel hl hlv hsv hc hs)
    | ifCond cd off =>
      simp only [zchk, Bool.and_eq_true, decide_eq_true_eq] at hck
      obtain ⟨⟨⟨hd, hl⟩, -⟩, ht, hk⟩ := hck
      cases zlen1 (k := 3) hl rfl
      simp only [zexec] at h
      split at h
      · rename_i x st0
        cases cd with
        | eq => exact zo_br1 (P := x = 0) (G := fun x => x = 0) (fun hz => zeq32 hz zI32_0) (fun kt kf => lv_if_eq hx hb hd ht kt kf) (fun hp => hrec _ _ _ _ (by simpa [hp] using h) hlen) (fun hp => ih _ _ _ _ hk (by simpa [hp] using h) hlen)
        | ne => exact zo_br1 (P := ¬ x = 0) (G := fun x => ¬ x = 0) (fun hz => not_congr (zeq32 hz zI32_0)) (fun kt kf => lv_if_ne hx hb hd ht kt (fun hh => kf (fun z => z hh))) (fun hp => hrec _ _ _ _ (by simpa [hp] using h) hlen) (fun hp => ih _ _ _ _ hk (by simpa [Classical.not_not.mp hp] using h) hlen)
        | lt => exact zo_br1 (P := x < 0) (G := fun x => x < 0) (fun hz => zlt32 hz zI32_0) (fun kt kf => lv_if_lt hx hb hd ht kt kf) (fun hp => hrec _ _ _ _ (by simpa [hp] using h) hlen) (fun hp => ih _ _ _ _ hk (by simpa [hp] using h) hlen)
        | ge => exact zo_br1 (P := ¬ x < 0) (G := fun x => 0 ≤ x) (fun hz => zle32 zI32_0 hz) (fun kt kf => lv_if_ge hx hb hd ht kt kf) (fun hp => hrec _ _ _ _ (by simpa [hp] using h) hlen) (fun hp => ih _ _ _ _ hk (by simpa [Classical.not_not.mp hp] using h) hlen)
        | gt => exact zo_br1 (P := 0 < x) (G := fun x => 0 < x) (fun hz => zlt32 zI32_0 hz) (fun kt kf => lv_if_gt hx hb hd ht kt kf) (fun hp => hrec _ _ _ _ (by simpa [hp] using h) hlen) (fun hp => ih _ _ _ _ hk (by simpa [hp] using h) hlen)
        | le => exact zo_br1 (P := ¬ 0 < x) (G := fun x => x ≤ 0) (fun hz => zle32 hz zI32_0) (fun kt kf => lv_if_le hx hb hd ht kt kf) (fun hp => hrec _ _ _ _ (by simpa [hp] using h) hlen) (fun hp => ih _ _ _ _ hk (by simpa [Classical.not_not.mp hp] using h) hlen)
      · cases h
    | if_icmp cd off =>
      simp only [zchk, Bool.and_eq_true, decide_eq_true_eq] at hck
      obtain ⟨⟨⟨hd, hl⟩, -⟩, ht, hk⟩ := hck
      cases zlen1 (k := 3) hl rfl
      simp only [zexec] at h
      split at h
      · rename_i y x st0
        cases cd with
        | eq => exact zo_br2 (P := x = y) (G := fun x y => x = y) (fun hz hw => zeq32 hz hw) (fun kt kf => lv_icmp_eq hx hb hd ht kt kf) (fun hp => hrec _ _ _ _ (by simpa [hp] using h) hlen) (fun hp => ih _ _ _ _ hk (by simpa [hp] using h) hlen)
        | ne => exact zo_br2 (P := ¬ x = y) (G := fun x y => ¬ x = y) (fun hz hw => not_congr (zeq32 hz hw)) (fun kt kf => lv_icmp_ne hx hb hd ht kt (fun hh => kf (fun z => z hh))) (fun hp => hrec _ _ _ _ (by simpa [hp] using h) hlen) (fun hp => ih _ _ _ _ hk (by simpa [Classical.not_not.mp hp] using h) hlen)
        | lt => exact zo_br2 (P := x < y) (G := fun x y => x < y) (fun hz hw => zlt32 hz hw) (fun kt kf => lv_icmp_lt hx hb hd ht kt kf) (fun hp => hrec _ _ _ _ (by simpa [hp] using h) hlen) (fun hp => ih _ _ _ _ hk (by simpa [hp] using h) hlen)
        | ge => exact zo_br2 (P := ¬ x < y) (G := fun x y => y ≤ x) (fun hz hw => zle32 hw hz) (fun kt kf => lv_icmp_ge hx hb hd ht kt kf) (fun hp => hrec _ _ _ _ (by simpa [hp] using h) hlen) (fun hp => ih _ _ _ _ hk (by simpa [Classical.not_not.mp hp] using h) hlen)
        | gt => exact zo_br2 (P := y < x) (G := fun x y => y < x) (fun hz hw => zlt32 hw hz) (fun kt kf => lv_icmp_gt hx hb hd ht kt kf) (fun hp => hrec _ _ _ _ (by simpa [hp] using h) hlen) (fun hp => ih _ _ _ _ hk (by simpa [hp] using h) hlen)
        | le => exact zo_br2 (P := ¬ y < x) (G := fun x y => x ≤ y) (fun hz hw => zle32 hz hw) (fun kt kf => lv_icmp_le hx hb hd ht kt kf) (fun hp => hrec _ _ _ _ (by simpa [hp] using h) hlen) (fun hp => ih _ _ _ _ hk (by simpa [Classical.not_not.mp hp] using h) hlen)
      · cases h
    | tableswitch d0 lo hi offs =>
      simp only [zchk, Bool.and_eq_true, decide_eq_true_eq] at hck
      obtain ⟨⟨⟨hd, -⟩, -⟩, ⟨⟨⟨⟨hp1, -⟩, hsz⟩, hd0⟩, hall⟩⟩ := hck
      simp only [zexec] at h
      split at h
      · rename_i x st0
        intro L ad H locs ls cells slots hext hrel hl hlv hsv hc hs
        have hxI := zI32_to (zvok_head hsv)
        have kx := hrec _ _ _ _ h hlen L ad H locs ls cells slots hext hrel hl hlv (zvok_tail hsv) hc hs
        rw [hp1] at kx
        unfold zsw at kx
        by_cases hr : x < lo ∨ hi < x
        · rw [if_pos hr] at kx
          exact lv_tableOut hx hb hd (by rw [hxI]; exact hr) (tgt := ((pc : Int) + d0).toNat) (by omega) kx
        · rw [if_neg hr] at kx
          have hlt : (x - lo).toNat < offs.size := by
            have e1 : offs.toList.length = offs.size := by simp
            omega
          have e2 : offs[(x - lo).toNat]? = some offs[(x - lo).toNat] := Array.getElem?_eq_getElem hlt
          rw [e2] at kx
          have h9 : 0 ≤ (pc : Int) + offs[(x - lo).toNat] := by
            have := List.all_eq_true.mp hall offs[(x - lo).toNat] (by simp)
            simpa using this
          exact lv_tableIn hx hb hd (by rw [hxI]; omega) (by rw [hxI]; omega) (off := offs[(x - lo).toNat]) (by rw [hxI]; exact e2) (tgt := ((pc : Int) + offs[(x - lo).toNat]).toNat) (by omega) kx
      · cases h
    | lookupswitch d0 ps =>
      simp only [zchk, Bool.and_eq_true, decide_eq_true_eq] at hck
      obtain ⟨⟨⟨hd, -⟩, -⟩, ⟨⟨⟨⟨hp1, -⟩, hsrt⟩, hd0⟩, hall⟩⟩ := hck
      simp only [zexec] at h
      split at h
      · rename_i x st0
        intro L ad H locs ls cells slots hext hrel hl hlv hsv hc hs
        have hxI := zI32_to (zvok_head hsv)
        have kx := hrec _ _ _ _ h hlen L ad H locs ls cells slots hext hrel hl hlv (zvok_tail hsv) hc hs
        rw [hp1, zlsw_eq] at kx
        have h9 := zlsw_nn pc d0 x hd0 ps.toList (fun o ho => by
          have := List.all_eq_true.mp hall o ho
          simpa using this)
        exact lv_lookup hx hb hd hsrt (off := Op.lookupswitch.offset ps.toList d0 x) (by rw [hxI]) (tgt := ((pc : Int) + Op.lookupswitch.offset ps.toList d0 x).toNat) (by omega) kx
      · cases h
    | ireturn =>
      simp only [zchk, Bool.and_eq_true, decide_eq_true_eq] at hck
      obtain ⟨⟨⟨hd, hl⟩, hr⟩, -⟩ := hck
      cases zlen1 (k := 1) hl rfl
      simp only [zexec] at h
      split at h
      · split at h
        · rename_i x hx1
          cases h
          exact hri pc x lsv pl.1 rfl hd hr hx1
        · cases h
      · cases h
    | lreturn =>
      simp only [zchk, Bool.and_eq_true, decide_eq_true_eq] at hck
      obtain ⟨⟨⟨hd, hl⟩, hr⟩, -⟩ := hck
      cases zlen1 (k := 1) hl rfl
      simp only [zck, decide_eq_true_eq] at hr
      simp only [zexec] at h
      split at h
      · rename_i x
        cases h
        exact hrl pc x lsv rfl hd hr
      · cases h
    | return_ =>
      simp only [zchk, Bool.and_eq_true, decide_eq_true_eq] at hck
      obtain ⟨⟨⟨hd, hl⟩, hr⟩, -⟩ := hck
      cases zlen1 (k := 1) hl rfl
      simp only [zck, decide_eq_true_eq] at hr
      simp only [zexec] at h
      split at h
      · cases h
        exact hrv pc lsv rfl hd hr
      · cases h
    | invokestatic ix =>
      simp only [zchk, Bool.and_eq_true, decide_eq_true_eq] at hck
      obtain ⟨⟨⟨hd, hl⟩, hr⟩, hk⟩ := hck
      cases zlen1 (k := 3) hl rfl
      obtain ⟨p1, p2, p3⟩ := pl
      simp only [zexec] at h
      split at h
      · split at h
        · rename_i h1
          simp only [zck, Bool.and_eq_true, beq_iff_eq, decide_eq_true_eq] at hr
          obtain ⟨⟨⟨hr1, hr2⟩, hr3⟩, hr4⟩ := hr
          obtain ⟨q, hq⟩ := zhas_ok hcx hr1
          simp only [zpok] at hq
          obtain ⟨v, μ', hz, hR, kk⟩ := callk h1 h hk
          subst hr3
          exact zo_calls F hn0 hr4 (hcall _ _ _ _ _ hz) (zc_le d _ _ _ _ _ hz) hRd (by rw [how]; exact zat_in hq) hr2 (by rw [List.length_reverse, List.length_take]; omega) hd hlen h1.1 rfl h1.2 hR kk
        · cases h
      · rename_i hne
        exact other (fun ix z => by cases z) (fun _ _ => hne) hd hl hr hk h
    | invokevirtual ix =>
      simp only [zchk, Bool.and_eq_true, decide_eq_true_eq] at hck
      obtain ⟨⟨⟨hd, hl⟩, hr⟩, hk⟩ := hck
      cases zlen1 (k := 3) hl rfl
      obtain ⟨p1, p2, p3⟩ := pl
      simp only [zexec] at h
      split at h
      · split at h
        · rename_i h1
          simp only [zck, Bool.and_eq_true, beq_iff_eq, decide_eq_true_eq] at hr
          obtain ⟨⟨⟨hr1, hr2⟩, hr3⟩, hr4⟩ := hr
          obtain ⟨q, hq⟩ := zhas_ok hcx hr1
          simp only [zpok] at hq
          obtain ⟨v, μ', hz, hR, kk⟩ := callk h1 h hk
          subst hr3
          have hrc := (zc_call_ok hz).1
          obtain ⟨f1, f2, f3, f4, f5, f6, f7, f8, f9, f10, f11, f12⟩ := zmi_facts hr4
          cases has : (stv.take (znar (zmi p1) + 1)).reverse with
          | nil =>
            have := congrArg List.length has
            rw [List.length_reverse, List.length_take, List.length_nil] at this
            omega
          | cons v0' at0 =>
            rw [has] at hrc
            have hl9 : at0.length = znar (zmi p1) := by
              have := congrArg List.length has
              rw [List.length_reverse, List.length_take, List.length_cons] at this
              omega
            have hge : 1 ≤ zrcv (zmi p1) := by
              rcases f10 (by omega) with z | z <;> omega
            obtain ⟨w, hw⟩ : ∃ w, zrcv (zmi p1) = w + 1 := ⟨zrcv (zmi p1) - 1, by omega⟩
            rw [hw] at hrc
            rcases v0' with x9 | x9 | ⟨t, r, o⟩
            · simp [zrcvok] at hrc
            · simp [zrcvok] at hrc
            · simp only [zrcvok] at hrc
              split at hrc
              · split at hrc
                · rename_i k9 n9 hκ
                  simp only [Bool.and_eq_true, beq_iff_eq, decide_eq_true_eq] at hrc
                  exact zo_callv F hn0 hr4 (hcall _ _ _ _ _ hz) (zc_le d _ _ _ _ _ hz) hRd (by rw [how]; exact zat_in hq) hr2 has (Or.inl ⟨rfl, n9, by rw [hκ, hrc.1, hw]⟩) (Or.inl ⟨rfl, by omega⟩) hl9 hd hlen h1.1 rfl h1.2 hR kk
                · cases hrc
              · simp only [Bool.and_eq_true, beq_iff_eq, decide_eq_true_eq] at hrc
                exact zo_callv F hn0 hr4 (hcall _ _ _ _ _ hz) (zc_le d _ _ _ _ _ hz) hRd (by rw [how]; exact zat_in hq) hr2 has (Or.inr ⟨rfl, hrc.2⟩) (Or.inr ⟨rfl, by omega⟩) hl9 hd hlen h1.1 rfl h1.2 hR kk
              · cases hrc
        · cases h
      · rename_i hne
        simp only [zck] at hr
        cases hr
    | invokespecial ix =>
      simp only [zchk, Bool.and_eq_true, decide_eq_true_eq] at hck
      obtain ⟨⟨⟨hd, hl⟩, hr⟩, hk⟩ := hck
      cases zlen1 (k := 3) hl rfl
      obtain ⟨p1, p2, p3⟩ := pl
      simp only [zexec] at h
      split at h
      · split at h
        · rename_i h1
          simp only [zck, Bool.and_eq_true, beq_iff_eq, decide_eq_true_eq, Bool.or_eq_true] at hr
          obtain ⟨⟨⟨hr1, hr2⟩, hr3⟩, hr4⟩ := hr
          have hlk0 : Cond.methodLink own ix (zmi p1).1 ∈ zgood ∨ Cond.methodLinkNest own ix (zmi p1).1 RX11 ∈ znest := by
            rcases hr1 with hr1 | hr1
            · obtain ⟨q, hq⟩ := zhas_ok hcx hr1
              simp only [zpok] at hq
              exact Or.inl (by rw [how]; exact zat_in hq)
            · obtain ⟨q, hq⟩ := zhas_ok hcx hr1
              simp only [zpok, decide_eq_true_eq] at hq
              exact Or.inr (by rw [how]; exact hq)
          obtain ⟨v, μ', hz, hR, kk⟩ := callk h1 h hk
          subst hr3
          have hrc := (zc_call_ok hz).1
          obtain ⟨f1, f2, f3, f4, f5, f6, f7, f8, f9, f10, f11, f12⟩ := zmi_facts hr4
          cases has : (stv.take (znar (zmi p1) + 1)).reverse with
          | nil =>
            have := congrArg List.length has
            rw [List.length_reverse, List.length_take, List.length_nil] at this
            omega
          | cons v0' at0 =>
            rw [has] at hrc
            have hl9 : at0.length = znar (zmi p1) := by
              have := congrArg List.length has
              rw [List.length_reverse, List.length_take, List.length_cons] at this
              omega
            have hge : 1 ≤ zrcv (zmi p1) ∧ zrcv (zmi p1) ≤ 13 := by
              rcases f10 (by omega) with z | z <;> omega
            obtain ⟨w, hw⟩ : ∃ w, zrcv (zmi p1) = w + 1 := ⟨zrcv (zmi p1) - 1, by omega⟩
            rw [hw] at hrc
            rcases v0' with x9 | x9 | ⟨t, r, o⟩
            · simp [zrcvok] at hrc
            · simp [zrcvok] at hrc
            · simp only [zrcvok] at hrc
              split at hrc
              · exact zo_calli F hn0 hr4 (hcall _ _ _ _ _ hz) (zc_le d _ _ _ _ _ hz) hRd hlk0 hr2 has hl9 hd hlen h1.1 rfl h1.2 hR kk
              · simp only [Bool.and_eq_true, beq_iff_eq, decide_eq_true_eq] at hrc
                omega
              · cases hrc
        · cases h
      · rename_i hne
        exact other (fun ix z => by cases z) (fun _ _ => hne) hd hl hr hk h
    | _ =>
      simp only [zchk, Bool.and_eq_true, decide_eq_true_eq] at hck
      obtain ⟨⟨⟨hd, hl⟩, hr⟩, hk⟩ := hck
      simp only [zexec] at h
      exact other (fun ix z => by cases z) (fun ix z => by rcases z with z | z <;> cases z) hd hl hr hk h
end ZX1
end
section
/-! methods: what the machine of numbers does, the JVM's does -/
theorem zfind_mem : ∀ (l : List (Nat × List ZN)) (k : Nat), zfind l k ≠ [] → (k, zfind l k) ∈ l
  | [], k, h => absurd rfl h
  | (a, c) :: t, k, h => by
    unfold zfind at h ⊢
    by_cases ha : a = k
    · subst ha
      simp
    · have hb : (a == k) = false := by simpa using ha
      rw [hb] at h ⊢
      exact List.mem_cons_of_mem _ (zfind_mem t k h)
theorem zseg_chk {j : Nat} {cb : ByteArray} {c : Nat} {nm : String} {ret : Option FieldType} {prog : List (Nat × List ZN)} (hp : prog.all (fun x => zchk cb c nm ret x.1 x.2) = true) (hs : ∀ l, zseg j l = zfind prog l) {l : Nat} (h : zseg j l ≠ []) : zchk cb c nm ret l (zseg j l) = true := by
  have h1 := zfind_mem prog l (by rw [← hs]; exact h)
  have h2 := List.all_eq_true.mp hp _ h1
  rw [hs]
  exact h2
theorem zloc_len : ∀ (as : List ZV) (n : Nat), (as.map zcat).sum ≤ n → (zloc as n).length = n
  | [], n, _ => by simp [zloc]
  | v :: t, n, h => by
    unfold zloc
    rw [List.map_cons, List.sum_cons] at h
    cases hv : zislong v with
    | true =>
      have hc : zcat v = 2 := by
        rcases v with x | x | x
        · cases hv
        · rfl
        · cases hv
      have ih := zloc_len t (n - 2) (by omega)
      simp only [cond_true, List.length_cons, ih]
      omega
    | false =>
      have hc : zcat v = 1 := zcat1 (by rw [hv]; decide)
      have ih := zloc_len t (n - 1) (by omega)
      simp only [cond_false, List.length_cons, ih]
      omega
theorem zcv_cat2 {e0 : Nat → Nat → Option Nat} {ad : Nat → Nat → Nat} {v : ZV} : (zcv e0 ad v).category = 2 ↔ zislong v = true := by
  rw [zcv_cat]
  rcases v with x | x | x <;> simp [zcat, zislong]
theorem zloc_args {e0 : Nat → Nat → Option Nat} {ad : Nat → Nat → Nat} : ∀ (as : List ZV) (n i : Nat), ∀ q ∈ zpairs e0 ad i (zloc as n), q ∈ lv_args i (as.map (zcv e0 ad))
  | [], n, i, q, h => by
    obtain ⟨k, v, h1, h2, h3, h4⟩ := (zpairs_mem _ i).mp h
    unfold zloc at h2
    have := List.eq_of_mem_replicate (List.mem_of_getElem? h2)
    exact absurd this h3
  | v :: t, n, i, q, h => by
    unfold zloc at h
    rw [List.map_cons]
    unfold lv_args
    cases hv : zislong v with
    | true =>
      rw [hv] at h
      rw [if_pos (zcv_cat2.mpr hv)]
      simp only [cond_true] at h
      unfold zpairs at h
      rw [if_neg (by intro z; rw [z] at hv; cases hv)] at h
      rcases List.mem_cons.mp h with h | h
      · rw [h]; exact List.mem_cons_self
      · unfold zpairs at h
        rw [if_pos rfl] at h
        exact List.mem_cons_of_mem _ (zloc_args t (n - 2) (i + 2) q h)
    | false =>
      rw [hv] at h
      rw [if_neg (by rw [zcv_cat2, hv]; decide)]
      simp only [cond_false] at h
      unfold zpairs at h
      by_cases hz : v = zu
      · rw [if_pos hz] at h
        exact List.mem_cons_of_mem _ (zloc_args t (n - 1) (i + 1) q h)
      · rw [if_neg hz] at h
        rcases List.mem_cons.mp h with h | h
        · rw [h]; exact List.mem_cons_self
        · exact List.mem_cons_of_mem _ (zloc_args t (n - 1) (i + 1) q h)
theorem zloc_ok {κ : ZK} : ∀ (as : List ZV) (n : Nat), (∀ v ∈ as, zvok κ v) → ∀ v ∈ zloc as n, zvok κ v
  | [], n, _, v, h => by
    unfold zloc at h
    rw [List.eq_of_mem_replicate h]
    exact fun z => by cases z
  | w :: t, n, hw, v, h => by
    unfold zloc at h
    cases hv : zislong w with
    | true =>
      rw [hv] at h
      rcases List.mem_cons.mp h with h | h
      · rw [h]; exact zvok_head hw
      · rcases List.mem_cons.mp h with h | h
        · rw [h]; exact fun z => by cases z
        · exact zloc_ok t _ (zvok_tail hw) v h
    | false =>
      rw [hv] at h
      rcases List.mem_cons.mp h with h | h
      · rw [h]; exact zvok_head hw
      · exact zloc_ok t _ (zvok_tail hw) v h
theorem zsl_len {e0 : Nat → Nat → Option Nat} {ad : Nat → Nat → Nat} : ∀ (as : List ZV), (lg_sl (as.map (zcv e0 ad))).length = (as.map zcat).sum
  | [] => rfl
  | v :: t => by
    have ih := zsl_len (e0 := e0) (ad := ad) t
    have e : lg_sl ((v :: t).map (zcv e0 ad)) = (if (zcv e0 ad v).category = 2 then [.val (zcv e0 ad v), .second] else [.val (zcv e0 ad v)]) ++ lg_sl (t.map (zcv e0 ad)) := rfl
    rw [e, List.length_append, ih, List.map_cons, List.sum_cons]
    cases hv : zislong v with
    | true =>
      rw [if_pos (zcv_cat2.mpr hv)]
      have hc : zcat v = 2 := by
        rcases v with x | x | x
        · cases hv
        · rfl
        · cases hv
      rw [hc]; rfl
    | false =>
      rw [if_neg (by rw [zcv_cat2, hv]; decide), zcat1 (by rw [hv]; decide)]; rfl
theorem znar_i {ret : Option FieldType} {k : Nat} {x : Int} (hr : zretok ret k = true) (hx : k = 0 ∨ (k = 1 ∧ (x = 0 ∨ x = 1)) ∨ (k = 2 ∧ -128 ≤ x ∧ x < 128) ∨ (k = 3 ∧ 0 ≤ x ∧ x < 65536)) : ∃ ty, ret = some ty ∧ narrow ty (.int (Int32.ofInt x)) = .int (Int32.ofInt x) := by
  have s1 : ∀ ty, vp_nar ty (Int32.ofInt x) = Int32.ofInt x → (∃ z, narrow ty (.int (Int32.ofInt x)) = .int z) → narrow ty (.int (Int32.ofInt x)) = .int (Int32.ofInt x) := fun ty h ⟨z, hz⟩ => by
    unfold vp_nar at h
    rw [hz] at h ⊢
    have h' : z = Int32.ofInt x := h
    rw [h']
  unfold zretok at hr
  split at hr
  · exact ⟨.int, rfl, rfl⟩
  · simp only [beq_iff_eq] at hr
    rcases (show x = 0 ∨ x = 1 by omega) with rfl | rfl
    · exact ⟨.boolean, rfl, rfl⟩
    · exact ⟨.boolean, rfl, rfl⟩
  · simp only [beq_iff_eq] at hr
    exact ⟨.byte, rfl, s1 .byte (znar_b (by omega) (by omega)) ⟨_, rfl⟩⟩
  · simp only [beq_iff_eq] at hr
    refine ⟨.char, rfl, ?_⟩
    have e : narrow .char (.int (Int32.ofInt x)) = .int (Int32.ofInt x).toUInt32.toUInt16.toUInt32.toInt32 := rfl
    rw [e]
    congr 1
    obtain ⟨w, rfl⟩ : ∃ w : Nat, x = (w : Int) := ⟨x.toNat, by omega⟩
    rw [Int32.ofInt_eq_ofNat]
    apply Int32.toBitVec.inj
    apply BitVec.eq_of_toNat_eq
    have hw : w < 65536 := by omega
    show ((((Int32.ofNat w).toUInt32.toUInt16.toUInt32.toInt32).toBitVec).toNat) = _
    simp
    omega
  · cases hr
/-- the whole: by how deep the calls go -/
theorem zc_met (l : Launch) (hck : ∀ j, j < 253 → zchkm (zmi j) (zprog.getD j []) = true) : ∀ (d j : Nat) (as : List ZV) (μ : ZM) (rv : Option ZV) (μ' : ZM), zc d j as μ = some (rv, μ') → zMet l d j as μ rv μ'
  | 0, _, _, _, _, _, h => by simp [zc] at h
  | d + 1, j, as, μ, rv, μ', h => by
    have ihd := zc_met l hck d
    have hle := zc_le _ _ _ _ _ _ h
    unfold zc at h
    split at h
    · rename_i hh
      obtain ⟨hrc, hsum, hj⟩ := hh
      intro D cA e0 bS nS xS L ad sz hn0 hnd hdom hok has
      obtain ⟨f1, f2, f3, f4, f5, f6, f7, f8, f9, f10, f11, f12⟩ := zmi_facts hj
      refine Met.ofW (cc := zcodeAt (zcp (zmi j))) (maxL := zmx (zmi j)) (ret := zret (zmi j)) f8 (rfl : zwd (zmi j) = _) ?_
      intro p e s m args below meth c s₁ B hml hv
      obtain ⟨rfl, hsz, hE, hRO, hP, hD⟩ := hv
      subst hsz
      have hts : ∀ w ∈ zgood, w.before (as.map (zcv e0 ad)).toArray s = true := fun w hw => atoms_spec (ws := zwd (zmi j)) B.pre w (List.mem_cons_of_mem _ hw)
      have hown : s.vm.findClass (zown (zcls (zmi j))) = some m.cls := by rw [f9]; exact findClass_of_methodNamed B.named
      have hnm : meth.name = (zmi j).1.name := (name_of_methodNamed B.named B.method).1
      have hck2 := hck j hj
      have hc20 : zcls (zmi j) < 20 ∧ (zprog.getD j []).all (fun x => zchk (zcodeAt (zcp (zmi j))) (zcls (zmi j)) (zmi j).1.name (zret (zmi j)) x.1 x.2) = true := by
        revert hck2
        generalize zmi j = t
        obtain ⟨y, maxL, ret, sort, na, cx, rc, cp, ip, mp, sp⟩ := t
        intro hck2
        simp only [zchkm, Bool.and_eq_true, decide_eq_true_eq] at hck2
        exact hck2
      have F : zFr D cA e0 bS nS xS (zA ad L s.heap.size) p s m (as.map (zcv e0 ad)).toArray meth c (zown (zcls (zmi j))) (zmi j).1.name (zcodeAt (zcp (zmi j))) (zmx (zmi j)) :=
        ⟨B.exec, B.bytes, hml, hown, hts, hE, hRO, B.notSynchronized, hnm, fun q h => Or.inr h⟩
      rw [lg_entry_eq]
      have hl := lv_entry (as.map (zcv e0 ad)) (n := zmx (zmi j)) (by rw [zsl_len]; exact hsum)
      generalize (lg_sl (as.map (zcv e0 ad)) ++ List.replicate (zmx (zmi j) - (lg_sl (as.map (zcv e0 ad))).length) Slot.unset).toArray = ls at hl ⊢
      have hloc := zloc_len as (zmx (zmi j)) hsum
      have hrel : zRel D cA e0 bS nS xS (zA ad L s.heap.size) s L ad μ.1 μ.2.1 μ.2.2.1 s.heap [] := ⟨hP, hD, va_S.rf, hnd, hdom, hok⟩
      have endW : ∀ (L' : List (Nat × Nat)) (ad' : Nat → Nat → Nat) (H : Heap) (locs : List Loc) (t : State), (∀ q ∈ L, q ∈ L' ∧ ad' q.1 q.2 = ad q.1 q.2) → zRel D cA e0 bS nS xS (zA ad L s.heap.size) s L' ad' μ'.1 μ'.2.1 μ'.2.2.1 H locs → t.heap = H → zB D cA e0 bS nS xS L ad (zA ad L s.heap.size) μ' (L', ad') t ∧ va_F (zA ad L s.heap.size) s t := by
        intro L' ad' H locs t hext hr ht
        exact ⟨⟨by rw [ht]; exact hr.1, hr.2.1, hr.2.2.2.1, hr.2.2.2.2.1, hr.2.2.2.2.2, hext⟩, hr.2.2.1.F ht⟩
      have key : ∀ n lbl lsv stv μ0, zrunF (zc d) (zseg j) n lbl lsv stv μ0 = some (rv, μ') → lsv.length = zmx (zmi j) → zcont D cA e0 bS nS xS (zA ad L s.heap.size) p l e (headSpec (zwd (zmi j)) (zrm (d + 1) (μ'.2.2.2.2.1 - μ.2.2.2.2.1) (μ'.2.2.2.2.2 - μ.2.2.2.2.2))).room s m (as.map (zcv e0 ad)).toArray below meth c (MQ below (zQc D cA e0 bS nS xS L ad (zA ad L s.heap.size) rv μ') (as.map (zcv e0 ad)).toArray s (μ'.2.2.2.2.1 - μ.2.2.2.2.1) (μ'.2.2.2.2.2 - μ.2.2.2.2.2) (zA ad L s.heap.size)) L ad μ.2.2.2.2.1 μ.2.2.2.2.2 lbl lsv stv μ0 := by
        intro n
        induction n with
        | zero => intro lbl lsv stv μ0 h0; simp [zrunF] at h0
        | succ n ihn =>
          intro lbl lsv stv μ0 h0 hlen
          have h1 : zexec (zc d) (zrunF (zc d) (zseg j) n) (zseg j lbl) lsv stv μ0 = some (rv, μ') := h0
          have hne : zseg j lbl ≠ [] := by
            intro z
            rw [z] at h1
            simp [zexec] at h1
          have hchk := zseg_chk (j := j) hc20.2 (fun l => rfl) hne
          refine z_exec F hn0 hc20.1 rfl (ret := zret (zmi j)) (d := d) ⟨Nat.le_refl _, Nat.le_refl _⟩ (rv := rv) (μF := μ') ?_ (rec := zrunF (zc d) (zseg j) n) ihn (zrunF_lem (zc_le d) n) ihd ?_ ?_ ?_ (zseg j lbl) lbl lsv stv μ0 hchk h1 hlen
          · constructor
            · show μ'.2.2.2.2.1 ≤ (μ'.2.2.2.2.1 - μ.2.2.2.2.1) + μ.2.2.2.2.1; omega
            · show μ'.2.2.2.2.2 ≤ (μ'.2.2.2.2.2 - μ.2.2.2.2.2) + μ.2.2.2.2.2; omega
          · intro pc x lsv1 k hrv hdg hrk hxk
            subst hrv
            refine z_ret_i fun L' ad' H locs ls' cells slots hext hr hx hcc hss => ?_
            obtain ⟨ty, hty, hnar⟩ := znar_i hrk hxk
            have ec : cells = μ'.2.2.2.2.1 - μ.2.2.2.2.1 := by omega
            have es : slots = μ'.2.2.2.2.2 - μ.2.2.2.2.2 := by omega
            subst ec
            subst es
            refine W.zret (ty := ty) F.1 F.2.1 (B.returns.trans hty) hnar (fun t ht hW => ?_) hr.2.2.1.2.2 hdg
            obtain ⟨b1, b2⟩ := endW L' ad' H locs t hext hr ht
            exact ⟨⟨Int32.ofInt x, (L', ad'), rfl, ⟨rfl, hx⟩, b1⟩, b2⟩
          · intro pc x lsv1 hrv hdg hrt
            subst hrv
            refine z_ret_l fun L' ad' H locs ls' cells slots hext hr hx hcc hss => ?_
            have ec : cells = μ'.2.2.2.2.1 - μ.2.2.2.2.1 := by omega
            have es : slots = μ'.2.2.2.2.2 - μ.2.2.2.2.2 := by omega
            subst ec
            subst es
            refine W.lret F.1 F.2.1 (B.returns.trans hrt) (fun t ht hW => ?_) hr.2.2.1.2.2 hdg
            obtain ⟨b1, b2⟩ := endW L' ad' H locs t hext hr ht
            exact ⟨⟨Int64.ofInt x, (L', ad'), rfl, ⟨rfl, hx⟩, b1⟩, b2⟩
          · intro pc lsv1 hrv hdg hrt
            subst hrv
            intro L' ad' H locs ls' cells slots hext hr hl' hlv' hsv' hcc hss
            have ec : cells = μ'.2.2.2.2.1 - μ.2.2.2.2.1 := by omega
            have es : slots = μ'.2.2.2.2.2 - μ.2.2.2.2.2 := by omega
            subst ec
            subst es
            refine W.vret F.1 F.2.1 (B.returns.trans hrt) (fun t ht hW => ?_) hr.2.2.1.2.2 hdg
            obtain ⟨b1, b2⟩ := endW L' ad' H locs t hext hr ht
            exact ⟨⟨(L', ad'), rfl, trivial, b1⟩, b2⟩
      obtain ⟨n, hn⟩ := zrun_iff.mp h
      exact key n 0 _ _ μ hn hloc L ad s.heap [] ls 0 0 (fun q hq => ⟨hq, rfl⟩) hrel (by rw [hloc]; exact zlv_sub hl (zloc_args as (zmx (zmi j)) 0)) (zloc_ok as _ has) (fun v hv => by cases hv) (Nat.zero_add _) (Nat.zero_add _)
    · cases h
end
section
/-! each method: its stretches are its bytes (by wip/whole/gen.py chk) -/
set_option maxRecDepth 100000 in
theorem ck_0 : zchkm (zmi 0) (zprog.getD 0 []) = true := by decide +kernel
set_option maxRecDepth 100000 in
theorem ck_1 : zchkm (zmi 1) (zprog.getD 1 []) = true := by decide +kernel
set_option maxRecDepth 100000 in
theorem ck_2 : zchkm (zmi 2) (zprog.getD 2 []) = true := by decide +kernel
set_option maxRecDepth 100000 in
theorem ck_3 : zchkm (zmi 3) (zprog.getD 3 []) = true := by decide +kernel
set_option maxRecDepth 100000 in
theorem ck_4 : zchkm (zmi 4) (zprog.getD 4 []) = true := by decide +kernel
set_option maxRecDepth 100000 in
theorem ck_5 : zchkm (zmi 5) (zprog.getD 5 []) = true := by decide +kernel
set_option maxRecDepth 100000 in
theorem ck_6 : zchkm (zmi 6) (zprog.getD 6 []) = true := by decide +kernel
set_option maxRecDepth 100000 in
theorem ck_7 : zchkm (zmi 7) (zprog.getD 7 []) = true := by decide +kernel
set_option maxRecDepth 100000 in
theorem ck_8 : zchkm (zmi 8) (zprog.getD 8 []) = true := by decide +kernel
set_option maxRecDepth 100000 in
theorem ck_9 : zchkm (zmi 9) (zprog.getD 9 []) = true := by decide +kernel
set_option maxRecDepth 100000 in
theorem ck_10 : zchkm (zmi 10) (zprog.getD 10 []) = true := by decide +kernel
set_option maxRecDepth 100000 in
theorem ck_11 : zchkm (zmi 11) (zprog.getD 11 []) = true := by decide +kernel
set_option maxRecDepth 100000 in
theorem ck_12 : zchkm (zmi 12) (zprog.getD 12 []) = true := by decide +kernel
set_option maxRecDepth 100000 in
theorem ck_13 : zchkm (zmi 13) (zprog.getD 13 []) = true := by decide +kernel
set_option maxRecDepth 100000 in
theorem ck_14 : zchkm (zmi 14) (zprog.getD 14 []) = true := by decide +kernel
set_option maxRecDepth 100000 in
theorem ck_15 : zchkm (zmi 15) (zprog.getD 15 []) = true := by decide +kernel
set_option maxRecDepth 100000 in
theorem ck_16 : zchkm (zmi 16) (zprog.getD 16 []) = true := by decide +kernel
set_option maxRecDepth 100000 in
theorem ck_17 : zchkm (zmi 17) (zprog.getD 17 []) = true := by decide +kernel
set_option maxRecDepth 100000 in
theorem ck_18 : zchkm (zmi 18) (zprog.getD 18 []) = true := by decide +kernel
set_option maxRecDepth 100000 in
theorem ck_19 : zchkm (zmi 19) (zprog.getD 19 []) = true := by decide +kernel
set_option maxRecDepth 100000 in
theorem ck_20 : zchkm (zmi 20) (zprog.getD 20 []) = true := by decide +kernel
set_option maxRecDepth 100000 in
theorem ck_21 : zchkm (zmi 21) (zprog.getD 21 []) = true := by decide +kernel
set_option maxRecDepth 100000 in
theorem ck_22 : zchkm (zmi 22) (zprog.getD 22 []) = true := by decide +kernel
set_option maxRecDepth 100000 in
theorem ck_23 : zchkm (zmi 23) (zprog.getD 23 []) = true := by decide +kernel
set_option maxRecDepth 100000 in
theorem ck_24 : zchkm (zmi 24) (zprog.getD 24 []) = true := by decide +kernel
set_option maxRecDepth 100000 in
theorem ck_25 : zchkm (zmi 25) (zprog.getD 25 []) = true := by decide +kernel
set_option maxRecDepth 100000 in
theorem ck_26 : zchkm (zmi 26) (zprog.getD 26 []) = true := by decide +kernel
set_option maxRecDepth 100000 in
theorem ck_27 : zchkm (zmi 27) (zprog.getD 27 []) = true := by decide +kernel
set_option maxRecDepth 100000 in
theorem ck_28 : zchkm (zmi 28) (zprog.getD 28 []) = true := by decide +kernel
set_option maxRecDepth 100000 in
theorem ck_29 : zchkm (zmi 29) (zprog.getD 29 []) = true := by decide +kernel
set_option maxRecDepth 100000 in
theorem ck_30 : zchkm (zmi 30) (zprog.getD 30 []) = true := by decide +kernel
set_option maxRecDepth 100000 in
theorem ck_31 : zchkm (zmi 31) (zprog.getD 31 []) = true := by decide +kernel
set_option maxRecDepth 100000 in
theorem ck_32 : zchkm (zmi 32) (zprog.getD 32 []) = true := by decide +kernel
set_option maxRecDepth 100000 in
theorem ck_33 : zchkm (zmi 33) (zprog.getD 33 []) = true := by decide +kernel
set_option maxRecDepth 100000 in
theorem ck_34 : zchkm (zmi 34) (zprog.getD 34 []) = true := by decide +kernel
set_option maxRecDepth 100000 in
theorem ck_35 : zchkm (zmi 35) (zprog.getD 35 []) = true := by decide +kernel
set_option maxRecDepth 100000 in
theorem ck_36 : zchkm (zmi 36) (zprog.getD 36 []) = true := by decide +kernel
set_option maxRecDepth 100000 in
theorem ck_37 : zchkm (zmi 37) (zprog.getD 37 []) = true := by decide +kernel
set_option maxRecDepth 100000 in
theorem ck_38 : zchkm (zmi 38) (zprog.getD 38 []) = true := by decide +kernel
set_option maxRecDepth 100000 in
theorem ck_39 : zchkm (zmi 39) (zprog.getD 39 []) = true := by decide +kernel
set_option maxRecDepth 100000 in
theorem ck_40 : zchkm (zmi 40) (zprog.getD 40 []) = true := by decide +kernel
set_option maxRecDepth 100000 in
theorem ck_41 : zchkm (zmi 41) (zprog.getD 41 []) = true := by decide +kernel
set_option maxRecDepth 100000 in
theorem ck_42 : zchkm (zmi 42) (zprog.getD 42 []) = true := by decide +kernel
set_option maxRecDepth 100000 in
theorem ck_43 : zchkm (zmi 43) (zprog.getD 43 []) = true := by decide +kernel
set_option maxRecDepth 100000 in
theorem ck_44 : zchkm (zmi 44) (zprog.getD 44 []) = true := by decide +kernel
set_option maxRecDepth 100000 in
theorem ck_45 : zchkm (zmi 45) (zprog.getD 45 []) = true := by decide +kernel
set_option maxRecDepth 100000 in
theorem ck_46 : zchkm (zmi 46) (zprog.getD 46 []) = true := by decide +kernel
set_option maxRecDepth 100000 in
theorem ck_47 : zchkm (zmi 47) (zprog.getD 47 []) = true := by decide +kernel
set_option maxRecDepth 100000 in
theorem ck_48 : zchkm (zmi 48) (zprog.getD 48 []) = true := by decide +kernel
set_option maxRecDepth 100000 in
theorem ck_49 : zchkm (zmi 49) (zprog.getD 49 []) = true := by decide +kernel
set_option maxRecDepth 100000 in
theorem ck_50 : zchkm (zmi 50) (zprog.getD 50 []) = true := by decide +kernel
set_option maxRecDepth 100000 in
theorem ck_51 : zchkm (zmi 51) (zprog.getD 51 []) = true := by decide +kernel
set_option maxRecDepth 100000 in
theorem ck_52 : zchkm (zmi 52) (zprog.getD 52 []) = true := by decide +kernel
set_option maxRecDepth 100000 in
theorem ck_53 : zchkm (zmi 53) (zprog.getD 53 []) = true := by decide +kernel
set_option maxRecDepth 100000 in
theorem ck_54 : zchkm (zmi 54) (zprog.getD 54 []) = true := by decide +kernel
set_option maxRecDepth 100000 in
theorem ck_55 : zchkm (zmi 55) (zprog.getD 55 []) = true := by decide +kernel
set_option maxRecDepth 100000 in
theorem ck_56 : zchkm (zmi 56) (zprog.getD 56 []) = true := by decide +kernel
set_option maxRecDepth 100000 in
theorem ck_57 : zchkm (zmi 57) (zprog.getD 57 []) = true := by decide +kernel
set_option maxRecDepth 100000 in
theorem ck_58 : zchkm (zmi 58) (zprog.getD 58 []) = true := by decide +kernel
set_option maxRecDepth 100000 in
theorem ck_59 : zchkm (zmi 59) (zprog.getD 59 []) = true := by decide +kernel
set_option maxRecDepth 100000 in
theorem ck_60 : zchkm (zmi 60) (zprog.getD 60 []) = true := by decide +kernel
set_option maxRecDepth 100000 in
theorem ck_61 : zchkm (zmi 61) (zprog.getD 61 []) = true := by decide +kernel
set_option maxRecDepth 100000 in
theorem ck_62 : zchkm (zmi 62) (zprog.getD 62 []) = true := by decide +kernel
set_option maxRecDepth 100000 in
theorem ck_63 : zchkm (zmi 63) (zprog.getD 63 []) = true := by decide +kernel
set_option maxRecDepth 100000 in
theorem ck_64 : zchkm (zmi 64) (zprog.getD 64 []) = true := by decide +kernel
set_option maxRecDepth 100000 in
theorem ck_65 : zchkm (zmi 65) (zprog.getD 65 []) = true := by decide +kernel
set_option maxRecDepth 100000 in
theorem ck_66 : zchkm (zmi 66) (zprog.getD 66 []) = true := by decide +kernel
set_option maxRecDepth 100000 in
theorem ck_67 : zchkm (zmi 67) (zprog.getD 67 []) = true := by decide +kernel
set_option maxRecDepth 100000 in
theorem ck_68 : zchkm (zmi 68) (zprog.getD 68 []) = true := by decide +kernel
set_option maxRecDepth 100000 in
theorem ck_69 : zchkm (zmi 69) (zprog.getD 69 []) = true := by decide +kernel
set_option maxRecDepth 100000 in
theorem ck_70 : zchkm (zmi 70) (zprog.getD 70 []) = true := by decide +kernel
set_option maxRecDepth 100000 in
theorem ck_71 : zchkm (zmi 71) (zprog.getD 71 []) = true := by decide +kernel
set_option maxRecDepth 100000 in
theorem ck_72 : zchkm (zmi 72) (zprog.getD 72 []) = true := by decide +kernel
set_option maxRecDepth 100000 in
theorem ck_73 : zchkm (zmi 73) (zprog.getD 73 []) = true := by decide +kernel
set_option maxRecDepth 100000 in
theorem ck_74 : zchkm (zmi 74) (zprog.getD 74 []) = true := by decide +kernel
set_option maxRecDepth 100000 in
theorem ck_75 : zchkm (zmi 75) (zprog.getD 75 []) = true := by decide +kernel
set_option maxRecDepth 100000 in
theorem ck_76 : zchkm (zmi 76) (zprog.getD 76 []) = true := by decide +kernel
set_option maxRecDepth 100000 in
theorem ck_77 : zchkm (zmi 77) (zprog.getD 77 []) = true := by decide +kernel
set_option maxRecDepth 100000 in
theorem ck_78 : zchkm (zmi 78) (zprog.getD 78 []) = true := by decide +kernel
set_option maxRecDepth 100000 in
theorem ck_79 : zchkm (zmi 79) (zprog.getD 79 []) = true := by decide +kernel
set_option maxRecDepth 100000 in
theorem ck_80 : zchkm (zmi 80) (zprog.getD 80 []) = true := by decide +kernel
set_option maxRecDepth 100000 in
theorem ck_81 : zchkm (zmi 81) (zprog.getD 81 []) = true := by decide +kernel
set_option maxRecDepth 100000 in
theorem ck_82 : zchkm (zmi 82) (zprog.getD 82 []) = true := by decide +kernel
set_option maxRecDepth 100000 in
theorem ck_83 : zchkm (zmi 83) (zprog.getD 83 []) = true := by decide +kernel
set_option maxRecDepth 100000 in
theorem ck_84 : zchkm (zmi 84) (zprog.getD 84 []) = true := by decide +kernel
set_option maxRecDepth 100000 in
theorem ck_85 : zchkm (zmi 85) (zprog.getD 85 []) = true := by decide +kernel
set_option maxRecDepth 100000 in
theorem ck_86 : zchkm (zmi 86) (zprog.getD 86 []) = true := by decide +kernel
set_option maxRecDepth 100000 in
theorem ck_87 : zchkm (zmi 87) (zprog.getD 87 []) = true := by decide +kernel
set_option maxRecDepth 100000 in
theorem ck_88 : zchkm (zmi 88) (zprog.getD 88 []) = true := by decide +kernel
set_option maxRecDepth 100000 in
theorem ck_89 : zchkm (zmi 89) (zprog.getD 89 []) = true := by decide +kernel
set_option maxRecDepth 100000 in
theorem ck_90 : zchkm (zmi 90) (zprog.getD 90 []) = true := by decide +kernel
set_option maxRecDepth 100000 in
theorem ck_91 : zchkm (zmi 91) (zprog.getD 91 []) = true := by decide +kernel
set_option maxRecDepth 100000 in
theorem ck_92 : zchkm (zmi 92) (zprog.getD 92 []) = true := by decide +kernel
set_option maxRecDepth 100000 in
theorem ck_93 : zchkm (zmi 93) (zprog.getD 93 []) = true := by decide +kernel
set_option maxRecDepth 100000 in
theorem ck_94 : zchkm (zmi 94) (zprog.getD 94 []) = true := by decide +kernel
set_option maxRecDepth 100000 in
theorem ck_95 : zchkm (zmi 95) (zprog.getD 95 []) = true := by decide +kernel
set_option maxRecDepth 100000 in
theorem ck_96 : zchkm (zmi 96) (zprog.getD 96 []) = true := by decide +kernel
set_option maxRecDepth 100000 in
theorem ck_97 : zchkm (zmi 97) (zprog.getD 97 []) = true := by decide +kernel
set_option maxRecDepth 100000 in
theorem ck_98 : zchkm (zmi 98) (zprog.getD 98 []) = true := by decide +kernel
set_option maxRecDepth 100000 in
theorem ck_99 : zchkm (zmi 99) (zprog.getD 99 []) = true := by decide +kernel
set_option maxRecDepth 100000 in
theorem ck_100 : zchkm (zmi 100) (zprog.getD 100 []) = true := by decide +kernel
set_option maxRecDepth 100000 in
theorem ck_101 : zchkm (zmi 101) (zprog.getD 101 []) = true := by decide +kernel
set_option maxRecDepth 100000 in
theorem ck_102 : zchkm (zmi 102) (zprog.getD 102 []) = true := by decide +kernel
set_option maxRecDepth 100000 in
theorem ck_103 : zchkm (zmi 103) (zprog.getD 103 []) = true := by decide +kernel
set_option maxRecDepth 100000 in
theorem ck_104 : zchkm (zmi 104) (zprog.getD 104 []) = true := by decide +kernel
set_option maxRecDepth 100000 in
theorem ck_105 : zchkm (zmi 105) (zprog.getD 105 []) = true := by decide +kernel
set_option maxRecDepth 100000 in
theorem ck_106 : zchkm (zmi 106) (zprog.getD 106 []) = true := by decide +kernel
set_option maxRecDepth 100000 in
theorem ck_107 : zchkm (zmi 107) (zprog.getD 107 []) = true := by decide +kernel
set_option maxRecDepth 100000 in
theorem ck_108 : zchkm (zmi 108) (zprog.getD 108 []) = true := by decide +kernel
set_option maxRecDepth 100000 in
theorem ck_109 : zchkm (zmi 109) (zprog.getD 109 []) = true := by decide +kernel
set_option maxRecDepth 100000 in
theorem ck_110 : zchkm (zmi 110) (zprog.getD 110 []) = true := by decide +kernel
set_option maxRecDepth 100000 in
theorem ck_111 : zchkm (zmi 111) (zprog.getD 111 []) = true := by decide +kernel
set_option maxRecDepth 100000 in
theorem ck_112 : zchkm (zmi 112) (zprog.getD 112 []) = true := by decide +kernel
set_option maxRecDepth 100000 in
theorem ck_113 : zchkm (zmi 113) (zprog.getD 113 []) = true := by decide +kernel
set_option maxRecDepth 100000 in
theorem ck_114 : zchkm (zmi 114) (zprog.getD 114 []) = true := by decide +kernel
set_option maxRecDepth 100000 in
theorem ck_115 : zchkm (zmi 115) (zprog.getD 115 []) = true := by decide +kernel
set_option maxRecDepth 100000 in
theorem ck_116 : zchkm (zmi 116) (zprog.getD 116 []) = true := by decide +kernel
set_option maxRecDepth 100000 in
theorem ck_117 : zchkm (zmi 117) (zprog.getD 117 []) = true := by decide +kernel
set_option maxRecDepth 100000 in
theorem ck_118 : zchkm (zmi 118) (zprog.getD 118 []) = true := by decide +kernel
set_option maxRecDepth 100000 in
theorem ck_119 : zchkm (zmi 119) (zprog.getD 119 []) = true := by decide +kernel
set_option maxRecDepth 100000 in
theorem ck_120 : zchkm (zmi 120) (zprog.getD 120 []) = true := by decide +kernel
set_option maxRecDepth 100000 in
theorem ck_121 : zchkm (zmi 121) (zprog.getD 121 []) = true := by decide +kernel
set_option maxRecDepth 100000 in
theorem ck_122 : zchkm (zmi 122) (zprog.getD 122 []) = true := by decide +kernel
set_option maxRecDepth 100000 in
theorem ck_123 : zchkm (zmi 123) (zprog.getD 123 []) = true := by decide +kernel
set_option maxRecDepth 100000 in
theorem ck_124 : zchkm (zmi 124) (zprog.getD 124 []) = true := by decide +kernel
set_option maxRecDepth 100000 in
theorem ck_125 : zchkm (zmi 125) (zprog.getD 125 []) = true := by decide +kernel
set_option maxRecDepth 100000 in
theorem ck_126 : zchkm (zmi 126) (zprog.getD 126 []) = true := by decide +kernel
set_option maxRecDepth 100000 in
theorem ck_127 : zchkm (zmi 127) (zprog.getD 127 []) = true := by decide +kernel
set_option maxRecDepth 100000 in
theorem ck_128 : zchkm (zmi 128) (zprog.getD 128 []) = true := by decide +kernel
set_option maxRecDepth 100000 in
theorem ck_129 : zchkm (zmi 129) (zprog.getD 129 []) = true := by decide +kernel
set_option maxRecDepth 100000 in
theorem ck_130 : zchkm (zmi 130) (zprog.getD 130 []) = true := by decide +kernel
set_option maxRecDepth 100000 in
theorem ck_131 : zchkm (zmi 131) (zprog.getD 131 []) = true := by decide +kernel
set_option maxRecDepth 100000 in
theorem ck_132 : zchkm (zmi 132) (zprog.getD 132 []) = true := by decide +kernel
set_option maxRecDepth 100000 in
theorem ck_133 : zchkm (zmi 133) (zprog.getD 133 []) = true := by decide +kernel
set_option maxRecDepth 100000 in
theorem ck_134 : zchkm (zmi 134) (zprog.getD 134 []) = true := by decide +kernel
set_option maxRecDepth 100000 in
theorem ck_135 : zchkm (zmi 135) (zprog.getD 135 []) = true := by decide +kernel
set_option maxRecDepth 100000 in
theorem ck_136 : zchkm (zmi 136) (zprog.getD 136 []) = true := by decide +kernel
set_option maxRecDepth 100000 in
theorem ck_137 : zchkm (zmi 137) (zprog.getD 137 []) = true := by decide +kernel
set_option maxRecDepth 100000 in
theorem ck_138 : zchkm (zmi 138) (zprog.getD 138 []) = true := by decide +kernel
set_option maxRecDepth 100000 in
theorem ck_139 : zchkm (zmi 139) (zprog.getD 139 []) = true := by decide +kernel
set_option maxRecDepth 100000 in
theorem ck_140 : zchkm (zmi 140) (zprog.getD 140 []) = true := by decide +kernel
set_option maxRecDepth 100000 in
theorem ck_141 : zchkm (zmi 141) (zprog.getD 141 []) = true := by decide +kernel
set_option maxRecDepth 100000 in
theorem ck_142 : zchkm (zmi 142) (zprog.getD 142 []) = true := by decide +kernel
set_option maxRecDepth 100000 in
theorem ck_143 : zchkm (zmi 143) (zprog.getD 143 []) = true := by decide +kernel
set_option maxRecDepth 100000 in
theorem ck_144 : zchkm (zmi 144) (zprog.getD 144 []) = true := by decide +kernel
set_option maxRecDepth 100000 in
theorem ck_145 : zchkm (zmi 145) (zprog.getD 145 []) = true := by decide +kernel
set_option maxRecDepth 100000 in
theorem ck_146 : zchkm (zmi 146) (zprog.getD 146 []) = true := by decide +kernel
set_option maxRecDepth 100000 in
theorem ck_147 : zchkm (zmi 147) (zprog.getD 147 []) = true := by decide +kernel
set_option maxRecDepth 100000 in
theorem ck_148 : zchkm (zmi 148) (zprog.getD 148 []) = true := by decide +kernel
set_option maxRecDepth 100000 in
theorem ck_149 : zchkm (zmi 149) (zprog.getD 149 []) = true := by decide +kernel
set_option maxRecDepth 100000 in
theorem ck_150 : zchkm (zmi 150) (zprog.getD 150 []) = true := by decide +kernel
set_option maxRecDepth 100000 in
theorem ck_151 : zchkm (zmi 151) (zprog.getD 151 []) = true := by decide +kernel
set_option maxRecDepth 100000 in
theorem ck_152 : zchkm (zmi 152) (zprog.getD 152 []) = true := by decide +kernel
set_option maxRecDepth 100000 in
theorem ck_153 : zchkm (zmi 153) (zprog.getD 153 []) = true := by decide +kernel
set_option maxRecDepth 100000 in
theorem ck_154 : zchkm (zmi 154) (zprog.getD 154 []) = true := by decide +kernel
set_option maxRecDepth 100000 in
theorem ck_155 : zchkm (zmi 155) (zprog.getD 155 []) = true := by decide +kernel
set_option maxRecDepth 100000 in
theorem ck_156 : zchkm (zmi 156) (zprog.getD 156 []) = true := by decide +kernel
set_option maxRecDepth 100000 in
theorem ck_157 : zchkm (zmi 157) (zprog.getD 157 []) = true := by decide +kernel
set_option maxRecDepth 100000 in
theorem ck_158 : zchkm (zmi 158) (zprog.getD 158 []) = true := by decide +kernel
set_option maxRecDepth 100000 in
theorem ck_159 : zchkm (zmi 159) (zprog.getD 159 []) = true := by decide +kernel
set_option maxRecDepth 100000 in
theorem ck_160 : zchkm (zmi 160) (zprog.getD 160 []) = true := by decide +kernel
set_option maxRecDepth 100000 in
theorem ck_161 : zchkm (zmi 161) (zprog.getD 161 []) = true := by decide +kernel
set_option maxRecDepth 100000 in
theorem ck_162 : zchkm (zmi 162) (zprog.getD 162 []) = true := by decide +kernel
set_option maxRecDepth 100000 in
theorem ck_163 : zchkm (zmi 163) (zprog.getD 163 []) = true := by decide +kernel
set_option maxRecDepth 100000 in
theorem ck_164 : zchkm (zmi 164) (zprog.getD 164 []) = true := by decide +kernel
set_option maxRecDepth 100000 in
theorem ck_165 : zchkm (zmi 165) (zprog.getD 165 []) = true := by decide +kernel
set_option maxRecDepth 100000 in
theorem ck_166 : zchkm (zmi 166) (zprog.getD 166 []) = true := by decide +kernel
set_option maxRecDepth 100000 in
theorem ck_167 : zchkm (zmi 167) (zprog.getD 167 []) = true := by decide +kernel
set_option maxRecDepth 100000 in
theorem ck_168 : zchkm (zmi 168) (zprog.getD 168 []) = true := by decide +kernel
set_option maxRecDepth 100000 in
theorem ck_169 : zchkm (zmi 169) (zprog.getD 169 []) = true := by decide +kernel
set_option maxRecDepth 100000 in
theorem ck_170 : zchkm (zmi 170) (zprog.getD 170 []) = true := by decide +kernel
set_option maxRecDepth 100000 in
theorem ck_171 : zchkm (zmi 171) (zprog.getD 171 []) = true := by decide +kernel
set_option maxRecDepth 100000 in
theorem ck_172 : zchkm (zmi 172) (zprog.getD 172 []) = true := by decide +kernel
set_option maxRecDepth 100000 in
theorem ck_173 : zchkm (zmi 173) (zprog.getD 173 []) = true := by decide +kernel
set_option maxRecDepth 100000 in
theorem ck_174 : zchkm (zmi 174) (zprog.getD 174 []) = true := by decide +kernel
set_option maxRecDepth 100000 in
theorem ck_175 : zchkm (zmi 175) (zprog.getD 175 []) = true := by decide +kernel
set_option maxRecDepth 100000 in
theorem ck_176 : zchkm (zmi 176) (zprog.getD 176 []) = true := by decide +kernel
set_option maxRecDepth 100000 in
theorem ck_177 : zchkm (zmi 177) (zprog.getD 177 []) = true := by decide +kernel
set_option maxRecDepth 100000 in
theorem ck_178 : zchkm (zmi 178) (zprog.getD 178 []) = true := by decide +kernel
set_option maxRecDepth 100000 in
theorem ck_179 : zchkm (zmi 179) (zprog.getD 179 []) = true := by decide +kernel
set_option maxRecDepth 100000 in
theorem ck_180 : zchkm (zmi 180) (zprog.getD 180 []) = true := by decide +kernel
set_option maxRecDepth 100000 in
theorem ck_181 : zchkm (zmi 181) (zprog.getD 181 []) = true := by decide +kernel
set_option maxRecDepth 100000 in
theorem ck_182 : zchkm (zmi 182) (zprog.getD 182 []) = true := by decide +kernel
set_option maxRecDepth 100000 in
theorem ck_183 : zchkm (zmi 183) (zprog.getD 183 []) = true := by decide +kernel
set_option maxRecDepth 100000 in
theorem ck_184 : zchkm (zmi 184) (zprog.getD 184 []) = true := by decide +kernel
set_option maxRecDepth 100000 in
theorem ck_185 : zchkm (zmi 185) (zprog.getD 185 []) = true := by decide +kernel
set_option maxRecDepth 100000 in
theorem ck_186 : zchkm (zmi 186) (zprog.getD 186 []) = true := by decide +kernel
set_option maxRecDepth 100000 in
theorem ck_187 : zchkm (zmi 187) (zprog.getD 187 []) = true := by decide +kernel
set_option maxRecDepth 100000 in
theorem ck_188 : zchkm (zmi 188) (zprog.getD 188 []) = true := by decide +kernel
set_option maxRecDepth 100000 in
theorem ck_189 : zchkm (zmi 189) (zprog.getD 189 []) = true := by decide +kernel
set_option maxRecDepth 100000 in
theorem ck_190 : zchkm (zmi 190) (zprog.getD 190 []) = true := by decide +kernel
set_option maxRecDepth 100000 in
theorem ck_191 : zchkm (zmi 191) (zprog.getD 191 []) = true := by decide +kernel
set_option maxRecDepth 100000 in
theorem ck_192 : zchkm (zmi 192) (zprog.getD 192 []) = true := by decide +kernel
set_option maxRecDepth 100000 in
theorem ck_193 : zchkm (zmi 193) (zprog.getD 193 []) = true := by decide +kernel
set_option maxRecDepth 100000 in
theorem ck_194 : zchkm (zmi 194) (zprog.getD 194 []) = true := by decide +kernel
set_option maxRecDepth 100000 in
theorem ck_195 : zchkm (zmi 195) (zprog.getD 195 []) = true := by decide +kernel
set_option maxRecDepth 100000 in
theorem ck_196 : zchkm (zmi 196) (zprog.getD 196 []) = true := by decide +kernel
set_option maxRecDepth 100000 in
theorem ck_197 : zchkm (zmi 197) (zprog.getD 197 []) = true := by decide +kernel
set_option maxRecDepth 100000 in
theorem ck_198 : zchkm (zmi 198) (zprog.getD 198 []) = true := by decide +kernel
set_option maxRecDepth 100000 in
theorem ck_199 : zchkm (zmi 199) (zprog.getD 199 []) = true := by decide +kernel
set_option maxRecDepth 100000 in
theorem ck_200 : zchkm (zmi 200) (zprog.getD 200 []) = true := by decide +kernel
set_option maxRecDepth 100000 in
theorem ck_201 : zchkm (zmi 201) (zprog.getD 201 []) = true := by decide +kernel
set_option maxRecDepth 100000 in
theorem ck_202 : zchkm (zmi 202) (zprog.getD 202 []) = true := by decide +kernel
set_option maxRecDepth 100000 in
theorem ck_203 : zchkm (zmi 203) (zprog.getD 203 []) = true := by decide +kernel
set_option maxRecDepth 100000 in
theorem ck_204 : zchkm (zmi 204) (zprog.getD 204 []) = true := by decide +kernel
set_option maxRecDepth 100000 in
theorem ck_205 : zchkm (zmi 205) (zprog.getD 205 []) = true := by decide +kernel
set_option maxRecDepth 100000 in
theorem ck_206 : zchkm (zmi 206) (zprog.getD 206 []) = true := by decide +kernel
set_option maxRecDepth 100000 in
theorem ck_207 : zchkm (zmi 207) (zprog.getD 207 []) = true := by decide +kernel
set_option maxRecDepth 100000 in
theorem ck_208 : zchkm (zmi 208) (zprog.getD 208 []) = true := by decide +kernel
set_option maxRecDepth 100000 in
theorem ck_209 : zchkm (zmi 209) (zprog.getD 209 []) = true := by decide +kernel
set_option maxRecDepth 100000 in
theorem ck_210 : zchkm (zmi 210) (zprog.getD 210 []) = true := by decide +kernel
set_option maxRecDepth 100000 in
theorem ck_211 : zchkm (zmi 211) (zprog.getD 211 []) = true := by decide +kernel
set_option maxRecDepth 100000 in
theorem ck_212 : zchkm (zmi 212) (zprog.getD 212 []) = true := by decide +kernel
set_option maxRecDepth 100000 in
theorem ck_213 : zchkm (zmi 213) (zprog.getD 213 []) = true := by decide +kernel
set_option maxRecDepth 100000 in
theorem ck_214 : zchkm (zmi 214) (zprog.getD 214 []) = true := by decide +kernel
set_option maxRecDepth 100000 in
theorem ck_215 : zchkm (zmi 215) (zprog.getD 215 []) = true := by decide +kernel
set_option maxRecDepth 100000 in
theorem ck_216 : zchkm (zmi 216) (zprog.getD 216 []) = true := by decide +kernel
set_option maxRecDepth 100000 in
theorem ck_217 : zchkm (zmi 217) (zprog.getD 217 []) = true := by decide +kernel
set_option maxRecDepth 100000 in
theorem ck_218 : zchkm (zmi 218) (zprog.getD 218 []) = true := by decide +kernel
set_option maxRecDepth 100000 in
theorem ck_219 : zchkm (zmi 219) (zprog.getD 219 []) = true := by decide +kernel
set_option maxRecDepth 100000 in
theorem ck_220 : zchkm (zmi 220) (zprog.getD 220 []) = true := by decide +kernel
set_option maxRecDepth 100000 in
theorem ck_221 : zchkm (zmi 221) (zprog.getD 221 []) = true := by decide +kernel
set_option maxRecDepth 100000 in
theorem ck_222 : zchkm (zmi 222) (zprog.getD 222 []) = true := by decide +kernel
set_option maxRecDepth 100000 in
theorem ck_223 : zchkm (zmi 223) (zprog.getD 223 []) = true := by decide +kernel
set_option maxRecDepth 100000 in
theorem ck_224 : zchkm (zmi 224) (zprog.getD 224 []) = true := by decide +kernel
set_option maxRecDepth 100000 in
theorem ck_225 : zchkm (zmi 225) (zprog.getD 225 []) = true := by decide +kernel
set_option maxRecDepth 100000 in
theorem ck_226 : zchkm (zmi 226) (zprog.getD 226 []) = true := by decide +kernel
set_option maxRecDepth 100000 in
theorem ck_227 : zchkm (zmi 227) (zprog.getD 227 []) = true := by decide +kernel
set_option maxRecDepth 100000 in
theorem ck_228 : zchkm (zmi 228) (zprog.getD 228 []) = true := by decide +kernel
set_option maxRecDepth 100000 in
theorem ck_229 : zchkm (zmi 229) (zprog.getD 229 []) = true := by decide +kernel
set_option maxRecDepth 100000 in
theorem ck_230 : zchkm (zmi 230) (zprog.getD 230 []) = true := by decide +kernel
set_option maxRecDepth 100000 in
theorem ck_231 : zchkm (zmi 231) (zprog.getD 231 []) = true := by decide +kernel
set_option maxRecDepth 100000 in
theorem ck_232 : zchkm (zmi 232) (zprog.getD 232 []) = true := by decide +kernel
set_option maxRecDepth 100000 in
theorem ck_233 : zchkm (zmi 233) (zprog.getD 233 []) = true := by decide +kernel
set_option maxRecDepth 100000 in
theorem ck_234 : zchkm (zmi 234) (zprog.getD 234 []) = true := by decide +kernel
set_option maxRecDepth 100000 in
theorem ck_235 : zchkm (zmi 235) (zprog.getD 235 []) = true := by decide +kernel
set_option maxRecDepth 100000 in
theorem ck_236 : zchkm (zmi 236) (zprog.getD 236 []) = true := by decide +kernel
set_option maxRecDepth 100000 in
theorem ck_237 : zchkm (zmi 237) (zprog.getD 237 []) = true := by decide +kernel
set_option maxRecDepth 100000 in
theorem ck_238 : zchkm (zmi 238) (zprog.getD 238 []) = true := by decide +kernel
set_option maxRecDepth 100000 in
theorem ck_239 : zchkm (zmi 239) (zprog.getD 239 []) = true := by decide +kernel
set_option maxRecDepth 100000 in
theorem ck_240 : zchkm (zmi 240) (zprog.getD 240 []) = true := by decide +kernel
set_option maxRecDepth 100000 in
theorem ck_241 : zchkm (zmi 241) (zprog.getD 241 []) = true := by decide +kernel
set_option maxRecDepth 100000 in
theorem ck_242 : zchkm (zmi 242) (zprog.getD 242 []) = true := by decide +kernel
set_option maxRecDepth 100000 in
theorem ck_243 : zchkm (zmi 243) (zprog.getD 243 []) = true := by decide +kernel
set_option maxRecDepth 100000 in
theorem ck_244 : zchkm (zmi 244) (zprog.getD 244 []) = true := by decide +kernel
set_option maxRecDepth 100000 in
theorem ck_245 : zchkm (zmi 245) (zprog.getD 245 []) = true := by decide +kernel
set_option maxRecDepth 100000 in
theorem ck_246 : zchkm (zmi 246) (zprog.getD 246 []) = true := by decide +kernel
set_option maxRecDepth 100000 in
theorem ck_247 : zchkm (zmi 247) (zprog.getD 247 []) = true := by decide +kernel
set_option maxRecDepth 100000 in
theorem ck_248 : zchkm (zmi 248) (zprog.getD 248 []) = true := by decide +kernel
set_option maxRecDepth 100000 in
theorem ck_249 : zchkm (zmi 249) (zprog.getD 249 []) = true := by decide +kernel
set_option maxRecDepth 100000 in
theorem ck_250 : zchkm (zmi 250) (zprog.getD 250 []) = true := by decide +kernel
set_option maxRecDepth 100000 in
theorem ck_251 : zchkm (zmi 251) (zprog.getD 251 []) = true := by decide +kernel
set_option maxRecDepth 100000 in
theorem ck_252 : zchkm (zmi 252) (zprog.getD 252 []) = true := by decide +kernel
theorem zck_all : ∀ j, j < 253 → zchkm (zmi j) (zprog.getD j []) = true := fun j h => match j, h with
  | 0, _ => ck_0
  | 1, _ => ck_1
  | 2, _ => ck_2
  | 3, _ => ck_3
  | 4, _ => ck_4
  | 5, _ => ck_5
  | 6, _ => ck_6
  | 7, _ => ck_7
  | 8, _ => ck_8
  | 9, _ => ck_9
  | 10, _ => ck_10
  | 11, _ => ck_11
  | 12, _ => ck_12
  | 13, _ => ck_13
  | 14, _ => ck_14
  | 15, _ => ck_15
  | 16, _ => ck_16
  | 17, _ => ck_17
  | 18, _ => ck_18
  | 19, _ => ck_19
  | 20, _ => ck_20
  | 21, _ => ck_21
  | 22, _ => ck_22
  | 23, _ => ck_23
  | 24, _ => ck_24
  | 25, _ => ck_25
  | 26, _ => ck_26
  | 27, _ => ck_27
  | 28, _ => ck_28
  | 29, _ => ck_29
  | 30, _ => ck_30
  | 31, _ => ck_31
  | 32, _ => ck_32
  | 33, _ => ck_33
  | 34, _ => ck_34
  | 35, _ => ck_35
  | 36, _ => ck_36
  | 37, _ => ck_37
  | 38, _ => ck_38
  | 39, _ => ck_39
  | 40, _ => ck_40
  | 41, _ => ck_41
  | 42, _ => ck_42
  | 43, _ => ck_43
  | 44, _ => ck_44
  | 45, _ => ck_45
  | 46, _ => ck_46
  | 47, _ => ck_47
  | 48, _ => ck_48
  | 49, _ => ck_49
  | 50, _ => ck_50
  | 51, _ => ck_51
  | 52, _ => ck_52
  | 53, _ => ck_53
  | 54, _ => ck_54
  | 55, _ => ck_55
  | 56, _ => ck_56
  | 57, _ => ck_57
  | 58, _ => ck_58
  | 59, _ => ck_59
  | 60, _ => ck_60
  | 61, _ => ck_61
  | 62, _ => ck_62
  | 63, _ => ck_63
  | 64, _ => ck_64
  | 65, _ => ck_65
  | 66, _ => ck_66
  | 67, _ => ck_67
  | 68, _ => ck_68
  | 69, _ => ck_69
  | 70, _ => ck_70
  | 71, _ => ck_71
  | 72, _ => ck_72
  | 73, _ => ck_73
  | 74, _ => ck_74
  | 75, _ => ck_75
  | 76, _ => ck_76
  | 77, _ => ck_77
  | 78, _ => ck_78
  | 79, _ => ck_79
  | 80, _ => ck_80
  | 81, _ => ck_81
  | 82, _ => ck_82
  | 83, _ => ck_83
  | 84, _ => ck_84
  | 85, _ => ck_85
  | 86, _ => ck_86
  | 87, _ => ck_87
  | 88, _ => ck_88
  | 89, _ => ck_89
  | 90, _ => ck_90
  | 91, _ => ck_91
  | 92, _ => ck_92
  | 93, _ => ck_93
  | 94, _ => ck_94
  | 95, _ => ck_95
  | 96, _ => ck_96
  | 97, _ => ck_97
  | 98, _ => ck_98
  | 99, _ => ck_99
  | 100, _ => ck_100
  | 101, _ => ck_101
  | 102, _ => ck_102
  | 103, _ => ck_103
  | 104, _ => ck_104
  | 105, _ => ck_105
  | 106, _ => ck_106
  | 107, _ => ck_107
  | 108, _ => ck_108
  | 109, _ => ck_109
  | 110, _ => ck_110
  | 111, _ => ck_111
  | 112, _ => ck_112
  | 113, _ => ck_113
  | 114, _ => ck_114
  | 115, _ => ck_115
  | 116, _ => ck_116
  | 117, _ => ck_117
  | 118, _ => ck_118
  | 119, _ => ck_119
  | 120, _ => ck_120
  | 121, _ => ck_121
  | 122, _ => ck_122
  | 123, _ => ck_123
  | 124, _ => ck_124
  | 125, _ => ck_125
  | 126, _ => ck_126
  | 127, _ => ck_127
  | 128, _ => ck_128
  | 129, _ => ck_129
  | 130, _ => ck_130
  | 131, _ => ck_131
  | 132, _ => ck_132
  | 133, _ => ck_133
  | 134, _ => ck_134
  | 135, _ => ck_135
  | 136, _ => ck_136
  | 137, _ => ck_137
  | 138, _ => ck_138
  | 139, _ => ck_139
  | 140, _ => ck_140
  | 141, _ => ck_141
  | 142, _ => ck_142
  | 143, _ => ck_143
  | 144, _ => ck_144
  | 145, _ => ck_145
  | 146, _ => ck_146
  | 147, _ => ck_147
  | 148, _ => ck_148
  | 149, _ => ck_149
  | 150, _ => ck_150
  | 151, _ => ck_151
  | 152, _ => ck_152
  | 153, _ => ck_153
  | 154, _ => ck_154
  | 155, _ => ck_155
  | 156, _ => ck_156
  | 157, _ => ck_157
  | 158, _ => ck_158
  | 159, _ => ck_159
  | 160, _ => ck_160
  | 161, _ => ck_161
  | 162, _ => ck_162
  | 163, _ => ck_163
  | 164, _ => ck_164
  | 165, _ => ck_165
  | 166, _ => ck_166
  | 167, _ => ck_167
  | 168, _ => ck_168
  | 169, _ => ck_169
  | 170, _ => ck_170
  | 171, _ => ck_171
  | 172, _ => ck_172
  | 173, _ => ck_173
  | 174, _ => ck_174
  | 175, _ => ck_175
  | 176, _ => ck_176
  | 177, _ => ck_177
  | 178, _ => ck_178
  | 179, _ => ck_179
  | 180, _ => ck_180
  | 181, _ => ck_181
  | 182, _ => ck_182
  | 183, _ => ck_183
  | 184, _ => ck_184
  | 185, _ => ck_185
  | 186, _ => ck_186
  | 187, _ => ck_187
  | 188, _ => ck_188
  | 189, _ => ck_189
  | 190, _ => ck_190
  | 191, _ => ck_191
  | 192, _ => ck_192
  | 193, _ => ck_193
  | 194, _ => ck_194
  | 195, _ => ck_195
  | 196, _ => ck_196
  | 197, _ => ck_197
  | 198, _ => ck_198
  | 199, _ => ck_199
  | 200, _ => ck_200
  | 201, _ => ck_201
  | 202, _ => ck_202
  | 203, _ => ck_203
  | 204, _ => ck_204
  | 205, _ => ck_205
  | 206, _ => ck_206
  | 207, _ => ck_207
  | 208, _ => ck_208
  | 209, _ => ck_209
  | 210, _ => ck_210
  | 211, _ => ck_211
  | 212, _ => ck_212
  | 213, _ => ck_213
  | 214, _ => ck_214
  | 215, _ => ck_215
  | 216, _ => ck_216
  | 217, _ => ck_217
  | 218, _ => ck_218
  | 219, _ => ck_219
  | 220, _ => ck_220
  | 221, _ => ck_221
  | 222, _ => ck_222
  | 223, _ => ck_223
  | 224, _ => ck_224
  | 225, _ => ck_225
  | 226, _ => ck_226
  | 227, _ => ck_227
  | 228, _ => ck_228
  | 229, _ => ck_229
  | 230, _ => ck_230
  | 231, _ => ck_231
  | 232, _ => ck_232
  | 233, _ => ck_233
  | 234, _ => ck_234
  | 235, _ => ck_235
  | 236, _ => ck_236
  | 237, _ => ck_237
  | 238, _ => ck_238
  | 239, _ => ck_239
  | 240, _ => ck_240
  | 241, _ => ck_241
  | 242, _ => ck_242
  | 243, _ => ck_243
  | 244, _ => ck_244
  | 245, _ => ck_245
  | 246, _ => ck_246
  | 247, _ => ck_247
  | 248, _ => ck_248
  | 249, _ => ck_249
  | 250, _ => ck_250
  | 251, _ => ck_251
  | 252, _ => ck_252
  | n + 253, h => absurd h (by omega)
end
section
/-! the law's stretches are its bytes -/
set_option maxRecDepth 100000 in
theorem ckl_0 : zchk code 19 "law" (some .boolean) 0 s_L_law_0 = true := by decide +kernel
set_option maxRecDepth 100000 in
theorem ckl_18 : zchk code 19 "law" (some .boolean) 18 s_L_law_18 = true := by decide +kernel
set_option maxRecDepth 100000 in
theorem ckl_196 : zchk code 19 "law" (some .boolean) 196 s_L_law_196 = true := by decide +kernel
set_option maxRecDepth 100000 in
theorem ckl_259 : zchk code 19 "law" (some .boolean) 259 s_L_law_259 = true := by decide +kernel
set_option maxRecDepth 100000 in
theorem ckl_282 : zchk code 19 "law" (some .boolean) 282 s_L_law_282 = true := by decide +kernel
set_option maxRecDepth 100000 in
theorem ckl_305 : zchk code 19 "law" (some .boolean) 305 s_L_law_305 = true := by decide +kernel
set_option maxRecDepth 100000 in
theorem ckl_348 : zchk code 19 "law" (some .boolean) 348 s_L_law_348 = true := by decide +kernel
set_option maxRecDepth 100000 in
theorem ckl_366 : zchk code 19 "law" (some .boolean) 366 s_L_law_366 = true := by decide +kernel
set_option maxRecDepth 100000 in
theorem ckl_367 : zchk code 19 "law" (some .boolean) 367 s_L_law_367 = true := by decide +kernel
set_option maxRecDepth 100000 in
theorem ckl_388 : zchk code 19 "law" (some .boolean) 388 s_L_law_388 = true := by decide +kernel
set_option maxRecDepth 100000 in
theorem ckl_389 : zchk code 19 "law" (some .boolean) 389 s_L_law_389 = true := by decide +kernel
set_option maxRecDepth 100000 in
theorem ckl_397 : zchk code 19 "law" (some .boolean) 397 s_L_law_397 = true := by decide +kernel
set_option maxRecDepth 100000 in
theorem ckl_415 : zchk code 19 "law" (some .boolean) 415 s_L_law_415 = true := by decide +kernel
end
section
/-! the law's stretches are its bytes -/
set_option maxRecDepth 100000 in
theorem ckl_416 : zchk code 19 "law" (some .boolean) 416 s_L_law_416 = true := by decide +kernel
set_option maxRecDepth 100000 in
theorem ckl_437 : zchk code 19 "law" (some .boolean) 437 s_L_law_437 = true := by decide +kernel
set_option maxRecDepth 100000 in
theorem ckl_438 : zchk code 19 "law" (some .boolean) 438 s_L_law_438 = true := by decide +kernel
set_option maxRecDepth 100000 in
theorem ckl_446 : zchk code 19 "law" (some .boolean) 446 s_L_law_446 = true := by decide +kernel
set_option maxRecDepth 100000 in
theorem ckl_469 : zchk code 19 "law" (some .boolean) 469 s_L_law_469 = true := by decide +kernel
set_option maxRecDepth 100000 in
theorem ckl_502 : zchk code 19 "law" (some .boolean) 502 s_L_law_502 = true := by decide +kernel
set_option maxRecDepth 100000 in
theorem ckl_515 : zchk code 19 "law" (some .boolean) 515 s_L_law_515 = true := by decide +kernel
set_option maxRecDepth 100000 in
theorem ckl_516 : zchk code 19 "law" (some .boolean) 516 s_L_law_516 = true := by decide +kernel
set_option maxRecDepth 100000 in
theorem ckl_532 : zchk code 19 "law" (some .boolean) 532 s_L_law_532 = true := by decide +kernel
set_option maxRecDepth 100000 in
theorem ckl_533 : zchk code 19 "law" (some .boolean) 533 s_L_law_533 = true := by decide +kernel
set_option maxRecDepth 100000 in
theorem ckl_541 : zchk code 19 "law" (some .boolean) 541 s_L_law_541 = true := by decide +kernel
set_option maxRecDepth 100000 in
theorem ckl_564 : zchk code 19 "law" (some .boolean) 564 s_L_law_564 = true := by decide +kernel
set_option maxRecDepth 100000 in
theorem ckl_607 : zchk code 19 "law" (some .boolean) 607 s_L_law_607 = true := by decide +kernel
end
section
/-! the law's stretches are its bytes -/
set_option maxRecDepth 100000 in
theorem ckl_650 : zchk code 19 "law" (some .boolean) 650 s_L_law_650 = true := by decide +kernel
set_option maxRecDepth 100000 in
theorem ckl_663 : zchk code 19 "law" (some .boolean) 663 s_L_law_663 = true := by decide +kernel
set_option maxRecDepth 100000 in
theorem ckl_696 : zchk code 19 "law" (some .boolean) 696 s_L_law_696 = true := by decide +kernel
set_option maxRecDepth 100000 in
theorem ckl_739 : zchk code 19 "law" (some .boolean) 739 s_L_law_739 = true := by decide +kernel
set_option maxRecDepth 100000 in
theorem ckl_802 : zchk code 19 "law" (some .boolean) 802 s_L_law_802 = true := by decide +kernel
set_option maxRecDepth 100000 in
theorem ckl_820 : zchk code 19 "law" (some .boolean) 820 s_L_law_820 = true := by decide +kernel
set_option maxRecDepth 100000 in
theorem ckl_821 : zchk code 19 "law" (some .boolean) 821 s_L_law_821 = true := by decide +kernel
set_option maxRecDepth 100000 in
theorem ckl_842 : zchk code 19 "law" (some .boolean) 842 s_L_law_842 = true := by decide +kernel
set_option maxRecDepth 100000 in
theorem ckl_843 : zchk code 19 "law" (some .boolean) 843 s_L_law_843 = true := by decide +kernel
set_option maxRecDepth 100000 in
theorem ckl_851 : zchk code 19 "law" (some .boolean) 851 s_L_law_851 = true := by decide +kernel
set_option maxRecDepth 100000 in
theorem ckl_874 : zchk code 19 "law" (some .boolean) 874 s_L_law_874 = true := by decide +kernel
set_option maxRecDepth 100000 in
theorem ckl_875 : zchk code 19 "law" (some .boolean) 875 s_L_law_875 = true := by decide +kernel
set_option maxRecDepth 100000 in
theorem ckl_901 : zchk code 19 "law" (some .boolean) 901 s_L_law_901 = true := by decide +kernel
end
section
/-! the law's stretches are its bytes -/
set_option maxRecDepth 100000 in
theorem ckl_902 : zchk code 19 "law" (some .boolean) 902 s_L_law_902 = true := by decide +kernel
set_option maxRecDepth 100000 in
theorem ckl_910 : zchk code 19 "law" (some .boolean) 910 s_L_law_910 = true := by decide +kernel
set_option maxRecDepth 100000 in
theorem ckl_943 : zchk code 19 "law" (some .boolean) 943 s_L_law_943 = true := by decide +kernel
set_option maxRecDepth 100000 in
theorem ckl_996 : zchk code 19 "law" (some .boolean) 996 s_L_law_996 = true := by decide +kernel
set_option maxRecDepth 100000 in
theorem ckl_1019 : zchk code 19 "law" (some .boolean) 1019 s_L_law_1019 = true := by decide +kernel
set_option maxRecDepth 100000 in
theorem ckl_1042 : zchk code 19 "law" (some .boolean) 1042 s_L_law_1042 = true := by decide +kernel
set_option maxRecDepth 100000 in
theorem ckl_1065 : zchk code 19 "law" (some .boolean) 1065 s_L_law_1065 = true := by decide +kernel
set_option maxRecDepth 100000 in
theorem ckl_1078 : zchk code 19 "law" (some .boolean) 1078 s_L_law_1078 = true := by decide +kernel
set_option maxRecDepth 100000 in
theorem ckl_1101 : zchk code 19 "law" (some .boolean) 1101 s_L_law_1101 = true := by decide +kernel
set_option maxRecDepth 100000 in
theorem ckl_1124 : zchk code 19 "law" (some .boolean) 1124 s_L_law_1124 = true := by decide +kernel
set_option maxRecDepth 100000 in
theorem ckl_1147 : zchk code 19 "law" (some .boolean) 1147 s_L_law_1147 = true := by decide +kernel
set_option maxRecDepth 100000 in
theorem ckl_1190 : zchk code 19 "law" (some .boolean) 1190 s_L_law_1190 = true := by decide +kernel
set_option maxRecDepth 100000 in
theorem ckl_1243 : zchk code 19 "law" (some .boolean) 1243 s_L_law_1243 = true := by decide +kernel
end
section
/-! the law's stretches are its bytes -/
set_option maxRecDepth 100000 in
theorem ckl_1286 : zchk code 19 "law" (some .boolean) 1286 s_L_law_1286 = true := by decide +kernel
set_option maxRecDepth 100000 in
theorem ckl_1329 : zchk code 19 "law" (some .boolean) 1329 s_L_law_1329 = true := by decide +kernel
set_option maxRecDepth 100000 in
theorem ckl_1403 : zchk code 19 "law" (some .boolean) 1403 s_L_law_1403 = true := by decide +kernel
set_option maxRecDepth 100000 in
theorem ckl_1426 : zchk code 19 "law" (some .boolean) 1426 s_L_law_1426 = true := by decide +kernel
set_option maxRecDepth 100000 in
theorem ckl_1459 : zchk code 19 "law" (some .boolean) 1459 s_L_law_1459 = true := by decide +kernel
set_option maxRecDepth 100000 in
theorem ckl_1482 : zchk code 19 "law" (some .boolean) 1482 s_L_law_1482 = true := by decide +kernel
set_option maxRecDepth 100000 in
theorem ckl_1505 : zchk code 19 "law" (some .boolean) 1505 s_L_law_1505 = true := by decide +kernel
set_option maxRecDepth 100000 in
theorem ckl_1528 : zchk code 19 "law" (some .boolean) 1528 s_L_law_1528 = true := by decide +kernel
set_option maxRecDepth 100000 in
theorem ckl_1534 : zchk code 19 "law" (some .boolean) 1534 s_L_law_1534 = true := by decide +kernel
theorem ck_law : p_L_law.all (fun x => zchk code 19 "law" (some .boolean) x.1 x.2) = true := by
  simp only [p_L_law, List.all_cons, List.all_nil, Bool.and_true, Bool.true_and, ckl_0, ckl_18, ckl_196, ckl_259, ckl_282, ckl_305, ckl_348, ckl_366, ckl_367, ckl_388, ckl_389, ckl_397, ckl_415, ckl_416, ckl_437, ckl_438, ckl_446, ckl_469, ckl_502, ckl_515, ckl_516, ckl_532, ckl_533, ckl_541, ckl_564, ckl_607, ckl_650, ckl_663, ckl_696, ckl_739, ckl_802, ckl_820, ckl_821, ckl_842, ckl_843, ckl_851, ckl_874, ckl_875, ckl_901, ckl_902, ckl_910, ckl_943, ckl_996, ckl_1019, ckl_1042, ckl_1065, ckl_1078, ckl_1101, ckl_1124, ckl_1147, ckl_1190, ckl_1243, ckl_1286, ckl_1329, ckl_1403, ckl_1426, ckl_1459, ckl_1482, ckl_1505, ckl_1528, ckl_1534]
end
section
/-! THE CLAIM OUT OF ONE WALK OF THE LAW'S BODY. Your part is whole_start (and what it stands on); all else here is the same for every law, but numbers. -/
def R_law : String := "PaperWayLaw"
def lw_P (b : Addr) (xs : List Int32) (args : Array Value) (s : State) : Prop := args = #[.ref b] ∧ s.IntsAt b xs ∧ xs.length ≤ 3072 ∧ (Jvm.Cond.and given_1 narrow_1).before args s = true
def lw_Q (_ : Array Value) (s : State) (o : Outcome) (t : State) : Prop := o = .returned (some (.int 1)) ∧ Framed s o t [] 600000 7302250
def lw_Z (below : List Frame) (a : Array Value) (s : State) : State → Prop := fun t => ∃ o, t.status = .running ∧ Ended t below o ∧ lw_Q a s o t
/-- the law's own end, with 1 on the stack, nothing written that was there before, its room as the claim has it -/
theorem lw_ret {p : Program} {l : Launch} {e : Env} {s : State} {m : MethodId} {below : List Frame} {meth : Method} {c : Code} {b : Nat} (hx : p.tables.exec = Jvm.exec) (hb : c.code = code) (hr : meth.sig.returnType = ret) (hlocks : meth.locks = false) {pc : Nat} {H : Heap} {ls : Array Slot} (hdg : decode code pc = .ok (.ireturn, 1)) : W p l e room_1 s m #[Value.ref b] below meth c H [] 600000 7302250 (lw_Z below #[Value.ref b] s) (F0 m pc ls [.int 1]) := by
  intro T hT X
  obtain ⟨fs, hret, hrun, hended, hW, hframe⟩ := X.leave (v := some (.int 1)) (hlocks := hlocks) (fun h => by rw [hr] at h; cases h)
  have hmeth' : T.vm.method? m = some meth := X.method'
  refine ⟨T.setFrames fs, ?_, .returned (some (.int 1)), hrun, hended, rfl, ⟨_, rfl⟩, hW, hframe⟩
  jvm_step X.here [X.here.top, hx, hb, hdg, hmeth', hr, ret, narrow_b1]
  (try refine ⟨rfl, ?_⟩); (try refine ⟨rfl, ?_⟩)
  first | (intro acts; rw [hret _ acts rfl rfl rfl]) | rw [hret _ _ rfl rfl rfl]
  exact Steps.refl _
/-- what holds at the law's entry: the machine, the code, the tables' words (any of lw_tbl by 'hts w (by decide +kernel)'), the script of L ints xs at the cell b, what the Statement gives of the start (any of its parts by flat_of_before) -/
def lw_At (p : Program) (s : State) (m : MethodId) (meth : Method) (c : Code) (b L : Nat) (xs : Nat → Int32) : Prop :=
  p.tables.exec = Jvm.exec ∧ c.code = code ∧ meth.sig.returnType = ret ∧ c.maxLocals = 4 ∧ s.vm.findClass R_law = some m.cls ∧ (∀ w ∈ lw_tbl, w.before #[Value.ref b] s = true) ∧ va_X b L xs s s.heap ∧ b < s.heap.size ∧ meth.locks = false ∧ (Jvm.Cond.and given_1 narrow_1).before #[Value.ref b] s = true ∧ meth.name = "law"

def ztm (i : Nat) : Term := .string (zsown i) (zsidx i)
abbrev ztv (i : Nat) : Term := .field (ztm i) "java/lang/String" "value" "[B"
def zsc1 (i : Nat) : List Cond := [.exactly (ztm i) "java/lang/String", .eq (.field (ztm i) "java/lang/String" "coder" "B") (.int 0), .arrayOf (ztv i) .byte, .eq (.length (ztv i)) (.int (Int32.ofNat (zslen.getD i 0)))]
def zsc2 (i : Nat) : List Cond := (List.range (zslen.getD i 0)).map fun j => .eq (.elem (ztv i) (.int (Int32.ofNat j))) (.int ((zsbyt.getD i []).getD j 0))
def zord : List Nat := [0, 1, 4, 5, 6, 7, 8, 2, 3, 9]
def zpos (i : Nat) : Nat := [0, 1, 7, 8, 2, 3, 4, 5, 6, 9].getD i 0
theorem zord_all : ∀ i : Nat, i < 10 → i ∈ zord := by decide +kernel
theorem zpos_all : ∀ i : Nat, i < 10 → ∀ j : Nat, j < 10 → i ≠ j → i ∈ zord.take (zpos j) ∨ j ∈ zord.take (zpos i) := by decide +kernel
def zsc3 (i : Nat) : List Cond := (zord.take (zpos i)).map fun k => .not (.eq (ztm k) (ztm i))
def zscA (i : Nat) : List Cond := zsc1 i ++ (zsc2 i ++ zsc3 i)
set_option maxRecDepth 100000 in
theorem zsc_sub : List.Sublist (zord.flatMap zscA) (flatC (Jvm.Cond.and given_1 narrow_1)) := by decide +kernel
theorem zsc_in {i : Nat} (hi : i < 10) {w : Cond} (h : w ∈ zscA i) : w ∈ flatC (Jvm.Cond.and given_1 narrow_1) := zsc_sub.subset (List.mem_flatMap.mpr ⟨i, zord_all i hi, h⟩)
set_option maxRecDepth 100000 in
theorem zst_in : ∀ w ∈ ([.eq (.static "java/lang/String" "COMPACT_STRINGS" "Z") (.int 1), .isRef (.static "jdk/internal/util/Preconditions" "SIOOBE_FORMATTER" "Ljava/util/function/BiFunction;")] : List Cond), w ∈ flatC (Jvm.Cond.and given_1 narrow_1) := by decide +kernel
def zneed : List Cond := [.arrayOver (.object "PaperWay$Job"), .arrayOver (.array .long), .laysStatic "java/lang/String" "COMPACT_STRINGS" "Z", .initialized "java/lang/String", .laysStatic "jdk/internal/util/Preconditions" "SIOOBE_FORMATTER" "Ljava/util/function/BiFunction;", .initialized "jdk/internal/util/Preconditions"] ++
  (znest ++ ((List.range 13).map (fun ci => .instantiable (zcl ci).1 (zcl ci).2.2) ++ (List.range 10).map fun k => .stringRef (zsown k) (zsidx k) (zstx k)))
set_option maxRecDepth 100000 in
theorem zneed_ok : zneed.all (fun w => decide (w ∈ lw_tbl)) = true := by decide +kernel
theorem zneed_in {w : Cond} (h : w ∈ zneed) : w ∈ lw_tbl := of_decide_eq_true (List.all_eq_true.mp zneed_ok w h)
section ZLW
variable {s : State} {b L : Nat} {xs : Nat → Int32}
theorem zK_of (hts : ∀ w ∈ lw_tbl, w.before #[Value.ref b] s = true) : ∃ (D : va_G) (cA : Nat → ClassId), va_K D vwCl (zTY cA) s := by
  have hgd : ∀ w ∈ zgood, w.before #[Value.ref b] s = true := fun w hw => hts w (List.mem_filter.mp hw).1
  have h0 : ∀ ci : Nat, ∃ q : ClassId × (Nat → Nat), ci < 13 → u_Kn s (zcl ci).1 (zcl ci).2.1 (zcl ci).2.2 q.1 q.2 := by
    intro ci
    by_cases hc : ci < 13
    · obtain ⟨cC, iS, h⟩ := u_known hgd (zcl_in hc) (hts (.instantiable (zcl ci).1 (zcl ci).2.2) (zneed_in (List.mem_append_right _ (List.mem_append_right _ (List.mem_append_left _ (List.mem_map.mpr ⟨ci, List.mem_range.mpr hc, rfl⟩))))))
      exact ⟨(cC, iS), fun _ => h⟩
    · exact ⟨(default, fun _ => 0), fun h => absurd h hc⟩
  obtain ⟨g, hg⟩ := Classical.axiomOfChoice h0
  have harr : ∀ ty : FieldType, Cond.arrayClass ty ∈ zfix → ∃ c : ClassId, ArrOfT s c ty ∧ s.vm.findClass ("[" ++ ty.toString) = some c := by
    intro ty h
    obtain ⟨c, k, comp, f1, f2, f3⟩ := Cond.arrayClass_spec (hgd _ (zfix_in h))
    exact ⟨c, fun N z => ⟨(fun k h => by cases h), k, f2, comp, f3⟩, f1⟩
  obtain ⟨c0, a0, b0⟩ := harr .int (by decide +kernel)
  obtain ⟨c1, a1, b1⟩ := harr .boolean (by decide +kernel)
  obtain ⟨c2, a2, b2⟩ := harr .byte (by decide +kernel)
  obtain ⟨c3, a3, b3⟩ := harr .long (by decide +kernel)
  obtain ⟨comp4, c4, k4, d1, d2, d3, d4, d5⟩ := Cond.arrayOver_spec (hts (.arrayOver (.object "PaperWay$Job")) (zneed_in (by decide +kernel)))
  obtain ⟨comp5, c5, k5, e1, e2, e3, e4, e5⟩ := arrayOverA_spec (hts (.arrayOver (.array .long)) (zneed_in (by decide +kernel)))
  refine ⟨(fun c => (g c).1, fun c => (g c).2), fun k => [c0, c1, c2, c3, c4, c5].getD k c0, ⟨fun c q hq => ?_, fun k q hq => ?_⟩⟩
  · have hc : c < 13 := by
      have := (List.getElem?_eq_some_iff.mp hq).1
      exact this
    rw [zcl_at hc] at hq
    cases hq
    exact hg c hc
  · match k, hq with
    | 0, hq => cases hq; exact ⟨a0, b0⟩
    | 1, hq => cases hq; exact ⟨a1, b1⟩
    | 2, hq => cases hq; exact ⟨a2, b2⟩
    | 3, hq => cases hq; exact ⟨a3, b3⟩
    | 4, hq => cases hq; exact ⟨fun N z => ⟨(fun k h => by cases h), k4, d3, comp4, d4⟩, k4, comp4, d3, d4, d1, d5⟩
    | 5, hq => cases hq; exact ⟨fun N z => ⟨(fun k h => by cases h), k5, e3, comp5, e4⟩, e5⟩
    | k + 6, hq => cases hq
theorem zRO_of (hts : ∀ w ∈ lw_tbl, w.before #[Value.ref b] s = true) (hgv : (Jvm.Cond.and given_1 narrow_1).before #[Value.ref b] s = true) (hX : va_X b L xs s s.heap) (hb : b < s.heap.size) :
    ∃ e0 : Nat → Nat → Option Nat, (∀ r, e0 0 r = none) ∧ zRO e0 b L (fun j => (xs j).toInt) (fun q => s.heap.size ≤ q) s s.heap ∧ ∀ k, k < 10 → ∃ q, e0 4 k = some q ∧ vk_R (zsown k) (zsidx k) (zstx k) q s := by
  have hs := flat_of_before _ hgv
  have hA : ∀ a : Nat, a < s.heap.size → ¬ (fun q : Nat => s.heap.size ≤ q) a := fun a h => Nat.not_le.mpr h
  have hin : ∀ i : Nat, i < 10 → ∀ w ∈ zscA i, w.before #[Value.ref b] s = true := fun i hi w hw => hs w (zsc_in hi hw)
  have hlen : ∀ i : Nat, i < 10 → zslen.getD i 0 < 2 ^ 31 := by
    intro i hi
    have : ∀ i : Nat, i < 10 → zslen.getD i 0 < 100 := by decide +kernel
    exact Nat.lt_trans (this i hi) (by decide)
  obtain ⟨adK, adV, hS, htm⟩ := vk_Sof (args := #[Value.ref b]) (s := s) (N := 10) (tm := ztm) (len := zslen) (byt := zsbyt) (A := fun q => s.heap.size ≤ q) hlen
    (fun i hi => hin i hi _ (List.mem_append_left _ List.mem_cons_self))
    (fun i hi => hin i hi _ (List.mem_append_left _ (List.mem_cons_of_mem _ List.mem_cons_self)))
    (fun i hi => hin i hi _ (List.mem_append_left _ (List.mem_cons_of_mem _ (List.mem_cons_of_mem _ List.mem_cons_self))))
    (fun i hi => hin i hi _ (List.mem_append_left _ (List.mem_cons_of_mem _ (List.mem_cons_of_mem _ (List.mem_cons_of_mem _ List.mem_cons_self)))))
    (fun i hi j hj => hin i hi _ (List.mem_append_right _ (List.mem_append_left _ (List.mem_map.mpr ⟨j, List.mem_range.mpr hj, rfl⟩))))
    (fun i j hi hj hne => by
      rcases zpos_all i hi j hj hne with h | h
      · exact Or.inl (hin j hj _ (List.mem_append_right _ (List.mem_append_right _ (List.mem_map.mpr ⟨i, h, rfl⟩))))
      · exact Or.inr (hin i hi _ (List.mem_append_right _ (List.mem_append_right _ (List.mem_map.mpr ⟨j, h, rfl⟩))))) hA
  have hZ1 : va_Z "java/lang/String" "COMPACT_STRINGS" "Z" (.int 1) (fun q => s.heap.size ≤ q) s s.heap := va_Zof (args := #[Value.ref b]) (hts _ (zneed_in (by decide +kernel))) (hts _ (zneed_in (by decide +kernel))) (va_eqt (hs _ (zst_in _ List.mem_cons_self))) hA
  have hZ2 := va_Zqof (args := #[Value.ref b]) (s := s) (C := "jdk/internal/util/Preconditions") (n := "SIOOBE_FORMATTER") (d := "Ljava/util/function/BiFunction;") (A := fun q => s.heap.size ≤ q) (hts _ (zneed_in (by decide +kernel))) (hts _ (zneed_in (by decide +kernel))) (hs _ (zst_in _ (List.mem_cons_of_mem _ List.mem_cons_self))) hA
  have hX' : va_X b L (fun j => Int32.ofInt ((fun j => (xs j).toInt) j)) s s.heap := by
    have e : (fun j => Int32.ofInt ((fun j => (xs j).toInt) j)) = xs := by
      funext j
      exact Int32.ofInt_toInt (xs j)
    rw [e]
    exact hX
  obtain ⟨o6, h6⟩ : ∃ o6 : Option Nat, va_Z "jdk/internal/util/Preconditions" "SIOOBE_FORMATTER" "Ljava/util/function/BiFunction;" (va_rf o6) (fun q => s.heap.size ≤ q) s s.heap := by
    rcases hZ2 with h | ⟨t, h⟩
    · exact ⟨none, h⟩
    · exact ⟨some t, h⟩
  refine ⟨fun t k => if t = 0 then none else if t = 4 then some (adK k) else if t = 5 then some (adV k) else o6, fun r => rfl, ⟨⟨adK, adV, fun k hk => ⟨rfl, rfl⟩, hS⟩, hZ1, h6, hX', hb, Nat.not_le.mpr hb⟩, fun k hk => ⟨adK k, rfl, vk_R.of (hts _ (zneed_in (List.mem_append_right _ (List.mem_append_right _ (List.mem_append_right _ (List.mem_map.mpr ⟨k, List.mem_range.mpr hk, rfl⟩)))))) (htm k hk)⟩⟩
end ZLW
/-- the memory at the start: the script, and names for all that will be made -/
def zmu0 (n : Nat) (xs : Nat → Int) (ns : List (Nat × Nat)) : ZM := (fun r o => if r = 0 ∧ o = 0 then some (6, n) else none, fun _ _ _ => zi 0, fun _ _ j => xs j, ns, 0, 0)
end
section
/-! the constructors, by computing (names by wip/whole/gen25.py) -/
def zcF (F : Nat) : Nat → Nat → List ZV → ZM → ZO
  | 0, _, _, _ => none
  | d + 1, j, as, μ => if zrcvok (zrcv (zmi j)) as μ = true ∧ (as.map zcat).sum ≤ zmx (zmi j) ∧ j < 253 then zrunF (zcF F d) (zseg j) F 0 (zloc as (zmx (zmi j))) [] μ else none
theorem zexec_cm {c1 c2 : Nat → List ZV → ZM → ZO} {r : Nat → List ZV → List ZV → ZM → ZO} (h : ∀ j as μ, c1 j as μ = none ∨ c2 j as μ = c1 j as μ) :
    ∀ (k : List ZN) (ls st : List ZV) (μ : ZM) (x : Option ZV × ZM), zexec c1 r k ls st μ = some x → zexec c2 r k ls st μ = some x
  | [], _, _, _, _, hx => by simp [zexec] at hx
  | (i, n, p) :: k, ls, st, μ, x, hx => by
    have ih := zexec_cm (r := r) h k
    revert hx
    unfold zexec
    rcases h p.1 ((st.take p.2.1).reverse) μ with e | e
    · rw [e]
      generalize c2 p.1 ((st.take p.2.1).reverse) μ = q
      dsimp only
      (repeat' split) <;> first
        | exact fun hx => hx
        | exact fun hx => ih _ _ _ _ hx
        | (intro hx; cases hx; done)
    · rw [e]
      generalize c1 p.1 ((st.take p.2.1).reverse) μ = q
      rcases q with _ | ⟨_ | v, μ'⟩ <;> dsimp only <;> (repeat' split) <;> first
        | exact fun hx => hx
        | exact fun hx => ih _ _ _ _ hx
        | (intro hx; cases hx; done)
theorem zrunF_cm {c1 c2 : Nat → List ZV → ZM → ZO} (h : ∀ j as μ x, c1 j as μ = some x → c2 j as μ = some x) {seg : Nat → List ZN} : ∀ (n l : Nat) (ls st : List ZV) (μ : ZM) (x : Option ZV × ZM), zrunF c1 seg n l ls st μ = some x → zrunF c2 seg n l ls st μ = some x
  | 0, _, _, _, _, _, hx => by simp [zrunF] at hx
  | n + 1, l, ls, st, μ, x, hx => by
    have h' : ∀ j as μ, c1 j as μ = none ∨ c2 j as μ = c1 j as μ := fun j as μ => by
      cases e : c1 j as μ with
      | none => exact Or.inl rfl
      | some y => exact Or.inr (h _ _ _ _ e)
    have h1 : zexec c1 (zrunF c1 seg n) (seg l) ls st μ = some x := hx
    exact zexec_cm h' _ _ _ _ _ (zexec_mono (fun l ls st μ x q => zrunF_cm h n l ls st μ x q) _ _ _ _ _ h1)
theorem zcF_ok {F : Nat} : ∀ (d j : Nat) (as : List ZV) (μ : ZM) (x : Option ZV × ZM), zcF F d j as μ = some x → zc d j as μ = some x
  | 0, _, _, _, _, h => by simp [zcF] at h
  | d + 1, j, as, μ, x, h => by
    unfold zcF at h
    unfold zc
    split at h
    · rename_i hh
      rw [if_pos hh]
      exact zrun_iff.mpr ⟨F, zrunF_cm (zcF_ok d) F 0 _ _ _ _ h⟩
    · cases h
def znames : List (Nat × Nat) := [(2, 0), (3, 0), (3, 1), (3, 5), (3, 6), (3, 7), (4, 0), (4, 1), (4, 2), (4, 3), (6, 0), (7, 0), (7, 1), (7, 2), (7, 3), (7, 4), (7, 5), (6, 6), (6, 7), (6, 8), (6, 9), (6, 10), (6, 11), (6, 12), (6, 13), (6, 15), (21, 0), (21, 3), (21, 4), (21, 6), (22, 0), (22, 1), (22, 2), (22, 3), (10, 0), (10, 5), (10, 6), (10, 7), (10, 8), (8, 0), (9, 0), (9, 1), (9, 2), (9, 3), (9, 4), (9, 5), (8, 6), (8, 7), (8, 8), (8, 9), (8, 10), (8, 11), (8, 12), (8, 13), (8, 15), (23, 0), (23, 3), (23, 4), (23, 6), (24, 0), (24, 1), (24, 2), (24, 3), (5, 0), (5, 1), (5, 2), (5, 3), (11, 0), (11, 2), (11, 3), (11, 4), (11, 5), (11, 14), (11, 15), (11, 16), (11, 17), (11, 18), (2, 6), (12, 0), (12, 2), (12, 3), (12, 4), (12, 5), (12, 14), (12, 15), (12, 16), (12, 17), (12, 18), (13, 0), (13, 2), (13, 3), (13, 4), (13, 5), (13, 14), (13, 15), (13, 16), (13, 17), (13, 18), (2, 7), (14, 0), (14, 3), (14, 4), (14, 5), (15, 0), (15, 2), (15, 3), (15, 4), (15, 5), (15, 14), (15, 15), (15, 16), (15, 17), (15, 18), (16, 0), (16, 4), (16, 5), (17, 0), (18, 0), (18, 1), (18, 10), (18, 11), (18, 12), (18, 13), (18, 2), (18, 3), (19, 0), (19, 3), (19, 4), (19, 6), (20, 0), (20, 3), (20, 4), (20, 6), (1, 0), (1, 2), (1, 4), (1, 5), (1, 6), (1, 7), (1, 8), (1, 9), (1, 10), (1, 11), (1, 24), (1, 25), (1, 26), (1, 31), (1, 32), (1, 33), (1, 34), (1, 35), (1, 36), (1, 37), (1, 38), (1, 39), (1, 40), (1, 41), (1, 42), (1, 43), (1, 44), (1, 45), (1, 46), (1, 47), (1, 48), (1, 49), (1, 50), (1, 51), (1, 55), (1, 56), (1, 57), (1, 58), (1, 59), (1, 60), (1, 63), (1, 64), (1, 67), (1, 68), (1, 69)]
def zmuC : ZM := (fun _ _ => none, fun _ _ _ => zi 0, fun _ _ _ => 0, znames, 0, 0)
def zbn (ci n : Nat) (μ : ZM) : ZM := match znew (ci + 10) n (zdfl ci (zsrt ci)) μ with
  | some (_, μ') => μ'
  | none => μ
def zbq (ci n : Nat) (μ : ZM) : Option (Nat × Nat) := match znew (ci + 10) n (zdfl ci (zsrt ci)) μ with
  | some (q, _) => some q
  | none => none
def zbc (o : ZO) (μ0 : ZM) : ZM := match o with
  | some (_, μ) => μ
  | none => μ0
def zbv (o : ZO) : Bool := match o with
  | some (none, _) => true
  | _ => false
def zb1 : ZM := zbn 11 13 zmuC
def zb2 : ZM := zbc (zcF 400 13 j_X11_init [zr 2 0] zb1) zmuC
def zb3 : ZM := zbn 12 69 zb2
def zb4 : ZM := zbc (zcF 400 13 j_X12_init [zr 1 0] zb3) zmuC
theorem zb_c1 : zbq 11 13 zmuC = some (2, 0) := by decide +kernel
set_option maxRecDepth 100000 in
theorem zb_c2 : zbv (zcF 400 13 j_X11_init [zr 2 0] zb1) = true := by decide +kernel
set_option maxRecDepth 100000 in
theorem zb_c3 : zbq 12 69 zb2 = some (1, 0) := by decide +kernel
set_option maxRecDepth 100000 in
theorem zb_c4 : zbv (zcF 400 13 j_X12_init [zr 1 0] zb3) = true := by decide +kernel
end
