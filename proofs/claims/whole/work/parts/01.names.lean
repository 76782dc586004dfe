/-- a private method of a class that the tables say can be made, by its rows of tables_1 -/
def lw_okq (q : MethodName × Nat) : Prop := (q.1.cls ≠ "java/lang/invoke/MethodHandle" ∧ q.1.cls ≠ "java/lang/invoke/VarHandle") ∧ Cond.instantiable q.1.cls q.2 ∈ tables_1 ∧ Cond.privateMethod q.1 ∈ tables_1 ∧ Cond.instanceMethod q.1 ∈ tables_1
theorem lw_p0 : lw_okq (⟨"LanternBridge$Night", "take", "(C)Z"⟩, 11) := ⟨⟨by decide +kernel, by decide +kernel⟩, List.mem_of_getElem? (i := 37) (by decide +kernel), List.mem_of_getElem? (i := 247) (by decide +kernel), List.mem_of_getElem? (i := 248) (by decide +kernel)⟩
theorem lw_p1 : lw_okq (⟨"LanternBridge$Night", "signAt", "(I)I"⟩, 11) := ⟨⟨by decide +kernel, by decide +kernel⟩, List.mem_of_getElem? (i := 37) (by decide +kernel), List.mem_of_getElem? (i := 251) (by decide +kernel), List.mem_of_getElem? (i := 252) (by decide +kernel)⟩
theorem lw_p2 : lw_okq (⟨"LanternBridge$Night", "readWord", "()I"⟩, 11) := ⟨⟨by decide +kernel, by decide +kernel⟩, List.mem_of_getElem? (i := 37) (by decide +kernel), List.mem_of_getElem? (i := 255) (by decide +kernel), List.mem_of_getElem? (i := 256) (by decide +kernel)⟩
theorem lw_p3 : lw_okq (⟨"LanternBridge$Night", "takeAll", "(Ljava/lang/String;)Z"⟩, 11) := ⟨⟨by decide +kernel, by decide +kernel⟩, List.mem_of_getElem? (i := 37) (by decide +kernel), List.mem_of_getElem? (i := 260) (by decide +kernel), List.mem_of_getElem? (i := 261) (by decide +kernel)⟩
theorem lw_p4 : lw_okq (⟨"LanternBridge$Night", "readNumber", "()I"⟩, 11) := ⟨⟨by decide +kernel, by decide +kernel⟩, List.mem_of_getElem? (i := 37) (by decide +kernel), List.mem_of_getElem? (i := 316) (by decide +kernel), List.mem_of_getElem? (i := 317) (by decide +kernel)⟩
theorem lw_p5 : lw_okq (⟨"LanternBridge$Night", "readEither", "(I)Z"⟩, 11) := ⟨⟨by decide +kernel, by decide +kernel⟩, List.mem_of_getElem? (i := 37) (by decide +kernel), List.mem_of_getElem? (i := 320) (by decide +kernel), List.mem_of_getElem? (i := 321) (by decide +kernel)⟩
theorem lw_p6 : lw_okq (⟨"LanternBridge$Night", "readBoth", "(I)Z"⟩, 11) := ⟨⟨by decide +kernel, by decide +kernel⟩, List.mem_of_getElem? (i := 37) (by decide +kernel), List.mem_of_getElem? (i := 324) (by decide +kernel), List.mem_of_getElem? (i := 325) (by decide +kernel)⟩
theorem lw_p7 : lw_okq (⟨"LanternBridge$Night", "readSingle", "(I)Z"⟩, 11) := ⟨⟨by decide +kernel, by decide +kernel⟩, List.mem_of_getElem? (i := 37) (by decide +kernel), List.mem_of_getElem? (i := 328) (by decide +kernel), List.mem_of_getElem? (i := 329) (by decide +kernel)⟩
theorem lw_p8 : lw_okq (⟨"LanternBridge$Night", "readTest", "()Z"⟩, 11) := ⟨⟨by decide +kernel, by decide +kernel⟩, List.mem_of_getElem? (i := 37) (by decide +kernel), List.mem_of_getElem? (i := 332) (by decide +kernel), List.mem_of_getElem? (i := 333) (by decide +kernel)⟩
theorem lw_p9 : lw_okq (⟨"LanternBridge$Night", "indexIn", "(Ljava/lang/String;)I"⟩, 11) := ⟨⟨by decide +kernel, by decide +kernel⟩, List.mem_of_getElem? (i := 37) (by decide +kernel), List.mem_of_getElem? (i := 337) (by decide +kernel), List.mem_of_getElem? (i := 338) (by decide +kernel)⟩
theorem lw_p10 : lw_okq (⟨"LanternBridge$Night", "addCode", "(I)V"⟩, 11) := ⟨⟨by decide +kernel, by decide +kernel⟩, List.mem_of_getElem? (i := 37) (by decide +kernel), List.mem_of_getElem? (i := 397) (by decide +kernel), List.mem_of_getElem? (i := 398) (by decide +kernel)⟩
theorem lw_p11 : lw_okq (⟨"LanternBridge$Night", "addClause", "(II)V"⟩, 11) := ⟨⟨by decide +kernel, by decide +kernel⟩, List.mem_of_getElem? (i := 37) (by decide +kernel), List.mem_of_getElem? (i := 401) (by decide +kernel), List.mem_of_getElem? (i := 402) (by decide +kernel)⟩
theorem lw_p12 : lw_okq (⟨"LanternBridge", "refresh", "()V"⟩, 7) := ⟨⟨by decide +kernel, by decide +kernel⟩, List.mem_of_getElem? (i := 23) (by decide +kernel), List.mem_of_getElem? (i := 552) (by decide +kernel), List.mem_of_getElem? (i := 553) (by decide +kernel)⟩
theorem lw_p13 : lw_okq (⟨"LanternBridge$Goings", "layMinutes", "(I)V"⟩, 8) := ⟨⟨by decide +kernel, by decide +kernel⟩, List.mem_of_getElem? (i := 158) (by decide +kernel), List.mem_of_getElem? (i := 562) (by decide +kernel), List.mem_of_getElem? (i := 563) (by decide +kernel)⟩
theorem lw_p14 : lw_okq (⟨"LanternBridge$Goings", "layFacts", "(LLanternBridge$Walker;II)V"⟩, 8) := ⟨⟨by decide +kernel, by decide +kernel⟩, List.mem_of_getElem? (i := 158) (by decide +kernel), List.mem_of_getElem? (i := 570) (by decide +kernel), List.mem_of_getElem? (i := 571) (by decide +kernel)⟩
theorem lw_p15 : lw_okq (⟨"LanternBridge$Night", "holds", "(I[I)Z"⟩, 11) := ⟨⟨by decide +kernel, by decide +kernel⟩, List.mem_of_getElem? (i := 37) (by decide +kernel), List.mem_of_getElem? (i := 584) (by decide +kernel), List.mem_of_getElem? (i := 585) (by decide +kernel)⟩
def lw_privs_1 : List (MethodName × Nat) := [(⟨"LanternBridge$Night", "take", "(C)Z"⟩, 11), (⟨"LanternBridge$Night", "signAt", "(I)I"⟩, 11), (⟨"LanternBridge$Night", "readWord", "()I"⟩, 11), (⟨"LanternBridge$Night", "takeAll", "(Ljava/lang/String;)Z"⟩, 11), (⟨"LanternBridge$Night", "readNumber", "()I"⟩, 11), (⟨"LanternBridge$Night", "readEither", "(I)Z"⟩, 11), (⟨"LanternBridge$Night", "readBoth", "(I)Z"⟩, 11), (⟨"LanternBridge$Night", "readSingle", "(I)Z"⟩, 11), (⟨"LanternBridge$Night", "readTest", "()Z"⟩, 11), (⟨"LanternBridge$Night", "indexIn", "(Ljava/lang/String;)I"⟩, 11), (⟨"LanternBridge$Night", "addCode", "(I)V"⟩, 11), (⟨"LanternBridge$Night", "addClause", "(II)V"⟩, 11), (⟨"LanternBridge", "refresh", "()V"⟩, 7), (⟨"LanternBridge$Goings", "layMinutes", "(I)V"⟩, 8), (⟨"LanternBridge$Goings", "layFacts", "(LLanternBridge$Walker;II)V"⟩, 8), (⟨"LanternBridge$Night", "holds", "(I[I)Z"⟩, 11)]
theorem lw_r1 : ∀ q ∈ lw_privs_1, lw_okq q := List.forall_mem_cons.mpr ⟨lw_p0, List.forall_mem_cons.mpr ⟨lw_p1, List.forall_mem_cons.mpr ⟨lw_p2, List.forall_mem_cons.mpr ⟨lw_p3, List.forall_mem_cons.mpr ⟨lw_p4, List.forall_mem_cons.mpr ⟨lw_p5, List.forall_mem_cons.mpr ⟨lw_p6, List.forall_mem_cons.mpr ⟨lw_p7, List.forall_mem_cons.mpr ⟨lw_p8, List.forall_mem_cons.mpr ⟨lw_p9, List.forall_mem_cons.mpr ⟨lw_p10, List.forall_mem_cons.mpr ⟨lw_p11, List.forall_mem_cons.mpr ⟨lw_p12, List.forall_mem_cons.mpr ⟨lw_p13, List.forall_mem_cons.mpr ⟨lw_p14, List.forall_mem_cons.mpr ⟨lw_p15, fun _ h => absurd h List.not_mem_nil⟩⟩⟩⟩⟩⟩⟩⟩⟩⟩⟩⟩⟩⟩⟩⟩
theorem lw_p16 : lw_okq (⟨"LanternBridge$Goings", "goesHeavier", "(II)Z"⟩, 8) := ⟨⟨by decide +kernel, by decide +kernel⟩, List.mem_of_getElem? (i := 158) (by decide +kernel), List.mem_of_getElem? (i := 588) (by decide +kernel), List.mem_of_getElem? (i := 589) (by decide +kernel)⟩
theorem lw_p17 : lw_okq (⟨"LanternBridge$Goings", "layCan", "()V"⟩, 8) := ⟨⟨by decide +kernel, by decide +kernel⟩, List.mem_of_getElem? (i := 158) (by decide +kernel), List.mem_of_getElem? (i := 616) (by decide +kernel), List.mem_of_getElem? (i := 617) (by decide +kernel)⟩
theorem lw_p18 : lw_okq (⟨"LanternBridge$Goings", "isBorne", "(I)Z"⟩, 8) := ⟨⟨by decide +kernel, by decide +kernel⟩, List.mem_of_getElem? (i := 158) (by decide +kernel), List.mem_of_getElem? (i := 620) (by decide +kernel), List.mem_of_getElem? (i := 621) (by decide +kernel)⟩
theorem lw_p19 : lw_okq (⟨"LanternBridge$Goings", "isBarred", "(II)Z"⟩, 8) := ⟨⟨by decide +kernel, by decide +kernel⟩, List.mem_of_getElem? (i := 158) (by decide +kernel), List.mem_of_getElem? (i := 624) (by decide +kernel), List.mem_of_getElem? (i := 625) (by decide +kernel)⟩
theorem lw_p20 : lw_okq (⟨"LanternBridge", "leastFor", "(II)I"⟩, 7) := ⟨⟨by decide +kernel, by decide +kernel⟩, List.mem_of_getElem? (i := 23) (by decide +kernel), List.mem_of_getElem? (i := 652) (by decide +kernel), List.mem_of_getElem? (i := 653) (by decide +kernel)⟩
theorem lw_p21 : lw_okq (⟨"LanternBridge$Search", "settleAll", "(IIZ)V"⟩, 3) := ⟨⟨by decide +kernel, by decide +kernel⟩, List.mem_of_getElem? (i := 194) (by decide +kernel), List.mem_of_getElem? (i := 661) (by decide +kernel), List.mem_of_getElem? (i := 662) (by decide +kernel)⟩
theorem lw_p22 : lw_okq (⟨"LanternBridge$Search", "leastUnsettled", "(I)I"⟩, 3) := ⟨⟨by decide +kernel, by decide +kernel⟩, List.mem_of_getElem? (i := 194) (by decide +kernel), List.mem_of_getElem? (i := 670) (by decide +kernel), List.mem_of_getElem? (i := 671) (by decide +kernel)⟩
theorem lw_p23 : lw_okq (⟨"LanternBridge$Search", "bankWithLantern", "(I)I"⟩, 3) := ⟨⟨by decide +kernel, by decide +kernel⟩, List.mem_of_getElem? (i := 194) (by decide +kernel), List.mem_of_getElem? (i := 674) (by decide +kernel), List.mem_of_getElem? (i := 675) (by decide +kernel)⟩
theorem lw_p24 : lw_okq (⟨"LanternBridge$Goings", "quickestOf", "(I)I"⟩, 8) := ⟨⟨by decide +kernel, by decide +kernel⟩, List.mem_of_getElem? (i := 158) (by decide +kernel), List.mem_of_getElem? (i := 743) (by decide +kernel), List.mem_of_getElem? (i := 744) (by decide +kernel)⟩
theorem lw_p25 : lw_okq (⟨"LanternBridge$Goings", "overByRule", "(II)I"⟩, 8) := ⟨⟨by decide +kernel, by decide +kernel⟩, List.mem_of_getElem? (i := 158) (by decide +kernel), List.mem_of_getElem? (i := 747) (by decide +kernel), List.mem_of_getElem? (i := 748) (by decide +kernel)⟩
theorem lw_p26 : lw_okq (⟨"LanternBridge$Goings", "slowestOf", "(I)I"⟩, 8) := ⟨⟨by decide +kernel, by decide +kernel⟩, List.mem_of_getElem? (i := 158) (by decide +kernel), List.mem_of_getElem? (i := 751) (by decide +kernel), List.mem_of_getElem? (i := 752) (by decide +kernel)⟩
theorem lw_p27 : lw_okq (⟨"LanternBridgeModel", "clauseHere", "()V"⟩, 24) := ⟨⟨by decide +kernel, by decide +kernel⟩, List.mem_of_getElem? (i := 916) (by decide +kernel), List.mem_of_getElem? (i := 1005) (by decide +kernel), List.mem_of_getElem? (i := 1006) (by decide +kernel)⟩
theorem lw_p28 : lw_okq (⟨"LanternBridgeModel", "here", "()I"⟩, 24) := ⟨⟨by decide +kernel, by decide +kernel⟩, List.mem_of_getElem? (i := 916) (by decide +kernel), List.mem_of_getElem? (i := 1009) (by decide +kernel), List.mem_of_getElem? (i := 1010) (by decide +kernel)⟩
theorem lw_p29 : lw_okq (⟨"LanternBridgeModel", "spells", "(Ljava/lang/String;)V"⟩, 24) := ⟨⟨by decide +kernel, by decide +kernel⟩, List.mem_of_getElem? (i := 916) (by decide +kernel), List.mem_of_getElem? (i := 1014) (by decide +kernel), List.mem_of_getElem? (i := 1015) (by decide +kernel)⟩
theorem lw_p30 : lw_okq (⟨"LanternBridgeModel", "must", "(I)V"⟩, 24) := ⟨⟨by decide +kernel, by decide +kernel⟩, List.mem_of_getElem? (i := 916) (by decide +kernel), List.mem_of_getElem? (i := 1020) (by decide +kernel), List.mem_of_getElem? (i := 1021) (by decide +kernel)⟩
theorem lw_p31 : lw_okq (⟨"LanternBridgeModel", "figures", "()I"⟩, 24) := ⟨⟨by decide +kernel, by decide +kernel⟩, List.mem_of_getElem? (i := 916) (by decide +kernel), List.mem_of_getElem? (i := 1024) (by decide +kernel), List.mem_of_getElem? (i := 1025) (by decide +kernel)⟩
def lw_privs_2 : List (MethodName × Nat) := [(⟨"LanternBridge$Goings", "goesHeavier", "(II)Z"⟩, 8), (⟨"LanternBridge$Goings", "layCan", "()V"⟩, 8), (⟨"LanternBridge$Goings", "isBorne", "(I)Z"⟩, 8), (⟨"LanternBridge$Goings", "isBarred", "(II)Z"⟩, 8), (⟨"LanternBridge", "leastFor", "(II)I"⟩, 7), (⟨"LanternBridge$Search", "settleAll", "(IIZ)V"⟩, 3), (⟨"LanternBridge$Search", "leastUnsettled", "(I)I"⟩, 3), (⟨"LanternBridge$Search", "bankWithLantern", "(I)I"⟩, 3), (⟨"LanternBridge$Goings", "quickestOf", "(I)I"⟩, 8), (⟨"LanternBridge$Goings", "overByRule", "(II)I"⟩, 8), (⟨"LanternBridge$Goings", "slowestOf", "(I)I"⟩, 8), (⟨"LanternBridgeModel", "clauseHere", "()V"⟩, 24), (⟨"LanternBridgeModel", "here", "()I"⟩, 24), (⟨"LanternBridgeModel", "spells", "(Ljava/lang/String;)V"⟩, 24), (⟨"LanternBridgeModel", "must", "(I)V"⟩, 24), (⟨"LanternBridgeModel", "figures", "()I"⟩, 24)]
theorem lw_r2 : ∀ q ∈ lw_privs_2, lw_okq q := List.forall_mem_cons.mpr ⟨lw_p16, List.forall_mem_cons.mpr ⟨lw_p17, List.forall_mem_cons.mpr ⟨lw_p18, List.forall_mem_cons.mpr ⟨lw_p19, List.forall_mem_cons.mpr ⟨lw_p20, List.forall_mem_cons.mpr ⟨lw_p21, List.forall_mem_cons.mpr ⟨lw_p22, List.forall_mem_cons.mpr ⟨lw_p23, List.forall_mem_cons.mpr ⟨lw_p24, List.forall_mem_cons.mpr ⟨lw_p25, List.forall_mem_cons.mpr ⟨lw_p26, List.forall_mem_cons.mpr ⟨lw_p27, List.forall_mem_cons.mpr ⟨lw_p28, List.forall_mem_cons.mpr ⟨lw_p29, List.forall_mem_cons.mpr ⟨lw_p30, List.forall_mem_cons.mpr ⟨lw_p31, fun _ h => absurd h List.not_mem_nil⟩⟩⟩⟩⟩⟩⟩⟩⟩⟩⟩⟩⟩⟩⟩⟩
theorem lw_p32 : lw_okq (⟨"LanternBridgeModel", "some", "()V"⟩, 24) := ⟨⟨by decide +kernel, by decide +kernel⟩, List.mem_of_getElem? (i := 916) (by decide +kernel), List.mem_of_getElem? (i := 1028) (by decide +kernel), List.mem_of_getElem? (i := 1029) (by decide +kernel)⟩
theorem lw_p33 : lw_okq (⟨"LanternBridgeModel", "every", "()V"⟩, 24) := ⟨⟨by decide +kernel, by decide +kernel⟩, List.mem_of_getElem? (i := 916) (by decide +kernel), List.mem_of_getElem? (i := 1032) (by decide +kernel), List.mem_of_getElem? (i := 1033) (by decide +kernel)⟩
theorem lw_p34 : lw_okq (⟨"LanternBridgeModel", "factor", "()V"⟩, 24) := ⟨⟨by decide +kernel, by decide +kernel⟩, List.mem_of_getElem? (i := 916) (by decide +kernel), List.mem_of_getElem? (i := 1036) (by decide +kernel), List.mem_of_getElem? (i := 1037) (by decide +kernel)⟩
theorem lw_p35 : lw_okq (⟨"LanternBridgeModel", "emits", "(I)V"⟩, 24) := ⟨⟨by decide +kernel, by decide +kernel⟩, List.mem_of_getElem? (i := 916) (by decide +kernel), List.mem_of_getElem? (i := 1040) (by decide +kernel), List.mem_of_getElem? (i := 1041) (by decide +kernel)⟩
theorem lw_p36 : lw_okq (⟨"LanternBridgeModel", "among", "(Ljava/lang/String;)I"⟩, 24) := ⟨⟨by decide +kernel, by decide +kernel⟩, List.mem_of_getElem? (i := 916) (by decide +kernel), List.mem_of_getElem? (i := 1045) (by decide +kernel), List.mem_of_getElem? (i := 1046) (by decide +kernel)⟩
theorem lw_p37 : lw_okq (⟨"LanternBridgeModel", "clauseOfB", "()V"⟩, 24) := ⟨⟨by decide +kernel, by decide +kernel⟩, List.mem_of_getElem? (i := 916) (by decide +kernel), List.mem_of_getElem? (i := 1050) (by decide +kernel), List.mem_of_getElem? (i := 1051) (by decide +kernel)⟩
theorem lw_p38 : lw_okq (⟨"LanternBridgeModel", "tellsHere", "(ILjava/lang/String;)V"⟩, 24) := ⟨⟨by decide +kernel, by decide +kernel⟩, List.mem_of_getElem? (i := 916) (by decide +kernel), List.mem_of_getElem? (i := 1056) (by decide +kernel), List.mem_of_getElem? (i := 1057) (by decide +kernel)⟩
theorem lw_p39 : lw_okq (⟨"LanternBridgeModel", "isPerson", "(I)Z"⟩, 24) := ⟨⟨by decide +kernel, by decide +kernel⟩, List.mem_of_getElem? (i := 916) (by decide +kernel), List.mem_of_getElem? (i := 1070) (by decide +kernel), List.mem_of_getElem? (i := 1071) (by decide +kernel)⟩
theorem lw_p40 : lw_okq (⟨"LanternBridgeModel", "tellsOf", "(II)I"⟩, 24) := ⟨⟨by decide +kernel, by decide +kernel⟩, List.mem_of_getElem? (i := 916) (by decide +kernel), List.mem_of_getElem? (i := 1078) (by decide +kernel), List.mem_of_getElem? (i := 1079) (by decide +kernel)⟩
theorem lw_p41 : lw_okq (⟨"LanternBridgeModel", "isSet", "(I)Z"⟩, 24) := ⟨⟨by decide +kernel, by decide +kernel⟩, List.mem_of_getElem? (i := 916) (by decide +kernel), List.mem_of_getElem? (i := 1086) (by decide +kernel), List.mem_of_getElem? (i := 1087) (by decide +kernel)⟩
theorem lw_p42 : lw_okq (⟨"LanternBridgeModel", "all", "()I"⟩, 24) := ⟨⟨by decide +kernel, by decide +kernel⟩, List.mem_of_getElem? (i := 916) (by decide +kernel), List.mem_of_getElem? (i := 1090) (by decide +kernel), List.mem_of_getElem? (i := 1091) (by decide +kernel)⟩
theorem lw_p43 : lw_okq (⟨"LanternBridgeModel", "minutesOf", "(II)I"⟩, 24) := ⟨⟨by decide +kernel, by decide +kernel⟩, List.mem_of_getElem? (i := 916) (by decide +kernel), List.mem_of_getElem? (i := 1094) (by decide +kernel), List.mem_of_getElem? (i := 1095) (by decide +kernel)⟩
theorem lw_p44 : lw_okq (⟨"LanternBridgeModel", "takes", "(III)I"⟩, 24) := ⟨⟨by decide +kernel, by decide +kernel⟩, List.mem_of_getElem? (i := 916) (by decide +kernel), List.mem_of_getElem? (i := 1098) (by decide +kernel), List.mem_of_getElem? (i := 1099) (by decide +kernel)⟩
theorem lw_p45 : lw_okq (⟨"LanternBridgeModel", "looks", "(III)V"⟩, 24) := ⟨⟨by decide +kernel, by decide +kernel⟩, List.mem_of_getElem? (i := 916) (by decide +kernel), List.mem_of_getElem? (i := 1102) (by decide +kernel), List.mem_of_getElem? (i := 1103) (by decide +kernel)⟩
theorem lw_p46 : lw_okq (⟨"LanternBridgeModel", "goes", "(II)Z"⟩, 24) := ⟨⟨by decide +kernel, by decide +kernel⟩, List.mem_of_getElem? (i := 916) (by decide +kernel), List.mem_of_getElem? (i := 1109) (by decide +kernel), List.mem_of_getElem? (i := 1110) (by decide +kernel)⟩
theorem lw_p47 : lw_okq (⟨"LanternBridgeModel", "canGo", "(II)Z"⟩, 24) := ⟨⟨by decide +kernel, by decide +kernel⟩, List.mem_of_getElem? (i := 916) (by decide +kernel), List.mem_of_getElem? (i := 1113) (by decide +kernel), List.mem_of_getElem? (i := 1114) (by decide +kernel)⟩
def lw_privs_3 : List (MethodName × Nat) := [(⟨"LanternBridgeModel", "some", "()V"⟩, 24), (⟨"LanternBridgeModel", "every", "()V"⟩, 24), (⟨"LanternBridgeModel", "factor", "()V"⟩, 24), (⟨"LanternBridgeModel", "emits", "(I)V"⟩, 24), (⟨"LanternBridgeModel", "among", "(Ljava/lang/String;)I"⟩, 24), (⟨"LanternBridgeModel", "clauseOfB", "()V"⟩, 24), (⟨"LanternBridgeModel", "tellsHere", "(ILjava/lang/String;)V"⟩, 24), (⟨"LanternBridgeModel", "isPerson", "(I)Z"⟩, 24), (⟨"LanternBridgeModel", "tellsOf", "(II)I"⟩, 24), (⟨"LanternBridgeModel", "isSet", "(I)Z"⟩, 24), (⟨"LanternBridgeModel", "all", "()I"⟩, 24), (⟨"LanternBridgeModel", "minutesOf", "(II)I"⟩, 24), (⟨"LanternBridgeModel", "takes", "(III)I"⟩, 24), (⟨"LanternBridgeModel", "looks", "(III)V"⟩, 24), (⟨"LanternBridgeModel", "goes", "(II)Z"⟩, 24), (⟨"LanternBridgeModel", "canGo", "(II)Z"⟩, 24)]
theorem lw_r3 : ∀ q ∈ lw_privs_3, lw_okq q := List.forall_mem_cons.mpr ⟨lw_p32, List.forall_mem_cons.mpr ⟨lw_p33, List.forall_mem_cons.mpr ⟨lw_p34, List.forall_mem_cons.mpr ⟨lw_p35, List.forall_mem_cons.mpr ⟨lw_p36, List.forall_mem_cons.mpr ⟨lw_p37, List.forall_mem_cons.mpr ⟨lw_p38, List.forall_mem_cons.mpr ⟨lw_p39, List.forall_mem_cons.mpr ⟨lw_p40, List.forall_mem_cons.mpr ⟨lw_p41, List.forall_mem_cons.mpr ⟨lw_p42, List.forall_mem_cons.mpr ⟨lw_p43, List.forall_mem_cons.mpr ⟨lw_p44, List.forall_mem_cons.mpr ⟨lw_p45, List.forall_mem_cons.mpr ⟨lw_p46, List.forall_mem_cons.mpr ⟨lw_p47, fun _ h => absurd h List.not_mem_nil⟩⟩⟩⟩⟩⟩⟩⟩⟩⟩⟩⟩⟩⟩⟩⟩
theorem lw_p48 : lw_okq (⟨"LanternBridgeModel", "now", "()I"⟩, 24) := ⟨⟨by decide +kernel, by decide +kernel⟩, List.mem_of_getElem? (i := 916) (by decide +kernel), List.mem_of_getElem? (i := 1129) (by decide +kernel), List.mem_of_getElem? (i := 1130) (by decide +kernel)⟩
theorem lw_p49 : lw_okq (⟨"LanternBridgeModel", "leastFrom", "(III)I"⟩, 24) := ⟨⟨by decide +kernel, by decide +kernel⟩, List.mem_of_getElem? (i := 916) (by decide +kernel), List.mem_of_getElem? (i := 1133) (by decide +kernel), List.mem_of_getElem? (i := 1134) (by decide +kernel)⟩
theorem lw_p50 : lw_okq (⟨"LanternBridgeModel", "looksForCosts", "(I)V"⟩, 24) := ⟨⟨by decide +kernel, by decide +kernel⟩, List.mem_of_getElem? (i := 916) (by decide +kernel), List.mem_of_getElem? (i := 1137) (by decide +kernel), List.mem_of_getElem? (i := 1138) (by decide +kernel)⟩
theorem lw_p51 : lw_okq (⟨"LanternBridgeModel", "looksFrom", "(I)V"⟩, 24) := ⟨⟨by decide +kernel, by decide +kernel⟩, List.mem_of_getElem? (i := 916) (by decide +kernel), List.mem_of_getElem? (i := 1141) (by decide +kernel), List.mem_of_getElem? (i := 1142) (by decide +kernel)⟩
theorem lw_p52 : lw_okq (⟨"LanternBridgeModel", "comesCloser", "(I)Z"⟩, 24) := ⟨⟨by decide +kernel, by decide +kernel⟩, List.mem_of_getElem? (i := 916) (by decide +kernel), List.mem_of_getElem? (i := 1146) (by decide +kernel), List.mem_of_getElem? (i := 1147) (by decide +kernel)⟩
theorem lw_p53 : lw_okq (⟨"LanternBridgeModel", "leastOf", "(I[I)I"⟩, 24) := ⟨⟨by decide +kernel, by decide +kernel⟩, List.mem_of_getElem? (i := 916) (by decide +kernel), List.mem_of_getElem? (i := 1150) (by decide +kernel), List.mem_of_getElem? (i := 1151) (by decide +kernel)⟩
theorem lw_p54 : lw_okq (⟨"LanternBridgeModel", "looksToward", "(I)V"⟩, 24) := ⟨⟨by decide +kernel, by decide +kernel⟩, List.mem_of_getElem? (i := 916) (by decide +kernel), List.mem_of_getElem? (i := 1165) (by decide +kernel), List.mem_of_getElem? (i := 1166) (by decide +kernel)⟩
theorem lw_p55 : lw_okq (⟨"LanternBridgeModel", "isCloser", "(I)Z"⟩, 24) := ⟨⟨by decide +kernel, by decide +kernel⟩, List.mem_of_getElem? (i := 916) (by decide +kernel), List.mem_of_getElem? (i := 1169) (by decide +kernel), List.mem_of_getElem? (i := 1170) (by decide +kernel)⟩
theorem lw_p56 : lw_okq (⟨"LanternBridgeModel", "bestRule", "()I"⟩, 24) := ⟨⟨by decide +kernel, by decide +kernel⟩, List.mem_of_getElem? (i := 916) (by decide +kernel), List.mem_of_getElem? (i := 1189) (by decide +kernel), List.mem_of_getElem? (i := 1190) (by decide +kernel)⟩
theorem lw_p57 : lw_okq (⟨"LanternBridgeModel", "goesByRule", "(I)Z"⟩, 24) := ⟨⟨by decide +kernel, by decide +kernel⟩, List.mem_of_getElem? (i := 916) (by decide +kernel), List.mem_of_getElem? (i := 1193) (by decide +kernel), List.mem_of_getElem? (i := 1194) (by decide +kernel)⟩
theorem lw_p58 : lw_okq (⟨"LanternBridgeModel", "endOf", "(IZ)I"⟩, 24) := ⟨⟨by decide +kernel, by decide +kernel⟩, List.mem_of_getElem? (i := 916) (by decide +kernel), List.mem_of_getElem? (i := 1197) (by decide +kernel), List.mem_of_getElem? (i := 1198) (by decide +kernel)⟩
theorem lw_p59 : lw_okq (⟨"LanternBridgeModel", "isAhead", "(II)Z"⟩, 24) := ⟨⟨by decide +kernel, by decide +kernel⟩, List.mem_of_getElem? (i := 916) (by decide +kernel), List.mem_of_getElem? (i := 1201) (by decide +kernel), List.mem_of_getElem? (i := 1202) (by decide +kernel)⟩
theorem lw_p60 : lw_okq (⟨"LanternBridgeModel", "goesBy", "(II)I"⟩, 24) := ⟨⟨by decide +kernel, by decide +kernel⟩, List.mem_of_getElem? (i := 916) (by decide +kernel), List.mem_of_getElem? (i := 1205) (by decide +kernel), List.mem_of_getElem? (i := 1206) (by decide +kernel)⟩
theorem lw_p61 : lw_okq (⟨"LanternBridgeModel", "leastTwo", "(I)I"⟩, 24) := ⟨⟨by decide +kernel, by decide +kernel⟩, List.mem_of_getElem? (i := 916) (by decide +kernel), List.mem_of_getElem? (i := 1209) (by decide +kernel), List.mem_of_getElem? (i := 1210) (by decide +kernel)⟩
theorem lw_p62 : lw_okq (⟨"LanternBridgeModel", "makersOf", "(I)I"⟩, 24) := ⟨⟨by decide +kernel, by decide +kernel⟩, List.mem_of_getElem? (i := 916) (by decide +kernel), List.mem_of_getElem? (i := 1221) (by decide +kernel), List.mem_of_getElem? (i := 1222) (by decide +kernel)⟩
theorem lw_p63 : lw_okq (⟨"LanternBridgeModel", "mostOf", "(I)I"⟩, 24) := ⟨⟨by decide +kernel, by decide +kernel⟩, List.mem_of_getElem? (i := 916) (by decide +kernel), List.mem_of_getElem? (i := 1225) (by decide +kernel), List.mem_of_getElem? (i := 1226) (by decide +kernel)⟩
def lw_privs_4 : List (MethodName × Nat) := [(⟨"LanternBridgeModel", "now", "()I"⟩, 24), (⟨"LanternBridgeModel", "leastFrom", "(III)I"⟩, 24), (⟨"LanternBridgeModel", "looksForCosts", "(I)V"⟩, 24), (⟨"LanternBridgeModel", "looksFrom", "(I)V"⟩, 24), (⟨"LanternBridgeModel", "comesCloser", "(I)Z"⟩, 24), (⟨"LanternBridgeModel", "leastOf", "(I[I)I"⟩, 24), (⟨"LanternBridgeModel", "looksToward", "(I)V"⟩, 24), (⟨"LanternBridgeModel", "isCloser", "(I)Z"⟩, 24), (⟨"LanternBridgeModel", "bestRule", "()I"⟩, 24), (⟨"LanternBridgeModel", "goesByRule", "(I)Z"⟩, 24), (⟨"LanternBridgeModel", "endOf", "(IZ)I"⟩, 24), (⟨"LanternBridgeModel", "isAhead", "(II)Z"⟩, 24), (⟨"LanternBridgeModel", "goesBy", "(II)I"⟩, 24), (⟨"LanternBridgeModel", "leastTwo", "(I)I"⟩, 24), (⟨"LanternBridgeModel", "makersOf", "(I)I"⟩, 24), (⟨"LanternBridgeModel", "mostOf", "(I)I"⟩, 24)]
theorem lw_r4 : ∀ q ∈ lw_privs_4, lw_okq q := List.forall_mem_cons.mpr ⟨lw_p48, List.forall_mem_cons.mpr ⟨lw_p49, List.forall_mem_cons.mpr ⟨lw_p50, List.forall_mem_cons.mpr ⟨lw_p51, List.forall_mem_cons.mpr ⟨lw_p52, List.forall_mem_cons.mpr ⟨lw_p53, List.forall_mem_cons.mpr ⟨lw_p54, List.forall_mem_cons.mpr ⟨lw_p55, List.forall_mem_cons.mpr ⟨lw_p56, List.forall_mem_cons.mpr ⟨lw_p57, List.forall_mem_cons.mpr ⟨lw_p58, List.forall_mem_cons.mpr ⟨lw_p59, List.forall_mem_cons.mpr ⟨lw_p60, List.forall_mem_cons.mpr ⟨lw_p61, List.forall_mem_cons.mpr ⟨lw_p62, List.forall_mem_cons.mpr ⟨lw_p63, fun _ h => absurd h List.not_mem_nil⟩⟩⟩⟩⟩⟩⟩⟩⟩⟩⟩⟩⟩⟩⟩⟩
theorem lw_p64 : lw_okq (⟨"LanternBridgeModel", "goesActs", "(I)I"⟩, 24) := ⟨⟨by decide +kernel, by decide +kernel⟩, List.mem_of_getElem? (i := 916) (by decide +kernel), List.mem_of_getElem? (i := 1250) (by decide +kernel), List.mem_of_getElem? (i := 1251) (by decide +kernel)⟩
theorem lw_p65 : lw_okq (⟨"LanternBridgeModel", "ranBody", "(I)V"⟩, 24) := ⟨⟨by decide +kernel, by decide +kernel⟩, List.mem_of_getElem? (i := 916) (by decide +kernel), List.mem_of_getElem? (i := 1257) (by decide +kernel), List.mem_of_getElem? (i := 1258) (by decide +kernel)⟩
theorem lw_p66 : lw_okq (⟨"LanternBridgeModel", "plainGoes", "(I)I"⟩, 24) := ⟨⟨by decide +kernel, by decide +kernel⟩, List.mem_of_getElem? (i := 916) (by decide +kernel), List.mem_of_getElem? (i := 1261) (by decide +kernel), List.mem_of_getElem? (i := 1262) (by decide +kernel)⟩
theorem lw_p67 : lw_okq (⟨"LanternBridgeModel", "waitsActs", "(I)I"⟩, 24) := ⟨⟨by decide +kernel, by decide +kernel⟩, List.mem_of_getElem? (i := 916) (by decide +kernel), List.mem_of_getElem? (i := 1265) (by decide +kernel), List.mem_of_getElem? (i := 1266) (by decide +kernel)⟩
theorem lw_p68 : lw_okq (⟨"LanternBridgeModel", "plainWaits", "(I)I"⟩, 24) := ⟨⟨by decide +kernel, by decide +kernel⟩, List.mem_of_getElem? (i := 916) (by decide +kernel), List.mem_of_getElem? (i := 1269) (by decide +kernel), List.mem_of_getElem? (i := 1270) (by decide +kernel)⟩
theorem lw_p69 : lw_okq (⟨"LanternBridgeModel", "tellsActs", "(I)I"⟩, 24) := ⟨⟨by decide +kernel, by decide +kernel⟩, List.mem_of_getElem? (i := 916) (by decide +kernel), List.mem_of_getElem? (i := 1273) (by decide +kernel), List.mem_of_getElem? (i := 1274) (by decide +kernel)⟩
theorem lw_p70 : lw_okq (⟨"LanternBridgeModel", "plainTells", "(I)I"⟩, 24) := ⟨⟨by decide +kernel, by decide +kernel⟩, List.mem_of_getElem? (i := 916) (by decide +kernel), List.mem_of_getElem? (i := 1277) (by decide +kernel), List.mem_of_getElem? (i := 1278) (by decide +kernel)⟩
def lw_privs_5 : List (MethodName × Nat) := [(⟨"LanternBridgeModel", "goesActs", "(I)I"⟩, 24), (⟨"LanternBridgeModel", "ranBody", "(I)V"⟩, 24), (⟨"LanternBridgeModel", "plainGoes", "(I)I"⟩, 24), (⟨"LanternBridgeModel", "waitsActs", "(I)I"⟩, 24), (⟨"LanternBridgeModel", "plainWaits", "(I)I"⟩, 24), (⟨"LanternBridgeModel", "tellsActs", "(I)I"⟩, 24), (⟨"LanternBridgeModel", "plainTells", "(I)I"⟩, 24)]
theorem lw_r5 : ∀ q ∈ lw_privs_5, lw_okq q := List.forall_mem_cons.mpr ⟨lw_p64, List.forall_mem_cons.mpr ⟨lw_p65, List.forall_mem_cons.mpr ⟨lw_p66, List.forall_mem_cons.mpr ⟨lw_p67, List.forall_mem_cons.mpr ⟨lw_p68, List.forall_mem_cons.mpr ⟨lw_p69, List.forall_mem_cons.mpr ⟨lw_p70, fun _ h => absurd h List.not_mem_nil⟩⟩⟩⟩⟩⟩⟩
def lw_privs : List (MethodName × Nat) := lw_privs_1 ++ (lw_privs_2 ++ (lw_privs_3 ++ (lw_privs_4 ++ (lw_privs_5))))
def lw_tbl : List Cond := k2_sels lw_privs ++ tables_1
theorem lw_privs_ok : ∀ q ∈ lw_privs, lw_okq q := by
  show ∀ q ∈ lw_privs_1 ++ (lw_privs_2 ++ (lw_privs_3 ++ (lw_privs_4 ++ (lw_privs_5)))), lw_okq q
  exact List.forall_mem_append.mpr ⟨lw_r1, List.forall_mem_append.mpr ⟨lw_r2, List.forall_mem_append.mpr ⟨lw_r3, List.forall_mem_append.mpr ⟨lw_r4, lw_r5⟩⟩⟩⟩
/-! the universal words: every good word of the tables -/
def WT : List Cond := lw_tbl.filter goodWord
theorem wt_of {w : Cond} (h : w ∈ tables_1) (g : goodWord w = true) : w ∈ WT := List.mem_filter.mpr ⟨List.mem_append_right _ h, g⟩
theorem wt_ofs {w : Cond} (h : w ∈ k2_sels lw_privs) (g : goodWord w = true) : w ∈ WT := List.mem_filter.mpr ⟨List.mem_append_left _ h, g⟩
theorem wt_good {w : Cond} (h : w ∈ WT) : (w.onTables && w.keeps) = true ∨ ∃ ty, w = .arrayClass ty := good_of_word (List.mem_filter.mp h).2
theorem wt_tbl {w : Cond} (h : w ∈ WT) : w ∈ lw_tbl := (List.mem_filter.mp h).1
theorem wt_1 {w : Cond} (h : w ∈ tables_1_1) : w ∈ tables_1 := List.mem_append_left _ h
theorem wt_2 {w : Cond} (h : w ∈ tables_1_2) : w ∈ tables_1 := List.mem_append_right _ (List.mem_append_left _ h)
theorem wt_3 {w : Cond} (h : w ∈ tables_1_3) : w ∈ tables_1 := List.mem_append_right _ (List.mem_append_right _ (List.mem_append_left _ h))
theorem wt_4 {w : Cond} (h : w ∈ tables_1_4) : w ∈ tables_1 := List.mem_append_right _ (List.mem_append_right _ (List.mem_append_right _ (List.mem_append_left _ h)))
theorem wt_5 {w : Cond} (h : w ∈ tables_1_5) : w ∈ tables_1 := List.mem_append_right _ (List.mem_append_right _ (List.mem_append_right _ (List.mem_append_right _ (List.mem_append_left _ h))))
theorem wt_6 {w : Cond} (h : w ∈ tables_1_6) : w ∈ tables_1 := List.mem_append_right _ (List.mem_append_right _ (List.mem_append_right _ (List.mem_append_right _ (List.mem_append_right _ (h)))))
/-! names -/
abbrev R_Ca : String := "LanternBridge$Carried"
def F_Ca : u_T := fun k => match k with
  | 0 => ("LanternBridge$Walker", "kind", "I", true)
  | 1 => ("LanternBridge$Walker", "number", "I", true)
  | 2 => ("LanternBridge$Walker", "v", "I", true)
  | 3 => ("LanternBridge$Walker", "pace", "I", true)
  | _ => ("LanternBridge$Walker", "weight", "I", true)
def ty_Ca : Nat → FieldType := fun k => match k with
  | 0 => .int
  | 1 => .int
  | 2 => .int
  | 3 => .int
  | _ => .int
theorem nm_Ca : ∀ a, a < 5 → ∀ b, b < 5 → a ≠ b → (F_Ca a).2.1 ≠ (F_Ca b).2.1 := by decide +kernel
theorem ok_Ca : ∀ k, k < 5 → parseFieldDescriptor (F_Ca k).2.2.1 = some (ty_Ca k) := by decide +kernel
theorem uw_Ca : ∀ w ∈ u_ws R_Ca F_Ca 5, w ∈ WT := by decide +kernel
abbrev R_Go : String := "LanternBridge$Goings"
def F_Go : u_T := fun k => match k with
  | 0 => ("LanternBridge$Goings", "people", "[LLanternBridge$Walker;", true)
  | 1 => ("LanternBridge$Goings", "size", "I", false)
  | 2 => ("LanternBridge$Goings", "everybody", "I", false)
  | 3 => ("LanternBridge$Goings", "leaders", "I", false)
  | 4 => ("LanternBridge$Goings", "night", "LLanternBridge$Night;", false)
  | 5 => ("LanternBridge$Goings", "facts", "[I", true)
  | 6 => ("LanternBridge$Goings", "minutes", "[[I", true)
  | _ => ("LanternBridge$Goings", "can", "[[I", true)
def ty_Go : Nat → FieldType := fun k => match k with
  | 0 => .array (.object "LanternBridge$Walker")
  | 1 => .int
  | 2 => .int
  | 3 => .int
  | 4 => .object "LanternBridge$Night"
  | 5 => .array .int
  | 6 => .array (.array .int)
  | _ => .array (.array .int)
theorem nm_Go : ∀ a, a < 8 → ∀ b, b < 8 → a ≠ b → (F_Go a).2.1 ≠ (F_Go b).2.1 := by decide +kernel
theorem ok_Go : ∀ k, k < 8 → parseFieldDescriptor (F_Go k).2.2.1 = some (ty_Go k) := by decide +kernel
theorem uw_Go : ∀ w ∈ u_ws R_Go F_Go 8, w ∈ WT := by decide +kernel
abbrev R_La : String := "LanternBridge$Lame"
def F_La : u_T := fun k => match k with
  | 0 => ("LanternBridge$Walker", "kind", "I", true)
  | 1 => ("LanternBridge$Walker", "number", "I", true)
  | 2 => ("LanternBridge$Walker", "v", "I", true)
  | 3 => ("LanternBridge$Walker", "pace", "I", true)
  | _ => ("LanternBridge$Walker", "weight", "I", true)
def ty_La : Nat → FieldType := fun k => match k with
  | 0 => .int
  | 1 => .int
  | 2 => .int
  | 3 => .int
  | _ => .int
theorem nm_La : ∀ a, a < 5 → ∀ b, b < 5 → a ≠ b → (F_La a).2.1 ≠ (F_La b).2.1 := by decide +kernel
theorem ok_La : ∀ k, k < 5 → parseFieldDescriptor (F_La k).2.2.1 = some (ty_La k) := by decide +kernel
theorem uw_La : ∀ w ∈ u_ws R_La F_La 5, w ∈ WT := by decide +kernel
abbrev R_Le : String := "LanternBridge$Leading"
def F_Le : u_T := fun k => match k with
  | 0 => ("LanternBridge$Walker", "kind", "I", true)
  | 1 => ("LanternBridge$Walker", "number", "I", true)
  | 2 => ("LanternBridge$Walker", "v", "I", true)
  | 3 => ("LanternBridge$Walker", "pace", "I", true)
  | _ => ("LanternBridge$Walker", "weight", "I", true)
def ty_Le : Nat → FieldType := fun k => match k with
  | 0 => .int
  | 1 => .int
  | 2 => .int
  | 3 => .int
  | _ => .int
theorem nm_Le : ∀ a, a < 5 → ∀ b, b < 5 → a ≠ b → (F_Le a).2.1 ≠ (F_Le b).2.1 := by decide +kernel
theorem ok_Le : ∀ k, k < 5 → parseFieldDescriptor (F_Le k).2.2.1 = some (ty_Le k) := by decide +kernel
theorem uw_Le : ∀ w ∈ u_ws R_Le F_Le 5, w ∈ WT := by decide +kernel
abbrev R_Ni : String := "LanternBridge$Night"
def F_Ni : u_T := fun k => match k with
  | 0 => ("LanternBridge$Night", "bears", "I", false)
  | 1 => ("LanternBridge$Night", "heavy", "I", false)
  | 2 => ("LanternBridge$Night", "oil", "I", false)
  | 3 => ("LanternBridge$Night", "text", "[I", true)
  | 4 => ("LanternBridge$Night", "at", "I", false)
  | 5 => ("LanternBridge$Night", "code", "[I", true)
  | 6 => ("LanternBridge$Night", "codeSize", "I", false)
  | 7 => ("LanternBridge$Night", "word", "[I", true)
  | 8 => ("LanternBridge$Night", "number", "[I", true)
  | 9 => ("LanternBridge$Night", "codeEnd", "[I", true)
  | _ => ("LanternBridge$Night", "clauses", "I", false)
def ty_Ni : Nat → FieldType := fun k => match k with
  | 0 => .int
  | 1 => .int
  | 2 => .int
  | 3 => .array .int
  | 4 => .int
  | 5 => .array .int
  | 6 => .int
  | 7 => .array .int
  | 8 => .array .int
  | 9 => .array .int
  | _ => .int
theorem nm_Ni : ∀ a, a < 11 → ∀ b, b < 11 → a ≠ b → (F_Ni a).2.1 ≠ (F_Ni b).2.1 := by decide +kernel
theorem ok_Ni : ∀ k, k < 11 → parseFieldDescriptor (F_Ni k).2.2.1 = some (ty_Ni k) := by decide +kernel
theorem uw_Ni : ∀ w ∈ u_ws R_Ni F_Ni 11, w ∈ WT := by decide +kernel
abbrev R_Qu : String := "LanternBridge$Quick"
def F_Qu : u_T := fun k => match k with
  | 0 => ("LanternBridge$Walker", "kind", "I", true)
  | 1 => ("LanternBridge$Walker", "number", "I", true)
  | 2 => ("LanternBridge$Walker", "v", "I", true)
  | 3 => ("LanternBridge$Walker", "pace", "I", true)
  | _ => ("LanternBridge$Walker", "weight", "I", true)
def ty_Qu : Nat → FieldType := fun k => match k with
  | 0 => .int
  | 1 => .int
  | 2 => .int
  | 3 => .int
  | _ => .int
theorem nm_Qu : ∀ a, a < 5 → ∀ b, b < 5 → a ≠ b → (F_Qu a).2.1 ≠ (F_Qu b).2.1 := by decide +kernel
theorem ok_Qu : ∀ k, k < 5 → parseFieldDescriptor (F_Qu k).2.2.1 = some (ty_Qu k) := by decide +kernel
theorem uw_Qu : ∀ w ∈ u_ws R_Qu F_Qu 5, w ∈ WT := by decide +kernel
abbrev R_Se : String := "LanternBridge$Search"
def F_Se : u_T := fun k => match k with
  | 0 => ("LanternBridge$Search", "goings", "LLanternBridge$Goings;", true)
  | 1 => ("LanternBridge$Search", "measure", "[I", true)
  | _ => ("LanternBridge$Search", "settled", "[Z", true)
def ty_Se : Nat → FieldType := fun k => match k with
  | 0 => .object "LanternBridge$Goings"
  | 1 => .array .int
  | _ => .array .boolean
theorem nm_Se : ∀ a, a < 3 → ∀ b, b < 3 → a ≠ b → (F_Se a).2.1 ≠ (F_Se b).2.1 := by decide +kernel
theorem ok_Se : ∀ k, k < 3 → parseFieldDescriptor (F_Se k).2.2.1 = some (ty_Se k) := by decide +kernel
theorem uw_Se : ∀ w ∈ u_ws R_Se F_Se 3, w ∈ WT := by decide +kernel
abbrev R_St : String := "LanternBridge$State"
def F_St : u_T := fun k => match k with
  | 0 => ("LanternBridge$State", "tape", "[I", true)
  | 1 => ("LanternBridge$State", "signs", "I", false)
  | 2 => ("LanternBridge$State", "night", "LLanternBridge$Night;", false)
  | 3 => ("LanternBridge$State", "nights", "I", false)
  | 4 => ("LanternBridge$State", "people", "[LLanternBridge$Walker;", true)
  | 5 => ("LanternBridge$State", "size", "I", false)
  | 6 => ("LanternBridge$State", "far", "I", false)
  | 7 => ("LanternBridge$State", "lantern", "I", false)
  | 8 => ("LanternBridge$State", "minute", "I", false)
  | 9 => ("LanternBridge$State", "made", "I", false)
  | 10 => ("LanternBridge$State", "rowSets", "[I", true)
  | 11 => ("LanternBridge$State", "rowMinutes", "[I", true)
  | 12 => ("LanternBridge$State", "rows", "I", false)
  | 13 => ("LanternBridge$State", "bookSets", "[I", true)
  | _ => ("LanternBridge$State", "booked", "I", false)
def ty_St : Nat → FieldType := fun k => match k with
  | 0 => .array .int
  | 1 => .int
  | 2 => .object "LanternBridge$Night"
  | 3 => .int
  | 4 => .array (.object "LanternBridge$Walker")
  | 5 => .int
  | 6 => .int
  | 7 => .int
  | 8 => .int
  | 9 => .int
  | 10 => .array .int
  | 11 => .array .int
  | 12 => .int
  | 13 => .array .int
  | _ => .int
theorem nm_St : ∀ a, a < 15 → ∀ b, b < 15 → a ≠ b → (F_St a).2.1 ≠ (F_St b).2.1 := by decide +kernel
theorem ok_St : ∀ k, k < 15 → parseFieldDescriptor (F_St k).2.2.1 = some (ty_St k) := by decide +kernel
theorem uw_St : ∀ w ∈ u_ws R_St F_St 15, w ∈ WT := by decide +kernel
abbrev R_Ti : String := "LanternBridge$Tied"
def F_Ti : u_T := fun k => match k with
  | 0 => ("LanternBridge$Walker", "kind", "I", true)
  | 1 => ("LanternBridge$Walker", "number", "I", true)
  | 2 => ("LanternBridge$Walker", "v", "I", true)
  | 3 => ("LanternBridge$Walker", "pace", "I", true)
  | _ => ("LanternBridge$Walker", "weight", "I", true)
def ty_Ti : Nat → FieldType := fun k => match k with
  | 0 => .int
  | 1 => .int
  | 2 => .int
  | 3 => .int
  | _ => .int
theorem nm_Ti : ∀ a, a < 5 → ∀ b, b < 5 → a ≠ b → (F_Ti a).2.1 ≠ (F_Ti b).2.1 := by decide +kernel
theorem ok_Ti : ∀ k, k < 5 → parseFieldDescriptor (F_Ti k).2.2.1 = some (ty_Ti k) := by decide +kernel
theorem uw_Ti : ∀ w ∈ u_ws R_Ti F_Ti 5, w ∈ WT := by decide +kernel
abbrev R_Tr : String := "LanternBridge$Tiring"
def F_Tr : u_T := fun k => match k with
  | 0 => ("LanternBridge$Walker", "kind", "I", true)
  | 1 => ("LanternBridge$Walker", "number", "I", true)
  | 2 => ("LanternBridge$Walker", "v", "I", true)
  | 3 => ("LanternBridge$Walker", "pace", "I", true)
  | _ => ("LanternBridge$Walker", "weight", "I", true)
def ty_Tr : Nat → FieldType := fun k => match k with
  | 0 => .int
  | 1 => .int
  | 2 => .int
  | 3 => .int
  | _ => .int
theorem nm_Tr : ∀ a, a < 5 → ∀ b, b < 5 → a ≠ b → (F_Tr a).2.1 ≠ (F_Tr b).2.1 := by decide +kernel
theorem ok_Tr : ∀ k, k < 5 → parseFieldDescriptor (F_Tr k).2.2.1 = some (ty_Tr k) := by decide +kernel
theorem uw_Tr : ∀ w ∈ u_ws R_Tr F_Tr 5, w ∈ WT := by decide +kernel
abbrev R_Wa : String := "LanternBridge$Walker"
def F_Wa : u_T := fun k => match k with
  | 0 => ("LanternBridge$Walker", "kind", "I", true)
  | 1 => ("LanternBridge$Walker", "number", "I", true)
  | 2 => ("LanternBridge$Walker", "v", "I", true)
  | 3 => ("LanternBridge$Walker", "pace", "I", true)
  | _ => ("LanternBridge$Walker", "weight", "I", true)
def ty_Wa : Nat → FieldType := fun k => match k with
  | 0 => .int
  | 1 => .int
  | 2 => .int
  | 3 => .int
  | _ => .int
theorem nm_Wa : ∀ a, a < 5 → ∀ b, b < 5 → a ≠ b → (F_Wa a).2.1 ≠ (F_Wa b).2.1 := by decide +kernel
theorem ok_Wa : ∀ k, k < 5 → parseFieldDescriptor (F_Wa k).2.2.1 = some (ty_Wa k) := by decide +kernel
theorem uw_Wa : ∀ w ∈ u_ws R_Wa F_Wa 5, w ∈ WT := by decide +kernel
abbrev R_LB : String := "LanternBridge"
def F_LB : u_T := fun k => match k with
  | 0 => ("LanternBridge", "now", "LLanternBridge$State;", true)
  | 1 => ("LanternBridge", "kept", "LLanternBridge$State;", true)
  | 2 => ("LanternBridge", "isKept", "Z", false)
  | 3 => ("LanternBridge", "traced", "[I", true)
  | 4 => ("LanternBridge", "goings", "LLanternBridge$Goings;", true)
  | 5 => ("LanternBridge", "search", "LLanternBridge$Search;", true)
  | _ => ("LanternBridge", "stale", "Z", false)
def ty_LB : Nat → FieldType := fun k => match k with
  | 0 => .object "LanternBridge$State"
  | 1 => .object "LanternBridge$State"
  | 2 => .boolean
  | 3 => .array .int
  | 4 => .object "LanternBridge$Goings"
  | 5 => .object "LanternBridge$Search"
  | _ => .boolean
theorem nm_LB : ∀ a, a < 7 → ∀ b, b < 7 → a ≠ b → (F_LB a).2.1 ≠ (F_LB b).2.1 := by decide +kernel
theorem ok_LB : ∀ k, k < 7 → parseFieldDescriptor (F_LB k).2.2.1 = some (ty_LB k) := by decide +kernel
theorem uw_LB : ∀ w ∈ u_ws R_LB F_LB 7, w ∈ WT := by decide +kernel
abbrev R_Md : String := "LanternBridgeModel"
def F_Md : u_T := fun k => match k with
  | 0 => ("LanternBridgeModel", "thrown", "I", false)
  | 1 => ("LanternBridgeModel", "s", "[I", true)
  | 2 => ("LanternBridgeModel", "image", "[I", true)
  | 3 => ("LanternBridgeModel", "hasImage", "Z", false)
  | 4 => ("LanternBridgeModel", "act", "I", false)
  | 5 => ("LanternBridgeModel", "spot", "I", false)
  | 6 => ("LanternBridgeModel", "end", "I", false)
  | 7 => ("LanternBridgeModel", "isWrong", "Z", false)
  | 8 => ("LanternBridgeModel", "open", "I", false)
  | 9 => ("LanternBridgeModel", "by", "[I", true)
  | 10 => ("LanternBridgeModel", "truths", "[Z", true)
  | 11 => ("LanternBridgeModel", "slower", "I", false)
  | 12 => ("LanternBridgeModel", "isBarred", "Z", false)
  | 13 => ("LanternBridgeModel", "costs", "[I", true)
  | 14 => ("LanternBridgeModel", "dist", "[I", true)
  | 15 => ("LanternBridgeModel", "steps", "[I", true)
  | 16 => ("LanternBridgeModel", "toward", "[I", true)
  | 17 => ("LanternBridgeModel", "ruleMinutes", "I", false)
  | 18 => ("LanternBridgeModel", "ruleGoings", "I", false)
  | 19 => ("LanternBridgeModel", "bodies", "[I", true)
  | 20 => ("LanternBridgeModel", "ran", "I", false)
  | 21 => ("LanternBridgeModel", "kind", "I", false)
  | 22 => ("LanternBridgeModel", "number", "I", false)
  | _ => ("LanternBridgeModel", "tellsV", "I", false)
def ty_Md : Nat → FieldType := fun k => match k with
  | 0 => .int
  | 1 => .array .int
  | 2 => .array .int
  | 3 => .boolean
  | 4 => .int
  | 5 => .int
  | 6 => .int
  | 7 => .boolean
  | 8 => .int
  | 9 => .array .int
  | 10 => .array .boolean
  | 11 => .int
  | 12 => .boolean
  | 13 => .array .int
  | 14 => .array .int
  | 15 => .array .int
  | 16 => .array .int
  | 17 => .int
  | 18 => .int
  | 19 => .array .int
  | 20 => .int
  | 21 => .int
  | 22 => .int
  | _ => .int
theorem nm_Md : ∀ a, a < 24 → ∀ b, b < 24 → a ≠ b → (F_Md a).2.1 ≠ (F_Md b).2.1 := by decide +kernel
theorem ok_Md : ∀ k, k < 24 → parseFieldDescriptor (F_Md k).2.2.1 = some (ty_Md k) := by decide +kernel
theorem uw_Md : ∀ w ∈ u_ws R_Md F_Md 24, w ∈ WT := by decide +kernel
abbrev CL : List vw_C := [(R_Ca, F_Ca, 5), (R_Go, F_Go, 8), (R_La, F_La, 5), (R_Le, F_Le, 5), (R_Ni, F_Ni, 11), (R_Qu, F_Qu, 5), (R_Se, F_Se, 3), (R_St, F_St, 15), (R_Ti, F_Ti, 5), (R_Tr, F_Tr, 5), (R_Wa, F_Wa, 5), (R_LB, F_LB, 7), (R_Md, F_Md, 24)]
def y_Ca_init : MethodName := ⟨"LanternBridge$Carried", "<init>", "(IIIII)V"⟩
abbrev b_Ca_init : ByteArray := prog_2_method_1_code
def y_Ca_byKind : MethodName := ⟨"LanternBridge$Carried", "byKind", "(IIZI)I"⟩
abbrev b_Ca_byKind : ByteArray := prog_2_method_2_code
def y_Ca_goes : MethodName := ⟨"LanternBridge$Carried", "goes", "(I[I)I"⟩
abbrev b_Ca_goes : ByteArray := prog_2_method_3_code
def y_Go_init : MethodName := ⟨"LanternBridge$Goings", "<init>", "()V"⟩
abbrev b_Go_init : ByteArray := prog_3_method_1_code
def y_Go_layFor : MethodName := ⟨"LanternBridge$Goings", "layFor", "(LLanternBridge$State;)V"⟩
abbrev b_Go_layFor : ByteArray := prog_3_method_2_code
def y_Go_putInstead : MethodName := ⟨"LanternBridge$Goings", "putInstead", "(LLanternBridge$Walker;)V"⟩
abbrev b_Go_putInstead : ByteArray := prog_3_method_3_code
def y_Go_layMinutes : MethodName := ⟨"LanternBridge$Goings", "layMinutes", "(I)V"⟩
abbrev b_Go_layMinutes : ByteArray := prog_3_method_4_code
def y_Go_layCan : MethodName := ⟨"LanternBridge$Goings", "layCan", "()V"⟩
abbrev b_Go_layCan : ByteArray := prog_3_method_5_code
def y_Go_everybody : MethodName := ⟨"LanternBridge$Goings", "everybody", "()I"⟩
abbrev b_Go_everybody : ByteArray := prog_3_method_6_code
def y_Go_minutesOf : MethodName := ⟨"LanternBridge$Goings", "minutesOf", "(II)I"⟩
abbrev b_Go_minutesOf : ByteArray := prog_3_method_7_code
def y_Go_canBe : MethodName := ⟨"LanternBridge$Goings", "canBe", "(II)Z"⟩
abbrev b_Go_canBe : ByteArray := prog_3_method_8_code
def y_Go_isBorne : MethodName := ⟨"LanternBridge$Goings", "isBorne", "(I)Z"⟩
abbrev b_Go_isBorne : ByteArray := prog_3_method_9_code
def y_Go_isBarred : MethodName := ⟨"LanternBridge$Goings", "isBarred", "(II)Z"⟩
abbrev b_Go_isBarred : ByteArray := prog_3_method_10_code
def y_Go_takenByOthers : MethodName := ⟨"LanternBridge$Goings", "takenByOthers", "(III)I"⟩
abbrev b_Go_takenByOthers : ByteArray := prog_3_method_11_code
def y_Go_takenBy : MethodName := ⟨"LanternBridge$Goings", "takenBy", "(III)I"⟩
abbrev b_Go_takenBy : ByteArray := prog_3_method_12_code
def y_Go_goesHeavier : MethodName := ⟨"LanternBridge$Goings", "goesHeavier", "(II)Z"⟩
abbrev b_Go_goesHeavier : ByteArray := prog_3_method_13_code
def y_Go_layFacts : MethodName := ⟨"LanternBridge$Goings", "layFacts", "(LLanternBridge$Walker;II)V"⟩
abbrev b_Go_layFacts : ByteArray := prog_3_method_14_code
def y_Go_bestRule : MethodName := ⟨"LanternBridge$Goings", "bestRule", "(I)I"⟩
abbrev b_Go_bestRule : ByteArray := prog_3_method_15_code
def y_Go_byRule : MethodName := ⟨"LanternBridge$Goings", "byRule", "(IIZ)I"⟩
abbrev b_Go_byRule : ByteArray := prog_3_method_16_code
def y_Go_overByRule : MethodName := ⟨"LanternBridge$Goings", "overByRule", "(II)I"⟩
abbrev b_Go_overByRule : ByteArray := prog_3_method_17_code
def y_Go_quickestOf : MethodName := ⟨"LanternBridge$Goings", "quickestOf", "(I)I"⟩
abbrev b_Go_quickestOf : ByteArray := prog_3_method_18_code
def y_Go_slowestOf : MethodName := ⟨"LanternBridge$Goings", "slowestOf", "(I)I"⟩
abbrev b_Go_slowestOf : ByteArray := prog_3_method_19_code
def y_La_init : MethodName := ⟨"LanternBridge$Lame", "<init>", "(IIIII)V"⟩
abbrev b_La_init : ByteArray := prog_4_method_1_code
def y_La_byKind : MethodName := ⟨"LanternBridge$Lame", "byKind", "(IIZI)I"⟩
abbrev b_La_byKind : ByteArray := prog_4_method_2_code
def y_La_waits : MethodName := ⟨"LanternBridge$Lame", "waits", "(I[I)I"⟩
abbrev b_La_waits : ByteArray := prog_4_method_3_code
def y_Le_init : MethodName := ⟨"LanternBridge$Leading", "<init>", "(IIIII)V"⟩
abbrev b_Le_init : ByteArray := prog_5_method_1_code
def y_Le_tells : MethodName := ⟨"LanternBridge$Leading", "tells", "(I[I)I"⟩
abbrev b_Le_tells : ByteArray := prog_5_method_2_code
def y_Ni_init : MethodName := ⟨"LanternBridge$Night", "<init>", "([II)V"⟩
abbrev b_Ni_init : ByteArray := prog_6_method_1_code
def y_Ni_read : MethodName := ⟨"LanternBridge$Night", "read", "()I"⟩
abbrev b_Ni_read : ByteArray := prog_6_method_2_code
def y_Ni_addClause : MethodName := ⟨"LanternBridge$Night", "addClause", "(II)V"⟩
abbrev b_Ni_addClause : ByteArray := prog_6_method_3_code
def y_Ni_signAt : MethodName := ⟨"LanternBridge$Night", "signAt", "(I)I"⟩
abbrev b_Ni_signAt : ByteArray := prog_6_method_4_code
def y_Ni_take : MethodName := ⟨"LanternBridge$Night", "take", "(C)Z"⟩
abbrev b_Ni_take : ByteArray := prog_6_method_5_code
def y_Ni_readWord : MethodName := ⟨"LanternBridge$Night", "readWord", "()I"⟩
abbrev b_Ni_readWord : ByteArray := prog_6_method_6_code
def y_Ni_takeAll : MethodName := ⟨"LanternBridge$Night", "takeAll", "(Ljava/lang/String;)Z"⟩
abbrev b_Ni_takeAll : ByteArray := prog_6_method_7_code
def y_Ni_readNumber : MethodName := ⟨"LanternBridge$Night", "readNumber", "()I"⟩
abbrev b_Ni_readNumber : ByteArray := prog_6_method_8_code
def y_Ni_readEither : MethodName := ⟨"LanternBridge$Night", "readEither", "(I)Z"⟩
abbrev b_Ni_readEither : ByteArray := prog_6_method_9_code
def y_Ni_readBoth : MethodName := ⟨"LanternBridge$Night", "readBoth", "(I)Z"⟩
abbrev b_Ni_readBoth : ByteArray := prog_6_method_10_code
def y_Ni_readSingle : MethodName := ⟨"LanternBridge$Night", "readSingle", "(I)Z"⟩
abbrev b_Ni_readSingle : ByteArray := prog_6_method_11_code
def y_Ni_readTest : MethodName := ⟨"LanternBridge$Night", "readTest", "()Z"⟩
abbrev b_Ni_readTest : ByteArray := prog_6_method_12_code
def y_Ni_indexIn : MethodName := ⟨"LanternBridge$Night", "indexIn", "(Ljava/lang/String;)I"⟩
abbrev b_Ni_indexIn : ByteArray := prog_6_method_13_code
def y_Ni_addCode : MethodName := ⟨"LanternBridge$Night", "addCode", "(I)V"⟩
abbrev b_Ni_addCode : ByteArray := prog_6_method_14_code
def y_Ni_slowness : MethodName := ⟨"LanternBridge$Night", "slowness", "([I)I"⟩
abbrev b_Ni_slowness : ByteArray := prog_6_method_15_code
def y_Ni_bars : MethodName := ⟨"LanternBridge$Night", "bars", "([I)Z"⟩
abbrev b_Ni_bars : ByteArray := prog_6_method_16_code
def y_Ni_holds : MethodName := ⟨"LanternBridge$Night", "holds", "(I[I)Z"⟩
abbrev b_Ni_holds : ByteArray := prog_6_method_17_code
def y_Qu_init : MethodName := ⟨"LanternBridge$Quick", "<init>", "(IIIII)V"⟩
abbrev b_Qu_init : ByteArray := prog_7_method_1_code
def y_Qu_byKind : MethodName := ⟨"LanternBridge$Quick", "byKind", "(IIZI)I"⟩
abbrev b_Qu_byKind : ByteArray := prog_7_method_2_code
def y_Qu_goes : MethodName := ⟨"LanternBridge$Quick", "goes", "(I[I)I"⟩
abbrev b_Qu_goes : ByteArray := prog_7_method_3_code
def y_Se_init : MethodName := ⟨"LanternBridge$Search", "<init>", "(LLanternBridge$Goings;)V"⟩
abbrev b_Se_init : ByteArray := prog_8_method_1_code
def y_Se_measureTo : MethodName := ⟨"LanternBridge$Search", "measureTo", "(IIZ)V"⟩
abbrev b_Se_measureTo : ByteArray := prog_8_method_2_code
def y_Se_measureFrom : MethodName := ⟨"LanternBridge$Search", "measureFrom", "(I)V"⟩
abbrev b_Se_measureFrom : ByteArray := prog_8_method_3_code
def y_Se_measureAt : MethodName := ⟨"LanternBridge$Search", "measureAt", "(I)I"⟩
abbrev b_Se_measureAt : ByteArray := prog_8_method_4_code
def y_Se_firstSetAt : MethodName := ⟨"LanternBridge$Search", "firstSetAt", "(I)I"⟩
abbrev b_Se_firstSetAt : ByteArray := prog_8_method_5_code
def y_Se_mostOver : MethodName := ⟨"LanternBridge$Search", "mostOver", "(I)I"⟩
abbrev b_Se_mostOver : ByteArray := prog_8_method_6_code
def y_Se_settleAll : MethodName := ⟨"LanternBridge$Search", "settleAll", "(IIZ)V"⟩
abbrev b_Se_settleAll : ByteArray := prog_8_method_7_code
def y_Se_leastUnsettled : MethodName := ⟨"LanternBridge$Search", "leastUnsettled", "(I)I"⟩
abbrev b_Se_leastUnsettled : ByteArray := prog_8_method_8_code
def y_Se_bankWithLantern : MethodName := ⟨"LanternBridge$Search", "bankWithLantern", "(I)I"⟩
abbrev b_Se_bankWithLantern : ByteArray := prog_8_method_9_code
def y_Se_placeBehind : MethodName := ⟨"LanternBridge$Search", "placeBehind", "(II)I"⟩
abbrev b_Se_placeBehind : ByteArray := prog_8_method_10_code
def y_St_init : MethodName := ⟨"LanternBridge$State", "<init>", "()V"⟩
abbrev b_St_init : ByteArray := prog_9_method_1_code
def y_St_copyFrom : MethodName := ⟨"LanternBridge$State", "copyFrom", "(LLanternBridge$State;)V"⟩
abbrev b_St_copyFrom : ByteArray := prog_9_method_2_code
def y_St_walker : MethodName := ⟨"LanternBridge$State", "walker", "(I)LLanternBridge$Walker;"⟩
abbrev b_St_walker : ByteArray := prog_9_method_3_code
def y_St_everybody : MethodName := ⟨"LanternBridge$State", "everybody", "()I"⟩
abbrev b_St_everybody : ByteArray := prog_9_method_4_code
def y_St_isSet : MethodName := ⟨"LanternBridge$State", "isSet", "(I)Z"⟩
abbrev b_St_isSet : ByteArray := prog_9_method_5_code
def y_St_withLantern : MethodName := ⟨"LanternBridge$State", "withLantern", "()I"⟩
abbrev b_St_withLantern : ByteArray := prog_9_method_6_code
def y_St_place : MethodName := ⟨"LanternBridge$State", "place", "()I"⟩
abbrev b_St_place : ByteArray := prog_9_method_7_code
def y_St_greatestOwn : MethodName := ⟨"LanternBridge$State", "greatestOwn", "(I)I"⟩
abbrev b_St_greatestOwn : ByteArray := prog_9_method_8_code
def y_St_rowsAgree : MethodName := ⟨"LanternBridge$State", "rowsAgree", "(I)Z"⟩
abbrev b_St_rowsAgree : ByteArray := prog_9_method_9_code
def y_Ti_init : MethodName := ⟨"LanternBridge$Tied", "<init>", "(IIIII)V"⟩
abbrev b_Ti_init : ByteArray := prog_10_method_1_code
def y_Ti_byKind : MethodName := ⟨"LanternBridge$Tied", "byKind", "(IIZI)I"⟩
abbrev b_Ti_byKind : ByteArray := prog_10_method_2_code
def y_Ti_tells : MethodName := ⟨"LanternBridge$Tied", "tells", "(I[I)I"⟩
abbrev b_Ti_tells : ByteArray := prog_10_method_3_code
def y_Tr_init : MethodName := ⟨"LanternBridge$Tiring", "<init>", "(IIIII)V"⟩
abbrev b_Tr_init : ByteArray := prog_11_method_1_code
def y_Tr_byKind : MethodName := ⟨"LanternBridge$Tiring", "byKind", "(IIZI)I"⟩
abbrev b_Tr_byKind : ByteArray := prog_11_method_2_code
def y_Tr_waits : MethodName := ⟨"LanternBridge$Tiring", "waits", "(I[I)I"⟩
abbrev b_Tr_waits : ByteArray := prog_11_method_3_code
def y_Wa_init : MethodName := ⟨"LanternBridge$Walker", "<init>", "(IIIII)V"⟩
abbrev b_Wa_init : ByteArray := prog_12_method_1_code
def y_Wa_make : MethodName := ⟨"LanternBridge$Walker", "make", "(IIIII)LLanternBridge$Walker;"⟩
abbrev b_Wa_make : ByteArray := prog_12_method_2_code
def y_Wa_isUnder : MethodName := ⟨"LanternBridge$Walker", "isUnder", "(I)Z"⟩
abbrev b_Wa_isUnder : ByteArray := prog_12_method_3_code
def y_Wa_byKind : MethodName := ⟨"LanternBridge$Walker", "byKind", "(IIZI)I"⟩
abbrev b_Wa_byKind : ByteArray := prog_12_method_4_code
def y_Wa_goes : MethodName := ⟨"LanternBridge$Walker", "goes", "(I[I)I"⟩
abbrev b_Wa_goes : ByteArray := prog_12_method_5_code
def y_Wa_waits : MethodName := ⟨"LanternBridge$Walker", "waits", "(I[I)I"⟩
abbrev b_Wa_waits : ByteArray := prog_12_method_6_code
def y_Wa_tells : MethodName := ⟨"LanternBridge$Walker", "tells", "(I[I)I"⟩
abbrev b_Wa_tells : ByteArray := prog_12_method_7_code
def y_Wa_begin : MethodName := ⟨"LanternBridge$Walker", "begin", "(I[I)V"⟩
abbrev b_Wa_begin : ByteArray := prog_12_method_8_code
def y_LB_init : MethodName := ⟨"LanternBridge", "<init>", "()V"⟩
abbrev b_LB_init : ByteArray := prog_1_method_1_code
def y_LB_feed : MethodName := ⟨"LanternBridge", "feed", "(I)I"⟩
abbrev b_LB_feed : ByteArray := prog_1_method_2_code
def y_LB_night : MethodName := ⟨"LanternBridge", "night", "()I"⟩
abbrev b_LB_night : ByteArray := prog_1_method_3_code
def y_LB_person : MethodName := ⟨"LanternBridge", "person", "(IIII)I"⟩
abbrev b_LB_person : ByteArray := prog_1_method_4_code
def y_LB_of : MethodName := ⟨"LanternBridge", "of", "(II)I"⟩
abbrev b_LB_of : ByteArray := prog_1_method_5_code
def y_LB_told : MethodName := ⟨"LanternBridge", "told", "(I)I"⟩
abbrev b_LB_told : ByteArray := prog_1_method_6_code
def y_LB_going : MethodName := ⟨"LanternBridge", "going", "(III)I"⟩
abbrev b_LB_going : ByteArray := prog_1_method_7_code
def y_LB_go : MethodName := ⟨"LanternBridge", "go", "(I)I"⟩
abbrev b_LB_go : ByteArray := prog_1_method_8_code
def y_LB_least : MethodName := ⟨"LanternBridge", "least", "(I)I"⟩
abbrev b_LB_least : ByteArray := prog_1_method_9_code
def y_LB_fewest : MethodName := ⟨"LanternBridge", "fewest", "(I)I"⟩
abbrev b_LB_fewest : ByteArray := prog_1_method_10_code
def y_LB_first : MethodName := ⟨"LanternBridge", "first", "(I)I"⟩
abbrev b_LB_first : ByteArray := prog_1_method_11_code
def y_LB_by : MethodName := ⟨"LanternBridge", "by", "(II)I"⟩
abbrev b_LB_by : ByteArray := prog_1_method_12_code
def y_LB_quicker : MethodName := ⟨"LanternBridge", "quicker", "(I)I"⟩
abbrev b_LB_quicker : ByteArray := prog_1_method_13_code
def y_LB_leave : MethodName := ⟨"LanternBridge", "leave", "()I"⟩
abbrev b_LB_leave : ByteArray := prog_1_method_14_code
def y_LB_rule : MethodName := ⟨"LanternBridge", "rule", "(II)I"⟩
abbrev b_LB_rule : ByteArray := prog_1_method_15_code
def y_LB_seen : MethodName := ⟨"LanternBridge", "seen", "(II)I"⟩
abbrev b_LB_seen : ByteArray := prog_1_method_16_code
def y_LB_span : MethodName := ⟨"LanternBridge", "span", "(II)I"⟩
abbrev b_LB_span : ByteArray := prog_1_method_17_code
def y_LB_chance : MethodName := ⟨"LanternBridge", "chance", "(IIII)J"⟩
abbrev b_LB_chance : ByteArray := prog_1_method_18_code
def y_LB_book : MethodName := ⟨"LanternBridge", "book", "(I)I"⟩
abbrev b_LB_book : ByteArray := prog_1_method_19_code
def y_LB_looked : MethodName := ⟨"LanternBridge", "looked", "(I)I"⟩
abbrev b_LB_looked : ByteArray := prog_1_method_20_code
def y_LB_act : MethodName := ⟨"LanternBridge", "act", "(III)I"⟩
abbrev b_LB_act : ByteArray := prog_1_method_21_code
def y_LB_trace : MethodName := ⟨"LanternBridge", "trace", "(I)I"⟩
abbrev b_LB_trace : ByteArray := prog_1_method_22_code
def y_LB_as : MethodName := ⟨"LanternBridge", "as", "(II)I"⟩
abbrev b_LB_as : ByteArray := prog_1_method_23_code
def y_LB_image : MethodName := ⟨"LanternBridge", "image", "()I"⟩
abbrev b_LB_image : ByteArray := prog_1_method_24_code
def y_LB_undo : MethodName := ⟨"LanternBridge", "undo", "()I"⟩
abbrev b_LB_undo : ByteArray := prog_1_method_25_code
def y_LB_count : MethodName := ⟨"LanternBridge", "count", "(I)I"⟩
abbrev b_LB_count : ByteArray := prog_1_method_26_code
def y_LB_refresh : MethodName := ⟨"LanternBridge", "refresh", "()V"⟩
abbrev b_LB_refresh : ByteArray := prog_1_method_27_code
def y_LB_leastFor : MethodName := ⟨"LanternBridge", "leastFor", "(II)I"⟩
abbrev b_LB_leastFor : ByteArray := prog_1_method_28_code
def y_LB_sharedWithTen : MethodName := ⟨"LanternBridge", "sharedWithTen", "(I)I"⟩
abbrev b_LB_sharedWithTen : ByteArray := prog_1_method_29_code
def y_Md_init : MethodName := ⟨"LanternBridgeModel", "<init>", "()V"⟩
abbrev b_Md_init : ByteArray := prog_14_method_1_code
def y_Md_in : MethodName := ⟨"LanternBridgeModel", "in", "(III)Z"⟩
abbrev b_Md_in : ByteArray := prog_14_method_3_code
def y_Md_count1 : MethodName := ⟨"LanternBridgeModel", "count1", "(I)I"⟩
abbrev b_Md_count1 : ByteArray := prog_14_method_4_code
def y_Md_isPerson : MethodName := ⟨"LanternBridgeModel", "isPerson", "(I)Z"⟩
abbrev b_Md_isPerson : ByteArray := prog_14_method_5_code
def y_Md_all : MethodName := ⟨"LanternBridgeModel", "all", "()I"⟩
abbrev b_Md_all : ByteArray := prog_14_method_6_code
def y_Md_isSet : MethodName := ⟨"LanternBridgeModel", "isSet", "(I)Z"⟩
abbrev b_Md_isSet : ByteArray := prog_14_method_7_code
def y_Md_feed : MethodName := ⟨"LanternBridgeModel", "feed", "(I)I"⟩
abbrev b_Md_feed : ByteArray := prog_14_method_8_code
def y_Md_here : MethodName := ⟨"LanternBridgeModel", "here", "()I"⟩
abbrev b_Md_here : ByteArray := prog_14_method_9_code
def y_Md_must : MethodName := ⟨"LanternBridgeModel", "must", "(I)V"⟩
abbrev b_Md_must : ByteArray := prog_14_method_10_code
def y_Md_spells : MethodName := ⟨"LanternBridgeModel", "spells", "(Ljava/lang/String;)V"⟩
abbrev b_Md_spells : ByteArray := prog_14_method_11_code
def y_Md_figures : MethodName := ⟨"LanternBridgeModel", "figures", "()I"⟩
abbrev b_Md_figures : ByteArray := prog_14_method_12_code
def y_Md_among : MethodName := ⟨"LanternBridgeModel", "among", "(Ljava/lang/String;)I"⟩
abbrev b_Md_among : ByteArray := prog_14_method_13_code
def y_Md_emits : MethodName := ⟨"LanternBridgeModel", "emits", "(I)V"⟩
abbrev b_Md_emits : ByteArray := prog_14_method_14_code
def y_Md_factor : MethodName := ⟨"LanternBridgeModel", "factor", "()V"⟩
abbrev b_Md_factor : ByteArray := prog_14_method_15_code
def y_Md_every : MethodName := ⟨"LanternBridgeModel", "every", "()V"⟩
abbrev b_Md_every : ByteArray := prog_14_method_16_code
def y_Md_some : MethodName := ⟨"LanternBridgeModel", "some", "()V"⟩
abbrev b_Md_some : ByteArray := prog_14_method_17_code
def y_Md_tellsHere : MethodName := ⟨"LanternBridgeModel", "tellsHere", "(ILjava/lang/String;)V"⟩
abbrev b_Md_tellsHere : ByteArray := prog_14_method_18_code
def y_Md_clauseOfB : MethodName := ⟨"LanternBridgeModel", "clauseOfB", "()V"⟩
abbrev b_Md_clauseOfB : ByteArray := prog_14_method_19_code
def y_Md_clauseHere : MethodName := ⟨"LanternBridgeModel", "clauseHere", "()V"⟩
abbrev b_Md_clauseHere : ByteArray := prog_14_method_20_code
def y_Md_night : MethodName := ⟨"LanternBridgeModel", "night", "()I"⟩
abbrev b_Md_night : ByteArray := prog_14_method_21_code
def y_Md_tellsOf : MethodName := ⟨"LanternBridgeModel", "tellsOf", "(II)I"⟩
abbrev b_Md_tellsOf : ByteArray := prog_14_method_22_code
def y_Md_person : MethodName := ⟨"LanternBridgeModel", "person", "(IIII)I"⟩
abbrev b_Md_person : ByteArray := prog_14_method_23_code
def y_Md_of : MethodName := ⟨"LanternBridgeModel", "of", "(II)I"⟩
abbrev b_Md_of : ByteArray := prog_14_method_24_code
def y_Md_told : MethodName := ⟨"LanternBridgeModel", "told", "(I)I"⟩
abbrev b_Md_told : ByteArray := prog_14_method_25_code
def y_Md_looks : MethodName := ⟨"LanternBridgeModel", "looks", "(III)V"⟩
abbrev b_Md_looks : ByteArray := prog_14_method_26_code
def y_Md_goes : MethodName := ⟨"LanternBridgeModel", "goes", "(II)Z"⟩
abbrev b_Md_goes : ByteArray := prog_14_method_27_code
def y_Md_takes : MethodName := ⟨"LanternBridgeModel", "takes", "(III)I"⟩
abbrev b_Md_takes : ByteArray := prog_14_method_28_code
def y_Md_minutesOf : MethodName := ⟨"LanternBridgeModel", "minutesOf", "(II)I"⟩
abbrev b_Md_minutesOf : ByteArray := prog_14_method_29_code
def y_Md_canGo : MethodName := ⟨"LanternBridgeModel", "canGo", "(II)Z"⟩
abbrev b_Md_canGo : ByteArray := prog_14_method_30_code
def y_Md_going : MethodName := ⟨"LanternBridgeModel", "going", "(III)I"⟩
abbrev b_Md_going : ByteArray := prog_14_method_31_code
def y_Md_areHere : MethodName := ⟨"LanternBridgeModel", "areHere", "(III)Z"⟩
abbrev b_Md_areHere : ByteArray := prog_14_method_32_code
def y_Md_go : MethodName := ⟨"LanternBridgeModel", "go", "(I)I"⟩
abbrev b_Md_go : ByteArray := prog_14_method_33_code
def y_Md_looksForCosts : MethodName := ⟨"LanternBridgeModel", "looksForCosts", "(I)V"⟩
abbrev b_Md_looksForCosts : ByteArray := prog_14_method_34_code
def y_Md_comesCloser : MethodName := ⟨"LanternBridgeModel", "comesCloser", "(I)Z"⟩
abbrev b_Md_comesCloser : ByteArray := prog_14_method_35_code
def y_Md_looksFrom : MethodName := ⟨"LanternBridgeModel", "looksFrom", "(I)V"⟩
abbrev b_Md_looksFrom : ByteArray := prog_14_method_36_code
def y_Md_now : MethodName := ⟨"LanternBridgeModel", "now", "()I"⟩
abbrev b_Md_now : ByteArray := prog_14_method_37_code
def y_Md_leastOf : MethodName := ⟨"LanternBridgeModel", "leastOf", "(I[I)I"⟩
abbrev b_Md_leastOf : ByteArray := prog_14_method_38_code
def y_Md_leastFrom : MethodName := ⟨"LanternBridgeModel", "leastFrom", "(III)I"⟩
abbrev b_Md_leastFrom : ByteArray := prog_14_method_39_code
def y_Md_orNone : MethodName := ⟨"LanternBridgeModel", "orNone", "(I)I"⟩
abbrev b_Md_orNone : ByteArray := prog_14_method_40_code
def y_Md_least : MethodName := ⟨"LanternBridgeModel", "least", "(I)I"⟩
abbrev b_Md_least : ByteArray := prog_14_method_41_code
def y_Md_fewest : MethodName := ⟨"LanternBridgeModel", "fewest", "(I)I"⟩
abbrev b_Md_fewest : ByteArray := prog_14_method_42_code
def y_Md_first : MethodName := ⟨"LanternBridgeModel", "first", "(I)I"⟩
abbrev b_Md_first : ByteArray := prog_14_method_43_code
def y_Md_isCloser : MethodName := ⟨"LanternBridgeModel", "isCloser", "(I)Z"⟩
abbrev b_Md_isCloser : ByteArray := prog_14_method_44_code
def y_Md_looksToward : MethodName := ⟨"LanternBridgeModel", "looksToward", "(I)V"⟩
abbrev b_Md_looksToward : ByteArray := prog_14_method_45_code
def y_Md_by : MethodName := ⟨"LanternBridgeModel", "by", "(II)I"⟩
abbrev b_Md_by : ByteArray := prog_14_method_46_code
def y_Md_quicker : MethodName := ⟨"LanternBridgeModel", "quicker", "(I)I"⟩
abbrev b_Md_quicker : ByteArray := prog_14_method_47_code
def y_Md_leave : MethodName := ⟨"LanternBridgeModel", "leave", "()I"⟩
abbrev b_Md_leave : ByteArray := prog_14_method_48_code
def y_Md_isAhead : MethodName := ⟨"LanternBridgeModel", "isAhead", "(II)Z"⟩
abbrev b_Md_isAhead : ByteArray := prog_14_method_49_code
def y_Md_endOf : MethodName := ⟨"LanternBridgeModel", "endOf", "(IZ)I"⟩
abbrev b_Md_endOf : ByteArray := prog_14_method_50_code
def y_Md_leastTwo : MethodName := ⟨"LanternBridgeModel", "leastTwo", "(I)I"⟩
abbrev b_Md_leastTwo : ByteArray := prog_14_method_51_code
def y_Md_goesBy : MethodName := ⟨"LanternBridgeModel", "goesBy", "(II)I"⟩
abbrev b_Md_goesBy : ByteArray := prog_14_method_52_code
def y_Md_goesByRule : MethodName := ⟨"LanternBridgeModel", "goesByRule", "(I)Z"⟩
abbrev b_Md_goesByRule : ByteArray := prog_14_method_53_code
def y_Md_bestRule : MethodName := ⟨"LanternBridgeModel", "bestRule", "()I"⟩
abbrev b_Md_bestRule : ByteArray := prog_14_method_54_code
def y_Md_rule : MethodName := ⟨"LanternBridgeModel", "rule", "(II)I"⟩
abbrev b_Md_rule : ByteArray := prog_14_method_55_code
def y_Md_seen : MethodName := ⟨"LanternBridgeModel", "seen", "(II)I"⟩
abbrev b_Md_seen : ByteArray := prog_14_method_56_code
def y_Md_mostOf : MethodName := ⟨"LanternBridgeModel", "mostOf", "(I)I"⟩
abbrev b_Md_mostOf : ByteArray := prog_14_method_57_code
def y_Md_makersOf : MethodName := ⟨"LanternBridgeModel", "makersOf", "(I)I"⟩
abbrev b_Md_makersOf : ByteArray := prog_14_method_58_code
def y_Md_span : MethodName := ⟨"LanternBridgeModel", "span", "(II)I"⟩
abbrev b_Md_span : ByteArray := prog_14_method_59_code
def y_Md_lowest : MethodName := ⟨"LanternBridgeModel", "lowest", "(JJI)J"⟩
abbrev b_Md_lowest : ByteArray := prog_14_method_60_code
def y_Md_chance : MethodName := ⟨"LanternBridgeModel", "chance", "(IIII)J"⟩
abbrev b_Md_chance : ByteArray := prog_14_method_61_code
def y_Md_book : MethodName := ⟨"LanternBridgeModel", "book", "(I)I"⟩
abbrev b_Md_book : ByteArray := prog_14_method_62_code
def y_Md_looked : MethodName := ⟨"LanternBridgeModel", "looked", "(I)I"⟩
abbrev b_Md_looked : ByteArray := prog_14_method_63_code
def y_Md_ranBody : MethodName := ⟨"LanternBridgeModel", "ranBody", "(I)V"⟩
abbrev b_Md_ranBody : ByteArray := prog_14_method_64_code
def y_Md_isUnder : MethodName := ⟨"LanternBridgeModel", "isUnder", "(II)Z"⟩
abbrev b_Md_isUnder : ByteArray := prog_14_method_65_code
def y_Md_plainGoes : MethodName := ⟨"LanternBridgeModel", "plainGoes", "(I)I"⟩
abbrev b_Md_plainGoes : ByteArray := prog_14_method_66_code
def y_Md_goesActs : MethodName := ⟨"LanternBridgeModel", "goesActs", "(I)I"⟩
abbrev b_Md_goesActs : ByteArray := prog_14_method_67_code
def y_Md_plainWaits : MethodName := ⟨"LanternBridgeModel", "plainWaits", "(I)I"⟩
abbrev b_Md_plainWaits : ByteArray := prog_14_method_68_code
def y_Md_waitsActs : MethodName := ⟨"LanternBridgeModel", "waitsActs", "(I)I"⟩
abbrev b_Md_waitsActs : ByteArray := prog_14_method_69_code
def y_Md_plainTells : MethodName := ⟨"LanternBridgeModel", "plainTells", "(I)I"⟩
abbrev b_Md_plainTells : ByteArray := prog_14_method_70_code
def y_Md_tellsActs : MethodName := ⟨"LanternBridgeModel", "tellsActs", "(I)I"⟩
abbrev b_Md_tellsActs : ByteArray := prog_14_method_71_code
def y_Md_act : MethodName := ⟨"LanternBridgeModel", "act", "(III)I"⟩
abbrev b_Md_act : ByteArray := prog_14_method_72_code
def y_Md_trace : MethodName := ⟨"LanternBridgeModel", "trace", "(I)I"⟩
abbrev b_Md_trace : ByteArray := prog_14_method_73_code
def y_Md_as : MethodName := ⟨"LanternBridgeModel", "as", "(II)I"⟩
abbrev b_Md_as : ByteArray := prog_14_method_74_code
def y_Md_image : MethodName := ⟨"LanternBridgeModel", "image", "()I"⟩
abbrev b_Md_image : ByteArray := prog_14_method_75_code
def y_Md_undo : MethodName := ⟨"LanternBridgeModel", "undo", "()I"⟩
abbrev b_Md_undo : ByteArray := prog_14_method_76_code
def y_Md_count : MethodName := ⟨"LanternBridgeModel", "count", "(I)I"⟩
abbrev b_Md_count : ByteArray := prog_14_method_77_code
def y_Object_init : MethodName := ⟨"java/lang/Object", "<init>", "()V"⟩
abbrev b_Object_init : ByteArray := object_method_1_code
def y_Math_min : MethodName := ⟨"java/lang/Math", "min", "(II)I"⟩
abbrev b_Math_min : ByteArray := prog_17_method_69_code
def y_Math_max : MethodName := ⟨"java/lang/Math", "max", "(II)I"⟩
abbrev b_Math_max : ByteArray := prog_17_method_65_code
def y_String_length : MethodName := ⟨"java/lang/String", "length", "()I"⟩
abbrev b_String_length : ByteArray := prog_18_method_54_code
def y_String_coder : MethodName := ⟨"java/lang/String", "coder", "()B"⟩
abbrev b_String_coder : ByteArray := prog_18_method_152_code
def y_String_charAt : MethodName := ⟨"java/lang/String", "charAt", "(I)C"⟩
abbrev b_String_charAt : ByteArray := prog_18_method_56_code
def y_String_isLatin1 : MethodName := ⟨"java/lang/String", "isLatin1", "()Z"⟩
abbrev b_String_isLatin1 : ByteArray := prog_18_method_154_code
def y_SL1_charAt : MethodName := ⟨"java/lang/StringLatin1", "charAt", "([BI)C"⟩
abbrev b_SL1_charAt : ByteArray := prog_19_method_2_code
def y_String_checkIndex : MethodName := ⟨"java/lang/String", "checkIndex", "(II)V"⟩
abbrev b_String_checkIndex : ByteArray := prog_18_method_155_code
def y_Pre_checkIndex : MethodName := ⟨"jdk/internal/util/Preconditions", "checkIndex", "(IILjava/util/function/BiFunction;)I"⟩
abbrev b_Pre_checkIndex : ByteArray := prog_22_method_11_code
def y_SU16_charAt : MethodName := ⟨"java/lang/StringUTF16", "charAt", "([BI)C"⟩
abbrev b_SU16_charAt : ByteArray := prog_20_method_83_code
def y_SU16_checkIndex : MethodName := ⟨"java/lang/StringUTF16", "checkIndex", "(I[B)V"⟩
abbrev b_SU16_checkIndex : ByteArray := prog_20_method_91_code
def y_SU16_length : MethodName := ⟨"java/lang/StringUTF16", "length", "([B)I"⟩
abbrev b_SU16_length : ByteArray := prog_20_method_6_code
def y_SU16_getChar : MethodName := ⟨"java/lang/StringUTF16", "getChar", "([BI)C"⟩
abbrev b_SU16_getChar : ByteArray := prog_20_method_5_code
def y_String_indexOf : MethodName := ⟨"java/lang/String", "indexOf", "(I)I"⟩
abbrev b_String_indexOf : ByteArray := prog_18_method_79_code
def y_String_indexOf_o1 : MethodName := ⟨"java/lang/String", "indexOf", "(II)I"⟩
abbrev b_String_indexOf_o1 : ByteArray := prog_18_method_80_code
def y_SL1_indexOf : MethodName := ⟨"java/lang/StringLatin1", "indexOf", "([BIII)I"⟩
abbrev b_SL1_indexOf : ByteArray := prog_19_method_22_code
def y_SL1_canEncode : MethodName := ⟨"java/lang/StringLatin1", "canEncode", "(I)Z"⟩
abbrev b_SL1_canEncode : ByteArray := prog_19_method_4_code
def y_SL1_indexOfChar : MethodName := ⟨"java/lang/StringLatin1", "indexOfChar", "([BIII)I"⟩
abbrev b_SL1_indexOfChar : ByteArray := prog_19_method_23_code
def y_SU16_indexOf : MethodName := ⟨"java/lang/StringUTF16", "indexOf", "([BIII)I"⟩
abbrev b_SU16_indexOf : ByteArray := prog_20_method_40_code
def y_SU16_indexOfChar : MethodName := ⟨"java/lang/StringUTF16", "indexOfChar", "([BIII)I"⟩
abbrev b_SU16_indexOfChar : ByteArray := prog_20_method_47_code
def y_SU16_checkBoundsBeginEnd : MethodName := ⟨"java/lang/StringUTF16", "checkBoundsBeginEnd", "(II[B)V"⟩
abbrev b_SU16_checkBoundsBeginEnd : ByteArray := prog_20_method_93_code
def y_String_checkBoundsBeginEnd : MethodName := ⟨"java/lang/String", "checkBoundsBeginEnd", "(III)V"⟩
abbrev b_String_checkBoundsBeginEnd : ByteArray := prog_18_method_158_code
def y_Pre_checkFromToIndex : MethodName := ⟨"jdk/internal/util/Preconditions", "checkFromToIndex", "(IIILjava/util/function/BiFunction;)I"⟩
abbrev b_Pre_checkFromToIndex : ByteArray := prog_22_method_12_code
def y_SU16_indexOfCharUnsafe : MethodName := ⟨"java/lang/StringUTF16", "indexOfCharUnsafe", "([BIII)I"⟩
abbrev b_SU16_indexOfCharUnsafe : ByteArray := prog_20_method_48_code
def y_SU16_indexOfSupplementary : MethodName := ⟨"java/lang/StringUTF16", "indexOfSupplementary", "([BIII)I"⟩
abbrev b_SU16_indexOfSupplementary : ByteArray := prog_20_method_49_code
def y_Char_isValidCodePoint : MethodName := ⟨"java/lang/Character", "isValidCodePoint", "(I)Z"⟩
abbrev b_Char_isValidCodePoint : ByteArray := prog_15_method_11_code
def y_Char_highSurrogate : MethodName := ⟨"java/lang/Character", "highSurrogate", "(I)C"⟩
abbrev b_Char_highSurrogate : ByteArray := prog_15_method_28_code
def y_Char_lowSurrogate : MethodName := ⟨"java/lang/Character", "lowSurrogate", "(I)C"⟩
abbrev b_Char_lowSurrogate : ByteArray := prog_15_method_29_code
def y_Integer_bitCount : MethodName := ⟨"java/lang/Integer", "bitCount", "(I)I"⟩
abbrev b_Integer_bitCount : ByteArray := prog_16_method_49_code
