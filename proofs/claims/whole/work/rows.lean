section
/-- a private method of a class that the tables say can be made, by its rows of tables_1 -/
def lw_okq (q : MethodName × Nat) : Prop := (q.1.cls ≠ "java/lang/invoke/MethodHandle" ∧ q.1.cls ≠ "java/lang/invoke/VarHandle") ∧ Cond.instantiable q.1.cls q.2 ∈ tables_1 ∧ Cond.privateMethod q.1 ∈ tables_1 ∧ Cond.instanceMethod q.1 ∈ tables_1
theorem lw_p0 : lw_okq (⟨"LanternBridge$Night", "take", "(C)Z"⟩, 11) := ⟨⟨by decide +kernel, by decide +kernel⟩, List.mem_of_getElem? (i := 37) (by decide +kernel), List.mem_of_getElem? (i := 247) (by decide +kernel), List.mem_of_getElem? (i := 248) (by decide +kernel)⟩
theorem lw_p1 : lw_okq (⟨"LanternBridge$Night", "signAt", "(I)I"⟩, 11) := ⟨⟨by decide +kernel, by decide +kernel⟩, List.mem_of_getElem? (i := 37) (by decide +kernel), List.mem_of_getElem? (i := 251) (by decide +kernel), List.mem_of_getElem? (i := 252) (by decide +kernel)⟩
theorem lw_p2 : lw_okq (⟨"LanternBridge$Night", "readWord", "()I"⟩, 11) := ⟨⟨by decide +kernel, by decide +kernel⟩, List.mem_of_getElem? (i := 37) (by decide +kernel), List.mem_of_getElem? (i := 255) (by decide +kernel), List.mem_of_getElem? (i := 256) (by decide +kernel)⟩
theorem lw_p3 : lw_okq (⟨"LanternBridge$Night", "takeAll", "(Ljava/lang/String;)Z"⟩, 11) := ⟨⟨by decide +kernel, by decide +kernel⟩, List.mem_of_getElem? (i := 37) (by decide +kernel), List.mem_of_getElem? (i := 260) (by decide +kernel), List.mem_of_getElem? (i := 261) (by decide +kernel)⟩
theorem lw_p4 : lw_okq (⟨"LanternBridge$Night", "readNumber", "()I"⟩, 11) := ⟨⟨by decide +kernel, by decide +kernel⟩, List.mem_of_getElem? (i := 37) (by decide +kernel), List.mem_of_getElem? (i := 316) (by decide +kernel), List.mem_of_getElem? (i := 317) (by decide +kernel)⟩
theorem lw_p5 : lw_okq (⟨"LanternBridge$Night", "readEither", "(I)Z"⟩, 11) := ⟨⟨by decide +kernel, by decide +kernel⟩, List.mem_of_getElem? (i := 37) (by decide +kernel), List.mem_of_getElem? (i := 320) (by decide +kernel), List.mem_of_getElem? (i := 321) (by decide +kernel)⟩
theorem lw_p6 : lw_okq (⟨"LanternBridge$Night", "readBoth", "(I)Z"⟩, 11) := ⟨⟨by decide +kernel, by decide +kernel⟩, List.mem_of_getElem? (i := 37) (by decide +kernel), List.mem_of_getElem? (i := 324) (by decide +kernel), List.mem_of_getElem? (i := 325) (by decide +kernel)⟩
theorem lw_p7 : lw_okq (⟨"LanternBridge$Night", "readSingle", "(I)Z"⟩, 11) := ⟨⟨by decide +kernel, by decide +kernel⟩, List.mem_of_getElem? (i := 37) (by decide +kernel), List.mem_of_getElem? (i := 328) (by decide +kernel), List.mem_of_getElem? (i := 329) (by decide +kernel)⟩
theorem lw_p8 : lw_okq (⟨"LanternBridge$Night", "readTest", "()Z"⟩, 11) := ⟨⟨by decide +kernel, by decide +kernel⟩, List.mem_of_getElem? (i := 37) (by decide +kernel), List.mem_of_getElem? (i := 332) (by decide +kernel), List.mem_of_getElem? (i := 333) (by decide +kernel)⟩
theorem lw_p9 : lw_okq (⟨"LanternBridge$Night", "indexIn", "(Ljava/lang/String;)I"⟩, 11) := ⟨⟨by decide +kernel, by decide +kernel⟩, List.mem_of_getElem? (i := 37) (by decide +kernel), List.mem_of_getElem? (i := 337) (by decide +kernel), List.mem_of_getElem? (i := 338) (by decide +kernel)⟩
theorem lw_p10 : lw_okq (⟨"LanternBridge$Night", "addCode", "(I)V"⟩, 11) := ⟨⟨by decide +kernel, by decide +kernel⟩, List.mem_of_getElem? (i := 37) (by decide +kernel), List.mem_of_getElem? (i := 397) (by decide +kernel), List.mem_of_getElem? (i := 398) (by decide +kernel)⟩
theorem lw_p11 : lw_okq (⟨"LanternBridge$Night", "addClause", "(II)V"⟩, 11) := ⟨⟨by decide +kernel, by decide +kernel⟩, List.mem_of_getElem? (i := 37) (by decide +kernel), List.mem_of_getElem? (i := 401) (by decide +kernel), List.mem_of_getElem? (i := 402) (by decide +kernel)⟩
theorem lw_p12 : lw_okq (⟨"LanternBridge", "refresh", "()V"⟩, 7) := ⟨⟨by decide +kernel, by decide +kernel⟩, List.mem_of_getElem? (i := 23) (by decide +kernel), List.mem_of_getElem? (i := 552) (by decide +kernel), List.mem_of_getElem? (i := 553) (by decide +kernel)⟩
theorem lw_p13 : lw_okq (⟨"LanternBridge$Goings", "layMinutes", "(I)V"⟩, 8) := ⟨⟨by decide +kernel, by decide +kernel⟩, List.mem_of_getElem? (i := 158) (by decide +kernel), List.mem_of_getElem? (i := 562) (by decide +kernel), List.mem_of_getElem? (i := 563) (by decide +kernel)⟩
theorem lw_p14 : lw_okq (⟨"LanternBridge$Goings", "layFacts", "(LLanternBridge$Walker;II)V"⟩, 8) := ⟨⟨by decide +kernel, by decide +kernel⟩, List.mem_of_getElem? (i := 158) (by decide +kernel), List.mem_of_getElem? (i := 570) (by decide +kernel), List.mem_of_getElem? (i := 571) (by decide +kernel)⟩
theorem lw_p15 : lw_okq (⟨"LanternBridge$Night", "holds", "(I[I)Z"⟩, 11) := ⟨⟨by decide +kernel, by decide +kernel⟩, List.mem_of_getElem? (i := 37) (by decide +kernel), List.mem_of_getElem? (i := 584) (by decide +kernel), List.mem_of_getElem? (i := 585) (by decide +kernel)⟩
def lw_privs_1 : List (MethodName × Nat) := [(⟨"LanternBridge$Night", "take", "(C)Z"⟩, 11), (⟨"LanternBridge$Night", "signAt", "(I)I"⟩, 11), (⟨"LanternBridge$Night", "readWord", "()I"⟩, 11), (⟨"LanternBridge$Night", "takeAll", "(Ljava/lang/String;)Z"⟩, 11), (⟨"LanternBridge$Night", "readNumber", "()I"⟩, 11), (⟨"LanternBridge$Night", "readEither", "(I)Z"⟩, 11), (⟨"LanternBridge$Night", "readBoth", "(I)Z"⟩, 11), (⟨"LanternBridge$Night", "readSingle", "(I)Z"⟩, 11), (⟨"LanternBridge$Night", "readTest", "()Z"⟩, 11), (⟨"LanternBridge$Night", "indexIn", "(Ljava/lang/String;)I"⟩, 11), (⟨"LanternBridge$Night", "addCode", "(I)V"⟩, 11), (⟨"LanternBridge$Night", "addClause", "(II)V"⟩, 11), (⟨"LanternBridge", "refresh", "()V"⟩, 7), (⟨"LanternBridge$Goings", "layMinutes", "(I)V"⟩, 8), (⟨"LanternBridge$Goings", "layFacts", "(LLanternBridge$Walker;II)V"⟩, 8), (⟨"LanternBridge$Night", "holds", "(I[I)Z"⟩, 11)]
theorem lw_r1 : ∀ q ∈ lw_privs_1, lw_okq q := List.forall_mem_cons.mpr ⟨lw_p0, List.forall_mem_cons.mpr ⟨lw_p1, List.forall_mem_cons.mpr ⟨lw_p2, List.forall_mem_cons.mpr ⟨lw_p3, List.forall_mem_cons.mpr ⟨lw_p4, List.forall_mem_cons.mpr ⟨lw_p5, List.forall_mem_cons.mpr ⟨lw_p6, List.forall_mem_cons.mpr ⟨lw_p7, List.forall_mem_cons.mpr ⟨lw_p8, List.forall_mem_cons.mpr ⟨lw_p9, List.forall_mem_cons.mpr ⟨lw_p10, List.forall_mem_cons.mpr ⟨lw_p11, List.forall_mem_cons.mpr ⟨lw_p12, List.forall_mem_cons.mpr ⟨lw_p13, List.forall_mem_cons.mpr ⟨lw_p14, List.forall_mem_cons.mpr ⟨lw_p15, fun _ h => absurd h List.not_mem_nil⟩⟩⟩⟩⟩⟩⟩⟩⟩⟩⟩⟩⟩⟩⟩⟩
theorem lw_p16 : lw_okq (⟨"LanternBridge$Goings", "goesHeavier", "(II)Z"⟩, 8) := ⟨⟨by decide +kernel, by decide +kernel⟩, List.mem_of_getElem? (i := 158) (by decide +kernel), List.mem_of_getElem? (i := 588) (by decide +kernel), List.mem_of_getElem? (i := 589) (by decide +kernel)⟩
theorem lw_p17 : lw_okq (⟨"LanternBridge$Goings", "layCan", "()V"⟩, 8) := ⟨⟨by decide +kernel, by decide +kernel⟩, List.mem_of_getElem? (i := 158) (by decide +kernel), List.mem_of_getElem? (i := 616) (by decide +kernel), List.mem_of_getElem? (i := 617) (by decide +kernel)⟩
theorem lw_p18 : lw_okq (⟨"LanternBridge$Goings", "isBorne", "(I)Z"⟩, 8) := ⟨⟨by decide +kernel, by decide +kernel⟩, List.mem_of_getElem? (i := 158) (by decide +kernel), List.mem_of_getElem? (i := 620) (by decide +kernel), List.mem_of_getElem? (i := 621) (by decide +kernel)⟩
theorem lw_p19 : lw_okq (⟨"LanternBridge$Goings", "isBarred", "(II)Z"⟩, 8) := ⟨⟨by decide +kernel, by decide +kernel⟩, List.mem_of_getElem? (i := 158) (by decide +kernel), List.mem_of_getElem? (i := 624) (by decide +kernel), List.mem_of_getElem? (i := 625) (by decide +kernel)⟩
theorem lw_p20 : lw_okq (⟨"LanternBridge", "leastFor", "(II)I"⟩, 7) := ⟨⟨by decide +kernel, by decide +kernel⟩, List.mem_of_getElem? (i := 23) (by decide +kernel), List.mem_of_getElem? (i := 652) (by decide +kernel), List.mem_of_getElem? (i := 653) (by decide +kernel)⟩
theorem lw_p21 : lw_okq (⟨"LanternBridge$Search", "settleAll", "(IIZ)V"⟩, 3) := ⟨⟨by decide +kernel, by decide +kernel⟩, List.mem_of_getElem? (i := 194) (by decide +kernel), List.mem_of_getElem? (i := 661) (by decide +kernel), List.mem_of_getElem? (i := 662) (by decide +kernel)⟩
theorem lw_p22 : lw_okq (⟨"LanternBridge$Search", "leastUnsettled", "(I)I"⟩, 3) := ⟨⟨by decide +kernel, by decide +kernel⟩, List.mem_of_getElem? (i := 194) (by decide +kernel), List.mem_of_getElem? (i := 670) (by decide +kernel), List.mem_of_getElem? (i := 671) (by decide +kernel)⟩
theorem lw_p23 : lw_okq (⟨"LanternBridge$Search", "bankWithLantern", "(I)I"⟩, 3) := ⟨⟨by decide +kernel, by decide +kernel⟩, List.mem_of_getElem? (i := 194) (by decide +kernel), List.mem_of_getElem? (i := 674) (by decide +kernel), List.mem_of_getElem? (i := 675) (by decide +kernel)⟩
theorem lw_p24 : lw_okq (⟨"LanternBridge$Goings", "quickestOf", "(I)I"⟩, 8) := ⟨⟨by decide +kernel, by decide +kernel⟩, List.mem_of_getElem? (i := 158) (by decide +kernel), List.mem_of_getElem? (i := 743) (by decide +kernel), List.mem_of_getElem? (i := 744) (by decide +kernel)⟩
theorem lw_p25 : lw_okq (⟨"LanternBridge$Goings", "overByRule", "(II)I"⟩, 8) := ⟨⟨by decide +kernel, by decide +kernel⟩, List.mem_of_getElem? (i := 158) (by decide +kernel), List.mem_of_getElem? (i := 747) (by decide +kernel), List.mem_of_getElem? (i := 748) (by decide +kernel)⟩
theorem lw_p26 : lw_okq (⟨"LanternBridge$Goings", "slowestOf", "(I)I"⟩, 8) := ⟨⟨by decide +kernel, by decide +kernel⟩, List.mem_of_getElem? (i := 158) (by decide +kernel), List.mem_of_getElem? (i := 751) (by decide +kernel), List.mem_of_getElem? (i := 752) (by decide +kernel)⟩
theorem lw_p27 : lw_okq (⟨"LanternBridgeModel", "clauseHere", "()V"⟩, 24) := ⟨⟨by decide +kernel, by decide +kernel⟩, List.mem_of_getElem? (i := 916) (by decide +kernel), List.mem_of_getElem? (i := 1005) (by decide +kernel), List.mem_of_getElem? (i := 1006) (by decide +kernel)⟩
theorem lw_p28 : lw_okq (⟨"LanternBridgeModel", "here", "()I"⟩, 24) := ⟨⟨by decide +kernel, by decide +kernel⟩, List.mem_of_getElem? (i := 916) (by decide +kernel), List.mem_of_getElem? (i := 1009) (by decide +kernel), List.mem_of_getElem? (i := 1010) (by decide +kernel)⟩
theorem lw_p29 : lw_okq (⟨"LanternBridgeModel", "spells", "(Ljava/lang/String;)V"⟩, 24) := ⟨⟨by decide +kernel, by decide +kernel⟩, List.mem_of_getElem? (i := 916) (by decide +kernel), List.mem_of_getElem? (i := 1014) (by decide +kernel), List.mem_of_getElem? (i := 1015) (by decide +kernel)⟩
theorem lw_p30 : lw_okq (⟨"LanternBridgeModel", "must", "(I)V"⟩, 24) := ⟨⟨by decide +kernel, by decide +kernel⟩, List.mem_of_getElem? (i := 916) (by decide +kernel), List.mem_of_getElem? (i := 1020) (by decide +kernel), List.mem_of_getElem? (i := 1021) (by decide +kernel)⟩
theorem lw_p31 : lw_okq (⟨"LanternBridgeModel", "figures", "()I"⟩, 24) := ⟨⟨by decide +kernel, by decide +kernel⟩, List.mem_of_getElem? (i := 916) (by decide +kernel), List.mem_of_getElem? (i := 1024) (by decide +kernel), List.mem_of_getElem? (i := 1025) (by decide +kernel)⟩
def lw_privs_2 : List (MethodName × Nat) := [(⟨"LanternBridge$Goings", "goesHeavier", "(II)Z"⟩, 8), (⟨"LanternBridge$Goings", "layCan", "()V"⟩, 8), (⟨"LanternBridge$Goings", "isBorne", "(I)Z"⟩, 8), (⟨"LanternBridge$Goings", "isBarred", "(II)Z"⟩, 8), (⟨"LanternBridge", "leastFor", "(II)I"⟩, 7), (⟨"LanternBridge$Search", "settleAll", "(IIZ)V"⟩, 3), (⟨"LanternBridge$Search", "leastUnsettled", "(I)I"⟩, 3), (⟨"LanternBridge$Search", "bankWithLantern", "(I)I"⟩, 3), (⟨"LanternBridge$Goings", "quickestOf", "(I)I"⟩, 8), (⟨"LanternBridge$Goings", "overByRule", "(II)I"⟩, 8), (⟨"LanternBridge$Goings", "slowestOf", "(I)I"⟩, 8), (⟨"LanternBridgeModel", "clauseHere", "()V"⟩, 24), (⟨"LanternBridgeModel", "here", "()I"⟩, 24), (⟨"LanternBridgeModel", "spells", "(Ljava/lang/String;)V"⟩, 24), (⟨"LanternBridgeModel", "must", "(I)V"⟩, 24), (⟨"LanternBridgeModel", "figures", "()I"⟩, 24)]
theorem lw_r2 : ∀ q ∈ lw_privs_2, lw_okq q := List.forall_mem_cons.mpr ⟨lw_p16, List.forall_mem_cons.mpr ⟨lw_p17, List.forall_mem_cons.mpr ⟨lw_p18, List.forall_mem_cons.mpr ⟨lw_p19, List.forall_mem_cons.mpr ⟨lw_p20, List.forall_mem_cons.mpr ⟨lw_p21, List.forall_mem_cons.mpr ⟨lw_p22, List.forall_mem_cons.mpr ⟨lw_p23, List.forall_mem_cons.mpr ⟨lw_p24, List.forall_mem_cons.mpr ⟨lw_p25, List.forall_mem_cons.mpr ⟨lw_p26, List.forall_mem_cons.mpr ⟨lw_p27, List.forall_mem_cons.mpr ⟨lw_p28, List.forall_mem_cons.mpr ⟨lw_p29, List.forall_mem_cons.mpr ⟨lw_p30, List.forall_mem_cons.mpr ⟨lw_p31, fun _ h => absurd h List.not_mem_nil⟩⟩⟩⟩⟩⟩⟩⟩⟩⟩⟩⟩⟩⟩⟩⟩
theorem lw_p32 : lw_okq (⟨"LanternBridgeModel", "some", "()V"⟩, 24) := ⟨⟨by decide +kernel, by decide +kernel⟩, List.mem_of_getElem? (i := 916) (by decide +kernel), List.mem_of_getElem? (i := 1028) (by decide +kernel), List.mem_of_getElem? (i := 1029) (by decide +kernel)⟩
theorem lw_p33 : lw_okq (⟨"LanternBridgeModel", "every", "()V"⟩, 24) := ⟨⟨by decide +kernel, by decide +kernel⟩, List.mem_of_getElem? (i := 916) (by decide +kernel), List.mem_of_getElem? (i := 1032) (by decide +kernel), List.mem_of_getElem? (i := 1033) (by decide +kernel)⟩
theorem lw_p34 : lw_okq (⟨"LanternBridgeModel", "factor", "()V"⟩, 24) := ⟨⟨by decide +kernel, by decide +kernel⟩, List.mem_of_getElem? (i := 916) (by decide +kernel), List.mem_of_getElem? (i := 1036) (by decide +kernel), List.mem_of_getElem? (i := 1037) (by decide +kernel)⟩
theorem lw_p35 : lw_okq (⟨"LanternBridgeModel", "emits", "(I)V"⟩, 24) := ⟨⟨by decide +kernel, by decide +kernel⟩, List.mem_of_getElem? (i := 916) (by decide +kernel), List.mem_of_getElem? (i := 1040) (by decide +kernel), List.mem_of_getElem? (i := 1041) (by decide +kernel)⟩
theorem lw_p36 : lw_okq (⟨"LanternBridgeModel", "among", "(Ljava/lang/String;)I"⟩, 24) := ⟨⟨by decide +kernel, by decide +kernel⟩, List.mem_of_getElem? (i := 916) (by decide +kernel), List.mem_of_getElem? (i := 1045) (by decide +kernel), List.mem_of_getElem? (i := 1046) (by decide +kernel)⟩
theorem lw_p37 : lw_okq (⟨"LanternBridgeModel", "clauseOfB", "()V"⟩, 24) := ⟨⟨by decide +kernel, by decide +kernel⟩, List.mem_of_getElem? (i := 916) (by decide +kernel), List.mem_of_getElem? (i := 1050) (by decide +kernel), List.mem_of_getElem? (i := 1051) (by decide +kernel)⟩
theorem lw_p38 : lw_okq (⟨"LanternBridgeModel", "tellsHere", "(ILjava/lang/String;)V"⟩, 24) := ⟨⟨by decide +kernel, by decide +kernel⟩, List.mem_of_getElem? (i := 916) (by decide +kernel), List.mem_of_getElem? (i := 1056) (by decide +kernel), List.mem_of_getElem? (i := 1057) (by decide +kernel)⟩
theorem lw_p39 : lw_okq (⟨"LanternBridgeModel", "isPerson", "(I)Z"⟩, 24) := ⟨⟨by decide +kernel, by decide +kernel⟩, List.mem_of_getElem? (i := 916) (by decide +kernel), List.mem_of_getElem? (i := 1070) (by decide +kernel), List.mem_of_getElem? (i := 1071) (by decide +kernel)⟩
theorem lw_p40 : lw_okq (⟨"LanternBridgeModel", "tellsOf", "(II)I"⟩, 24) := ⟨⟨by decide +kernel, by decide +kernel⟩, List.mem_of_getElem? (i := 916) (by decide +kernel), List.mem_of_getElem? (i := 1078) (by decide +kernel), List.mem_of_getElem? (i := 1079) (by decide +kernel)⟩
theorem lw_p41 : lw_okq (⟨"LanternBridgeModel", "isSet", "(I)Z"⟩, 24) := ⟨⟨by decide +kernel, by decide +kernel⟩, List.mem_of_getElem? (i := 916) (by decide +kernel), List.mem_of_getElem? (i := 1086) (by decide +kernel), List.mem_of_getElem? (i := 1087) (by decide +kernel)⟩
theorem lw_p42 : lw_okq (⟨"LanternBridgeModel", "all", "()I"⟩, 24) := ⟨⟨by decide +kernel, by decide +kernel⟩, List.mem_of_getElem? (i := 916) (by decide +kernel), List.mem_of_getElem? (i := 1090) (by decide +kernel), List.mem_of_getElem? (i := 1091) (by decide +kernel)⟩
theorem lw_p43 : lw_okq (⟨"LanternBridgeModel", "minutesOf", "(II)I"⟩, 24) := ⟨⟨by decide +kernel, by decide +kernel⟩, List.mem_of_getElem? (i := 916) (by decide +kernel), List.mem_of_getElem? (i := 1094) (by decide +kernel), List.mem_of_getElem? (i := 1095) (by decide +kernel)⟩
theorem lw_p44 : lw_okq (⟨"LanternBridgeModel", "takes", "(III)I"⟩, 24) := ⟨⟨by decide +kernel, by decide +kernel⟩, List.mem_of_getElem? (i := 916) (by decide +kernel), List.mem_of_getElem? (i := 1098) (by decide +kernel), List.mem_of_getElem? (i := 1099) (by decide +kernel)⟩
theorem lw_p45 : lw_okq (⟨"LanternBridgeModel", "looks", "(III)V"⟩, 24) := ⟨⟨by decide +kernel, by decide +kernel⟩, List.mem_of_getElem? (i := 916) (by decide +kernel), List.mem_of_getElem? (i := 1102) (by decide +kernel), List.mem_of_getElem? (i := 1103) (by decide +kernel)⟩
theorem lw_p46 : lw_okq (⟨"LanternBridgeModel", "goes", "(II)Z"⟩, 24) := ⟨⟨by decide +kernel, by decide +kernel⟩, List.mem_of_getElem? (i := 916) (by decide +kernel), List.mem_of_getElem? (i := 1109) (by decide +kernel), List.mem_of_getElem? (i := 1110) (by decide +kernel)⟩
theorem lw_p47 : lw_okq (⟨"LanternBridgeModel", "canGo", "(II)Z"⟩, 24) := ⟨⟨by decide +kernel, by decide +kernel⟩, List.mem_of_getElem? (i := 916) (by decide +kernel), List.mem_of_getElem? (i := 1113) (by decide +kernel), List.mem_of_getElem? (i := 1114) (by decide +kernel)⟩
def lw_privs_3 : List (MethodName × Nat) := [(⟨"LanternBridgeModel", "some", "()V"⟩, 24), (⟨"LanternBridgeModel", "every", "()V"⟩, 24), (⟨"LanternBridgeModel", "factor", "()V"⟩, 24), (⟨"LanternBridgeModel", "emits", "(I)V"⟩, 24), (⟨"LanternBridgeModel", "among", "(Ljava/lang/String;)I"⟩, 24), (⟨"LanternBridgeModel", "clauseOfB", "()V"⟩, 24), (⟨"LanternBridgeModel", "tellsHere", "(ILjava/lang/String;)V"⟩, 24), (⟨"LanternBridgeModel", "isPerson", "(I)Z"⟩, 24), (⟨"LanternBridgeModel", "tellsOf", "(II)I"⟩, 24), (⟨"LanternBridgeModel", "isSet", "(I)Z"⟩, 24), (⟨"LanternBridgeModel", "all", "()I"⟩, 24), (⟨"LanternBridgeModel", "minutesOf", "(II)I"⟩, 24), (⟨"LanternBridgeModel", "takes", "(III)I"⟩, 24), (⟨"LanternBridgeModel", "looks", "(III)V"⟩, 24), (⟨"LanternBridgeModel", "goes", "(II)Z"⟩, 24), (⟨"LanternBridgeModel", "canGo", "(II)Z"⟩, 24)]
theorem lw_r3 : ∀ q ∈ lw_privs_3, lw_okq q := List.forall_mem_cons.mpr ⟨lw_p32, List.forall_mem_cons.mpr ⟨lw_p33, List.forall_mem_cons.mpr ⟨lw_p34, List.forall_mem_cons.mpr ⟨lw_p35, List.forall_mem_cons.mpr ⟨lw_p36, List.forall_mem_cons.mpr ⟨lw_p37, List.forall_mem_cons.mpr ⟨lw_p38, List.forall_mem_cons.mpr ⟨lw_p39, List.forall_mem_cons.mpr ⟨lw_p40, List.forall_mem_cons.mpr ⟨lw_p41, List.forall_mem_cons.mpr ⟨lw_p42, List.forall_mem_cons.mpr ⟨lw_p43, List.forall_mem_cons.mpr ⟨lw_p44, List.forall_mem_cons.mpr ⟨lw_p45, List.forall_mem_cons.mpr ⟨lw_p46, List.forall_mem_cons.mpr ⟨lw_p47, fun _ h => absurd h List.not_mem_nil⟩⟩⟩⟩⟩⟩⟩⟩⟩⟩⟩⟩⟩⟩⟩⟩
theorem lw_p48 : lw_okq (⟨"LanternBridgeModel", "now", "()I"⟩, 24) := ⟨⟨by decide +kernel, by decide +kernel⟩, List.mem_of_getElem? (i := 916) (by decide +kernel), List.mem_of_getElem? (i := 1129) (by decide +kernel), List.mem_of_getElem? (i := 1130) (by decide +kernel)⟩
theorem lw_p49 : lw_okq (⟨"LanternBridgeModel", "leastFrom", "(III)I"⟩, 24) := ⟨⟨by decide +kernel, by decide +kernel⟩, List.mem_of_getElem? (i := 916) (by decide +kernel), List.mem_of_getElem? (i := 1133) (by decide +kernel), List.mem_of_getElem? (i := 1134) (by decide +kernel)⟩
theorem lw_p50 : lw_okq (⟨"LanternBridgeModel", "looksForCosts", "(I)V"⟩, 24) := ⟨⟨by decide +kernel, by decide +kernel⟩, List.mem_of_getElem? (i := 916) (by decide +kernel), List.mem_of_getElem? (i := 1137) (by decide +kernel), List.mem_of_getElem? (i := 1138) (by decide +kernel)⟩
theorem lw_p51 : lw_okq (⟨"LanternBridgeModel", "looksFrom", "(I)V"⟩, 24) := ⟨⟨by decide +kernel, by decide +kernel⟩, List.mem_of_getElem? (i := 916) (by decide +kernel), List.mem_of_getElem? (i := 1141) (by decide +kernel), List.mem_of_getElem? (i := 1142) (by decide +kernel)⟩
theorem lw_p52 : lw_okq (⟨"LanternBridgeModel", "comesCloser", "(I)Z"⟩, 24) := ⟨⟨by decide +kernel, by decide +kernel⟩, List.mem_of_getElem? (i := 916) (by decide +kernel), List.mem_of_getElem? (i := 1146) (by decide +kernel), List.mem_of_getElem? (i := 1147) (by decide +kernel)⟩
theorem lw_p53 : lw_okq (⟨"LanternBridgeModel", "leastOf", "(I[I)I"⟩, 24) := ⟨⟨by decide +kernel, by decide +kernel⟩, List.mem_of_getElem? (i := 916) (by decide +kernel), List.mem_of_getElem? (i := 1150) (by decide +kernel), List.mem_of_getElem? (i := 1151) (by decide +kernel)⟩
theorem lw_p54 : lw_okq (⟨"LanternBridgeModel", "looksToward", "(I)V"⟩, 24) := ⟨⟨by decide +kernel, by decide +kernel⟩, List.mem_of_getElem? (i := 916) (by decide +kernel), List.mem_of_getElem? (i := 1165) (by decide +kernel), List.mem_of_getElem? (i := 1166) (by decide +kernel)⟩
theorem lw_p55 : lw_okq (⟨"LanternBridgeModel", "isCloser", "(I)Z"⟩, 24) := ⟨⟨by decide +kernel, by decide +kernel⟩, List.mem_of_getElem? (i := 916) (by decide +kernel), List.mem_of_getElem? (i := 1169) (by decide +kernel), List.mem_of_getElem? (i := 1170) (by decide +kernel)⟩
theorem lw_p56 : lw_okq (⟨"LanternBridgeModel", "bestRule", "()I"⟩, 24) := ⟨⟨by decide +kernel, by decide +kernel⟩, List.mem_of_getElem? (i := 916) (by decide +kernel), List.mem_of_getElem? (i := 1189) (by decide +kernel), List.mem_of_getElem? (i := 1190) (by decide +kernel)⟩
theorem lw_p57 : lw_okq (⟨"LanternBridgeModel", "goesByRule", "(I)Z"⟩, 24) := ⟨⟨by decide +kernel, by decide +kernel⟩, List.mem_of_getElem? (i := 916) (by decide +kernel), List.mem_of_getElem? (i := 1193) (by decide +kernel), List.mem_of_getElem? (i := 1194) (by decide +kernel)⟩
theorem lw_p58 : lw_okq (⟨"LanternBridgeModel", "endOf", "(IZ)I"⟩, 24) := ⟨⟨by decide +kernel, by decide +kernel⟩, List.mem_of_getElem? (i := 916) (by decide +kernel), List.mem_of_getElem? (i := 1197) (by decide +kernel), List.mem_of_getElem? (i := 1198) (by decide +kernel)⟩
theorem lw_p59 : lw_okq (⟨"LanternBridgeModel", "isAhead", "(II)Z"⟩, 24) := ⟨⟨by decide +kernel, by decide +kernel⟩, List.mem_of_getElem? (i := 916) (by decide +kernel), List.mem_of_getElem? (i := 1201) (by decide +kernel), List.mem_of_getElem? (i := 1202) (by decide +kernel)⟩
theorem lw_p60 : lw_okq (⟨"LanternBridgeModel", "goesBy", "(II)I"⟩, 24) := ⟨⟨by decide +kernel, by decide +kernel⟩, List.mem_of_getElem? (i := 916) (by decide +kernel), List.mem_of_getElem? (i := 1205) (by decide +kernel), List.mem_of_getElem? (i := 1206) (by decide +kernel)⟩
theorem lw_p61 : lw_okq (⟨"LanternBridgeModel", "leastTwo", "(I)I"⟩, 24) := ⟨⟨by decide +kernel, by decide +kernel⟩, List.mem_of_getElem? (i := 916) (by decide +kernel), List.mem_of_getElem? (i := 1209) (by decide +kernel), List.mem_of_getElem? (i := 1210) (by decide +kernel)⟩
theorem lw_p62 : lw_okq (⟨"LanternBridgeModel", "makersOf", "(I)I"⟩, 24) := ⟨⟨by decide +kernel, by decide +kernel⟩, List.mem_of_getElem? (i := 916) (by decide +kernel), List.mem_of_getElem? (i := 1221) (by decide +kernel), List.mem_of_getElem? (i := 1222) (by decide +kernel)⟩
theorem lw_p63 : lw_okq (⟨"LanternBridgeModel", "mostOf", "(I)I"⟩, 24) := ⟨⟨by decide +kernel, by decide +kernel⟩, List.mem_of_getElem? (i := 916) (by decide +kernel), List.mem_of_getElem? (i := 1225) (by decide +kernel), List.mem_of_getElem? (i := 1226) (by decide +kernel)⟩
def lw_privs_4 : List (MethodName × Nat) := [(⟨"LanternBridgeModel", "now", "()I"⟩, 24), (⟨"LanternBridgeModel", "leastFrom", "(III)I"⟩, 24), (⟨"LanternBridgeModel", "looksForCosts", "(I)V"⟩, 24), (⟨"LanternBridgeModel", "looksFrom", "(I)V"⟩, 24), (⟨"LanternBridgeModel", "comesCloser", "(I)Z"⟩, 24), (⟨"LanternBridgeModel", "leastOf", "(I[I)I"⟩, 24), (⟨"LanternBridgeModel", "looksToward", "(I)V"⟩, 24), (⟨"LanternBridgeModel", "isCloser", "(I)Z"⟩, 24), (⟨"LanternBridgeModel", "bestRule", "()I"⟩, 24), (⟨"LanternBridgeModel", "goesByRule", "(I)Z"⟩, 24), (⟨"LanternBridgeModel", "endOf", "(IZ)I"⟩, 24), (⟨"LanternBridgeModel", "isAhead", "(II)Z"⟩, 24), (⟨"LanternBridgeModel", "goesBy", "(II)I"⟩, 24), (⟨"LanternBridgeModel", "leastTwo", "(I)I"⟩, 24), (⟨"LanternBridgeModel", "makersOf", "(I)I"⟩, 24), (⟨"LanternBridgeModel", "mostOf", "(I)I"⟩, 24)]
theorem lw_r4 : ∀ q ∈ lw_privs_4, lw_okq q := List.forall_mem_cons.mpr ⟨lw_p48, List.forall_mem_cons.mpr ⟨lw_p49, List.forall_mem_cons.mpr ⟨lw_p50, List.forall_mem_cons.mpr ⟨lw_p51, List.forall_mem_cons.mpr ⟨lw_p52, List.forall_mem_cons.mpr ⟨lw_p53, List.forall_mem_cons.mpr ⟨lw_p54, List.forall_mem_cons.mpr ⟨lw_p55, List.forall_mem_cons.mpr ⟨lw_p56, List.forall_mem_cons.mpr ⟨lw_p57, List.forall_mem_cons.mpr ⟨lw_p58, List.forall_mem_cons.mpr ⟨lw_p59, List.forall_mem_cons.mpr ⟨lw_p60, List.forall_mem_cons.mpr ⟨lw_p61, List.forall_mem_cons.mpr ⟨lw_p62, List.forall_mem_cons.mpr ⟨lw_p63, fun _ h => absurd h List.not_mem_nil⟩⟩⟩⟩⟩⟩⟩⟩⟩⟩⟩⟩⟩⟩⟩⟩
theorem lw_p64 : lw_okq (⟨"LanternBridgeModel", "goesActs", "(I)I"⟩, 24) := ⟨⟨by decide +kernel, by decide +kernel⟩, List.mem_of_getElem? (i := 916) (by decide +kernel), List.mem_of_getElem? (i := 1250) (by decide +kernel), List.mem_of_getElem? (i := 1251) (by decide +kernel)⟩
theorem lw_p65 : lw_okq (⟨"LanternBridgeModel", "ranBody", "(I)V"⟩, 24) := ⟨⟨by decide +kernel, by decide +kernel⟩, List.mem_of_getElem? (i := 916) (by decide +kernel), List.mem_of_getElem? (i := 1257) (by decide +kernel), List.mem_of_getElem? (i := 1258) (by decide +kernel)⟩
theorem lw_p66 : lw_okq (⟨"LanternBridgeModel", "plainGoes", "(I)I"⟩, 24) := ⟨⟨by decide +kernel, by decide +kernel⟩, List.mem_of_getElem? (i := 916) (by decide +kernel), List.mem_of_getElem? (i := 1261) (by decide +kernel), List.mem_of_getElem? (i := 1262) (by decide +kernel)⟩
theorem lw_p67 : lw_okq (⟨"LanternBridgeModel", "waitsActs", "(I)I"⟩, 24) := ⟨⟨by decide +kernel, by decide +kernel⟩, List.mem_of_getElem? (i := 916) (by decide +kernel), List.mem_of_getElem? (i := 1265) (by decide +kernel), List.mem_of_getElem? (i := 1266) (by decide +kernel)⟩
theorem lw_p68 : lw_okq (⟨"LanternBridgeModel", "plainWaits", "(I)I"⟩, 24) := ⟨⟨by decide +kernel, by decide +kernel⟩, List.mem_of_getElem? (i := 916) (by decide +kernel), List.mem_of_getElem? (i := 1269) (by decide +kernel), List.mem_of_getElem? (i := 1270) (by decide +kernel)⟩
theorem lw_p69 : lw_okq (⟨"LanternBridgeModel", "tellsActs", "(I)I"⟩, 24) := ⟨⟨by decide +kernel, by decide +kernel⟩, List.mem_of_getElem? (i := 916) (by decide +kernel), List.mem_of_getElem? (i := 1273) (by decide +kernel), List.mem_of_getElem? (i := 1274) (by decide +kernel)⟩
theorem lw_p70 : lw_okq (⟨"LanternBridgeModel", "plainTells", "(I)I"⟩, 24) := ⟨⟨by decide +kernel, by decide +kernel⟩, List.mem_of_getElem? (i := 916) (by decide +kernel), List.mem_of_getElem? (i := 1277) (by decide +kernel), List.mem_of_getElem? (i := 1278) (by decide +kernel)⟩
def lw_privs_5 : List (MethodName × Nat) := [(⟨"LanternBridgeModel", "goesActs", "(I)I"⟩, 24), (⟨"LanternBridgeModel", "ranBody", "(I)V"⟩, 24), (⟨"LanternBridgeModel", "plainGoes", "(I)I"⟩, 24), (⟨"LanternBridgeModel", "waitsActs", "(I)I"⟩, 24), (⟨"LanternBridgeModel", "plainWaits", "(I)I"⟩, 24), (⟨"LanternBridgeModel", "tellsActs", "(I)I"⟩, 24), (⟨"LanternBridgeModel", "plainTells", "(I)I"⟩, 24)]
theorem lw_r5 : ∀ q ∈ lw_privs_5, lw_okq q := List.forall_mem_cons.mpr ⟨lw_p64, List.forall_mem_cons.mpr ⟨lw_p65, List.forall_mem_cons.mpr ⟨lw_p66, List.forall_mem_cons.mpr ⟨lw_p67, List.forall_mem_cons.mpr ⟨lw_p68, List.forall_mem_cons.mpr ⟨lw_p69, List.forall_mem_cons.mpr ⟨lw_p70, fun _ h => absurd h List.not_mem_nil⟩⟩⟩⟩⟩⟩⟩
def lw_privs : List (MethodName × Nat) := lw_privs_1 ++ (lw_privs_2 ++ (lw_privs_3 ++ (lw_privs_4 ++ (lw_privs_5))))
def lw_tbl : List Cond := k2_sels lw_privs ++ tables_1
theorem lw_privs_ok : ∀ q ∈ lw_privs, lw_okq q := by
  show ∀ q ∈ lw_privs_1 ++ (lw_privs_2 ++ (lw_privs_3 ++ (lw_privs_4 ++ (lw_privs_5)))), lw_okq q
  exact List.forall_mem_append.mpr ⟨lw_r1, List.forall_mem_append.mpr ⟨lw_r2, List.forall_mem_append.mpr ⟨lw_r3, List.forall_mem_append.mpr ⟨lw_r4, lw_r5⟩⟩⟩⟩
/-! the universal words: every good word of the tables -/
def WT : List Cond := lw_tbl.filter goodWord
theorem wt_of {w : Cond} (h : w ∈ tables_1) (g : goodWord w = true) : w ∈ WT := List.mem_filter.mpr ⟨List.mem_append_right _ h, g⟩
theorem wt_ofs {w : Cond} (h : w ∈ k2_sels lw_privs) (g : goodWord w = true) : w ∈ WT := List.mem_filter.mpr ⟨List.mem_append_left _ h, g⟩
theorem wt_good {w : Cond} (h : w ∈ WT) : (w.onTables && w.keeps) = true ∨ ∃ ty, w = .arrayClass ty := good_of_word (List.mem_filter.mp h).2
theorem wt_tbl {w : Cond} (h : w ∈ WT) : w ∈ lw_tbl := (List.mem_filter.mp h).1
theorem wt_1 {w : Cond} (h : w ∈ tables_1_1) : w ∈ tables_1 := List.mem_append_left _ h
theorem wt_2 {w : Cond} (h : w ∈ tables_1_2) : w ∈ tables_1 := List.mem_append_right _ (List.mem_append_left _ h)
theorem wt_3 {w : Cond} (h : w ∈ tables_1_3) : w ∈ tables_1 := List.mem_append_right _ (List.mem_append_right _ (List.mem_append_left _ h))
theorem wt_4 {w : Cond} (h : w ∈ tables_1_4) : w ∈ tables_1 := List.mem_append_right _ (List.mem_append_right _ (List.mem_append_right _ (List.mem_append_left _ h)))
theorem wt_5 {w : Cond} (h : w ∈ tables_1_5) : w ∈ tables_1 := List.mem_append_right _ (List.mem_append_right _ (List.mem_append_right _ (List.mem_append_right _ (List.mem_append_left _ h))))
theorem wt_6 {w : Cond} (h : w ∈ tables_1_6) : w ∈ tables_1 := List.mem_append_right _ (List.mem_append_right _ (List.mem_append_right _ (List.mem_append_right _ (List.mem_append_right _ (h)))))
/-! names -/
abbrev R_Ca : String := "LanternBridge$Carried"
def F_Ca : u_T := fun k => match k with
  | 0 => ("LanternBridge$Walker", "kind", "I", true)
  | 1 => ("LanternBridge$Walker", "number", "I", true)
  | 2 => ("LanternBridge$Walker", "v", "I", true)
  | 3 => ("LanternBridge$Walker", "pace", "I", true)
  | _ => ("LanternBridge$Walker", "weight", "I", true)
def ty_Ca : Nat → FieldType := fun k => match k with
  | 0 => .int
  | 1 => .int
  | 2 => .int
  | 3 => .int
  | _ => .int
theorem nm_Ca : ∀ a, a < 5 → ∀ b, b < 5 → a ≠ b → (F_Ca a).2.1 ≠ (F_Ca b).2.1 := by decide +kernel
theorem ok_Ca : ∀ k, k < 5 → parseFieldDescriptor (F_Ca k).2.2.1 = some (ty_Ca k) := by decide +kernel
theorem uw_Ca : ∀ w ∈ u_ws R_Ca F_Ca 5, w ∈ WT := by decide +kernel
abbrev R_Go : String := "LanternBridge$Goings"
def F_Go : u_T := fun k => match k with
  | 0 => ("LanternBridge$Goings", "people", "[LLanternBridge$Walker;", true)
  | 1 => ("LanternBridge$Goings", "size", "I", false)
  | 2 => ("LanternBridge$Goings", "everybody", "I", false)
  | 3 => ("LanternBridge$Goings", "leaders", "I", false)
  | 4 => ("LanternBridge$Goings", "night", "LLanternBridge$Night;", false)
  | 5 => ("LanternBridge$Goings", "facts", "[I", true)
  | 6 => ("LanternBridge$Goings", "minutes", "[[I", true)
  | _ => ("LanternBridge$Goings", "can", "[[I", true)
def ty_Go : Nat → FieldType := fun k => match k with
  | 0 => .array (.object "LanternBridge$Walker")
  | 1 => .int
  | 2 => .int
  | 3 => .int
  | 4 => .object "LanternBridge$Night"
  | 5 => .array .int
  | 6 => .array (.array .int)
  | _ => .array (.array .int)
theorem nm_Go : ∀ a, a < 8 → ∀ b, b < 8 → a ≠ b → (F_Go a).2.1 ≠ (F_Go b).2.1 := by decide +kernel
theorem ok_Go : ∀ k, k < 8 → parseFieldDescriptor (F_Go k).2.2.1 = some (ty_Go k) := by decide +kernel
theorem uw_Go : ∀ w ∈ u_ws R_Go F_Go 8, w ∈ WT := by decide +kernel
abbrev R_La : String := "LanternBridge$Lame"
def F_La : u_T := fun k => match k with
  | 0 => ("LanternBridge$Walker", "kind", "I", true)
  | 1 => ("LanternBridge$Walker", "number", "I", true)
  | 2 => ("LanternBridge$Walker", "v", "I", true)
  | 3 => ("LanternBridge$Walker", "pace", "I", true)
  | _ => ("LanternBridge$Walker", "weight", "I", true)
def ty_La : Nat → FieldType := fun k => match k with
  | 0 => .int
  | 1 => .int
  | 2 => .int
  | 3 => .int
  | _ => .int
theorem nm_La : ∀ a, a < 5 → ∀ b, b < 5 → a ≠ b → (F_La a).2.1 ≠ (F_La b).2.1 := by decide +kernel
theorem ok_La : ∀ k, k < 5 → parseFieldDescriptor (F_La k).2.2.1 = some (ty_La k) := by decide +kernel
theorem uw_La : ∀ w ∈ u_ws R_La F_La 5, w ∈ WT := by decide +kernel
abbrev R_Le : String := "LanternBridge$Leading"
def F_Le : u_T := fun k => match k with
  | 0 => ("LanternBridge$Walker", "kind", "I", true)
  | 1 => ("LanternBridge$Walker", "number", "I", true)
  | 2 => ("LanternBridge$Walker", "v", "I", true)
  | 3 => ("LanternBridge$Walker", "pace", "I", true)
  | _ => ("LanternBridge$Walker", "weight", "I", true)
def ty_Le : Nat → FieldType := fun k => match k with
  | 0 => .int
  | 1 => .int
  | 2 => .int
  | 3 => .int
  | _ => .int
theorem nm_Le : ∀ a, a < 5 → ∀ b, b < 5 → a ≠ b → (F_Le a).2.1 ≠ (F_Le b).2.1 := by decide +kernel
theorem ok_Le : ∀ k, k < 5 → parseFieldDescriptor (F_Le k).2.2.1 = some (ty_Le k) := by decide +kernel
theorem uw_Le : ∀ w ∈ u_ws R_Le F_Le 5, w ∈ WT := by decide +kernel
abbrev R_Ni : String := "LanternBridge$Night"
def F_Ni : u_T := fun k => match k with
  | 0 => ("LanternBridge$Night", "bears", "I", false)
  | 1 => ("LanternBridge$Night", "heavy", "I", false)
  | 2 => ("LanternBridge$Night", "oil", "I", false)
  | 3 => ("LanternBridge$Night", "text", "[I", true)
  | 4 => ("LanternBridge$Night", "at", "I", false)
  | 5 => ("LanternBridge$Night", "code", "[I", true)
  | 6 => ("LanternBridge$Night", "codeSize", "I", false)
  | 7 => ("LanternBridge$Night", "word", "[I", true)
  | 8 => ("LanternBridge$Night", "number", "[I", true)
  | 9 => ("LanternBridge$Night", "codeEnd", "[I", true)
  | _ => ("LanternBridge$Night", "clauses", "I", false)
def ty_Ni : Nat → FieldType := fun k => match k with
  | 0 => .int
  | 1 => .int
  | 2 => .int
  | 3 => .array .int
  | 4 => .int
  | 5 => .array .int
  | 6 => .int
  | 7 => .array .int
  | 8 => .array .int
  | 9 => .array .int
  | _ => .int
theorem nm_Ni : ∀ a, a < 11 → ∀ b, b < 11 → a ≠ b → (F_Ni a).2.1 ≠ (F_Ni b).2.1 := by decide +kernel
theorem ok_Ni : ∀ k, k < 11 → parseFieldDescriptor (F_Ni k).2.2.1 = some (ty_Ni k) := by decide +kernel
theorem uw_Ni : ∀ w ∈ u_ws R_Ni F_Ni 11, w ∈ WT := by decide +kernel
abbrev R_Qu : String := "LanternBridge$Quick"
def F_Qu : u_T := fun k => match k with
  | 0 => ("LanternBridge$Walker", "kind", "I", true)
  | 1 => ("LanternBridge$Walker", "number", "I", true)
  | 2 => ("LanternBridge$Walker", "v", "I", true)
  | 3 => ("LanternBridge$Walker", "pace", "I", true)
  | _ => ("LanternBridge$Walker", "weight", "I", true)
def ty_Qu : Nat → FieldType := fun k => match k with
  | 0 => .int
  | 1 => .int
  | 2 => .int
  | 3 => .int
  | _ => .int
theorem nm_Qu : ∀ a, a < 5 → ∀ b, b < 5 → a ≠ b → (F_Qu a).2.1 ≠ (F_Qu b).2.1 := by decide +kernel
theorem ok_Qu : ∀ k, k < 5 → parseFieldDescriptor (F_Qu k).2.2.1 = some (ty_Qu k) := by decide +kernel
theorem uw_Qu : ∀ w ∈ u_ws R_Qu F_Qu 5, w ∈ WT := by decide +kernel
abbrev R_Se : String := "LanternBridge$Search"
def F_Se : u_T := fun k => match k with
  | 0 => ("LanternBridge$Search", "goings", "LLanternBridge$Goings;", true)
  | 1 => ("LanternBridge$Search", "measure", "[I", true)
  | _ => ("LanternBridge$Search", "settled", "[Z", true)
def ty_Se : Nat → FieldType := fun k => match k with
  | 0 => .object "LanternBridge$Goings"
  | 1 => .array .int
  | _ => .array .boolean
theorem nm_Se : ∀ a, a < 3 → ∀ b, b < 3 → a ≠ b → (F_Se a).2.1 ≠ (F_Se b).2.1 := by decide +kernel
theorem ok_Se : ∀ k, k < 3 → parseFieldDescriptor (F_Se k).2.2.1 = some (ty_Se k) := by decide +kernel
theorem uw_Se : ∀ w ∈ u_ws R_Se F_Se 3, w ∈ WT := by decide +kernel
abbrev R_St : String := "LanternBridge$State"
def F_St : u_T := fun k => match k with
  | 0 => ("LanternBridge$State", "tape", "[I", true)
  | 1 => ("LanternBridge$State", "signs", "I", false)
  | 2 => ("LanternBridge$State", "night", "LLanternBridge$Night;", false)
  | 3 => ("LanternBridge$State", "nights", "I", false)
  | 4 => ("LanternBridge$State", "people", "[LLanternBridge$Walker;", true)
  | 5 => ("LanternBridge$State", "size", "I", false)
  | 6 => ("LanternBridge$State", "far", "I", false)
  | 7 => ("LanternBridge$State", "lantern", "I", false)
  | 8 => ("LanternBridge$State", "minute", "I", false)
  | 9 => ("LanternBridge$State", "made", "I", false)
  | 10 => ("LanternBridge$State", "rowSets", "[I", true)
  | 11 => ("LanternBridge$State", "rowMinutes", "[I", true)
  | 12 => ("LanternBridge$State", "rows", "I", false)
  | 13 => ("LanternBridge$State", "bookSets", "[I", true)
  | _ => ("LanternBridge$State", "booked", "I", false)
def ty_St : Nat → FieldType := fun k => match k with
  | 0 => .array .int
  | 1 => .int
  | 2 => .object "LanternBridge$Night"
  | 3 => .int
  | 4 => .array (.object "LanternBridge$Walker")
  | 5 => .int
  | 6 => .int
  | 7 => .int
  | 8 => .int
  | 9 => .int
  | 10 => .array .int
  | 11 => .array .int
  | 12 => .int
  | 13 => .array .int
  | _ => .int
theorem nm_St : ∀ a, a < 15 → ∀ b, b < 15 → a ≠ b → (F_St a).2.1 ≠ (F_St b).2.1 := by decide +kernel
theorem ok_St : ∀ k, k < 15 → parseFieldDescriptor (F_St k).2.2.1 = some (ty_St k) := by decide +kernel
theorem uw_St : ∀ w ∈ u_ws R_St F_St 15, w ∈ WT := by decide +kernel
abbrev R_Ti : String := "LanternBridge$Tied"
def F_Ti : u_T := fun k => match k with
  | 0 => ("LanternBridge$Walker", "kind", "I", true)
  | 1 => ("LanternBridge$Walker", "number", "I", true)
  | 2 => ("LanternBridge$Walker", "v", "I", true)
  | 3 => ("LanternBridge$Walker", "pace", "I", true)
  | _ => ("LanternBridge$Walker", "weight", "I", true)
def ty_Ti : Nat → FieldType := fun k => match k with
  | 0 => .int
  | 1 => .int
  | 2 => .int
  | 3 => .int
  | _ => .int
theorem nm_Ti : ∀ a, a < 5 → ∀ b, b < 5 → a ≠ b → (F_Ti a).2.1 ≠ (F_Ti b).2.1 := by decide +kernel
theorem ok_Ti : ∀ k, k < 5 → parseFieldDescriptor (F_Ti k).2.2.1 = some (ty_Ti k) := by decide +kernel
theorem uw_Ti : ∀ w ∈ u_ws R_Ti F_Ti 5, w ∈ WT := by decide +kernel
abbrev R_Tr : String := "LanternBridge$Tiring"
def F_Tr : u_T := fun k => match k with
  | 0 => ("LanternBridge$Walker", "kind", "I", true)
  | 1 => ("LanternBridge$Walker", "number", "I", true)
  | 2 => ("LanternBridge$Walker", "v", "I", true)
  | 3 => ("LanternBridge$Walker", "pace", "I", true)
  | _ => ("LanternBridge$Walker", "weight", "I", true)
def ty_Tr : Nat → FieldType := fun k => match k with
  | 0 => .int
  | 1 => .int
  | 2 => .int
  | 3 => .int
  | _ => .int
theorem nm_Tr : ∀ a, a < 5 → ∀ b, b < 5 → a ≠ b → (F_Tr a).2.1 ≠ (F_Tr b).2.1 := by decide +kernel
theorem ok_Tr : ∀ k, k < 5 → parseFieldDescriptor (F_Tr k).2.2.1 = some (ty_Tr k) := by decide +kernel
theorem uw_Tr : ∀ w ∈ u_ws R_Tr F_Tr 5, w ∈ WT := by decide +kernel
abbrev R_Wa : String := "LanternBridge$Walker"
def F_Wa : u_T := fun k => match k with
  | 0 => ("LanternBridge$Walker", "kind", "I", true)
  | 1 => ("LanternBridge$Walker", "number", "I", true)
  | 2 => ("LanternBridge$Walker", "v", "I", true)
  | 3 => ("LanternBridge$Walker", "pace", "I", true)
  | _ => ("LanternBridge$Walker", "weight", "I", true)
def ty_Wa : Nat → FieldType := fun k => match k with
  | 0 => .int
  | 1 => .int
  | 2 => .int
  | 3 => .int
  | _ => .int
theorem nm_Wa : ∀ a, a < 5 → ∀ b, b < 5 → a ≠ b → (F_Wa a).2.1 ≠ (F_Wa b).2.1 := by decide +kernel
theorem ok_Wa : ∀ k, k < 5 → parseFieldDescriptor (F_Wa k).2.2.1 = some (ty_Wa k) := by decide +kernel
theorem uw_Wa : ∀ w ∈ u_ws R_Wa F_Wa 5, w ∈ WT := by decide +kernel
abbrev R_LB : String := "LanternBridge"
def F_LB : u_T := fun k => match k with
  | 0 => ("LanternBridge", "now", "LLanternBridge$State;", true)
  | 1 => ("LanternBridge", "kept", "LLanternBridge$State;", true)
  | 2 => ("LanternBridge", "isKept", "Z", false)
  | 3 => ("LanternBridge", "traced", "[I", true)
  | 4 => ("LanternBridge", "goings", "LLanternBridge$Goings;", true)
  | 5 => ("LanternBridge", "search", "LLanternBridge$Search;", true)
  | _ => ("LanternBridge", "stale", "Z", false)
def ty_LB : Nat → FieldType := fun k => match k with
  | 0 => .object "LanternBridge$State"
  | 1 => .object "LanternBridge$State"
  | 2 => .boolean
  | 3 => .array .int
  | 4 => .object "LanternBridge$Goings"
  | 5 => .object "LanternBridge$Search"
  | _ => .boolean
theorem nm_LB : ∀ a, a < 7 → ∀ b, b < 7 → a ≠ b → (F_LB a).2.1 ≠ (F_LB b).2.1 := by decide +kernel
theorem ok_LB : ∀ k, k < 7 → parseFieldDescriptor (F_LB k).2.2.1 = some (ty_LB k) := by decide +kernel
theorem uw_LB : ∀ w ∈ u_ws R_LB F_LB 7, w ∈ WT := by decide +kernel
abbrev R_Md : String := "LanternBridgeModel"
def F_Md : u_T := fun k => match k with
  | 0 => ("LanternBridgeModel", "thrown", "I", false)
  | 1 => ("LanternBridgeModel", "s", "[I", true)
  | 2 => ("LanternBridgeModel", "image", "[I", true)
  | 3 => ("LanternBridgeModel", "hasImage", "Z", false)
  | 4 => ("LanternBridgeModel", "act", "I", false)
  | 5 => ("LanternBridgeModel", "spot", "I", false)
  | 6 => ("LanternBridgeModel", "end", "I", false)
  | 7 => ("LanternBridgeModel", "isWrong", "Z", false)
  | 8 => ("LanternBridgeModel", "open", "I", false)
  | 9 => ("LanternBridgeModel", "by", "[I", true)
  | 10 => ("LanternBridgeModel", "truths", "[Z", true)
  | 11 => ("LanternBridgeModel", "slower", "I", false)
  | 12 => ("LanternBridgeModel", "isBarred", "Z", false)
  | 13 => ("LanternBridgeModel", "costs", "[I", true)
  | 14 => ("LanternBridgeModel", "dist", "[I", true)
  | 15 => ("LanternBridgeModel", "steps", "[I", true)
  | 16 => ("LanternBridgeModel", "toward", "[I", true)
  | 17 => ("LanternBridgeModel", "ruleMinutes", "I", false)
  | 18 => ("LanternBridgeModel", "ruleGoings", "I", false)
  | 19 => ("LanternBridgeModel", "bodies", "[I", true)
  | 20 => ("LanternBridgeModel", "ran", "I", false)
  | 21 => ("LanternBridgeModel", "kind", "I", false)
  | 22 => ("LanternBridgeModel", "number", "I", false)
  | _ => ("LanternBridgeModel", "tellsV", "I", false)
def ty_Md : Nat → FieldType := fun k => match k with
  | 0 => .int
  | 1 => .array .int
  | 2 => .array .int
  | 3 => .boolean
  | 4 => .int
  | 5 => .int
  | 6 => .int
  | 7 => .boolean
  | 8 => .int
  | 9 => .array .int
  | 10 => .array .boolean
  | 11 => .int
  | 12 => .boolean
  | 13 => .array .int
  | 14 => .array .int
  | 15 => .array .int
  | 16 => .array .int
  | 17 => .int
  | 18 => .int
  | 19 => .array .int
  | 20 => .int
  | 21 => .int
  | 22 => .int
  | _ => .int
theorem nm_Md : ∀ a, a < 24 → ∀ b, b < 24 → a ≠ b → (F_Md a).2.1 ≠ (F_Md b).2.1 := by decide +kernel
theorem ok_Md : ∀ k, k < 24 → parseFieldDescriptor (F_Md k).2.2.1 = some (ty_Md k) := by decide +kernel
theorem uw_Md : ∀ w ∈ u_ws R_Md F_Md 24, w ∈ WT := by decide +kernel
abbrev CL : List vw_C := [(R_Ca, F_Ca, 5), (R_Go, F_Go, 8), (R_La, F_La, 5), (R_Le, F_Le, 5), (R_Ni, F_Ni, 11), (R_Qu, F_Qu, 5), (R_Se, F_Se, 3), (R_St, F_St, 15), (R_Ti, F_Ti, 5), (R_Tr, F_Tr, 5), (R_Wa, F_Wa, 5), (R_LB, F_LB, 7), (R_Md, F_Md, 24)]
def y_Ca_init : MethodName := ⟨"LanternBridge$Carried", "<init>", "(IIIII)V"⟩
abbrev b_Ca_init : ByteArray := prog_2_method_1_code
def y_Ca_byKind : MethodName := ⟨"LanternBridge$Carried", "byKind", "(IIZI)I"⟩
abbrev b_Ca_byKind : ByteArray := prog_2_method_2_code
def y_Ca_goes : MethodName := ⟨"LanternBridge$Carried", "goes", "(I[I)I"⟩
abbrev b_Ca_goes : ByteArray := prog_2_method_3_code
def y_Go_init : MethodName := ⟨"LanternBridge$Goings", "<init>", "()V"⟩
abbrev b_Go_init : ByteArray := prog_3_method_1_code
def y_Go_layFor : MethodName := ⟨"LanternBridge$Goings", "layFor", "(LLanternBridge$State;)V"⟩
abbrev b_Go_layFor : ByteArray := prog_3_method_2_code
def y_Go_putInstead : MethodName := ⟨"LanternBridge$Goings", "putInstead", "(LLanternBridge$Walker;)V"⟩
abbrev b_Go_putInstead : ByteArray := prog_3_method_3_code
def y_Go_layMinutes : MethodName := ⟨"LanternBridge$Goings", "layMinutes", "(I)V"⟩
abbrev b_Go_layMinutes : ByteArray := prog_3_method_4_code
def y_Go_layCan : MethodName := ⟨"LanternBridge$Goings", "layCan", "()V"⟩
abbrev b_Go_layCan : ByteArray := prog_3_method_5_code
def y_Go_everybody : MethodName := ⟨"LanternBridge$Goings", "everybody", "()I"⟩
abbrev b_Go_everybody : ByteArray := prog_3_method_6_code
def y_Go_minutesOf : MethodName := ⟨"LanternBridge$Goings", "minutesOf", "(II)I"⟩
abbrev b_Go_minutesOf : ByteArray := prog_3_method_7_code
def y_Go_canBe : MethodName := ⟨"LanternBridge$Goings", "canBe", "(II)Z"⟩
abbrev b_Go_canBe : ByteArray := prog_3_method_8_code
def y_Go_isBorne : MethodName := ⟨"LanternBridge$Goings", "isBorne", "(I)Z"⟩
abbrev b_Go_isBorne : ByteArray := prog_3_method_9_code
def y_Go_isBarred : MethodName := ⟨"LanternBridge$Goings", "isBarred", "(II)Z"⟩
abbrev b_Go_isBarred : ByteArray := prog_3_method_10_code
def y_Go_takenByOthers : MethodName := ⟨"LanternBridge$Goings", "takenByOthers", "(III)I"⟩
abbrev b_Go_takenByOthers : ByteArray := prog_3_method_11_code
def y_Go_takenBy : MethodName := ⟨"LanternBridge$Goings", "takenBy", "(III)I"⟩
abbrev b_Go_takenBy : ByteArray := prog_3_method_12_code
def y_Go_goesHeavier : MethodName := ⟨"LanternBridge$Goings", "goesHeavier", "(II)Z"⟩
abbrev b_Go_goesHeavier : ByteArray := prog_3_method_13_code
def y_Go_layFacts : MethodName := ⟨"LanternBridge$Goings", "layFacts", "(LLanternBridge$Walker;II)V"⟩
abbrev b_Go_layFacts : ByteArray := prog_3_method_14_code
def y_Go_bestRule : MethodName := ⟨"LanternBridge$Goings", "bestRule", "(I)I"⟩
abbrev b_Go_bestRule : ByteArray := prog_3_method_15_code
def y_Go_byRule : MethodName := ⟨"LanternBridge$Goings", "byRule", "(IIZ)I"⟩
abbrev b_Go_byRule : ByteArray := prog_3_method_16_code
def y_Go_overByRule : MethodName := ⟨"LanternBridge$Goings", "overByRule", "(II)I"⟩
abbrev b_Go_overByRule : ByteArray := prog_3_method_17_code
def y_Go_quickestOf : MethodName := ⟨"LanternBridge$Goings", "quickestOf", "(I)I"⟩
abbrev b_Go_quickestOf : ByteArray := prog_3_method_18_code
def y_Go_slowestOf : MethodName := ⟨"LanternBridge$Goings", "slowestOf", "(I)I"⟩
abbrev b_Go_slowestOf : ByteArray := prog_3_method_19_code
def y_La_init : MethodName := ⟨"LanternBridge$Lame", "<init>", "(IIIII)V"⟩
abbrev b_La_init : ByteArray := prog_4_method_1_code
def y_La_byKind : MethodName := ⟨"LanternBridge$Lame", "byKind", "(IIZI)I"⟩
abbrev b_La_byKind : ByteArray := prog_4_method_2_code
def y_La_waits : MethodName := ⟨"LanternBridge$Lame", "waits", "(I[I)I"⟩
abbrev b_La_waits : ByteArray := prog_4_method_3_code
def y_Le_init : MethodName := ⟨"LanternBridge$Leading", "<init>", "(IIIII)V"⟩
abbrev b_Le_init : ByteArray := prog_5_method_1_code
def y_Le_tells : MethodName := ⟨"LanternBridge$Leading", "tells", "(I[I)I"⟩
abbrev b_Le_tells : ByteArray := prog_5_method_2_code
def y_Ni_init : MethodName := ⟨"LanternBridge$Night", "<init>", "([II)V"⟩
abbrev b_Ni_init : ByteArray := prog_6_method_1_code
def y_Ni_read : MethodName := ⟨"LanternBridge$Night", "read", "()I"⟩
abbrev b_Ni_read : ByteArray := prog_6_method_2_code
def y_Ni_addClause : MethodName := ⟨"LanternBridge$Night", "addClause", "(II)V"⟩
abbrev b_Ni_addClause : ByteArray := prog_6_method_3_code
def y_Ni_signAt : MethodName := ⟨"LanternBridge$Night", "signAt", "(I)I"⟩
abbrev b_Ni_signAt : ByteArray := prog_6_method_4_code
def y_Ni_take : MethodName := ⟨"LanternBridge$Night", "take", "(C)Z"⟩
abbrev b_Ni_take : ByteArray := prog_6_method_5_code
def y_Ni_readWord : MethodName := ⟨"LanternBridge$Night", "readWord", "()I"⟩
abbrev b_Ni_readWord : ByteArray := prog_6_method_6_code
def y_Ni_takeAll : MethodName := ⟨"LanternBridge$Night", "takeAll", "(Ljava/lang/String;)Z"⟩
abbrev b_Ni_takeAll : ByteArray := prog_6_method_7_code
def y_Ni_readNumber : MethodName := ⟨"LanternBridge$Night", "readNumber", "()I"⟩
abbrev b_Ni_readNumber : ByteArray := prog_6_method_8_code
def y_Ni_readEither : MethodName := ⟨"LanternBridge$Night", "readEither", "(I)Z"⟩
abbrev b_Ni_readEither : ByteArray := prog_6_method_9_code
def y_Ni_readBoth : MethodName := ⟨"LanternBridge$Night", "readBoth", "(I)Z"⟩
abbrev b_Ni_readBoth : ByteArray := prog_6_method_10_code
def y_Ni_readSingle : MethodName := ⟨"LanternBridge$Night", "readSingle", "(I)Z"⟩
abbrev b_Ni_readSingle : ByteArray := prog_6_method_11_code
def y_Ni_readTest : MethodName := ⟨"LanternBridge$Night", "readTest", "()Z"⟩
abbrev b_Ni_readTest : ByteArray := prog_6_method_12_code
def y_Ni_indexIn : MethodName := ⟨"LanternBridge$Night", "indexIn", "(Ljava/lang/String;)I"⟩
abbrev b_Ni_indexIn : ByteArray := prog_6_method_13_code
def y_Ni_addCode : MethodName := ⟨"LanternBridge$Night", "addCode", "(I)V"⟩
abbrev b_Ni_addCode : ByteArray := prog_6_method_14_code
def y_Ni_slowness : MethodName := ⟨"LanternBridge$Night", "slowness", "([I)I"⟩
abbrev b_Ni_slowness : ByteArray := prog_6_method_15_code
def y_Ni_bars : MethodName := ⟨"LanternBridge$Night", "bars", "([I)Z"⟩
abbrev b_Ni_bars : ByteArray := prog_6_method_16_code
def y_Ni_holds : MethodName := ⟨"LanternBridge$Night", "holds", "(I[I)Z"⟩
abbrev b_Ni_holds : ByteArray := prog_6_method_17_code
def y_Qu_init : MethodName := ⟨"LanternBridge$Quick", "<init>", "(IIIII)V"⟩
abbrev b_Qu_init : ByteArray := prog_7_method_1_code
def y_Qu_byKind : MethodName := ⟨"LanternBridge$Quick", "byKind", "(IIZI)I"⟩
abbrev b_Qu_byKind : ByteArray := prog_7_method_2_code
def y_Qu_goes : MethodName := ⟨"LanternBridge$Quick", "goes", "(I[I)I"⟩
abbrev b_Qu_goes : ByteArray := prog_7_method_3_code
def y_Se_init : MethodName := ⟨"LanternBridge$Search", "<init>", "(LLanternBridge$Goings;)V"⟩
abbrev b_Se_init : ByteArray := prog_8_method_1_code
def y_Se_measureTo : MethodName := ⟨"LanternBridge$Search", "measureTo", "(IIZ)V"⟩
abbrev b_Se_measureTo : ByteArray := prog_8_method_2_code
def y_Se_measureFrom : MethodName := ⟨"LanternBridge$Search", "measureFrom", "(I)V"⟩
abbrev b_Se_measureFrom : ByteArray := prog_8_method_3_code
def y_Se_measureAt : MethodName := ⟨"LanternBridge$Search", "measureAt", "(I)I"⟩
abbrev b_Se_measureAt : ByteArray := prog_8_method_4_code
def y_Se_firstSetAt : MethodName := ⟨"LanternBridge$Search", "firstSetAt", "(I)I"⟩
abbrev b_Se_firstSetAt : ByteArray := prog_8_method_5_code
def y_Se_mostOver : MethodName := ⟨"LanternBridge$Search", "mostOver", "(I)I"⟩
abbrev b_Se_mostOver : ByteArray := prog_8_method_6_code
def y_Se_settleAll : MethodName := ⟨"LanternBridge$Search", "settleAll", "(IIZ)V"⟩
abbrev b_Se_settleAll : ByteArray := prog_8_method_7_code
def y_Se_leastUnsettled : MethodName := ⟨"LanternBridge$Search", "leastUnsettled", "(I)I"⟩
abbrev b_Se_leastUnsettled : ByteArray := prog_8_method_8_code
def y_Se_bankWithLantern : MethodName := ⟨"LanternBridge$Search", "bankWithLantern", "(I)I"⟩
abbrev b_Se_bankWithLantern : ByteArray := prog_8_method_9_code
def y_Se_placeBehind : MethodName := ⟨"LanternBridge$Search", "placeBehind", "(II)I"⟩
abbrev b_Se_placeBehind : ByteArray := prog_8_method_10_code
def y_St_init : MethodName := ⟨"LanternBridge$State", "<init>", "()V"⟩
abbrev b_St_init : ByteArray := prog_9_method_1_code
def y_St_copyFrom : MethodName := ⟨"LanternBridge$State", "copyFrom", "(LLanternBridge$State;)V"⟩
abbrev b_St_copyFrom : ByteArray := prog_9_method_2_code
def y_St_walker : MethodName := ⟨"LanternBridge$State", "walker", "(I)LLanternBridge$Walker;"⟩
abbrev b_St_walker : ByteArray := prog_9_method_3_code
def y_St_everybody : MethodName := ⟨"LanternBridge$State", "everybody", "()I"⟩
abbrev b_St_everybody : ByteArray := prog_9_method_4_code
def y_St_isSet : MethodName := ⟨"LanternBridge$State", "isSet", "(I)Z"⟩
abbrev b_St_isSet : ByteArray := prog_9_method_5_code
def y_St_withLantern : MethodName := ⟨"LanternBridge$State", "withLantern", "()I"⟩
abbrev b_St_withLantern : ByteArray := prog_9_method_6_code
def y_St_place : MethodName := ⟨"LanternBridge$State", "place", "()I"⟩
abbrev b_St_place : ByteArray := prog_9_method_7_code
def y_St_greatestOwn : MethodName := ⟨"LanternBridge$State", "greatestOwn", "(I)I"⟩
abbrev b_St_greatestOwn : ByteArray := prog_9_method_8_code
def y_St_rowsAgree : MethodName := ⟨"LanternBridge$State", "rowsAgree", "(I)Z"⟩
abbrev b_St_rowsAgree : ByteArray := prog_9_method_9_code
def y_Ti_init : MethodName := ⟨"LanternBridge$Tied", "<init>", "(IIIII)V"⟩
abbrev b_Ti_init : ByteArray := prog_10_method_1_code
def y_Ti_byKind : MethodName := ⟨"LanternBridge$Tied", "byKind", "(IIZI)I"⟩
abbrev b_Ti_byKind : ByteArray := prog_10_method_2_code
def y_Ti_tells : MethodName := ⟨"LanternBridge$Tied", "tells", "(I[I)I"⟩
abbrev b_Ti_tells : ByteArray := prog_10_method_3_code
def y_Tr_init : MethodName := ⟨"LanternBridge$Tiring", "<init>", "(IIIII)V"⟩
abbrev b_Tr_init : ByteArray := prog_11_method_1_code
def y_Tr_byKind : MethodName := ⟨"LanternBridge$Tiring", "byKind", "(IIZI)I"⟩
abbrev b_Tr_byKind : ByteArray := prog_11_method_2_code
def y_Tr_waits : MethodName := ⟨"LanternBridge$Tiring", "waits", "(I[I)I"⟩
abbrev b_Tr_waits : ByteArray := prog_11_method_3_code
def y_Wa_init : MethodName := ⟨"LanternBridge$Walker", "<init>", "(IIIII)V"⟩
abbrev b_Wa_init : ByteArray := prog_12_method_1_code
def y_Wa_make : MethodName := ⟨"LanternBridge$Walker", "make", "(IIIII)LLanternBridge$Walker;"⟩
abbrev b_Wa_make : ByteArray := prog_12_method_2_code
def y_Wa_isUnder : MethodName := ⟨"LanternBridge$Walker", "isUnder", "(I)Z"⟩
abbrev b_Wa_isUnder : ByteArray := prog_12_method_3_code
def y_Wa_byKind : MethodName := ⟨"LanternBridge$Walker", "byKind", "(IIZI)I"⟩
abbrev b_Wa_byKind : ByteArray := prog_12_method_4_code
def y_Wa_goes : MethodName := ⟨"LanternBridge$Walker", "goes", "(I[I)I"⟩
abbrev b_Wa_goes : ByteArray := prog_12_method_5_code
def y_Wa_waits : MethodName := ⟨"LanternBridge$Walker", "waits", "(I[I)I"⟩
abbrev b_Wa_waits : ByteArray := prog_12_method_6_code
def y_Wa_tells : MethodName := ⟨"LanternBridge$Walker", "tells", "(I[I)I"⟩
abbrev b_Wa_tells : ByteArray := prog_12_method_7_code
def y_Wa_begin : MethodName := ⟨"LanternBridge$Walker", "begin", "(I[I)V"⟩
abbrev b_Wa_begin : ByteArray := prog_12_method_8_code
def y_LB_init : MethodName := ⟨"LanternBridge", "<init>", "()V"⟩
abbrev b_LB_init : ByteArray := prog_1_method_1_code
def y_LB_feed : MethodName := ⟨"LanternBridge", "feed", "(I)I"⟩
abbrev b_LB_feed : ByteArray := prog_1_method_2_code
def y_LB_night : MethodName := ⟨"LanternBridge", "night", "()I"⟩
abbrev b_LB_night : ByteArray := prog_1_method_3_code
def y_LB_person : MethodName := ⟨"LanternBridge", "person", "(IIII)I"⟩
abbrev b_LB_person : ByteArray := prog_1_method_4_code
def y_LB_of : MethodName := ⟨"LanternBridge", "of", "(II)I"⟩
abbrev b_LB_of : ByteArray := prog_1_method_5_code
def y_LB_told : MethodName := ⟨"LanternBridge", "told", "(I)I"⟩
abbrev b_LB_told : ByteArray := prog_1_method_6_code
def y_LB_going : MethodName := ⟨"LanternBridge", "going", "(III)I"⟩
abbrev b_LB_going : ByteArray := prog_1_method_7_code
def y_LB_go : MethodName := ⟨"LanternBridge", "go", "(I)I"⟩
abbrev b_LB_go : ByteArray := prog_1_method_8_code
def y_LB_least : MethodName := ⟨"LanternBridge", "least", "(I)I"⟩
abbrev b_LB_least : ByteArray := prog_1_method_9_code
def y_LB_fewest : MethodName := ⟨"LanternBridge", "fewest", "(I)I"⟩
abbrev b_LB_fewest : ByteArray := prog_1_method_10_code
def y_LB_first : MethodName := ⟨"LanternBridge", "first", "(I)I"⟩
abbrev b_LB_first : ByteArray := prog_1_method_11_code
def y_LB_by : MethodName := ⟨"LanternBridge", "by", "(II)I"⟩
abbrev b_LB_by : ByteArray := prog_1_method_12_code
def y_LB_quicker : MethodName := ⟨"LanternBridge", "quicker", "(I)I"⟩
abbrev b_LB_quicker : ByteArray := prog_1_method_13_code
def y_LB_leave : MethodName := ⟨"LanternBridge", "leave", "()I"⟩
abbrev b_LB_leave : ByteArray := prog_1_method_14_code
def y_LB_rule : MethodName := ⟨"LanternBridge", "rule", "(II)I"⟩
abbrev b_LB_rule : ByteArray := prog_1_method_15_code
def y_LB_seen : MethodName := ⟨"LanternBridge", "seen", "(II)I"⟩
abbrev b_LB_seen : ByteArray := prog_1_method_16_code
def y_LB_span : MethodName := ⟨"LanternBridge", "span", "(II)I"⟩
abbrev b_LB_span : ByteArray := prog_1_method_17_code
def y_LB_chance : MethodName := ⟨"LanternBridge", "chance", "(IIII)J"⟩
abbrev b_LB_chance : ByteArray := prog_1_method_18_code
def y_LB_book : MethodName := ⟨"LanternBridge", "book", "(I)I"⟩
abbrev b_LB_book : ByteArray := prog_1_method_19_code
def y_LB_looked : MethodName := ⟨"LanternBridge", "looked", "(I)I"⟩
abbrev b_LB_looked : ByteArray := prog_1_method_20_code
def y_LB_act : MethodName := ⟨"LanternBridge", "act", "(III)I"⟩
abbrev b_LB_act : ByteArray := prog_1_method_21_code
def y_LB_trace : MethodName := ⟨"LanternBridge", "trace", "(I)I"⟩
abbrev b_LB_trace : ByteArray := prog_1_method_22_code
def y_LB_as : MethodName := ⟨"LanternBridge", "as", "(II)I"⟩
abbrev b_LB_as : ByteArray := prog_1_method_23_code
def y_LB_image : MethodName := ⟨"LanternBridge", "image", "()I"⟩
abbrev b_LB_image : ByteArray := prog_1_method_24_code
def y_LB_undo : MethodName := ⟨"LanternBridge", "undo", "()I"⟩
abbrev b_LB_undo : ByteArray := prog_1_method_25_code
def y_LB_count : MethodName := ⟨"LanternBridge", "count", "(I)I"⟩
abbrev b_LB_count : ByteArray := prog_1_method_26_code
def y_LB_refresh : MethodName := ⟨"LanternBridge", "refresh", "()V"⟩
abbrev b_LB_refresh : ByteArray := prog_1_method_27_code
def y_LB_leastFor : MethodName := ⟨"LanternBridge", "leastFor", "(II)I"⟩
abbrev b_LB_leastFor : ByteArray := prog_1_method_28_code
def y_LB_sharedWithTen : MethodName := ⟨"LanternBridge", "sharedWithTen", "(I)I"⟩
abbrev b_LB_sharedWithTen : ByteArray := prog_1_method_29_code
def y_Md_init : MethodName := ⟨"LanternBridgeModel", "<init>", "()V"⟩
abbrev b_Md_init : ByteArray := prog_14_method_1_code
def y_Md_in : MethodName := ⟨"LanternBridgeModel", "in", "(III)Z"⟩
abbrev b_Md_in : ByteArray := prog_14_method_3_code
def y_Md_count1 : MethodName := ⟨"LanternBridgeModel", "count1", "(I)I"⟩
abbrev b_Md_count1 : ByteArray := prog_14_method_4_code
def y_Md_isPerson : MethodName := ⟨"LanternBridgeModel", "isPerson", "(I)Z"⟩
abbrev b_Md_isPerson : ByteArray := prog_14_method_5_code
def y_Md_all : MethodName := ⟨"LanternBridgeModel", "all", "()I"⟩
abbrev b_Md_all : ByteArray := prog_14_method_6_code
def y_Md_isSet : MethodName := ⟨"LanternBridgeModel", "isSet", "(I)Z"⟩
abbrev b_Md_isSet : ByteArray := prog_14_method_7_code
def y_Md_feed : MethodName := ⟨"LanternBridgeModel", "feed", "(I)I"⟩
abbrev b_Md_feed : ByteArray := prog_14_method_8_code
def y_Md_here : MethodName := ⟨"LanternBridgeModel", "here", "()I"⟩
abbrev b_Md_here : ByteArray := prog_14_method_9_code
def y_Md_must : MethodName := ⟨"LanternBridgeModel", "must", "(I)V"⟩
abbrev b_Md_must : ByteArray := prog_14_method_10_code
def y_Md_spells : MethodName := ⟨"LanternBridgeModel", "spells", "(Ljava/lang/String;)V"⟩
abbrev b_Md_spells : ByteArray := prog_14_method_11_code
def y_Md_figures : MethodName := ⟨"LanternBridgeModel", "figures", "()I"⟩
abbrev b_Md_figures : ByteArray := prog_14_method_12_code
def y_Md_among : MethodName := ⟨"LanternBridgeModel", "among", "(Ljava/lang/String;)I"⟩
abbrev b_Md_among : ByteArray := prog_14_method_13_code
def y_Md_emits : MethodName := ⟨"LanternBridgeModel", "emits", "(I)V"⟩
abbrev b_Md_emits : ByteArray := prog_14_method_14_code
def y_Md_factor : MethodName := ⟨"LanternBridgeModel", "factor", "()V"⟩
abbrev b_Md_factor : ByteArray := prog_14_method_15_code
def y_Md_every : MethodName := ⟨"LanternBridgeModel", "every", "()V"⟩
abbrev b_Md_every : ByteArray := prog_14_method_16_code
def y_Md_some : MethodName := ⟨"LanternBridgeModel", "some", "()V"⟩
abbrev b_Md_some : ByteArray := prog_14_method_17_code
def y_Md_tellsHere : MethodName := ⟨"LanternBridgeModel", "tellsHere", "(ILjava/lang/String;)V"⟩
abbrev b_Md_tellsHere : ByteArray := prog_14_method_18_code
def y_Md_clauseOfB : MethodName := ⟨"LanternBridgeModel", "clauseOfB", "()V"⟩
abbrev b_Md_clauseOfB : ByteArray := prog_14_method_19_code
def y_Md_clauseHere : MethodName := ⟨"LanternBridgeModel", "clauseHere", "()V"⟩
abbrev b_Md_clauseHere : ByteArray := prog_14_method_20_code
def y_Md_night : MethodName := ⟨"LanternBridgeModel", "night", "()I"⟩
abbrev b_Md_night : ByteArray := prog_14_method_21_code
def y_Md_tellsOf : MethodName := ⟨"LanternBridgeModel", "tellsOf", "(II)I"⟩
abbrev b_Md_tellsOf : ByteArray := prog_14_method_22_code
def y_Md_person : MethodName := ⟨"LanternBridgeModel", "person", "(IIII)I"⟩
abbrev b_Md_person : ByteArray := prog_14_method_23_code
def y_Md_of : MethodName := ⟨"LanternBridgeModel", "of", "(II)I"⟩
abbrev b_Md_of : ByteArray := prog_14_method_24_code
def y_Md_told : MethodName := ⟨"LanternBridgeModel", "told", "(I)I"⟩
abbrev b_Md_told : ByteArray := prog_14_method_25_code
def y_Md_looks : MethodName := ⟨"LanternBridgeModel", "looks", "(III)V"⟩
abbrev b_Md_looks : ByteArray := prog_14_method_26_code
def y_Md_goes : MethodName := ⟨"LanternBridgeModel", "goes", "(II)Z"⟩
abbrev b_Md_goes : ByteArray := prog_14_method_27_code
def y_Md_takes : MethodName := ⟨"LanternBridgeModel", "takes", "(III)I"⟩
abbrev b_Md_takes : ByteArray := prog_14_method_28_code
def y_Md_minutesOf : MethodName := ⟨"LanternBridgeModel", "minutesOf", "(II)I"⟩
abbrev b_Md_minutesOf : ByteArray := prog_14_method_29_code
def y_Md_canGo : MethodName := ⟨"LanternBridgeModel", "canGo", "(II)Z"⟩
abbrev b_Md_canGo : ByteArray := prog_14_method_30_code
def y_Md_going : MethodName := ⟨"LanternBridgeModel", "going", "(III)I"⟩
abbrev b_Md_going : ByteArray := prog_14_method_31_code
def y_Md_areHere : MethodName := ⟨"LanternBridgeModel", "areHere", "(III)Z"⟩
abbrev b_Md_areHere : ByteArray := prog_14_method_32_code
def y_Md_go : MethodName := ⟨"LanternBridgeModel", "go", "(I)I"⟩
abbrev b_Md_go : ByteArray := prog_14_method_33_code
def y_Md_looksForCosts : MethodName := ⟨"LanternBridgeModel", "looksForCosts", "(I)V"⟩
abbrev b_Md_looksForCosts : ByteArray := prog_14_method_34_code
def y_Md_comesCloser : MethodName := ⟨"LanternBridgeModel", "comesCloser", "(I)Z"⟩
abbrev b_Md_comesCloser : ByteArray := prog_14_method_35_code
def y_Md_looksFrom : MethodName := ⟨"LanternBridgeModel", "looksFrom", "(I)V"⟩
abbrev b_Md_looksFrom : ByteArray := prog_14_method_36_code
def y_Md_now : MethodName := ⟨"LanternBridgeModel", "now", "()I"⟩
abbrev b_Md_now : ByteArray := prog_14_method_37_code
def y_Md_leastOf : MethodName := ⟨"LanternBridgeModel", "leastOf", "(I[I)I"⟩
abbrev b_Md_leastOf : ByteArray := prog_14_method_38_code
def y_Md_leastFrom : MethodName := ⟨"LanternBridgeModel", "leastFrom", "(III)I"⟩
abbrev b_Md_leastFrom : ByteArray := prog_14_method_39_code
def y_Md_orNone : MethodName := ⟨"LanternBridgeModel", "orNone", "(I)I"⟩
abbrev b_Md_orNone : ByteArray := prog_14_method_40_code
def y_Md_least : MethodName := ⟨"LanternBridgeModel", "least", "(I)I"⟩
abbrev b_Md_least : ByteArray := prog_14_method_41_code
def y_Md_fewest : MethodName := ⟨"LanternBridgeModel", "fewest", "(I)I"⟩
abbrev b_Md_fewest : ByteArray := prog_14_method_42_code
def y_Md_first : MethodName := ⟨"LanternBridgeModel", "first", "(I)I"⟩
abbrev b_Md_first : ByteArray := prog_14_method_43_code
def y_Md_isCloser : MethodName := ⟨"LanternBridgeModel", "isCloser", "(I)Z"⟩
abbrev b_Md_isCloser : ByteArray := prog_14_method_44_code
def y_Md_looksToward : MethodName := ⟨"LanternBridgeModel", "looksToward", "(I)V"⟩
abbrev b_Md_looksToward : ByteArray := prog_14_method_45_code
def y_Md_by : MethodName := ⟨"LanternBridgeModel", "by", "(II)I"⟩
abbrev b_Md_by : ByteArray := prog_14_method_46_code
def y_Md_quicker : MethodName := ⟨"LanternBridgeModel", "quicker", "(I)I"⟩
abbrev b_Md_quicker : ByteArray := prog_14_method_47_code
def y_Md_leave : MethodName := ⟨"LanternBridgeModel", "leave", "()I"⟩
abbrev b_Md_leave : ByteArray := prog_14_method_48_code
def y_Md_isAhead : MethodName := ⟨"LanternBridgeModel", "isAhead", "(II)Z"⟩
abbrev b_Md_isAhead : ByteArray := prog_14_method_49_code
def y_Md_endOf : MethodName := ⟨"LanternBridgeModel", "endOf", "(IZ)I"⟩
abbrev b_Md_endOf : ByteArray := prog_14_method_50_code
def y_Md_leastTwo : MethodName := ⟨"LanternBridgeModel", "leastTwo", "(I)I"⟩
abbrev b_Md_leastTwo : ByteArray := prog_14_method_51_code
def y_Md_goesBy : MethodName := ⟨"LanternBridgeModel", "goesBy", "(II)I"⟩
abbrev b_Md_goesBy : ByteArray := prog_14_method_52_code
def y_Md_goesByRule : MethodName := ⟨"LanternBridgeModel", "goesByRule", "(I)Z"⟩
abbrev b_Md_goesByRule : ByteArray := prog_14_method_53_code
def y_Md_bestRule : MethodName := ⟨"LanternBridgeModel", "bestRule", "()I"⟩
abbrev b_Md_bestRule : ByteArray := prog_14_method_54_code
def y_Md_rule : MethodName := ⟨"LanternBridgeModel", "rule", "(II)I"⟩
abbrev b_Md_rule : ByteArray := prog_14_method_55_code
def y_Md_seen : MethodName := ⟨"LanternBridgeModel", "seen", "(II)I"⟩
abbrev b_Md_seen : ByteArray := prog_14_method_56_code
def y_Md_mostOf : MethodName := ⟨"LanternBridgeModel", "mostOf", "(I)I"⟩
abbrev b_Md_mostOf : ByteArray := prog_14_method_57_code
def y_Md_makersOf : MethodName := ⟨"LanternBridgeModel", "makersOf", "(I)I"⟩
abbrev b_Md_makersOf : ByteArray := prog_14_method_58_code
def y_Md_span : MethodName := ⟨"LanternBridgeModel", "span", "(II)I"⟩
abbrev b_Md_span : ByteArray := prog_14_method_59_code
def y_Md_lowest : MethodName := ⟨"LanternBridgeModel", "lowest", "(JJI)J"⟩
abbrev b_Md_lowest : ByteArray := prog_14_method_60_code
def y_Md_chance : MethodName := ⟨"LanternBridgeModel", "chance", "(IIII)J"⟩
abbrev b_Md_chance : ByteArray := prog_14_method_61_code
def y_Md_book : MethodName := ⟨"LanternBridgeModel", "book", "(I)I"⟩
abbrev b_Md_book : ByteArray := prog_14_method_62_code
def y_Md_looked : MethodName := ⟨"LanternBridgeModel", "looked", "(I)I"⟩
abbrev b_Md_looked : ByteArray := prog_14_method_63_code
def y_Md_ranBody : MethodName := ⟨"LanternBridgeModel", "ranBody", "(I)V"⟩
abbrev b_Md_ranBody : ByteArray := prog_14_method_64_code
def y_Md_isUnder : MethodName := ⟨"LanternBridgeModel", "isUnder", "(II)Z"⟩
abbrev b_Md_isUnder : ByteArray := prog_14_method_65_code
def y_Md_plainGoes : MethodName := ⟨"LanternBridgeModel", "plainGoes", "(I)I"⟩
abbrev b_Md_plainGoes : ByteArray := prog_14_method_66_code
def y_Md_goesActs : MethodName := ⟨"LanternBridgeModel", "goesActs", "(I)I"⟩
abbrev b_Md_goesActs : ByteArray := prog_14_method_67_code
def y_Md_plainWaits : MethodName := ⟨"LanternBridgeModel", "plainWaits", "(I)I"⟩
abbrev b_Md_plainWaits : ByteArray := prog_14_method_68_code
def y_Md_waitsActs : MethodName := ⟨"LanternBridgeModel", "waitsActs", "(I)I"⟩
abbrev b_Md_waitsActs : ByteArray := prog_14_method_69_code
def y_Md_plainTells : MethodName := ⟨"LanternBridgeModel", "plainTells", "(I)I"⟩
abbrev b_Md_plainTells : ByteArray := prog_14_method_70_code
def y_Md_tellsActs : MethodName := ⟨"LanternBridgeModel", "tellsActs", "(I)I"⟩
abbrev b_Md_tellsActs : ByteArray := prog_14_method_71_code
def y_Md_act : MethodName := ⟨"LanternBridgeModel", "act", "(III)I"⟩
abbrev b_Md_act : ByteArray := prog_14_method_72_code
def y_Md_trace : MethodName := ⟨"LanternBridgeModel", "trace", "(I)I"⟩
abbrev b_Md_trace : ByteArray := prog_14_method_73_code
def y_Md_as : MethodName := ⟨"LanternBridgeModel", "as", "(II)I"⟩
abbrev b_Md_as : ByteArray := prog_14_method_74_code
def y_Md_image : MethodName := ⟨"LanternBridgeModel", "image", "()I"⟩
abbrev b_Md_image : ByteArray := prog_14_method_75_code
def y_Md_undo : MethodName := ⟨"LanternBridgeModel", "undo", "()I"⟩
abbrev b_Md_undo : ByteArray := prog_14_method_76_code
def y_Md_count : MethodName := ⟨"LanternBridgeModel", "count", "(I)I"⟩
abbrev b_Md_count : ByteArray := prog_14_method_77_code
def y_Object_init : MethodName := ⟨"java/lang/Object", "<init>", "()V"⟩
abbrev b_Object_init : ByteArray := object_method_1_code
def y_Math_min : MethodName := ⟨"java/lang/Math", "min", "(II)I"⟩
abbrev b_Math_min : ByteArray := prog_17_method_69_code
def y_Math_max : MethodName := ⟨"java/lang/Math", "max", "(II)I"⟩
abbrev b_Math_max : ByteArray := prog_17_method_65_code
def y_String_length : MethodName := ⟨"java/lang/String", "length", "()I"⟩
abbrev b_String_length : ByteArray := prog_18_method_54_code
def y_String_coder : MethodName := ⟨"java/lang/String", "coder", "()B"⟩
abbrev b_String_coder : ByteArray := prog_18_method_152_code
def y_String_charAt : MethodName := ⟨"java/lang/String", "charAt", "(I)C"⟩
abbrev b_String_charAt : ByteArray := prog_18_method_56_code
def y_String_isLatin1 : MethodName := ⟨"java/lang/String", "isLatin1", "()Z"⟩
abbrev b_String_isLatin1 : ByteArray := prog_18_method_154_code
def y_SL1_charAt : MethodName := ⟨"java/lang/StringLatin1", "charAt", "([BI)C"⟩
abbrev b_SL1_charAt : ByteArray := prog_19_method_2_code
def y_String_checkIndex : MethodName := ⟨"java/lang/String", "checkIndex", "(II)V"⟩
abbrev b_String_checkIndex : ByteArray := prog_18_method_155_code
def y_Pre_checkIndex : MethodName := ⟨"jdk/internal/util/Preconditions", "checkIndex", "(IILjava/util/function/BiFunction;)I"⟩
abbrev b_Pre_checkIndex : ByteArray := prog_22_method_11_code
def y_SU16_charAt : MethodName := ⟨"java/lang/StringUTF16", "charAt", "([BI)C"⟩
abbrev b_SU16_charAt : ByteArray := prog_20_method_83_code
def y_SU16_checkIndex : MethodName := ⟨"java/lang/StringUTF16", "checkIndex", "(I[B)V"⟩
abbrev b_SU16_checkIndex : ByteArray := prog_20_method_91_code
def y_SU16_length : MethodName := ⟨"java/lang/StringUTF16", "length", "([B)I"⟩
abbrev b_SU16_length : ByteArray := prog_20_method_6_code
def y_SU16_getChar : MethodName := ⟨"java/lang/StringUTF16", "getChar", "([BI)C"⟩
abbrev b_SU16_getChar : ByteArray := prog_20_method_5_code
def y_String_indexOf : MethodName := ⟨"java/lang/String", "indexOf", "(I)I"⟩
abbrev b_String_indexOf : ByteArray := prog_18_method_79_code
def y_String_indexOf_o1 : MethodName := ⟨"java/lang/String", "indexOf", "(II)I"⟩
abbrev b_String_indexOf_o1 : ByteArray := prog_18_method_80_code
def y_SL1_indexOf : MethodName := ⟨"java/lang/StringLatin1", "indexOf", "([BIII)I"⟩
abbrev b_SL1_indexOf : ByteArray := prog_19_method_22_code
def y_SL1_canEncode : MethodName := ⟨"java/lang/StringLatin1", "canEncode", "(I)Z"⟩
abbrev b_SL1_canEncode : ByteArray := prog_19_method_4_code
def y_SL1_indexOfChar : MethodName := ⟨"java/lang/StringLatin1", "indexOfChar", "([BIII)I"⟩
abbrev b_SL1_indexOfChar : ByteArray := prog_19_method_23_code
def y_SU16_indexOf : MethodName := ⟨"java/lang/StringUTF16", "indexOf", "([BIII)I"⟩
abbrev b_SU16_indexOf : ByteArray := prog_20_method_40_code
def y_SU16_indexOfChar : MethodName := ⟨"java/lang/StringUTF16", "indexOfChar", "([BIII)I"⟩
abbrev b_SU16_indexOfChar : ByteArray := prog_20_method_47_code
def y_SU16_checkBoundsBeginEnd : MethodName := ⟨"java/lang/StringUTF16", "checkBoundsBeginEnd", "(II[B)V"⟩
abbrev b_SU16_checkBoundsBeginEnd : ByteArray := prog_20_method_93_code
def y_String_checkBoundsBeginEnd : MethodName := ⟨"java/lang/String", "checkBoundsBeginEnd", "(III)V"⟩
abbrev b_String_checkBoundsBeginEnd : ByteArray := prog_18_method_158_code
def y_Pre_checkFromToIndex : MethodName := ⟨"jdk/internal/util/Preconditions", "checkFromToIndex", "(IIILjava/util/function/BiFunction;)I"⟩
abbrev b_Pre_checkFromToIndex : ByteArray := prog_22_method_12_code
def y_SU16_indexOfCharUnsafe : MethodName := ⟨"java/lang/StringUTF16", "indexOfCharUnsafe", "([BIII)I"⟩
abbrev b_SU16_indexOfCharUnsafe : ByteArray := prog_20_method_48_code
def y_SU16_indexOfSupplementary : MethodName := ⟨"java/lang/StringUTF16", "indexOfSupplementary", "([BIII)I"⟩
abbrev b_SU16_indexOfSupplementary : ByteArray := prog_20_method_49_code
def y_Char_isValidCodePoint : MethodName := ⟨"java/lang/Character", "isValidCodePoint", "(I)Z"⟩
abbrev b_Char_isValidCodePoint : ByteArray := prog_15_method_11_code
def y_Char_highSurrogate : MethodName := ⟨"java/lang/Character", "highSurrogate", "(I)C"⟩
abbrev b_Char_highSurrogate : ByteArray := prog_15_method_28_code
def y_Char_lowSurrogate : MethodName := ⟨"java/lang/Character", "lowSurrogate", "(I)C"⟩
abbrev b_Char_lowSurrogate : ByteArray := prog_15_method_29_code
def y_Integer_bitCount : MethodName := ⟨"java/lang/Integer", "bitCount", "(I)I"⟩
abbrev b_Integer_bitCount : ByteArray := prog_16_method_49_code
end
section
/-! the words, one by one -/
theorem ini_law : (Jvm.Cond.initialized "LanternBridgeLaw") ∈ WT := wt_of (wt_1 (List.mem_of_getElem? (i := 0) (by decide +kernel))) (by decide +kernel)
theorem ini_LB : (Jvm.Cond.initialized "LanternBridge") ∈ WT := wt_of (wt_1 (List.mem_of_getElem? (i := 1) (by decide +kernel))) (by decide +kernel)
theorem ini_St : (Jvm.Cond.initialized "LanternBridge$State") ∈ WT := wt_of (wt_1 (List.mem_of_getElem? (i := 2) (by decide +kernel))) (by decide +kernel)
theorem ini_Ni : (Jvm.Cond.initialized "LanternBridge$Night") ∈ WT := wt_of (wt_1 (List.mem_of_getElem? (i := 3) (by decide +kernel))) (by decide +kernel)
theorem ini_Math : (Jvm.Cond.initialized "java/lang/Math") ∈ WT := wt_of (wt_1 (List.mem_of_getElem? (i := 4) (by decide +kernel))) (by decide +kernel)
theorem ini_System : (Jvm.Cond.initialized "java/lang/System") ∈ WT := wt_of (wt_1 (List.mem_of_getElem? (i := 5) (by decide +kernel))) (by decide +kernel)
theorem ini_Go : (Jvm.Cond.initialized "LanternBridge$Goings") ∈ WT := wt_of (wt_1 (List.mem_of_getElem? (i := 6) (by decide +kernel))) (by decide +kernel)
theorem ini_Se : (Jvm.Cond.initialized "LanternBridge$Search") ∈ WT := wt_of (wt_1 (List.mem_of_getElem? (i := 7) (by decide +kernel))) (by decide +kernel)
theorem ini_Md : (Jvm.Cond.initialized "LanternBridgeModel") ∈ WT := wt_of (wt_1 (List.mem_of_getElem? (i := 8) (by decide +kernel))) (by decide +kernel)
theorem ini_String : (Jvm.Cond.initialized "java/lang/String") ∈ WT := wt_of (wt_1 (List.mem_of_getElem? (i := 9) (by decide +kernel))) (by decide +kernel)
theorem ini_SL1 : (Jvm.Cond.initialized "java/lang/StringLatin1") ∈ WT := wt_of (wt_1 (List.mem_of_getElem? (i := 10) (by decide +kernel))) (by decide +kernel)
theorem ini_Pre : (Jvm.Cond.initialized "jdk/internal/util/Preconditions") ∈ WT := wt_of (wt_1 (List.mem_of_getElem? (i := 11) (by decide +kernel))) (by decide +kernel)
theorem ini_SU16 : (Jvm.Cond.initialized "java/lang/StringUTF16") ∈ WT := wt_of (wt_1 (List.mem_of_getElem? (i := 12) (by decide +kernel))) (by decide +kernel)
theorem ini_Char : (Jvm.Cond.initialized "java/lang/Character") ∈ WT := wt_of (wt_1 (List.mem_of_getElem? (i := 13) (by decide +kernel))) (by decide +kernel)
theorem ini_Wa : (Jvm.Cond.initialized "LanternBridge$Walker") ∈ WT := wt_of (wt_1 (List.mem_of_getElem? (i := 14) (by decide +kernel))) (by decide +kernel)
theorem ini_Qu : (Jvm.Cond.initialized "LanternBridge$Quick") ∈ WT := wt_of (wt_1 (List.mem_of_getElem? (i := 15) (by decide +kernel))) (by decide +kernel)
theorem ini_La : (Jvm.Cond.initialized "LanternBridge$Lame") ∈ WT := wt_of (wt_1 (List.mem_of_getElem? (i := 16) (by decide +kernel))) (by decide +kernel)
theorem ini_Ti : (Jvm.Cond.initialized "LanternBridge$Tied") ∈ WT := wt_of (wt_1 (List.mem_of_getElem? (i := 17) (by decide +kernel))) (by decide +kernel)
theorem ini_Le : (Jvm.Cond.initialized "LanternBridge$Leading") ∈ WT := wt_of (wt_1 (List.mem_of_getElem? (i := 18) (by decide +kernel))) (by decide +kernel)
theorem ini_Ca : (Jvm.Cond.initialized "LanternBridge$Carried") ∈ WT := wt_of (wt_1 (List.mem_of_getElem? (i := 19) (by decide +kernel))) (by decide +kernel)
theorem ini_Tr : (Jvm.Cond.initialized "LanternBridge$Tiring") ∈ WT := wt_of (wt_1 (List.mem_of_getElem? (i := 20) (by decide +kernel))) (by decide +kernel)
theorem ini_Integer : (Jvm.Cond.initialized "java/lang/Integer") ∈ WT := wt_of (wt_1 (List.mem_of_getElem? (i := 21) (by decide +kernel))) (by decide +kernel)
theorem kl_law_7 : (Jvm.Cond.classLink "LanternBridgeLaw" (7 : Nat) "LanternBridge") ∈ WT := wt_of (wt_1 (List.mem_of_getElem? (i := 22) (by decide +kernel))) (by decide +kernel)
theorem ia_LB : (Jvm.Cond.instantiable "LanternBridge" (7 : Nat)) ∈ WT := wt_of (wt_1 (List.mem_of_getElem? (i := 23) (by decide +kernel))) (by decide +kernel)
theorem ml_law_9 : (Jvm.Cond.methodLink "LanternBridgeLaw" (9 : Nat) y_LB_init) ∈ WT := wt_of (wt_1 (List.mem_of_getElem? (i := 24) (by decide +kernel))) (by decide +kernel)
theorem im_LB_init : (Jvm.Cond.instanceMethod y_LB_init) ∈ WT := wt_of (wt_1 (List.mem_of_getElem? (i := 25) (by decide +kernel))) (by decide +kernel)
theorem cd_LB_init : (Jvm.Cond.code y_LB_init prog_1_method_1_code (1 : Nat) (Option.none : Option Jvm.ClassFile.FieldType)) ∈ WT := wt_of (wt_1 (List.mem_of_getElem? (i := 26) (by decide +kernel))) (by decide +kernel)
theorem ml_LB_3 : (Jvm.Cond.methodLink "LanternBridge" (3 : Nat) y_Object_init) ∈ WT := wt_of (wt_1 (List.mem_of_getElem? (i := 27) (by decide +kernel))) (by decide +kernel)
theorem im_Object_init : (Jvm.Cond.instanceMethod y_Object_init) ∈ WT := wt_of (wt_1 (List.mem_of_getElem? (i := 28) (by decide +kernel))) (by decide +kernel)
theorem cd_Object_init : (Jvm.Cond.code y_Object_init object_method_1_code (1 : Nat) (Option.none : Option Jvm.ClassFile.FieldType)) ∈ WT := wt_of (wt_1 (List.mem_of_getElem? (i := 29) (by decide +kernel))) (by decide +kernel)
theorem kl_LB_9 : (Jvm.Cond.classLink "LanternBridge" (9 : Nat) "LanternBridge$State") ∈ WT := wt_of (wt_1 (List.mem_of_getElem? (i := 30) (by decide +kernel))) (by decide +kernel)
theorem ia_St : (Jvm.Cond.instantiable "LanternBridge$State" (15 : Nat)) ∈ WT := wt_of (wt_1 (List.mem_of_getElem? (i := 31) (by decide +kernel))) (by decide +kernel)
theorem im_St_init : (Jvm.Cond.instanceMethod y_St_init) ∈ WT := wt_of (wt_1 (List.mem_of_getElem? (i := 33) (by decide +kernel))) (by decide +kernel)
theorem cd_St_init : (Jvm.Cond.code y_St_init prog_9_method_1_code (1 : Nat) (Option.none : Option Jvm.ClassFile.FieldType)) ∈ WT := wt_of (wt_1 (List.mem_of_getElem? (i := 34) (by decide +kernel))) (by decide +kernel)
theorem ml_St_3 : (Jvm.Cond.methodLink "LanternBridge$State" (3 : Nat) y_Object_init) ∈ WT := wt_of (wt_1 (List.mem_of_getElem? (i := 35) (by decide +kernel))) (by decide +kernel)
theorem kl_St_15 : (Jvm.Cond.classLink "LanternBridge$State" (15 : Nat) "LanternBridge$Night") ∈ WT := wt_of (wt_1 (List.mem_of_getElem? (i := 36) (by decide +kernel))) (by decide +kernel)
theorem ia_Ni : (Jvm.Cond.instantiable "LanternBridge$Night" (11 : Nat)) ∈ WT := wt_of (wt_1 (List.mem_of_getElem? (i := 37) (by decide +kernel))) (by decide +kernel)
theorem ml_St_17 : (Jvm.Cond.methodLink "LanternBridge$State" (17 : Nat) y_Ni_init) ∈ WT := wt_of (wt_1 (List.mem_of_getElem? (i := 38) (by decide +kernel))) (by decide +kernel)
theorem im_Ni_init : (Jvm.Cond.instanceMethod y_Ni_init) ∈ WT := wt_of (wt_1 (List.mem_of_getElem? (i := 39) (by decide +kernel))) (by decide +kernel)
theorem cd_Ni_init : (Jvm.Cond.code y_Ni_init prog_6_method_1_code (4 : Nat) (Option.none : Option Jvm.ClassFile.FieldType)) ∈ WT := wt_of (wt_1 (List.mem_of_getElem? (i := 40) (by decide +kernel))) (by decide +kernel)
theorem ml_Ni_1 : (Jvm.Cond.methodLink "LanternBridge$Night" (1 : Nat) y_Object_init) ∈ WT := wt_of (wt_1 (List.mem_of_getElem? (i := 41) (by decide +kernel))) (by decide +kernel)
theorem ml_Ni_29 : (Jvm.Cond.methodLink "LanternBridge$Night" (29 : Nat) y_Math_min) ∈ WT := wt_of (wt_1 (List.mem_of_getElem? (i := 42) (by decide +kernel))) (by decide +kernel)
theorem sm_Math_min : (Jvm.Cond.static y_Math_min) ∈ WT := wt_of (wt_1 (List.mem_of_getElem? (i := 43) (by decide +kernel))) (by decide +kernel)
theorem cd_Math_min : (Jvm.Cond.code y_Math_min prog_17_method_69_code (2 : Nat) (Option.some Jvm.ClassFile.FieldType.int)) ∈ WT := wt_of (wt_1 (List.mem_of_getElem? (i := 44) (by decide +kernel))) (by decide +kernel)
theorem ml_Ni_35 : (Jvm.Cond.methodLink "LanternBridge$Night" (35 : Nat) y_Math_max) ∈ WT := wt_of (wt_1 (List.mem_of_getElem? (i := 45) (by decide +kernel))) (by decide +kernel)
theorem sm_Math_max : (Jvm.Cond.static y_Math_max) ∈ WT := wt_of (wt_1 (List.mem_of_getElem? (i := 46) (by decide +kernel))) (by decide +kernel)
theorem cd_Math_max : (Jvm.Cond.code y_Math_max prog_17_method_65_code (2 : Nat) (Option.some Jvm.ClassFile.FieldType.int)) ∈ WT := wt_of (wt_1 (List.mem_of_getElem? (i := 47) (by decide +kernel))) (by decide +kernel)
theorem ml_Ni_41 : (Jvm.Cond.methodLink "LanternBridge$Night" (41 : Nat) ({ cls := "java/lang/System", name := "arraycopy", desc := "(Ljava/lang/Object;ILjava/lang/Object;II)V" } : Jvm.MethodName)) ∈ WT := wt_of (wt_1 (List.mem_of_getElem? (i := 48) (by decide +kernel))) (by decide +kernel)
theorem sm_System_arraycopy : (Jvm.Cond.static ({ cls := "java/lang/System", name := "arraycopy", desc := "(Ljava/lang/Object;ILjava/lang/Object;II)V" } : Jvm.MethodName)) ∈ WT := wt_of (wt_1 (List.mem_of_getElem? (i := 49) (by decide +kernel))) (by decide +kernel)
theorem fl_Ni_7 : (Jvm.Cond.fieldLink "LanternBridge$Night" (7 : Nat) "LanternBridge$Night" "bears" "I") ∈ WT := wt_of (wt_1 (List.mem_of_getElem? (i := 51) (by decide +kernel))) (by decide +kernel)
theorem fl_LB_103 : (Jvm.Cond.fieldLink "LanternBridge" (103 : Nat) "LanternBridge$Night" "bears" "I") ∈ WT := wt_of (wt_1 (List.mem_of_getElem? (i := 52) (by decide +kernel))) (by decide +kernel)
theorem fl_Go_95 : (Jvm.Cond.fieldLink "LanternBridge$Goings" (95 : Nat) "LanternBridge$Night" "bears" "I") ∈ WT := wt_of (wt_1 (List.mem_of_getElem? (i := 53) (by decide +kernel))) (by decide +kernel)
theorem fl_Ni_13 : (Jvm.Cond.fieldLink "LanternBridge$Night" (13 : Nat) "LanternBridge$Night" "heavy" "I") ∈ WT := wt_of (wt_1 (List.mem_of_getElem? (i := 54) (by decide +kernel))) (by decide +kernel)
theorem fl_LB_106 : (Jvm.Cond.fieldLink "LanternBridge" (106 : Nat) "LanternBridge$Night" "heavy" "I") ∈ WT := wt_of (wt_1 (List.mem_of_getElem? (i := 55) (by decide +kernel))) (by decide +kernel)
theorem fl_Go_98 : (Jvm.Cond.fieldLink "LanternBridge$Goings" (98 : Nat) "LanternBridge$Night" "heavy" "I") ∈ WT := wt_of (wt_1 (List.mem_of_getElem? (i := 56) (by decide +kernel))) (by decide +kernel)
theorem fl_Ni_16 : (Jvm.Cond.fieldLink "LanternBridge$Night" (16 : Nat) "LanternBridge$Night" "oil" "I") ∈ WT := wt_of (wt_1 (List.mem_of_getElem? (i := 57) (by decide +kernel))) (by decide +kernel)
theorem fl_LB_109 : (Jvm.Cond.fieldLink "LanternBridge" (109 : Nat) "LanternBridge$Night" "oil" "I") ∈ WT := wt_of (wt_1 (List.mem_of_getElem? (i := 58) (by decide +kernel))) (by decide +kernel)
theorem fl_Ni_38 : (Jvm.Cond.fieldLink "LanternBridge$Night" (38 : Nat) "LanternBridge$Night" "text" "[I") ∈ WT := wt_of (wt_1 (List.mem_of_getElem? (i := 59) (by decide +kernel))) (by decide +kernel)
theorem fl_Ni_54 : (Jvm.Cond.fieldLink "LanternBridge$Night" (54 : Nat) "LanternBridge$Night" "at" "I") ∈ WT := wt_of (wt_1 (List.mem_of_getElem? (i := 60) (by decide +kernel))) (by decide +kernel)
theorem fl_Ni_47 : (Jvm.Cond.fieldLink "LanternBridge$Night" (47 : Nat) "LanternBridge$Night" "code" "[I") ∈ WT := wt_of (wt_1 (List.mem_of_getElem? (i := 61) (by decide +kernel))) (by decide +kernel)
theorem fl_Ni_75 : (Jvm.Cond.fieldLink "LanternBridge$Night" (75 : Nat) "LanternBridge$Night" "codeSize" "I") ∈ WT := wt_of (wt_1 (List.mem_of_getElem? (i := 62) (by decide +kernel))) (by decide +kernel)
theorem fl_Ni_19 : (Jvm.Cond.fieldLink "LanternBridge$Night" (19 : Nat) "LanternBridge$Night" "word" "[I") ∈ WT := wt_of (wt_1 (List.mem_of_getElem? (i := 63) (by decide +kernel))) (by decide +kernel)
theorem fl_Ni_23 : (Jvm.Cond.fieldLink "LanternBridge$Night" (23 : Nat) "LanternBridge$Night" "number" "[I") ∈ WT := wt_of (wt_1 (List.mem_of_getElem? (i := 64) (by decide +kernel))) (by decide +kernel)
theorem fl_Ni_26 : (Jvm.Cond.fieldLink "LanternBridge$Night" (26 : Nat) "LanternBridge$Night" "codeEnd" "[I") ∈ WT := wt_of (wt_1 (List.mem_of_getElem? (i := 65) (by decide +kernel))) (by decide +kernel)
theorem fl_Ni_72 : (Jvm.Cond.fieldLink "LanternBridge$Night" (72 : Nat) "LanternBridge$Night" "clauses" "I") ∈ WT := wt_of (wt_1 (List.mem_of_getElem? (i := 66) (by decide +kernel))) (by decide +kernel)
theorem su_Ni_Object : (Jvm.Cond.superclass "LanternBridge$Night" "java/lang/Object") ∈ WT := wt_of (wt_1 (List.mem_of_getElem? (i := 89) (by decide +kernel))) (by decide +kernel)
theorem w1_90 : (Jvm.Cond.arrayClass Jvm.ClassFile.FieldType.int) ∈ WT := wt_of (wt_1 (List.mem_of_getElem? (i := 90) (by decide +kernel))) (by decide +kernel)
theorem kl_St_24 : (Jvm.Cond.classLink "LanternBridge$State" (24 : Nat) "LanternBridge$Walker") ∈ WT := wt_of (wt_1 (List.mem_of_getElem? (i := 91) (by decide +kernel))) (by decide +kernel)
theorem fl_St_9 : (Jvm.Cond.fieldLink "LanternBridge$State" (9 : Nat) "LanternBridge$State" "tape" "[I") ∈ WT := wt_of (wt_1 (List.mem_of_getElem? (i := 93) (by decide +kernel))) (by decide +kernel)
theorem fl_LB_49 : (Jvm.Cond.fieldLink "LanternBridge" (49 : Nat) "LanternBridge$State" "tape" "[I") ∈ WT := wt_of (wt_1 (List.mem_of_getElem? (i := 94) (by decide +kernel))) (by decide +kernel)
theorem fl_LB_45 : (Jvm.Cond.fieldLink "LanternBridge" (45 : Nat) "LanternBridge$State" "signs" "I") ∈ WT := wt_of (wt_1 (List.mem_of_getElem? (i := 95) (by decide +kernel))) (by decide +kernel)
theorem fl_St_45 : (Jvm.Cond.fieldLink "LanternBridge$State" (45 : Nat) "LanternBridge$State" "signs" "I") ∈ WT := wt_of (wt_1 (List.mem_of_getElem? (i := 96) (by decide +kernel))) (by decide +kernel)
theorem fl_St_20 : (Jvm.Cond.fieldLink "LanternBridge$State" (20 : Nat) "LanternBridge$State" "night" "LLanternBridge$Night;") ∈ WT := wt_of (wt_1 (List.mem_of_getElem? (i := 97) (by decide +kernel))) (by decide +kernel)
theorem fl_Go_38 : (Jvm.Cond.fieldLink "LanternBridge$Goings" (38 : Nat) "LanternBridge$State" "night" "LLanternBridge$Night;") ∈ WT := wt_of (wt_1 (List.mem_of_getElem? (i := 98) (by decide +kernel))) (by decide +kernel)
theorem fl_LB_64 : (Jvm.Cond.fieldLink "LanternBridge" (64 : Nat) "LanternBridge$State" "night" "LLanternBridge$Night;") ∈ WT := wt_of (wt_1 (List.mem_of_getElem? (i := 99) (by decide +kernel))) (by decide +kernel)
theorem fl_St_49 : (Jvm.Cond.fieldLink "LanternBridge$State" (49 : Nat) "LanternBridge$State" "nights" "I") ∈ WT := wt_of (wt_1 (List.mem_of_getElem? (i := 100) (by decide +kernel))) (by decide +kernel)
theorem fl_LB_52 : (Jvm.Cond.fieldLink "LanternBridge" (52 : Nat) "LanternBridge$State" "nights" "I") ∈ WT := wt_of (wt_1 (List.mem_of_getElem? (i := 101) (by decide +kernel))) (by decide +kernel)
theorem fl_St_26 : (Jvm.Cond.fieldLink "LanternBridge$State" (26 : Nat) "LanternBridge$State" "people" "[LLanternBridge$Walker;") ∈ WT := wt_of (wt_1 (List.mem_of_getElem? (i := 102) (by decide +kernel))) (by decide +kernel)
theorem fl_Go_55 : (Jvm.Cond.fieldLink "LanternBridge$Goings" (55 : Nat) "LanternBridge$State" "people" "[LLanternBridge$Walker;") ∈ WT := wt_of (wt_1 (List.mem_of_getElem? (i := 103) (by decide +kernel))) (by decide +kernel)
theorem fl_LB_71 : (Jvm.Cond.fieldLink "LanternBridge" (71 : Nat) "LanternBridge$State" "people" "[LLanternBridge$Walker;") ∈ WT := wt_of (wt_1 (List.mem_of_getElem? (i := 104) (by decide +kernel))) (by decide +kernel)
theorem fl_Go_41 : (Jvm.Cond.fieldLink "LanternBridge$Goings" (41 : Nat) "LanternBridge$State" "size" "I") ∈ WT := wt_of (wt_1 (List.mem_of_getElem? (i := 105) (by decide +kernel))) (by decide +kernel)
theorem fl_St_52 : (Jvm.Cond.fieldLink "LanternBridge$State" (52 : Nat) "LanternBridge$State" "size" "I") ∈ WT := wt_of (wt_1 (List.mem_of_getElem? (i := 106) (by decide +kernel))) (by decide +kernel)
theorem fl_LB_68 : (Jvm.Cond.fieldLink "LanternBridge" (68 : Nat) "LanternBridge$State" "size" "I") ∈ WT := wt_of (wt_1 (List.mem_of_getElem? (i := 107) (by decide +kernel))) (by decide +kernel)
theorem fl_St_55 : (Jvm.Cond.fieldLink "LanternBridge$State" (55 : Nat) "LanternBridge$State" "far" "I") ∈ WT := wt_of (wt_1 (List.mem_of_getElem? (i := 108) (by decide +kernel))) (by decide +kernel)
theorem fl_LB_97 : (Jvm.Cond.fieldLink "LanternBridge" (97 : Nat) "LanternBridge$State" "far" "I") ∈ WT := wt_of (wt_1 (List.mem_of_getElem? (i := 109) (by decide +kernel))) (by decide +kernel)
theorem fl_St_58 : (Jvm.Cond.fieldLink "LanternBridge$State" (58 : Nat) "LanternBridge$State" "lantern" "I") ∈ WT := wt_of (wt_1 (List.mem_of_getElem? (i := 110) (by decide +kernel))) (by decide +kernel)
theorem fl_LB_118 : (Jvm.Cond.fieldLink "LanternBridge" (118 : Nat) "LanternBridge$State" "lantern" "I") ∈ WT := wt_of (wt_1 (List.mem_of_getElem? (i := 111) (by decide +kernel))) (by decide +kernel)
theorem fl_St_61 : (Jvm.Cond.fieldLink "LanternBridge$State" (61 : Nat) "LanternBridge$State" "minute" "I") ∈ WT := wt_of (wt_1 (List.mem_of_getElem? (i := 112) (by decide +kernel))) (by decide +kernel)
theorem fl_LB_112 : (Jvm.Cond.fieldLink "LanternBridge" (112 : Nat) "LanternBridge$State" "minute" "I") ∈ WT := wt_of (wt_1 (List.mem_of_getElem? (i := 113) (by decide +kernel))) (by decide +kernel)
theorem fl_St_64 : (Jvm.Cond.fieldLink "LanternBridge$State" (64 : Nat) "LanternBridge$State" "made" "I") ∈ WT := wt_of (wt_1 (List.mem_of_getElem? (i := 114) (by decide +kernel))) (by decide +kernel)
theorem fl_LB_115 : (Jvm.Cond.fieldLink "LanternBridge" (115 : Nat) "LanternBridge$State" "made" "I") ∈ WT := wt_of (wt_1 (List.mem_of_getElem? (i := 115) (by decide +kernel))) (by decide +kernel)
theorem fl_St_30 : (Jvm.Cond.fieldLink "LanternBridge$State" (30 : Nat) "LanternBridge$State" "rowSets" "[I") ∈ WT := wt_of (wt_1 (List.mem_of_getElem? (i := 116) (by decide +kernel))) (by decide +kernel)
theorem fl_LB_185 : (Jvm.Cond.fieldLink "LanternBridge" (185 : Nat) "LanternBridge$State" "rowSets" "[I") ∈ WT := wt_of (wt_1 (List.mem_of_getElem? (i := 117) (by decide +kernel))) (by decide +kernel)
theorem fl_St_33 : (Jvm.Cond.fieldLink "LanternBridge$State" (33 : Nat) "LanternBridge$State" "rowMinutes" "[I") ∈ WT := wt_of (wt_1 (List.mem_of_getElem? (i := 118) (by decide +kernel))) (by decide +kernel)
theorem fl_LB_188 : (Jvm.Cond.fieldLink "LanternBridge" (188 : Nat) "LanternBridge$State" "rowMinutes" "[I") ∈ WT := wt_of (wt_1 (List.mem_of_getElem? (i := 119) (by decide +kernel))) (by decide +kernel)
theorem fl_St_67 : (Jvm.Cond.fieldLink "LanternBridge$State" (67 : Nat) "LanternBridge$State" "rows" "I") ∈ WT := wt_of (wt_1 (List.mem_of_getElem? (i := 120) (by decide +kernel))) (by decide +kernel)
theorem fl_LB_182 : (Jvm.Cond.fieldLink "LanternBridge" (182 : Nat) "LanternBridge$State" "rows" "I") ∈ WT := wt_of (wt_1 (List.mem_of_getElem? (i := 121) (by decide +kernel))) (by decide +kernel)
theorem fl_St_36 : (Jvm.Cond.fieldLink "LanternBridge$State" (36 : Nat) "LanternBridge$State" "bookSets" "[I") ∈ WT := wt_of (wt_1 (List.mem_of_getElem? (i := 122) (by decide +kernel))) (by decide +kernel)
theorem fl_LB_217 : (Jvm.Cond.fieldLink "LanternBridge" (217 : Nat) "LanternBridge$State" "bookSets" "[I") ∈ WT := wt_of (wt_1 (List.mem_of_getElem? (i := 123) (by decide +kernel))) (by decide +kernel)
theorem fl_St_70 : (Jvm.Cond.fieldLink "LanternBridge$State" (70 : Nat) "LanternBridge$State" "booked" "I") ∈ WT := wt_of (wt_1 (List.mem_of_getElem? (i := 124) (by decide +kernel))) (by decide +kernel)
theorem fl_LB_214 : (Jvm.Cond.fieldLink "LanternBridge" (214 : Nat) "LanternBridge$State" "booked" "I") ∈ WT := wt_of (wt_1 (List.mem_of_getElem? (i := 125) (by decide +kernel))) (by decide +kernel)
theorem su_St_Object : (Jvm.Cond.superclass "LanternBridge$State" "java/lang/Object") ∈ WT := wt_of (wt_1 (List.mem_of_getElem? (i := 156) (by decide +kernel))) (by decide +kernel)
theorem kl_LB_25 : (Jvm.Cond.classLink "LanternBridge" (25 : Nat) "LanternBridge$Goings") ∈ WT := wt_of (wt_1 (List.mem_of_getElem? (i := 157) (by decide +kernel))) (by decide +kernel)
theorem ia_Go : (Jvm.Cond.instantiable "LanternBridge$Goings" (8 : Nat)) ∈ WT := wt_of (wt_1 (List.mem_of_getElem? (i := 158) (by decide +kernel))) (by decide +kernel)
theorem im_Go_init : (Jvm.Cond.instanceMethod y_Go_init) ∈ WT := wt_of (wt_1 (List.mem_of_getElem? (i := 160) (by decide +kernel))) (by decide +kernel)
theorem cd_Go_init : (Jvm.Cond.code y_Go_init prog_3_method_1_code (1 : Nat) (Option.none : Option Jvm.ClassFile.FieldType)) ∈ WT := wt_of (wt_1 (List.mem_of_getElem? (i := 161) (by decide +kernel))) (by decide +kernel)
theorem ml_Go_3 : (Jvm.Cond.methodLink "LanternBridge$Goings" (3 : Nat) y_Object_init) ∈ WT := wt_of (wt_1 (List.mem_of_getElem? (i := 162) (by decide +kernel))) (by decide +kernel)
theorem kl_Go_9 : (Jvm.Cond.classLink "LanternBridge$Goings" (9 : Nat) "LanternBridge$Walker") ∈ WT := wt_of (wt_1 (List.mem_of_getElem? (i := 163) (by decide +kernel))) (by decide +kernel)
theorem kl_Go_17 : (Jvm.Cond.classLink "LanternBridge$Goings" (17 : Nat) "LanternBridge$Night") ∈ WT := wt_of (wt_1 (List.mem_of_getElem? (i := 164) (by decide +kernel))) (by decide +kernel)
theorem ml_Go_19 : (Jvm.Cond.methodLink "LanternBridge$Goings" (19 : Nat) y_Ni_init) ∈ WT := wt_of (wt_1 (List.mem_of_getElem? (i := 165) (by decide +kernel))) (by decide +kernel)
theorem kl_Go_30 : (Jvm.Cond.classLink "LanternBridge$Goings" (30 : Nat) "[[I") ∈ WT := wt_of (wt_1 (List.mem_of_getElem? (i := 166) (by decide +kernel))) (by decide +kernel)
theorem fl_Go_11 : (Jvm.Cond.fieldLink "LanternBridge$Goings" (11 : Nat) "LanternBridge$Goings" "people" "[LLanternBridge$Walker;") ∈ WT := wt_of (wt_1 (List.mem_of_getElem? (i := 168) (by decide +kernel))) (by decide +kernel)
theorem fl_Go_45 : (Jvm.Cond.fieldLink "LanternBridge$Goings" (45 : Nat) "LanternBridge$Goings" "size" "I") ∈ WT := wt_of (wt_1 (List.mem_of_getElem? (i := 169) (by decide +kernel))) (by decide +kernel)
theorem fl_Go_50 : (Jvm.Cond.fieldLink "LanternBridge$Goings" (50 : Nat) "LanternBridge$Goings" "everybody" "I") ∈ WT := wt_of (wt_1 (List.mem_of_getElem? (i := 170) (by decide +kernel))) (by decide +kernel)
theorem fl_Go_52 : (Jvm.Cond.fieldLink "LanternBridge$Goings" (52 : Nat) "LanternBridge$Goings" "leaders" "I") ∈ WT := wt_of (wt_1 (List.mem_of_getElem? (i := 171) (by decide +kernel))) (by decide +kernel)
theorem fl_Go_22 : (Jvm.Cond.fieldLink "LanternBridge$Goings" (22 : Nat) "LanternBridge$Goings" "night" "LLanternBridge$Night;") ∈ WT := wt_of (wt_1 (List.mem_of_getElem? (i := 172) (by decide +kernel))) (by decide +kernel)
theorem fl_Go_26 : (Jvm.Cond.fieldLink "LanternBridge$Goings" (26 : Nat) "LanternBridge$Goings" "facts" "[I") ∈ WT := wt_of (wt_1 (List.mem_of_getElem? (i := 173) (by decide +kernel))) (by decide +kernel)
theorem fl_Go_32 : (Jvm.Cond.fieldLink "LanternBridge$Goings" (32 : Nat) "LanternBridge$Goings" "minutes" "[[I") ∈ WT := wt_of (wt_1 (List.mem_of_getElem? (i := 174) (by decide +kernel))) (by decide +kernel)
theorem fl_Go_35 : (Jvm.Cond.fieldLink "LanternBridge$Goings" (35 : Nat) "LanternBridge$Goings" "can" "[[I") ∈ WT := wt_of (wt_1 (List.mem_of_getElem? (i := 175) (by decide +kernel))) (by decide +kernel)
theorem su_Go_Object : (Jvm.Cond.superclass "LanternBridge$Goings" "java/lang/Object") ∈ WT := wt_of (wt_1 (List.mem_of_getElem? (i := 192) (by decide +kernel))) (by decide +kernel)
theorem kl_LB_32 : (Jvm.Cond.classLink "LanternBridge" (32 : Nat) "LanternBridge$Search") ∈ WT := wt_of (wt_1 (List.mem_of_getElem? (i := 193) (by decide +kernel))) (by decide +kernel)
theorem ia_Se : (Jvm.Cond.instantiable "LanternBridge$Search" (3 : Nat)) ∈ WT := wt_of (wt_1 (List.mem_of_getElem? (i := 194) (by decide +kernel))) (by decide +kernel)
theorem ml_LB_34 : (Jvm.Cond.methodLink "LanternBridge" (34 : Nat) y_Se_init) ∈ WT := wt_of (wt_1 (List.mem_of_getElem? (i := 195) (by decide +kernel))) (by decide +kernel)
theorem im_Se_init : (Jvm.Cond.instanceMethod y_Se_init) ∈ WT := wt_of (wt_1 (List.mem_of_getElem? (i := 196) (by decide +kernel))) (by decide +kernel)
theorem cd_Se_init : (Jvm.Cond.code y_Se_init prog_8_method_1_code (2 : Nat) (Option.none : Option Jvm.ClassFile.FieldType)) ∈ WT := wt_of (wt_1 (List.mem_of_getElem? (i := 197) (by decide +kernel))) (by decide +kernel)
theorem ml_Se_3 : (Jvm.Cond.methodLink "LanternBridge$Search" (3 : Nat) y_Object_init) ∈ WT := wt_of (wt_1 (List.mem_of_getElem? (i := 198) (by decide +kernel))) (by decide +kernel)
theorem fl_Se_19 : (Jvm.Cond.fieldLink "LanternBridge$Search" (19 : Nat) "LanternBridge$Search" "goings" "LLanternBridge$Goings;") ∈ WT := wt_of (wt_1 (List.mem_of_getElem? (i := 199) (by decide +kernel))) (by decide +kernel)
theorem fl_Se_11 : (Jvm.Cond.fieldLink "LanternBridge$Search" (11 : Nat) "LanternBridge$Search" "measure" "[I") ∈ WT := wt_of (wt_1 (List.mem_of_getElem? (i := 200) (by decide +kernel))) (by decide +kernel)
theorem fl_Se_15 : (Jvm.Cond.fieldLink "LanternBridge$Search" (15 : Nat) "LanternBridge$Search" "settled" "[Z") ∈ WT := wt_of (wt_1 (List.mem_of_getElem? (i := 201) (by decide +kernel))) (by decide +kernel)
theorem su_Se_Object : (Jvm.Cond.superclass "LanternBridge$Search" "java/lang/Object") ∈ WT := wt_of (wt_1 (List.mem_of_getElem? (i := 208) (by decide +kernel))) (by decide +kernel)
theorem w1_209 : (Jvm.Cond.arrayClass Jvm.ClassFile.FieldType.boolean) ∈ WT := wt_of (wt_1 (List.mem_of_getElem? (i := 209) (by decide +kernel))) (by decide +kernel)
theorem fl_LB_12 : (Jvm.Cond.fieldLink "LanternBridge" (12 : Nat) "LanternBridge" "now" "LLanternBridge$State;") ∈ WT := wt_of (wt_1 (List.mem_of_getElem? (i := 210) (by decide +kernel))) (by decide +kernel)
theorem fl_LB_18 : (Jvm.Cond.fieldLink "LanternBridge" (18 : Nat) "LanternBridge" "kept" "LLanternBridge$State;") ∈ WT := wt_of (wt_1 (List.mem_of_getElem? (i := 211) (by decide +kernel))) (by decide +kernel)
theorem fl_LB_237 : (Jvm.Cond.fieldLink "LanternBridge" (237 : Nat) "LanternBridge" "isKept" "Z") ∈ WT := wt_of (wt_1 (List.mem_of_getElem? (i := 212) (by decide +kernel))) (by decide +kernel)
theorem fl_LB_21 : (Jvm.Cond.fieldLink "LanternBridge" (21 : Nat) "LanternBridge" "traced" "[I") ∈ WT := wt_of (wt_1 (List.mem_of_getElem? (i := 213) (by decide +kernel))) (by decide +kernel)
theorem fl_LB_28 : (Jvm.Cond.fieldLink "LanternBridge" (28 : Nat) "LanternBridge" "goings" "LLanternBridge$Goings;") ∈ WT := wt_of (wt_1 (List.mem_of_getElem? (i := 214) (by decide +kernel))) (by decide +kernel)
theorem fl_LB_37 : (Jvm.Cond.fieldLink "LanternBridge" (37 : Nat) "LanternBridge" "search" "LLanternBridge$Search;") ∈ WT := wt_of (wt_1 (List.mem_of_getElem? (i := 215) (by decide +kernel))) (by decide +kernel)
theorem fl_LB_41 : (Jvm.Cond.fieldLink "LanternBridge" (41 : Nat) "LanternBridge" "stale" "Z") ∈ WT := wt_of (wt_1 (List.mem_of_getElem? (i := 216) (by decide +kernel))) (by decide +kernel)
theorem su_LB_Object : (Jvm.Cond.superclass "LanternBridge" "java/lang/Object") ∈ WT := wt_of (wt_1 (List.mem_of_getElem? (i := 231) (by decide +kernel))) (by decide +kernel)
theorem ml_law_13 : (Jvm.Cond.methodLink "LanternBridgeLaw" (13 : Nat) y_LB_feed) ∈ WT := wt_of (wt_1 (List.mem_of_getElem? (i := 232) (by decide +kernel))) (by decide +kernel)
theorem im_LB_feed : (Jvm.Cond.instanceMethod y_LB_feed) ∈ WT := wt_of (wt_1 (List.mem_of_getElem? (i := 233) (by decide +kernel))) (by decide +kernel)
theorem se_LB_LB_feed__LB_feed : (Jvm.Cond.selects "LanternBridge" y_LB_feed y_LB_feed) ∈ WT := wt_of (wt_1 (List.mem_of_getElem? (i := 234) (by decide +kernel))) (by decide +kernel)
theorem cd_LB_feed : (Jvm.Cond.code y_LB_feed prog_1_method_2_code (2 : Nat) (Option.some Jvm.ClassFile.FieldType.int)) ∈ WT := wt_of (wt_1 (List.mem_of_getElem? (i := 235) (by decide +kernel))) (by decide +kernel)
theorem ml_law_18 : (Jvm.Cond.methodLink "LanternBridgeLaw" (18 : Nat) y_LB_night) ∈ WT := wt_of (wt_1 (List.mem_of_getElem? (i := 236) (by decide +kernel))) (by decide +kernel)
theorem im_LB_night : (Jvm.Cond.instanceMethod y_LB_night) ∈ WT := wt_of (wt_1 (List.mem_of_getElem? (i := 237) (by decide +kernel))) (by decide +kernel)
theorem se_LB_LB_night__LB_night : (Jvm.Cond.selects "LanternBridge" y_LB_night y_LB_night) ∈ WT := wt_of (wt_1 (List.mem_of_getElem? (i := 238) (by decide +kernel))) (by decide +kernel)
theorem cd_LB_night : (Jvm.Cond.code y_LB_night prog_1_method_3_code (3 : Nat) (Option.some Jvm.ClassFile.FieldType.int)) ∈ WT := wt_of (wt_1 (List.mem_of_getElem? (i := 239) (by decide +kernel))) (by decide +kernel)
theorem kl_LB_55 : (Jvm.Cond.classLink "LanternBridge" (55 : Nat) "LanternBridge$Night") ∈ WT := wt_of (wt_2 (List.mem_of_getElem? (i := 0) (by decide +kernel))) (by decide +kernel)
theorem ml_LB_57 : (Jvm.Cond.methodLink "LanternBridge" (57 : Nat) y_Ni_init) ∈ WT := wt_of (wt_2 (List.mem_of_getElem? (i := 1) (by decide +kernel))) (by decide +kernel)
theorem ml_LB_60 : (Jvm.Cond.methodLink "LanternBridge" (60 : Nat) y_Ni_read) ∈ WT := wt_of (wt_2 (List.mem_of_getElem? (i := 2) (by decide +kernel))) (by decide +kernel)
theorem im_Ni_read : (Jvm.Cond.instanceMethod y_Ni_read) ∈ WT := wt_of (wt_2 (List.mem_of_getElem? (i := 3) (by decide +kernel))) (by decide +kernel)
theorem se_Ni_Ni_read__Ni_read : (Jvm.Cond.selects "LanternBridge$Night" y_Ni_read y_Ni_read) ∈ WT := wt_of (wt_2 (List.mem_of_getElem? (i := 4) (by decide +kernel))) (by decide +kernel)
theorem cd_Ni_read : (Jvm.Cond.code y_Ni_read prog_6_method_2_code (4 : Nat) (Option.some Jvm.ClassFile.FieldType.int)) ∈ WT := wt_of (wt_2 (List.mem_of_getElem? (i := 5) (by decide +kernel))) (by decide +kernel)
theorem ml_Ni_50 : (Jvm.Cond.methodLink "LanternBridge$Night" (50 : Nat) y_Ni_take) ∈ WT := wt_of (wt_2 (List.mem_of_getElem? (i := 6) (by decide +kernel))) (by decide +kernel)
theorem im_Ni_take : (Jvm.Cond.instanceMethod y_Ni_take) ∈ WT := wt_of (wt_2 (List.mem_of_getElem? (i := 8) (by decide +kernel))) (by decide +kernel)
theorem cd_Ni_take : (Jvm.Cond.code y_Ni_take prog_6_method_5_code (2 : Nat) (Option.some Jvm.ClassFile.FieldType.boolean)) ∈ WT := wt_of (wt_2 (List.mem_of_getElem? (i := 9) (by decide +kernel))) (by decide +kernel)
theorem ml_Ni_78 : (Jvm.Cond.methodLink "LanternBridge$Night" (78 : Nat) y_Ni_signAt) ∈ WT := wt_of (wt_2 (List.mem_of_getElem? (i := 10) (by decide +kernel))) (by decide +kernel)
theorem im_Ni_signAt : (Jvm.Cond.instanceMethod y_Ni_signAt) ∈ WT := wt_of (wt_2 (List.mem_of_getElem? (i := 12) (by decide +kernel))) (by decide +kernel)
theorem cd_Ni_signAt : (Jvm.Cond.code y_Ni_signAt prog_6_method_4_code (2 : Nat) (Option.some Jvm.ClassFile.FieldType.int)) ∈ WT := wt_of (wt_2 (List.mem_of_getElem? (i := 13) (by decide +kernel))) (by decide +kernel)
theorem ml_Ni_57 : (Jvm.Cond.methodLink "LanternBridge$Night" (57 : Nat) y_Ni_readWord) ∈ WT := wt_of (wt_2 (List.mem_of_getElem? (i := 14) (by decide +kernel))) (by decide +kernel)
theorem im_Ni_readWord : (Jvm.Cond.instanceMethod y_Ni_readWord) ∈ WT := wt_of (wt_2 (List.mem_of_getElem? (i := 16) (by decide +kernel))) (by decide +kernel)
theorem cd_Ni_readWord : (Jvm.Cond.code y_Ni_readWord prog_6_method_6_code (1 : Nat) (Option.some Jvm.ClassFile.FieldType.int)) ∈ WT := wt_of (wt_2 (List.mem_of_getElem? (i := 17) (by decide +kernel))) (by decide +kernel)
theorem ml_Ni_84 : (Jvm.Cond.methodLink "LanternBridge$Night" (84 : Nat) y_Ni_takeAll) ∈ WT := wt_of (wt_2 (List.mem_of_getElem? (i := 19) (by decide +kernel))) (by decide +kernel)
theorem im_Ni_takeAll : (Jvm.Cond.instanceMethod y_Ni_takeAll) ∈ WT := wt_of (wt_2 (List.mem_of_getElem? (i := 21) (by decide +kernel))) (by decide +kernel)
theorem cd_Ni_takeAll : (Jvm.Cond.code y_Ni_takeAll prog_6_method_7_code (3 : Nat) (Option.some Jvm.ClassFile.FieldType.boolean)) ∈ WT := wt_of (wt_2 (List.mem_of_getElem? (i := 22) (by decide +kernel))) (by decide +kernel)
theorem ml_Ni_93 : (Jvm.Cond.methodLink "LanternBridge$Night" (93 : Nat) y_String_length) ∈ WT := wt_of (wt_2 (List.mem_of_getElem? (i := 23) (by decide +kernel))) (by decide +kernel)
theorem im_String_length : (Jvm.Cond.instanceMethod y_String_length) ∈ WT := wt_of (wt_2 (List.mem_of_getElem? (i := 24) (by decide +kernel))) (by decide +kernel)
theorem se_String_String_length__String_length : (Jvm.Cond.selects "java/lang/String" y_String_length y_String_length) ∈ WT := wt_of (wt_2 (List.mem_of_getElem? (i := 25) (by decide +kernel))) (by decide +kernel)
theorem cd_String_length : (Jvm.Cond.code y_String_length prog_18_method_54_code (1 : Nat) (Option.some Jvm.ClassFile.FieldType.int)) ∈ WT := wt_of (wt_2 (List.mem_of_getElem? (i := 26) (by decide +kernel))) (by decide +kernel)
theorem ml_String_335 : (Jvm.Cond.methodLink "java/lang/String" (335 : Nat) y_String_coder) ∈ WT := wt_of (wt_2 (List.mem_of_getElem? (i := 27) (by decide +kernel))) (by decide +kernel)
theorem im_String_coder : (Jvm.Cond.instanceMethod y_String_coder) ∈ WT := wt_of (wt_2 (List.mem_of_getElem? (i := 28) (by decide +kernel))) (by decide +kernel)
theorem se_String_String_coder__String_coder : (Jvm.Cond.selects "java/lang/String" y_String_coder y_String_coder) ∈ WT := wt_of (wt_2 (List.mem_of_getElem? (i := 29) (by decide +kernel))) (by decide +kernel)
theorem cd_String_coder : (Jvm.Cond.code y_String_coder prog_18_method_152_code (1 : Nat) (Option.some Jvm.ClassFile.FieldType.byte)) ∈ WT := wt_of (wt_2 (List.mem_of_getElem? (i := 30) (by decide +kernel))) (by decide +kernel)
theorem fl_String_38 : (Jvm.Cond.fieldLink "java/lang/String" (38 : Nat) "java/lang/String" "COMPACT_STRINGS" "Z") ∈ WT := wt_of (wt_2 (List.mem_of_getElem? (i := 31) (by decide +kernel))) (by decide +kernel)
theorem ml_Ni_98 : (Jvm.Cond.methodLink "LanternBridge$Night" (98 : Nat) y_String_charAt) ∈ WT := wt_of (wt_2 (List.mem_of_getElem? (i := 33) (by decide +kernel))) (by decide +kernel)
theorem im_String_charAt : (Jvm.Cond.instanceMethod y_String_charAt) ∈ WT := wt_of (wt_2 (List.mem_of_getElem? (i := 34) (by decide +kernel))) (by decide +kernel)
theorem se_String_String_charAt__String_charAt : (Jvm.Cond.selects "java/lang/String" y_String_charAt y_String_charAt) ∈ WT := wt_of (wt_2 (List.mem_of_getElem? (i := 35) (by decide +kernel))) (by decide +kernel)
theorem cd_String_charAt : (Jvm.Cond.code y_String_charAt prog_18_method_56_code (2 : Nat) (Option.some Jvm.ClassFile.FieldType.char)) ∈ WT := wt_of (wt_2 (List.mem_of_getElem? (i := 36) (by decide +kernel))) (by decide +kernel)
theorem ml_String_492 : (Jvm.Cond.methodLink "java/lang/String" (492 : Nat) y_String_isLatin1) ∈ WT := wt_of (wt_2 (List.mem_of_getElem? (i := 37) (by decide +kernel))) (by decide +kernel)
theorem im_String_isLatin1 : (Jvm.Cond.instanceMethod y_String_isLatin1) ∈ WT := wt_of (wt_2 (List.mem_of_getElem? (i := 38) (by decide +kernel))) (by decide +kernel)
theorem se_String_String_isLatin1__String_isLatin1 : (Jvm.Cond.selects "java/lang/String" y_String_isLatin1 y_String_isLatin1) ∈ WT := wt_of (wt_2 (List.mem_of_getElem? (i := 39) (by decide +kernel))) (by decide +kernel)
theorem cd_String_isLatin1 : (Jvm.Cond.code y_String_isLatin1 prog_18_method_154_code (1 : Nat) (Option.some Jvm.ClassFile.FieldType.boolean)) ∈ WT := wt_of (wt_2 (List.mem_of_getElem? (i := 40) (by decide +kernel))) (by decide +kernel)
theorem ml_String_495 : (Jvm.Cond.methodLink "java/lang/String" (495 : Nat) y_SL1_charAt) ∈ WT := wt_of (wt_2 (List.mem_of_getElem? (i := 41) (by decide +kernel))) (by decide +kernel)
theorem sm_SL1_charAt : (Jvm.Cond.static y_SL1_charAt) ∈ WT := wt_of (wt_2 (List.mem_of_getElem? (i := 42) (by decide +kernel))) (by decide +kernel)
theorem cd_SL1_charAt : (Jvm.Cond.code y_SL1_charAt prog_19_method_2_code (2 : Nat) (Option.some Jvm.ClassFile.FieldType.char)) ∈ WT := wt_of (wt_2 (List.mem_of_getElem? (i := 43) (by decide +kernel))) (by decide +kernel)
theorem ml_SL1_9 : (Jvm.Cond.methodLink "java/lang/StringLatin1" (9 : Nat) y_String_checkIndex) ∈ WT := wt_of (wt_2 (List.mem_of_getElem? (i := 44) (by decide +kernel))) (by decide +kernel)
theorem sm_String_checkIndex : (Jvm.Cond.static y_String_checkIndex) ∈ WT := wt_of (wt_2 (List.mem_of_getElem? (i := 45) (by decide +kernel))) (by decide +kernel)
theorem cd_String_checkIndex : (Jvm.Cond.code y_String_checkIndex prog_18_method_155_code (2 : Nat) (Option.none : Option Jvm.ClassFile.FieldType)) ∈ WT := wt_of (wt_2 (List.mem_of_getElem? (i := 46) (by decide +kernel))) (by decide +kernel)
theorem fl_String_1053 : (Jvm.Cond.fieldLink "java/lang/String" (1053 : Nat) "jdk/internal/util/Preconditions" "SIOOBE_FORMATTER" "Ljava/util/function/BiFunction;") ∈ WT := wt_of (wt_2 (List.mem_of_getElem? (i := 47) (by decide +kernel))) (by decide +kernel)
theorem ml_String_1059 : (Jvm.Cond.methodLink "java/lang/String" (1059 : Nat) y_Pre_checkIndex) ∈ WT := wt_of (wt_2 (List.mem_of_getElem? (i := 49) (by decide +kernel))) (by decide +kernel)
theorem sm_Pre_checkIndex : (Jvm.Cond.static y_Pre_checkIndex) ∈ WT := wt_of (wt_2 (List.mem_of_getElem? (i := 50) (by decide +kernel))) (by decide +kernel)
theorem cd_Pre_checkIndex : (Jvm.Cond.code y_Pre_checkIndex prog_22_method_11_code (3 : Nat) (Option.some Jvm.ClassFile.FieldType.int)) ∈ WT := wt_of (wt_2 (List.mem_of_getElem? (i := 51) (by decide +kernel))) (by decide +kernel)
theorem ml_String_498 : (Jvm.Cond.methodLink "java/lang/String" (498 : Nat) y_SU16_charAt) ∈ WT := wt_of (wt_2 (List.mem_of_getElem? (i := 52) (by decide +kernel))) (by decide +kernel)
theorem sm_SU16_charAt : (Jvm.Cond.static y_SU16_charAt) ∈ WT := wt_of (wt_2 (List.mem_of_getElem? (i := 53) (by decide +kernel))) (by decide +kernel)
theorem cd_SU16_charAt : (Jvm.Cond.code y_SU16_charAt prog_20_method_83_code (2 : Nat) (Option.some Jvm.ClassFile.FieldType.char)) ∈ WT := wt_of (wt_2 (List.mem_of_getElem? (i := 54) (by decide +kernel))) (by decide +kernel)
theorem ml_SU16_67 : (Jvm.Cond.methodLink "java/lang/StringUTF16" (67 : Nat) y_SU16_checkIndex) ∈ WT := wt_of (wt_2 (List.mem_of_getElem? (i := 55) (by decide +kernel))) (by decide +kernel)
theorem sm_SU16_checkIndex : (Jvm.Cond.static y_SU16_checkIndex) ∈ WT := wt_of (wt_2 (List.mem_of_getElem? (i := 56) (by decide +kernel))) (by decide +kernel)
theorem cd_SU16_checkIndex : (Jvm.Cond.code y_SU16_checkIndex prog_20_method_91_code (2 : Nat) (Option.none : Option Jvm.ClassFile.FieldType)) ∈ WT := wt_of (wt_2 (List.mem_of_getElem? (i := 57) (by decide +kernel))) (by decide +kernel)
theorem ml_SU16_48 : (Jvm.Cond.methodLink "java/lang/StringUTF16" (48 : Nat) y_SU16_length) ∈ WT := wt_of (wt_2 (List.mem_of_getElem? (i := 58) (by decide +kernel))) (by decide +kernel)
theorem sm_SU16_length : (Jvm.Cond.static y_SU16_length) ∈ WT := wt_of (wt_2 (List.mem_of_getElem? (i := 59) (by decide +kernel))) (by decide +kernel)
theorem cd_SU16_length : (Jvm.Cond.code y_SU16_length prog_20_method_6_code (1 : Nat) (Option.some Jvm.ClassFile.FieldType.int)) ∈ WT := wt_of (wt_2 (List.mem_of_getElem? (i := 60) (by decide +kernel))) (by decide +kernel)
theorem ml_SU16_414 : (Jvm.Cond.methodLink "java/lang/StringUTF16" (414 : Nat) y_String_checkIndex) ∈ WT := wt_of (wt_2 (List.mem_of_getElem? (i := 61) (by decide +kernel))) (by decide +kernel)
theorem ml_SU16_71 : (Jvm.Cond.methodLink "java/lang/StringUTF16" (71 : Nat) y_SU16_getChar) ∈ WT := wt_of (wt_2 (List.mem_of_getElem? (i := 62) (by decide +kernel))) (by decide +kernel)
theorem sm_SU16_getChar : (Jvm.Cond.static y_SU16_getChar) ∈ WT := wt_of (wt_2 (List.mem_of_getElem? (i := 63) (by decide +kernel))) (by decide +kernel)
theorem cd_SU16_getChar : (Jvm.Cond.code y_SU16_getChar prog_20_method_5_code (2 : Nat) (Option.some Jvm.ClassFile.FieldType.char)) ∈ WT := wt_of (wt_2 (List.mem_of_getElem? (i := 64) (by decide +kernel))) (by decide +kernel)
theorem fl_SU16_44 : (Jvm.Cond.fieldLink "java/lang/StringUTF16" (44 : Nat) "java/lang/StringUTF16" "$assertionsDisabled" "Z") ∈ WT := wt_of (wt_2 (List.mem_of_getElem? (i := 65) (by decide +kernel))) (by decide +kernel)
theorem fl_SU16_59 : (Jvm.Cond.fieldLink "java/lang/StringUTF16" (59 : Nat) "java/lang/StringUTF16" "HI_BYTE_SHIFT" "I") ∈ WT := wt_of (wt_2 (List.mem_of_getElem? (i := 67) (by decide +kernel))) (by decide +kernel)
theorem fl_SU16_63 : (Jvm.Cond.fieldLink "java/lang/StringUTF16" (63 : Nat) "java/lang/StringUTF16" "LO_BYTE_SHIFT" "I") ∈ WT := wt_of (wt_2 (List.mem_of_getElem? (i := 69) (by decide +kernel))) (by decide +kernel)
theorem ml_Ni_61 : (Jvm.Cond.methodLink "LanternBridge$Night" (61 : Nat) y_Ni_readNumber) ∈ WT := wt_of (wt_2 (List.mem_of_getElem? (i := 75) (by decide +kernel))) (by decide +kernel)
theorem im_Ni_readNumber : (Jvm.Cond.instanceMethod y_Ni_readNumber) ∈ WT := wt_of (wt_2 (List.mem_of_getElem? (i := 77) (by decide +kernel))) (by decide +kernel)
theorem cd_Ni_readNumber : (Jvm.Cond.code y_Ni_readNumber prog_6_method_8_code (3 : Nat) (Option.some Jvm.ClassFile.FieldType.int)) ∈ WT := wt_of (wt_2 (List.mem_of_getElem? (i := 78) (by decide +kernel))) (by decide +kernel)
theorem ml_Ni_64 : (Jvm.Cond.methodLink "LanternBridge$Night" (64 : Nat) y_Ni_readEither) ∈ WT := wt_of (wt_2 (List.mem_of_getElem? (i := 79) (by decide +kernel))) (by decide +kernel)
theorem im_Ni_readEither : (Jvm.Cond.instanceMethod y_Ni_readEither) ∈ WT := wt_of (wt_2 (List.mem_of_getElem? (i := 81) (by decide +kernel))) (by decide +kernel)
theorem cd_Ni_readEither : (Jvm.Cond.code y_Ni_readEither prog_6_method_9_code (3 : Nat) (Option.some Jvm.ClassFile.FieldType.boolean)) ∈ WT := wt_of (wt_2 (List.mem_of_getElem? (i := 82) (by decide +kernel))) (by decide +kernel)
theorem ml_Ni_102 : (Jvm.Cond.methodLink "LanternBridge$Night" (102 : Nat) y_Ni_readBoth) ∈ WT := wt_of (wt_2 (List.mem_of_getElem? (i := 83) (by decide +kernel))) (by decide +kernel)
theorem im_Ni_readBoth : (Jvm.Cond.instanceMethod y_Ni_readBoth) ∈ WT := wt_of (wt_2 (List.mem_of_getElem? (i := 85) (by decide +kernel))) (by decide +kernel)
theorem cd_Ni_readBoth : (Jvm.Cond.code y_Ni_readBoth prog_6_method_10_code (3 : Nat) (Option.some Jvm.ClassFile.FieldType.boolean)) ∈ WT := wt_of (wt_2 (List.mem_of_getElem? (i := 86) (by decide +kernel))) (by decide +kernel)
theorem ml_Ni_109 : (Jvm.Cond.methodLink "LanternBridge$Night" (109 : Nat) y_Ni_readSingle) ∈ WT := wt_of (wt_2 (List.mem_of_getElem? (i := 87) (by decide +kernel))) (by decide +kernel)
theorem im_Ni_readSingle : (Jvm.Cond.instanceMethod y_Ni_readSingle) ∈ WT := wt_of (wt_2 (List.mem_of_getElem? (i := 89) (by decide +kernel))) (by decide +kernel)
theorem cd_Ni_readSingle : (Jvm.Cond.code y_Ni_readSingle prog_6_method_11_code (3 : Nat) (Option.some Jvm.ClassFile.FieldType.boolean)) ∈ WT := wt_of (wt_2 (List.mem_of_getElem? (i := 90) (by decide +kernel))) (by decide +kernel)
theorem ml_Ni_112 : (Jvm.Cond.methodLink "LanternBridge$Night" (112 : Nat) y_Ni_readTest) ∈ WT := wt_of (wt_2 (List.mem_of_getElem? (i := 91) (by decide +kernel))) (by decide +kernel)
theorem im_Ni_readTest : (Jvm.Cond.instanceMethod y_Ni_readTest) ∈ WT := wt_of (wt_2 (List.mem_of_getElem? (i := 93) (by decide +kernel))) (by decide +kernel)
theorem cd_Ni_readTest : (Jvm.Cond.code y_Ni_readTest prog_6_method_12_code (4 : Nat) (Option.some Jvm.ClassFile.FieldType.boolean)) ∈ WT := wt_of (wt_2 (List.mem_of_getElem? (i := 94) (by decide +kernel))) (by decide +kernel)
theorem ml_Ni_118 : (Jvm.Cond.methodLink "LanternBridge$Night" (118 : Nat) y_Ni_indexIn) ∈ WT := wt_of (wt_2 (List.mem_of_getElem? (i := 96) (by decide +kernel))) (by decide +kernel)
theorem im_Ni_indexIn : (Jvm.Cond.instanceMethod y_Ni_indexIn) ∈ WT := wt_of (wt_2 (List.mem_of_getElem? (i := 98) (by decide +kernel))) (by decide +kernel)
theorem cd_Ni_indexIn : (Jvm.Cond.code y_Ni_indexIn prog_6_method_13_code (2 : Nat) (Option.some Jvm.ClassFile.FieldType.int)) ∈ WT := wt_of (wt_2 (List.mem_of_getElem? (i := 99) (by decide +kernel))) (by decide +kernel)
theorem ml_Ni_124 : (Jvm.Cond.methodLink "LanternBridge$Night" (124 : Nat) y_String_indexOf) ∈ WT := wt_of (wt_2 (List.mem_of_getElem? (i := 100) (by decide +kernel))) (by decide +kernel)
theorem im_String_indexOf : (Jvm.Cond.instanceMethod y_String_indexOf) ∈ WT := wt_of (wt_2 (List.mem_of_getElem? (i := 101) (by decide +kernel))) (by decide +kernel)
theorem se_String_String_indexOf__String_indexOf : (Jvm.Cond.selects "java/lang/String" y_String_indexOf y_String_indexOf) ∈ WT := wt_of (wt_2 (List.mem_of_getElem? (i := 102) (by decide +kernel))) (by decide +kernel)
theorem cd_String_indexOf : (Jvm.Cond.code y_String_indexOf prog_18_method_79_code (2 : Nat) (Option.some Jvm.ClassFile.FieldType.int)) ∈ WT := wt_of (wt_2 (List.mem_of_getElem? (i := 103) (by decide +kernel))) (by decide +kernel)
theorem ml_String_633 : (Jvm.Cond.methodLink "java/lang/String" (633 : Nat) y_String_indexOf_o1) ∈ WT := wt_of (wt_2 (List.mem_of_getElem? (i := 104) (by decide +kernel))) (by decide +kernel)
theorem im_String_indexOf_o1 : (Jvm.Cond.instanceMethod y_String_indexOf_o1) ∈ WT := wt_of (wt_2 (List.mem_of_getElem? (i := 105) (by decide +kernel))) (by decide +kernel)
theorem se_String_String_indexOf_o1__String_indexOf_o1 : (Jvm.Cond.selects "java/lang/String" y_String_indexOf_o1 y_String_indexOf_o1) ∈ WT := wt_of (wt_2 (List.mem_of_getElem? (i := 106) (by decide +kernel))) (by decide +kernel)
theorem cd_String_indexOf_o1 : (Jvm.Cond.code y_String_indexOf_o1 prog_18_method_80_code (3 : Nat) (Option.some Jvm.ClassFile.FieldType.int)) ∈ WT := wt_of (wt_2 (List.mem_of_getElem? (i := 107) (by decide +kernel))) (by decide +kernel)
theorem ml_String_505 : (Jvm.Cond.methodLink "java/lang/String" (505 : Nat) y_String_length) ∈ WT := wt_of (wt_2 (List.mem_of_getElem? (i := 108) (by decide +kernel))) (by decide +kernel)
theorem ml_String_637 : (Jvm.Cond.methodLink "java/lang/String" (637 : Nat) y_SL1_indexOf) ∈ WT := wt_of (wt_2 (List.mem_of_getElem? (i := 109) (by decide +kernel))) (by decide +kernel)
theorem sm_SL1_indexOf : (Jvm.Cond.static y_SL1_indexOf) ∈ WT := wt_of (wt_2 (List.mem_of_getElem? (i := 110) (by decide +kernel))) (by decide +kernel)
theorem cd_SL1_indexOf : (Jvm.Cond.code y_SL1_indexOf prog_19_method_22_code (4 : Nat) (Option.some Jvm.ClassFile.FieldType.int)) ∈ WT := wt_of (wt_2 (List.mem_of_getElem? (i := 111) (by decide +kernel))) (by decide +kernel)
theorem ml_SL1_88 : (Jvm.Cond.methodLink "java/lang/StringLatin1" (88 : Nat) y_SL1_canEncode) ∈ WT := wt_of (wt_2 (List.mem_of_getElem? (i := 112) (by decide +kernel))) (by decide +kernel)
theorem sm_SL1_canEncode : (Jvm.Cond.static y_SL1_canEncode) ∈ WT := wt_of (wt_2 (List.mem_of_getElem? (i := 113) (by decide +kernel))) (by decide +kernel)
theorem cd_SL1_canEncode : (Jvm.Cond.code y_SL1_canEncode prog_19_method_4_code (1 : Nat) (Option.some Jvm.ClassFile.FieldType.boolean)) ∈ WT := wt_of (wt_2 (List.mem_of_getElem? (i := 114) (by decide +kernel))) (by decide +kernel)
theorem ml_SL1_92 : (Jvm.Cond.methodLink "java/lang/StringLatin1" (92 : Nat) y_Math_max) ∈ WT := wt_of (wt_2 (List.mem_of_getElem? (i := 115) (by decide +kernel))) (by decide +kernel)
theorem ml_SL1_38 : (Jvm.Cond.methodLink "java/lang/StringLatin1" (38 : Nat) y_Math_min) ∈ WT := wt_of (wt_2 (List.mem_of_getElem? (i := 116) (by decide +kernel))) (by decide +kernel)
theorem ml_SL1_95 : (Jvm.Cond.methodLink "java/lang/StringLatin1" (95 : Nat) y_SL1_indexOfChar) ∈ WT := wt_of (wt_2 (List.mem_of_getElem? (i := 117) (by decide +kernel))) (by decide +kernel)
theorem sm_SL1_indexOfChar : (Jvm.Cond.static y_SL1_indexOfChar) ∈ WT := wt_of (wt_2 (List.mem_of_getElem? (i := 118) (by decide +kernel))) (by decide +kernel)
theorem cd_SL1_indexOfChar : (Jvm.Cond.code y_SL1_indexOfChar prog_19_method_23_code (6 : Nat) (Option.some Jvm.ClassFile.FieldType.int)) ∈ WT := wt_of (wt_2 (List.mem_of_getElem? (i := 119) (by decide +kernel))) (by decide +kernel)
theorem ml_String_640 : (Jvm.Cond.methodLink "java/lang/String" (640 : Nat) y_SU16_indexOf) ∈ WT := wt_of (wt_2 (List.mem_of_getElem? (i := 120) (by decide +kernel))) (by decide +kernel)
theorem sm_SU16_indexOf : (Jvm.Cond.static y_SU16_indexOf) ∈ WT := wt_of (wt_2 (List.mem_of_getElem? (i := 121) (by decide +kernel))) (by decide +kernel)
theorem cd_SU16_indexOf : (Jvm.Cond.code y_SU16_indexOf prog_20_method_40_code (4 : Nat) (Option.some Jvm.ClassFile.FieldType.int)) ∈ WT := wt_of (wt_2 (List.mem_of_getElem? (i := 122) (by decide +kernel))) (by decide +kernel)
theorem ml_SU16_224 : (Jvm.Cond.methodLink "java/lang/StringUTF16" (224 : Nat) y_Math_max) ∈ WT := wt_of (wt_2 (List.mem_of_getElem? (i := 123) (by decide +kernel))) (by decide +kernel)
theorem ml_SU16_183 : (Jvm.Cond.methodLink "java/lang/StringUTF16" (183 : Nat) y_Math_min) ∈ WT := wt_of (wt_2 (List.mem_of_getElem? (i := 124) (by decide +kernel))) (by decide +kernel)
theorem ko_SU16_227 : (Jvm.Cond.constant "java/lang/StringUTF16" (227 : Nat) (65536 : Int32)) ∈ WT := wt_of (wt_2 (List.mem_of_getElem? (i := 125) (by decide +kernel))) (by decide +kernel)
theorem ml_SU16_228 : (Jvm.Cond.methodLink "java/lang/StringUTF16" (228 : Nat) y_SU16_indexOfChar) ∈ WT := wt_of (wt_2 (List.mem_of_getElem? (i := 126) (by decide +kernel))) (by decide +kernel)
theorem sm_SU16_indexOfChar : (Jvm.Cond.static y_SU16_indexOfChar) ∈ WT := wt_of (wt_2 (List.mem_of_getElem? (i := 127) (by decide +kernel))) (by decide +kernel)
theorem cd_SU16_indexOfChar : (Jvm.Cond.code y_SU16_indexOfChar prog_20_method_47_code (4 : Nat) (Option.some Jvm.ClassFile.FieldType.int)) ∈ WT := wt_of (wt_2 (List.mem_of_getElem? (i := 128) (by decide +kernel))) (by decide +kernel)
theorem ml_SU16_96 : (Jvm.Cond.methodLink "java/lang/StringUTF16" (96 : Nat) y_SU16_checkBoundsBeginEnd) ∈ WT := wt_of (wt_2 (List.mem_of_getElem? (i := 129) (by decide +kernel))) (by decide +kernel)
theorem sm_SU16_checkBoundsBeginEnd : (Jvm.Cond.static y_SU16_checkBoundsBeginEnd) ∈ WT := wt_of (wt_2 (List.mem_of_getElem? (i := 130) (by decide +kernel))) (by decide +kernel)
theorem cd_SU16_checkBoundsBeginEnd : (Jvm.Cond.code y_SU16_checkBoundsBeginEnd prog_20_method_93_code (3 : Nat) (Option.none : Option Jvm.ClassFile.FieldType)) ∈ WT := wt_of (wt_2 (List.mem_of_getElem? (i := 131) (by decide +kernel))) (by decide +kernel)
theorem ml_SU16_241 : (Jvm.Cond.methodLink "java/lang/StringUTF16" (241 : Nat) y_String_checkBoundsBeginEnd) ∈ WT := wt_of (wt_2 (List.mem_of_getElem? (i := 132) (by decide +kernel))) (by decide +kernel)
theorem sm_String_checkBoundsBeginEnd : (Jvm.Cond.static y_String_checkBoundsBeginEnd) ∈ WT := wt_of (wt_2 (List.mem_of_getElem? (i := 133) (by decide +kernel))) (by decide +kernel)
theorem cd_String_checkBoundsBeginEnd : (Jvm.Cond.code y_String_checkBoundsBeginEnd prog_18_method_158_code (3 : Nat) (Option.none : Option Jvm.ClassFile.FieldType)) ∈ WT := wt_of (wt_2 (List.mem_of_getElem? (i := 134) (by decide +kernel))) (by decide +kernel)
theorem ml_String_1062 : (Jvm.Cond.methodLink "java/lang/String" (1062 : Nat) y_Pre_checkFromToIndex) ∈ WT := wt_of (wt_2 (List.mem_of_getElem? (i := 135) (by decide +kernel))) (by decide +kernel)
theorem sm_Pre_checkFromToIndex : (Jvm.Cond.static y_Pre_checkFromToIndex) ∈ WT := wt_of (wt_2 (List.mem_of_getElem? (i := 136) (by decide +kernel))) (by decide +kernel)
theorem cd_Pre_checkFromToIndex : (Jvm.Cond.code y_Pre_checkFromToIndex prog_22_method_12_code (4 : Nat) (Option.some Jvm.ClassFile.FieldType.int)) ∈ WT := wt_of (wt_2 (List.mem_of_getElem? (i := 137) (by decide +kernel))) (by decide +kernel)
theorem ml_SU16_244 : (Jvm.Cond.methodLink "java/lang/StringUTF16" (244 : Nat) y_SU16_indexOfCharUnsafe) ∈ WT := wt_of (wt_2 (List.mem_of_getElem? (i := 138) (by decide +kernel))) (by decide +kernel)
theorem sm_SU16_indexOfCharUnsafe : (Jvm.Cond.static y_SU16_indexOfCharUnsafe) ∈ WT := wt_of (wt_2 (List.mem_of_getElem? (i := 139) (by decide +kernel))) (by decide +kernel)
theorem cd_SU16_indexOfCharUnsafe : (Jvm.Cond.code y_SU16_indexOfCharUnsafe prog_20_method_48_code (5 : Nat) (Option.some Jvm.ClassFile.FieldType.int)) ∈ WT := wt_of (wt_2 (List.mem_of_getElem? (i := 140) (by decide +kernel))) (by decide +kernel)
theorem ml_SU16_232 : (Jvm.Cond.methodLink "java/lang/StringUTF16" (232 : Nat) y_SU16_indexOfSupplementary) ∈ WT := wt_of (wt_2 (List.mem_of_getElem? (i := 141) (by decide +kernel))) (by decide +kernel)
theorem sm_SU16_indexOfSupplementary : (Jvm.Cond.static y_SU16_indexOfSupplementary) ∈ WT := wt_of (wt_2 (List.mem_of_getElem? (i := 142) (by decide +kernel))) (by decide +kernel)
theorem cd_SU16_indexOfSupplementary : (Jvm.Cond.code y_SU16_indexOfSupplementary prog_20_method_49_code (7 : Nat) (Option.some Jvm.ClassFile.FieldType.int)) ∈ WT := wt_of (wt_2 (List.mem_of_getElem? (i := 143) (by decide +kernel))) (by decide +kernel)
theorem ml_SU16_164 : (Jvm.Cond.methodLink "java/lang/StringUTF16" (164 : Nat) y_Char_isValidCodePoint) ∈ WT := wt_of (wt_2 (List.mem_of_getElem? (i := 144) (by decide +kernel))) (by decide +kernel)
theorem sm_Char_isValidCodePoint : (Jvm.Cond.static y_Char_isValidCodePoint) ∈ WT := wt_of (wt_2 (List.mem_of_getElem? (i := 145) (by decide +kernel))) (by decide +kernel)
theorem cd_Char_isValidCodePoint : (Jvm.Cond.code y_Char_isValidCodePoint prog_15_method_11_code (2 : Nat) (Option.some Jvm.ClassFile.FieldType.boolean)) ∈ WT := wt_of (wt_2 (List.mem_of_getElem? (i := 146) (by decide +kernel))) (by decide +kernel)
theorem ml_SU16_157 : (Jvm.Cond.methodLink "java/lang/StringUTF16" (157 : Nat) y_Char_highSurrogate) ∈ WT := wt_of (wt_2 (List.mem_of_getElem? (i := 147) (by decide +kernel))) (by decide +kernel)
theorem sm_Char_highSurrogate : (Jvm.Cond.static y_Char_highSurrogate) ∈ WT := wt_of (wt_2 (List.mem_of_getElem? (i := 148) (by decide +kernel))) (by decide +kernel)
theorem cd_Char_highSurrogate : (Jvm.Cond.code y_Char_highSurrogate prog_15_method_28_code (1 : Nat) (Option.some Jvm.ClassFile.FieldType.char)) ∈ WT := wt_of (wt_2 (List.mem_of_getElem? (i := 149) (by decide +kernel))) (by decide +kernel)
theorem ko_Char_110 : (Jvm.Cond.constant "java/lang/Character" (110 : Nat) (55232 : Int32)) ∈ WT := wt_of (wt_2 (List.mem_of_getElem? (i := 150) (by decide +kernel))) (by decide +kernel)
theorem ml_SU16_161 : (Jvm.Cond.methodLink "java/lang/StringUTF16" (161 : Nat) y_Char_lowSurrogate) ∈ WT := wt_of (wt_2 (List.mem_of_getElem? (i := 151) (by decide +kernel))) (by decide +kernel)
theorem sm_Char_lowSurrogate : (Jvm.Cond.static y_Char_lowSurrogate) ∈ WT := wt_of (wt_2 (List.mem_of_getElem? (i := 152) (by decide +kernel))) (by decide +kernel)
theorem cd_Char_lowSurrogate : (Jvm.Cond.code y_Char_lowSurrogate prog_15_method_29_code (1 : Nat) (Option.some Jvm.ClassFile.FieldType.char)) ∈ WT := wt_of (wt_2 (List.mem_of_getElem? (i := 153) (by decide +kernel))) (by decide +kernel)
theorem ko_Char_76 : (Jvm.Cond.constant "java/lang/Character" (76 : Nat) (56320 : Int32)) ∈ WT := wt_of (wt_2 (List.mem_of_getElem? (i := 154) (by decide +kernel))) (by decide +kernel)
theorem ml_Ni_105 : (Jvm.Cond.methodLink "LanternBridge$Night" (105 : Nat) y_Ni_addCode) ∈ WT := wt_of (wt_2 (List.mem_of_getElem? (i := 156) (by decide +kernel))) (by decide +kernel)
theorem im_Ni_addCode : (Jvm.Cond.instanceMethod y_Ni_addCode) ∈ WT := wt_of (wt_2 (List.mem_of_getElem? (i := 158) (by decide +kernel))) (by decide +kernel)
theorem cd_Ni_addCode : (Jvm.Cond.code y_Ni_addCode prog_6_method_14_code (2 : Nat) (Option.none : Option Jvm.ClassFile.FieldType)) ∈ WT := wt_of (wt_2 (List.mem_of_getElem? (i := 159) (by decide +kernel))) (by decide +kernel)
theorem ml_Ni_68 : (Jvm.Cond.methodLink "LanternBridge$Night" (68 : Nat) y_Ni_addClause) ∈ WT := wt_of (wt_2 (List.mem_of_getElem? (i := 160) (by decide +kernel))) (by decide +kernel)
theorem im_Ni_addClause : (Jvm.Cond.instanceMethod y_Ni_addClause) ∈ WT := wt_of (wt_2 (List.mem_of_getElem? (i := 162) (by decide +kernel))) (by decide +kernel)
theorem cd_Ni_addClause : (Jvm.Cond.code y_Ni_addClause prog_6_method_3_code (3 : Nat) (Option.none : Option Jvm.ClassFile.FieldType)) ∈ WT := wt_of (wt_2 (List.mem_of_getElem? (i := 163) (by decide +kernel))) (by decide +kernel)
theorem w2_164 : (Jvm.Cond.arrayClass Jvm.ClassFile.FieldType.byte) ∈ WT := wt_of (wt_2 (List.mem_of_getElem? (i := 164) (by decide +kernel))) (by decide +kernel)
theorem ml_law_23 : (Jvm.Cond.methodLink "LanternBridgeLaw" (23 : Nat) y_LB_person) ∈ WT := wt_of (wt_2 (List.mem_of_getElem? (i := 165) (by decide +kernel))) (by decide +kernel)
theorem im_LB_person : (Jvm.Cond.instanceMethod y_LB_person) ∈ WT := wt_of (wt_2 (List.mem_of_getElem? (i := 166) (by decide +kernel))) (by decide +kernel)
theorem se_LB_LB_person__LB_person : (Jvm.Cond.selects "LanternBridge" y_LB_person y_LB_person) ∈ WT := wt_of (wt_2 (List.mem_of_getElem? (i := 167) (by decide +kernel))) (by decide +kernel)
theorem cd_LB_person : (Jvm.Cond.code y_LB_person prog_1_method_4_code (5 : Nat) (Option.some Jvm.ClassFile.FieldType.int)) ∈ WT := wt_of (wt_2 (List.mem_of_getElem? (i := 168) (by decide +kernel))) (by decide +kernel)
theorem ml_LB_75 : (Jvm.Cond.methodLink "LanternBridge" (75 : Nat) y_Wa_make) ∈ WT := wt_of (wt_2 (List.mem_of_getElem? (i := 169) (by decide +kernel))) (by decide +kernel)
theorem sm_Wa_make : (Jvm.Cond.static y_Wa_make) ∈ WT := wt_of (wt_2 (List.mem_of_getElem? (i := 170) (by decide +kernel))) (by decide +kernel)
theorem cd_Wa_make : (Jvm.Cond.code y_Wa_make prog_12_method_2_code (5 : Nat) (Option.some (Jvm.ClassFile.FieldType.object "LanternBridge$Walker"))) ∈ WT := wt_of (wt_2 (List.mem_of_getElem? (i := 171) (by decide +kernel))) (by decide +kernel)
theorem kl_Wa_25 : (Jvm.Cond.classLink "LanternBridge$Walker" (25 : Nat) "LanternBridge$Quick") ∈ WT := wt_of (wt_2 (List.mem_of_getElem? (i := 172) (by decide +kernel))) (by decide +kernel)
theorem ia_Qu : (Jvm.Cond.instantiable "LanternBridge$Quick" (5 : Nat)) ∈ WT := wt_of (wt_2 (List.mem_of_getElem? (i := 173) (by decide +kernel))) (by decide +kernel)
theorem ml_Wa_27 : (Jvm.Cond.methodLink "LanternBridge$Walker" (27 : Nat) y_Qu_init) ∈ WT := wt_of (wt_2 (List.mem_of_getElem? (i := 174) (by decide +kernel))) (by decide +kernel)
theorem im_Qu_init : (Jvm.Cond.instanceMethod y_Qu_init) ∈ WT := wt_of (wt_2 (List.mem_of_getElem? (i := 175) (by decide +kernel))) (by decide +kernel)
theorem cd_Qu_init : (Jvm.Cond.code y_Qu_init prog_7_method_1_code (6 : Nat) (Option.none : Option Jvm.ClassFile.FieldType)) ∈ WT := wt_of (wt_2 (List.mem_of_getElem? (i := 176) (by decide +kernel))) (by decide +kernel)
theorem ml_Qu_1 : (Jvm.Cond.methodLink "LanternBridge$Quick" (1 : Nat) y_Wa_init) ∈ WT := wt_of (wt_2 (List.mem_of_getElem? (i := 177) (by decide +kernel))) (by decide +kernel)
theorem im_Wa_init : (Jvm.Cond.instanceMethod y_Wa_init) ∈ WT := wt_of (wt_2 (List.mem_of_getElem? (i := 178) (by decide +kernel))) (by decide +kernel)
theorem cd_Wa_init : (Jvm.Cond.code y_Wa_init prog_12_method_1_code (6 : Nat) (Option.none : Option Jvm.ClassFile.FieldType)) ∈ WT := wt_of (wt_2 (List.mem_of_getElem? (i := 179) (by decide +kernel))) (by decide +kernel)
theorem ml_Wa_1 : (Jvm.Cond.methodLink "LanternBridge$Walker" (1 : Nat) y_Object_init) ∈ WT := wt_of (wt_2 (List.mem_of_getElem? (i := 180) (by decide +kernel))) (by decide +kernel)
theorem fl_Wa_7 : (Jvm.Cond.fieldLink "LanternBridge$Walker" (7 : Nat) "LanternBridge$Walker" "kind" "I") ∈ WT := wt_of (wt_2 (List.mem_of_getElem? (i := 181) (by decide +kernel))) (by decide +kernel)
theorem fl_LB_85 : (Jvm.Cond.fieldLink "LanternBridge" (85 : Nat) "LanternBridge$Walker" "kind" "I") ∈ WT := wt_of (wt_2 (List.mem_of_getElem? (i := 182) (by decide +kernel))) (by decide +kernel)
theorem fl_Go_123 : (Jvm.Cond.fieldLink "LanternBridge$Goings" (123 : Nat) "LanternBridge$Walker" "kind" "I") ∈ WT := wt_of (wt_2 (List.mem_of_getElem? (i := 183) (by decide +kernel))) (by decide +kernel)
theorem fl_Wa_13 : (Jvm.Cond.fieldLink "LanternBridge$Walker" (13 : Nat) "LanternBridge$Walker" "number" "I") ∈ WT := wt_of (wt_2 (List.mem_of_getElem? (i := 184) (by decide +kernel))) (by decide +kernel)
theorem fl_Ti_7 : (Jvm.Cond.fieldLink "LanternBridge$Tied" (7 : Nat) "LanternBridge$Tied" "number" "I") ∈ WT := wt_of (wt_2 (List.mem_of_getElem? (i := 185) (by decide +kernel))) (by decide +kernel)
theorem w2_186 : (Jvm.Cond.sameField "LanternBridge$Tied" "LanternBridge$Walker" "number" "I") ∈ WT := wt_of (wt_2 (List.mem_of_getElem? (i := 186) (by decide +kernel))) (by decide +kernel)
theorem fl_Go_65 : (Jvm.Cond.fieldLink "LanternBridge$Goings" (65 : Nat) "LanternBridge$Walker" "number" "I") ∈ WT := wt_of (wt_2 (List.mem_of_getElem? (i := 187) (by decide +kernel))) (by decide +kernel)
theorem fl_Ca_21 : (Jvm.Cond.fieldLink "LanternBridge$Carried" (21 : Nat) "LanternBridge$Carried" "number" "I") ∈ WT := wt_of (wt_2 (List.mem_of_getElem? (i := 188) (by decide +kernel))) (by decide +kernel)
theorem w2_189 : (Jvm.Cond.sameField "LanternBridge$Carried" "LanternBridge$Walker" "number" "I") ∈ WT := wt_of (wt_2 (List.mem_of_getElem? (i := 189) (by decide +kernel))) (by decide +kernel)
theorem fl_LB_100 : (Jvm.Cond.fieldLink "LanternBridge" (100 : Nat) "LanternBridge$Walker" "number" "I") ∈ WT := wt_of (wt_2 (List.mem_of_getElem? (i := 190) (by decide +kernel))) (by decide +kernel)
theorem fl_Wa_16 : (Jvm.Cond.fieldLink "LanternBridge$Walker" (16 : Nat) "LanternBridge$Walker" "v" "I") ∈ WT := wt_of (wt_2 (List.mem_of_getElem? (i := 191) (by decide +kernel))) (by decide +kernel)
theorem fl_Qu_7 : (Jvm.Cond.fieldLink "LanternBridge$Quick" (7 : Nat) "LanternBridge$Quick" "v" "I") ∈ WT := wt_of (wt_2 (List.mem_of_getElem? (i := 192) (by decide +kernel))) (by decide +kernel)
theorem w2_193 : (Jvm.Cond.sameField "LanternBridge$Quick" "LanternBridge$Walker" "v" "I") ∈ WT := wt_of (wt_2 (List.mem_of_getElem? (i := 193) (by decide +kernel))) (by decide +kernel)
theorem fl_La_7 : (Jvm.Cond.fieldLink "LanternBridge$Lame" (7 : Nat) "LanternBridge$Lame" "v" "I") ∈ WT := wt_of (wt_2 (List.mem_of_getElem? (i := 194) (by decide +kernel))) (by decide +kernel)
theorem w2_195 : (Jvm.Cond.sameField "LanternBridge$Lame" "LanternBridge$Walker" "v" "I") ∈ WT := wt_of (wt_2 (List.mem_of_getElem? (i := 195) (by decide +kernel))) (by decide +kernel)
theorem fl_Tr_13 : (Jvm.Cond.fieldLink "LanternBridge$Tiring" (13 : Nat) "LanternBridge$Tiring" "v" "I") ∈ WT := wt_of (wt_2 (List.mem_of_getElem? (i := 196) (by decide +kernel))) (by decide +kernel)
theorem w2_197 : (Jvm.Cond.sameField "LanternBridge$Tiring" "LanternBridge$Walker" "v" "I") ∈ WT := wt_of (wt_2 (List.mem_of_getElem? (i := 197) (by decide +kernel))) (by decide +kernel)
theorem fl_Ti_13 : (Jvm.Cond.fieldLink "LanternBridge$Tied" (13 : Nat) "LanternBridge$Tied" "v" "I") ∈ WT := wt_of (wt_2 (List.mem_of_getElem? (i := 198) (by decide +kernel))) (by decide +kernel)
theorem w2_199 : (Jvm.Cond.sameField "LanternBridge$Tied" "LanternBridge$Walker" "v" "I") ∈ WT := wt_of (wt_2 (List.mem_of_getElem? (i := 199) (by decide +kernel))) (by decide +kernel)
theorem fl_LB_88 : (Jvm.Cond.fieldLink "LanternBridge" (88 : Nat) "LanternBridge$Walker" "v" "I") ∈ WT := wt_of (wt_2 (List.mem_of_getElem? (i := 200) (by decide +kernel))) (by decide +kernel)
theorem fl_Wa_19 : (Jvm.Cond.fieldLink "LanternBridge$Walker" (19 : Nat) "LanternBridge$Walker" "pace" "I") ∈ WT := wt_of (wt_2 (List.mem_of_getElem? (i := 201) (by decide +kernel))) (by decide +kernel)
theorem fl_LB_91 : (Jvm.Cond.fieldLink "LanternBridge" (91 : Nat) "LanternBridge$Walker" "pace" "I") ∈ WT := wt_of (wt_2 (List.mem_of_getElem? (i := 202) (by decide +kernel))) (by decide +kernel)
theorem fl_Go_109 : (Jvm.Cond.fieldLink "LanternBridge$Goings" (109 : Nat) "LanternBridge$Walker" "pace" "I") ∈ WT := wt_of (wt_2 (List.mem_of_getElem? (i := 203) (by decide +kernel))) (by decide +kernel)
theorem fl_Wa_22 : (Jvm.Cond.fieldLink "LanternBridge$Walker" (22 : Nat) "LanternBridge$Walker" "weight" "I") ∈ WT := wt_of (wt_2 (List.mem_of_getElem? (i := 204) (by decide +kernel))) (by decide +kernel)
theorem fl_LB_94 : (Jvm.Cond.fieldLink "LanternBridge" (94 : Nat) "LanternBridge$Walker" "weight" "I") ∈ WT := wt_of (wt_2 (List.mem_of_getElem? (i := 205) (by decide +kernel))) (by decide +kernel)
theorem fl_Go_86 : (Jvm.Cond.fieldLink "LanternBridge$Goings" (86 : Nat) "LanternBridge$Walker" "weight" "I") ∈ WT := wt_of (wt_2 (List.mem_of_getElem? (i := 206) (by decide +kernel))) (by decide +kernel)
theorem su_Qu_Wa : (Jvm.Cond.superclass "LanternBridge$Quick" "LanternBridge$Walker") ∈ WT := wt_of (wt_2 (List.mem_of_getElem? (i := 217) (by decide +kernel))) (by decide +kernel)
theorem kl_Wa_30 : (Jvm.Cond.classLink "LanternBridge$Walker" (30 : Nat) "LanternBridge$Lame") ∈ WT := wt_of (wt_2 (List.mem_of_getElem? (i := 218) (by decide +kernel))) (by decide +kernel)
theorem ia_La : (Jvm.Cond.instantiable "LanternBridge$Lame" (5 : Nat)) ∈ WT := wt_of (wt_2 (List.mem_of_getElem? (i := 219) (by decide +kernel))) (by decide +kernel)
theorem ml_Wa_32 : (Jvm.Cond.methodLink "LanternBridge$Walker" (32 : Nat) y_La_init) ∈ WT := wt_of (wt_2 (List.mem_of_getElem? (i := 220) (by decide +kernel))) (by decide +kernel)
theorem im_La_init : (Jvm.Cond.instanceMethod y_La_init) ∈ WT := wt_of (wt_2 (List.mem_of_getElem? (i := 221) (by decide +kernel))) (by decide +kernel)
theorem cd_La_init : (Jvm.Cond.code y_La_init prog_4_method_1_code (6 : Nat) (Option.none : Option Jvm.ClassFile.FieldType)) ∈ WT := wt_of (wt_2 (List.mem_of_getElem? (i := 222) (by decide +kernel))) (by decide +kernel)
theorem ml_La_1 : (Jvm.Cond.methodLink "LanternBridge$Lame" (1 : Nat) y_Wa_init) ∈ WT := wt_of (wt_2 (List.mem_of_getElem? (i := 223) (by decide +kernel))) (by decide +kernel)
theorem su_La_Wa : (Jvm.Cond.superclass "LanternBridge$Lame" "LanternBridge$Walker") ∈ WT := wt_of (wt_2 (List.mem_of_getElem? (i := 229) (by decide +kernel))) (by decide +kernel)
theorem kl_Wa_33 : (Jvm.Cond.classLink "LanternBridge$Walker" (33 : Nat) "LanternBridge$Tied") ∈ WT := wt_of (wt_2 (List.mem_of_getElem? (i := 230) (by decide +kernel))) (by decide +kernel)
theorem ia_Ti : (Jvm.Cond.instantiable "LanternBridge$Tied" (5 : Nat)) ∈ WT := wt_of (wt_2 (List.mem_of_getElem? (i := 231) (by decide +kernel))) (by decide +kernel)
theorem ml_Wa_35 : (Jvm.Cond.methodLink "LanternBridge$Walker" (35 : Nat) y_Ti_init) ∈ WT := wt_of (wt_2 (List.mem_of_getElem? (i := 232) (by decide +kernel))) (by decide +kernel)
theorem im_Ti_init : (Jvm.Cond.instanceMethod y_Ti_init) ∈ WT := wt_of (wt_2 (List.mem_of_getElem? (i := 233) (by decide +kernel))) (by decide +kernel)
theorem cd_Ti_init : (Jvm.Cond.code y_Ti_init prog_10_method_1_code (6 : Nat) (Option.none : Option Jvm.ClassFile.FieldType)) ∈ WT := wt_of (wt_2 (List.mem_of_getElem? (i := 234) (by decide +kernel))) (by decide +kernel)
theorem ml_Ti_1 : (Jvm.Cond.methodLink "LanternBridge$Tied" (1 : Nat) y_Wa_init) ∈ WT := wt_of (wt_2 (List.mem_of_getElem? (i := 235) (by decide +kernel))) (by decide +kernel)
theorem su_Ti_Wa : (Jvm.Cond.superclass "LanternBridge$Tied" "LanternBridge$Walker") ∈ WT := wt_of (wt_3 (List.mem_of_getElem? (i := 1) (by decide +kernel))) (by decide +kernel)
theorem kl_Wa_36 : (Jvm.Cond.classLink "LanternBridge$Walker" (36 : Nat) "LanternBridge$Leading") ∈ WT := wt_of (wt_3 (List.mem_of_getElem? (i := 2) (by decide +kernel))) (by decide +kernel)
theorem ia_Le : (Jvm.Cond.instantiable "LanternBridge$Leading" (5 : Nat)) ∈ WT := wt_of (wt_3 (List.mem_of_getElem? (i := 3) (by decide +kernel))) (by decide +kernel)
theorem ml_Wa_38 : (Jvm.Cond.methodLink "LanternBridge$Walker" (38 : Nat) y_Le_init) ∈ WT := wt_of (wt_3 (List.mem_of_getElem? (i := 4) (by decide +kernel))) (by decide +kernel)
theorem im_Le_init : (Jvm.Cond.instanceMethod y_Le_init) ∈ WT := wt_of (wt_3 (List.mem_of_getElem? (i := 5) (by decide +kernel))) (by decide +kernel)
theorem cd_Le_init : (Jvm.Cond.code y_Le_init prog_5_method_1_code (6 : Nat) (Option.none : Option Jvm.ClassFile.FieldType)) ∈ WT := wt_of (wt_3 (List.mem_of_getElem? (i := 6) (by decide +kernel))) (by decide +kernel)
theorem ml_Le_1 : (Jvm.Cond.methodLink "LanternBridge$Leading" (1 : Nat) y_Qu_init) ∈ WT := wt_of (wt_3 (List.mem_of_getElem? (i := 7) (by decide +kernel))) (by decide +kernel)
theorem su_Le_Qu : (Jvm.Cond.superclass "LanternBridge$Leading" "LanternBridge$Quick") ∈ WT := wt_of (wt_3 (List.mem_of_getElem? (i := 13) (by decide +kernel))) (by decide +kernel)
theorem kl_Wa_39 : (Jvm.Cond.classLink "LanternBridge$Walker" (39 : Nat) "LanternBridge$Carried") ∈ WT := wt_of (wt_3 (List.mem_of_getElem? (i := 14) (by decide +kernel))) (by decide +kernel)
theorem ia_Ca : (Jvm.Cond.instantiable "LanternBridge$Carried" (5 : Nat)) ∈ WT := wt_of (wt_3 (List.mem_of_getElem? (i := 15) (by decide +kernel))) (by decide +kernel)
theorem ml_Wa_41 : (Jvm.Cond.methodLink "LanternBridge$Walker" (41 : Nat) y_Ca_init) ∈ WT := wt_of (wt_3 (List.mem_of_getElem? (i := 16) (by decide +kernel))) (by decide +kernel)
theorem im_Ca_init : (Jvm.Cond.instanceMethod y_Ca_init) ∈ WT := wt_of (wt_3 (List.mem_of_getElem? (i := 17) (by decide +kernel))) (by decide +kernel)
theorem cd_Ca_init : (Jvm.Cond.code y_Ca_init prog_2_method_1_code (6 : Nat) (Option.none : Option Jvm.ClassFile.FieldType)) ∈ WT := wt_of (wt_3 (List.mem_of_getElem? (i := 18) (by decide +kernel))) (by decide +kernel)
theorem ml_Ca_1 : (Jvm.Cond.methodLink "LanternBridge$Carried" (1 : Nat) y_La_init) ∈ WT := wt_of (wt_3 (List.mem_of_getElem? (i := 19) (by decide +kernel))) (by decide +kernel)
theorem su_Ca_La : (Jvm.Cond.superclass "LanternBridge$Carried" "LanternBridge$Lame") ∈ WT := wt_of (wt_3 (List.mem_of_getElem? (i := 25) (by decide +kernel))) (by decide +kernel)
theorem kl_Wa_42 : (Jvm.Cond.classLink "LanternBridge$Walker" (42 : Nat) "LanternBridge$Tiring") ∈ WT := wt_of (wt_3 (List.mem_of_getElem? (i := 26) (by decide +kernel))) (by decide +kernel)
theorem ia_Tr : (Jvm.Cond.instantiable "LanternBridge$Tiring" (5 : Nat)) ∈ WT := wt_of (wt_3 (List.mem_of_getElem? (i := 27) (by decide +kernel))) (by decide +kernel)
theorem ml_Wa_44 : (Jvm.Cond.methodLink "LanternBridge$Walker" (44 : Nat) y_Tr_init) ∈ WT := wt_of (wt_3 (List.mem_of_getElem? (i := 28) (by decide +kernel))) (by decide +kernel)
theorem im_Tr_init : (Jvm.Cond.instanceMethod y_Tr_init) ∈ WT := wt_of (wt_3 (List.mem_of_getElem? (i := 29) (by decide +kernel))) (by decide +kernel)
theorem cd_Tr_init : (Jvm.Cond.code y_Tr_init prog_11_method_1_code (6 : Nat) (Option.none : Option Jvm.ClassFile.FieldType)) ∈ WT := wt_of (wt_3 (List.mem_of_getElem? (i := 30) (by decide +kernel))) (by decide +kernel)
theorem ml_Tr_3 : (Jvm.Cond.methodLink "LanternBridge$Tiring" (3 : Nat) y_Ti_init) ∈ WT := wt_of (wt_3 (List.mem_of_getElem? (i := 31) (by decide +kernel))) (by decide +kernel)
theorem su_Tr_Ti : (Jvm.Cond.superclass "LanternBridge$Tiring" "LanternBridge$Tied") ∈ WT := wt_of (wt_3 (List.mem_of_getElem? (i := 37) (by decide +kernel))) (by decide +kernel)
theorem kl_Wa_8 : (Jvm.Cond.classLink "LanternBridge$Walker" (8 : Nat) "LanternBridge$Walker") ∈ WT := wt_of (wt_3 (List.mem_of_getElem? (i := 38) (by decide +kernel))) (by decide +kernel)
theorem ia_Wa : (Jvm.Cond.instantiable "LanternBridge$Walker" (5 : Nat)) ∈ WT := wt_of (wt_3 (List.mem_of_getElem? (i := 39) (by decide +kernel))) (by decide +kernel)
theorem ml_Wa_45 : (Jvm.Cond.methodLink "LanternBridge$Walker" (45 : Nat) y_Wa_init) ∈ WT := wt_of (wt_3 (List.mem_of_getElem? (i := 40) (by decide +kernel))) (by decide +kernel)
theorem su_Wa_Object : (Jvm.Cond.superclass "LanternBridge$Walker" "java/lang/Object") ∈ WT := wt_of (wt_3 (List.mem_of_getElem? (i := 46) (by decide +kernel))) (by decide +kernel)
theorem ml_law_28 : (Jvm.Cond.methodLink "LanternBridgeLaw" (28 : Nat) y_LB_of) ∈ WT := wt_of (wt_3 (List.mem_of_getElem? (i := 47) (by decide +kernel))) (by decide +kernel)
theorem im_LB_of : (Jvm.Cond.instanceMethod y_LB_of) ∈ WT := wt_of (wt_3 (List.mem_of_getElem? (i := 48) (by decide +kernel))) (by decide +kernel)
theorem se_LB_LB_of__LB_of : (Jvm.Cond.selects "LanternBridge" y_LB_of y_LB_of) ∈ WT := wt_of (wt_3 (List.mem_of_getElem? (i := 49) (by decide +kernel))) (by decide +kernel)
theorem cd_LB_of : (Jvm.Cond.code y_LB_of prog_1_method_5_code (4 : Nat) (Option.some Jvm.ClassFile.FieldType.int)) ∈ WT := wt_of (wt_3 (List.mem_of_getElem? (i := 50) (by decide +kernel))) (by decide +kernel)
theorem ml_LB_81 : (Jvm.Cond.methodLink "LanternBridge" (81 : Nat) y_St_walker) ∈ WT := wt_of (wt_3 (List.mem_of_getElem? (i := 51) (by decide +kernel))) (by decide +kernel)
theorem im_St_walker : (Jvm.Cond.instanceMethod y_St_walker) ∈ WT := wt_of (wt_3 (List.mem_of_getElem? (i := 52) (by decide +kernel))) (by decide +kernel)
theorem se_St_St_walker__St_walker : (Jvm.Cond.selects "LanternBridge$State" y_St_walker y_St_walker) ∈ WT := wt_of (wt_3 (List.mem_of_getElem? (i := 53) (by decide +kernel))) (by decide +kernel)
theorem cd_St_walker : (Jvm.Cond.code y_St_walker prog_9_method_3_code (2 : Nat) (Option.some (Jvm.ClassFile.FieldType.object "LanternBridge$Walker"))) ∈ WT := wt_of (wt_3 (List.mem_of_getElem? (i := 54) (by decide +kernel))) (by decide +kernel)
theorem ml_law_33 : (Jvm.Cond.methodLink "LanternBridgeLaw" (33 : Nat) y_LB_told) ∈ WT := wt_of (wt_3 (List.mem_of_getElem? (i := 55) (by decide +kernel))) (by decide +kernel)
theorem im_LB_told : (Jvm.Cond.instanceMethod y_LB_told) ∈ WT := wt_of (wt_3 (List.mem_of_getElem? (i := 56) (by decide +kernel))) (by decide +kernel)
theorem se_LB_LB_told__LB_told : (Jvm.Cond.selects "LanternBridge" y_LB_told y_LB_told) ∈ WT := wt_of (wt_3 (List.mem_of_getElem? (i := 57) (by decide +kernel))) (by decide +kernel)
theorem cd_LB_told : (Jvm.Cond.code y_LB_told prog_1_method_6_code (2 : Nat) (Option.some Jvm.ClassFile.FieldType.int)) ∈ WT := wt_of (wt_3 (List.mem_of_getElem? (i := 58) (by decide +kernel))) (by decide +kernel)
theorem ml_law_37 : (Jvm.Cond.methodLink "LanternBridgeLaw" (37 : Nat) y_LB_going) ∈ WT := wt_of (wt_3 (List.mem_of_getElem? (i := 59) (by decide +kernel))) (by decide +kernel)
theorem im_LB_going : (Jvm.Cond.instanceMethod y_LB_going) ∈ WT := wt_of (wt_3 (List.mem_of_getElem? (i := 60) (by decide +kernel))) (by decide +kernel)
theorem se_LB_LB_going__LB_going : (Jvm.Cond.selects "LanternBridge" y_LB_going y_LB_going) ∈ WT := wt_of (wt_3 (List.mem_of_getElem? (i := 61) (by decide +kernel))) (by decide +kernel)
theorem cd_LB_going : (Jvm.Cond.code y_LB_going prog_1_method_7_code (4 : Nat) (Option.some Jvm.ClassFile.FieldType.int)) ∈ WT := wt_of (wt_3 (List.mem_of_getElem? (i := 62) (by decide +kernel))) (by decide +kernel)
theorem ml_LB_121 : (Jvm.Cond.methodLink "LanternBridge" (121 : Nat) y_St_isSet) ∈ WT := wt_of (wt_3 (List.mem_of_getElem? (i := 63) (by decide +kernel))) (by decide +kernel)
theorem im_St_isSet : (Jvm.Cond.instanceMethod y_St_isSet) ∈ WT := wt_of (wt_3 (List.mem_of_getElem? (i := 64) (by decide +kernel))) (by decide +kernel)
theorem se_St_St_isSet__St_isSet : (Jvm.Cond.selects "LanternBridge$State" y_St_isSet y_St_isSet) ∈ WT := wt_of (wt_3 (List.mem_of_getElem? (i := 65) (by decide +kernel))) (by decide +kernel)
theorem cd_St_isSet : (Jvm.Cond.code y_St_isSet prog_9_method_5_code (2 : Nat) (Option.some Jvm.ClassFile.FieldType.boolean)) ∈ WT := wt_of (wt_3 (List.mem_of_getElem? (i := 66) (by decide +kernel))) (by decide +kernel)
theorem ml_St_73 : (Jvm.Cond.methodLink "LanternBridge$State" (73 : Nat) y_St_everybody) ∈ WT := wt_of (wt_3 (List.mem_of_getElem? (i := 67) (by decide +kernel))) (by decide +kernel)
theorem im_St_everybody : (Jvm.Cond.instanceMethod y_St_everybody) ∈ WT := wt_of (wt_3 (List.mem_of_getElem? (i := 68) (by decide +kernel))) (by decide +kernel)
theorem se_St_St_everybody__St_everybody : (Jvm.Cond.selects "LanternBridge$State" y_St_everybody y_St_everybody) ∈ WT := wt_of (wt_3 (List.mem_of_getElem? (i := 69) (by decide +kernel))) (by decide +kernel)
theorem cd_St_everybody : (Jvm.Cond.code y_St_everybody prog_9_method_4_code (1 : Nat) (Option.some Jvm.ClassFile.FieldType.int)) ∈ WT := wt_of (wt_3 (List.mem_of_getElem? (i := 70) (by decide +kernel))) (by decide +kernel)
theorem ml_LB_125 : (Jvm.Cond.methodLink "LanternBridge" (125 : Nat) y_LB_refresh) ∈ WT := wt_of (wt_3 (List.mem_of_getElem? (i := 71) (by decide +kernel))) (by decide +kernel)
theorem im_LB_refresh : (Jvm.Cond.instanceMethod y_LB_refresh) ∈ WT := wt_of (wt_3 (List.mem_of_getElem? (i := 73) (by decide +kernel))) (by decide +kernel)
theorem cd_LB_refresh : (Jvm.Cond.code y_LB_refresh prog_1_method_27_code (1 : Nat) (Option.none : Option Jvm.ClassFile.FieldType)) ∈ WT := wt_of (wt_3 (List.mem_of_getElem? (i := 74) (by decide +kernel))) (by decide +kernel)
theorem ml_LB_240 : (Jvm.Cond.methodLink "LanternBridge" (240 : Nat) y_Go_layFor) ∈ WT := wt_of (wt_3 (List.mem_of_getElem? (i := 75) (by decide +kernel))) (by decide +kernel)
theorem im_Go_layFor : (Jvm.Cond.instanceMethod y_Go_layFor) ∈ WT := wt_of (wt_3 (List.mem_of_getElem? (i := 76) (by decide +kernel))) (by decide +kernel)
theorem se_Go_Go_layFor__Go_layFor : (Jvm.Cond.selects "LanternBridge$Goings" y_Go_layFor y_Go_layFor) ∈ WT := wt_of (wt_3 (List.mem_of_getElem? (i := 77) (by decide +kernel))) (by decide +kernel)
theorem cd_Go_layFor : (Jvm.Cond.code y_Go_layFor prog_3_method_2_code (3 : Nat) (Option.none : Option Jvm.ClassFile.FieldType)) ∈ WT := wt_of (wt_3 (List.mem_of_getElem? (i := 78) (by decide +kernel))) (by decide +kernel)
theorem ml_Go_46 : (Jvm.Cond.methodLink "LanternBridge$Goings" (46 : Nat) y_St_everybody) ∈ WT := wt_of (wt_3 (List.mem_of_getElem? (i := 79) (by decide +kernel))) (by decide +kernel)
theorem kl_Go_56 : (Jvm.Cond.classLink "LanternBridge$Goings" (56 : Nat) "LanternBridge$Leading") ∈ WT := wt_of (wt_3 (List.mem_of_getElem? (i := 80) (by decide +kernel))) (by decide +kernel)
theorem ml_Go_58 : (Jvm.Cond.methodLink "LanternBridge$Goings" (58 : Nat) y_Go_layMinutes) ∈ WT := wt_of (wt_3 (List.mem_of_getElem? (i := 81) (by decide +kernel))) (by decide +kernel)
theorem im_Go_layMinutes : (Jvm.Cond.instanceMethod y_Go_layMinutes) ∈ WT := wt_of (wt_3 (List.mem_of_getElem? (i := 83) (by decide +kernel))) (by decide +kernel)
theorem cd_Go_layMinutes : (Jvm.Cond.code y_Go_layMinutes prog_3_method_4_code (4 : Nat) (Option.none : Option Jvm.ClassFile.FieldType)) ∈ WT := wt_of (wt_3 (List.mem_of_getElem? (i := 84) (by decide +kernel))) (by decide +kernel)
theorem ml_Go_68 : (Jvm.Cond.methodLink "LanternBridge$Goings" (68 : Nat) y_Go_takenBy) ∈ WT := wt_of (wt_3 (List.mem_of_getElem? (i := 85) (by decide +kernel))) (by decide +kernel)
theorem im_Go_takenBy : (Jvm.Cond.instanceMethod y_Go_takenBy) ∈ WT := wt_of (wt_3 (List.mem_of_getElem? (i := 86) (by decide +kernel))) (by decide +kernel)
theorem se_Go_Go_takenBy__Go_takenBy : (Jvm.Cond.selects "LanternBridge$Goings" y_Go_takenBy y_Go_takenBy) ∈ WT := wt_of (wt_3 (List.mem_of_getElem? (i := 87) (by decide +kernel))) (by decide +kernel)
theorem cd_Go_takenBy : (Jvm.Cond.code y_Go_takenBy prog_3_method_12_code (7 : Nat) (Option.some Jvm.ClassFile.FieldType.int)) ∈ WT := wt_of (wt_3 (List.mem_of_getElem? (i := 88) (by decide +kernel))) (by decide +kernel)
theorem ml_Go_101 : (Jvm.Cond.methodLink "LanternBridge$Goings" (101 : Nat) y_Go_layFacts) ∈ WT := wt_of (wt_3 (List.mem_of_getElem? (i := 89) (by decide +kernel))) (by decide +kernel)
theorem im_Go_layFacts : (Jvm.Cond.instanceMethod y_Go_layFacts) ∈ WT := wt_of (wt_3 (List.mem_of_getElem? (i := 91) (by decide +kernel))) (by decide +kernel)
theorem cd_Go_layFacts : (Jvm.Cond.code y_Go_layFacts prog_3_method_14_code (6 : Nat) (Option.none : Option Jvm.ClassFile.FieldType)) ∈ WT := wt_of (wt_3 (List.mem_of_getElem? (i := 92) (by decide +kernel))) (by decide +kernel)
theorem ml_Go_89 : (Jvm.Cond.methodLink "LanternBridge$Goings" (89 : Nat) y_Integer_bitCount) ∈ WT := wt_of (wt_3 (List.mem_of_getElem? (i := 93) (by decide +kernel))) (by decide +kernel)
theorem sm_Integer_bitCount : (Jvm.Cond.static y_Integer_bitCount) ∈ WT := wt_of (wt_3 (List.mem_of_getElem? (i := 94) (by decide +kernel))) (by decide +kernel)
theorem cd_Integer_bitCount : (Jvm.Cond.code y_Integer_bitCount prog_16_method_49_code (1 : Nat) (Option.some Jvm.ClassFile.FieldType.int)) ∈ WT := wt_of (wt_3 (List.mem_of_getElem? (i := 95) (by decide +kernel))) (by decide +kernel)
theorem ko_Integer_265 : (Jvm.Cond.constant "java/lang/Integer" (265 : Nat) (1431655765 : Int32)) ∈ WT := wt_of (wt_3 (List.mem_of_getElem? (i := 96) (by decide +kernel))) (by decide +kernel)
theorem ko_Integer_266 : (Jvm.Cond.constant "java/lang/Integer" (266 : Nat) (858993459 : Int32)) ∈ WT := wt_of (wt_3 (List.mem_of_getElem? (i := 97) (by decide +kernel))) (by decide +kernel)
theorem ko_Integer_267 : (Jvm.Cond.constant "java/lang/Integer" (267 : Nat) (252645135 : Int32)) ∈ WT := wt_of (wt_3 (List.mem_of_getElem? (i := 98) (by decide +kernel))) (by decide +kernel)
theorem ml_Go_112 : (Jvm.Cond.methodLink "LanternBridge$Goings" (112 : Nat) y_Ni_slowness) ∈ WT := wt_of (wt_3 (List.mem_of_getElem? (i := 99) (by decide +kernel))) (by decide +kernel)
theorem im_Ni_slowness : (Jvm.Cond.instanceMethod y_Ni_slowness) ∈ WT := wt_of (wt_3 (List.mem_of_getElem? (i := 100) (by decide +kernel))) (by decide +kernel)
theorem se_Ni_Ni_slowness__Ni_slowness : (Jvm.Cond.selects "LanternBridge$Night" y_Ni_slowness y_Ni_slowness) ∈ WT := wt_of (wt_3 (List.mem_of_getElem? (i := 101) (by decide +kernel))) (by decide +kernel)
theorem cd_Ni_slowness : (Jvm.Cond.code y_Ni_slowness prog_6_method_15_code (4 : Nat) (Option.some Jvm.ClassFile.FieldType.int)) ∈ WT := wt_of (wt_3 (List.mem_of_getElem? (i := 102) (by decide +kernel))) (by decide +kernel)
theorem ml_Ni_127 : (Jvm.Cond.methodLink "LanternBridge$Night" (127 : Nat) y_Ni_holds) ∈ WT := wt_of (wt_3 (List.mem_of_getElem? (i := 103) (by decide +kernel))) (by decide +kernel)
theorem im_Ni_holds : (Jvm.Cond.instanceMethod y_Ni_holds) ∈ WT := wt_of (wt_3 (List.mem_of_getElem? (i := 105) (by decide +kernel))) (by decide +kernel)
theorem cd_Ni_holds : (Jvm.Cond.code y_Ni_holds prog_6_method_17_code (13 : Nat) (Option.some Jvm.ClassFile.FieldType.boolean)) ∈ WT := wt_of (wt_3 (List.mem_of_getElem? (i := 106) (by decide +kernel))) (by decide +kernel)
theorem ml_Go_116 : (Jvm.Cond.methodLink "LanternBridge$Goings" (116 : Nat) y_Go_goesHeavier) ∈ WT := wt_of (wt_3 (List.mem_of_getElem? (i := 107) (by decide +kernel))) (by decide +kernel)
theorem im_Go_goesHeavier : (Jvm.Cond.instanceMethod y_Go_goesHeavier) ∈ WT := wt_of (wt_3 (List.mem_of_getElem? (i := 109) (by decide +kernel))) (by decide +kernel)
theorem cd_Go_goesHeavier : (Jvm.Cond.code y_Go_goesHeavier prog_3_method_13_code (5 : Nat) (Option.some Jvm.ClassFile.FieldType.boolean)) ∈ WT := wt_of (wt_3 (List.mem_of_getElem? (i := 110) (by decide +kernel))) (by decide +kernel)
theorem ml_Go_119 : (Jvm.Cond.methodLink "LanternBridge$Goings" (119 : Nat) y_Wa_byKind) ∈ WT := wt_of (wt_3 (List.mem_of_getElem? (i := 111) (by decide +kernel))) (by decide +kernel)
theorem im_Wa_byKind : (Jvm.Cond.instanceMethod y_Wa_byKind) ∈ WT := wt_of (wt_3 (List.mem_of_getElem? (i := 112) (by decide +kernel))) (by decide +kernel)
theorem se_Wa_Wa_byKind__Wa_byKind : (Jvm.Cond.selects "LanternBridge$Walker" y_Wa_byKind y_Wa_byKind) ∈ WT := wt_of (wt_3 (List.mem_of_getElem? (i := 113) (by decide +kernel))) (by decide +kernel)
theorem w3_114 : (Jvm.Cond.sameMethod "LanternBridge$Walker" "LanternBridge$Walker" "byKind" "(IIZI)I") ∈ WT := wt_of (wt_3 (List.mem_of_getElem? (i := 114) (by decide +kernel))) (by decide +kernel)
theorem se_Ca_Wa_byKind__Ca_byKind : (Jvm.Cond.selects "LanternBridge$Carried" y_Wa_byKind y_Ca_byKind) ∈ WT := wt_of (wt_3 (List.mem_of_getElem? (i := 115) (by decide +kernel))) (by decide +kernel)
theorem im_Ca_byKind : (Jvm.Cond.instanceMethod y_Ca_byKind) ∈ WT := wt_of (wt_3 (List.mem_of_getElem? (i := 116) (by decide +kernel))) (by decide +kernel)
theorem cd_Ca_byKind : (Jvm.Cond.code y_Ca_byKind prog_2_method_2_code (6 : Nat) (Option.some Jvm.ClassFile.FieldType.int)) ∈ WT := wt_of (wt_3 (List.mem_of_getElem? (i := 117) (by decide +kernel))) (by decide +kernel)
theorem ml_Ca_7 : (Jvm.Cond.methodLink "LanternBridge$Carried" (7 : Nat) y_La_byKind) ∈ WT := wt_of (wt_3 (List.mem_of_getElem? (i := 118) (by decide +kernel))) (by decide +kernel)
theorem im_La_byKind : (Jvm.Cond.instanceMethod y_La_byKind) ∈ WT := wt_of (wt_3 (List.mem_of_getElem? (i := 119) (by decide +kernel))) (by decide +kernel)
theorem cd_La_byKind : (Jvm.Cond.code y_La_byKind prog_4_method_2_code (5 : Nat) (Option.some Jvm.ClassFile.FieldType.int)) ∈ WT := wt_of (wt_3 (List.mem_of_getElem? (i := 120) (by decide +kernel))) (by decide +kernel)
theorem se_La_Wa_byKind__La_byKind : (Jvm.Cond.selects "LanternBridge$Lame" y_Wa_byKind y_La_byKind) ∈ WT := wt_of (wt_3 (List.mem_of_getElem? (i := 121) (by decide +kernel))) (by decide +kernel)
theorem se_Le_Wa_byKind__Qu_byKind : (Jvm.Cond.selects "LanternBridge$Leading" y_Wa_byKind y_Qu_byKind) ∈ WT := wt_of (wt_3 (List.mem_of_getElem? (i := 122) (by decide +kernel))) (by decide +kernel)
theorem im_Qu_byKind : (Jvm.Cond.instanceMethod y_Qu_byKind) ∈ WT := wt_of (wt_3 (List.mem_of_getElem? (i := 123) (by decide +kernel))) (by decide +kernel)
theorem cd_Qu_byKind : (Jvm.Cond.code y_Qu_byKind prog_7_method_2_code (5 : Nat) (Option.some Jvm.ClassFile.FieldType.int)) ∈ WT := wt_of (wt_3 (List.mem_of_getElem? (i := 124) (by decide +kernel))) (by decide +kernel)
theorem se_Qu_Wa_byKind__Qu_byKind : (Jvm.Cond.selects "LanternBridge$Quick" y_Wa_byKind y_Qu_byKind) ∈ WT := wt_of (wt_3 (List.mem_of_getElem? (i := 125) (by decide +kernel))) (by decide +kernel)
theorem se_Ti_Wa_byKind__Ti_byKind : (Jvm.Cond.selects "LanternBridge$Tied" y_Wa_byKind y_Ti_byKind) ∈ WT := wt_of (wt_3 (List.mem_of_getElem? (i := 126) (by decide +kernel))) (by decide +kernel)
theorem im_Ti_byKind : (Jvm.Cond.instanceMethod y_Ti_byKind) ∈ WT := wt_of (wt_3 (List.mem_of_getElem? (i := 127) (by decide +kernel))) (by decide +kernel)
theorem cd_Ti_byKind : (Jvm.Cond.code y_Ti_byKind prog_10_method_2_code (7 : Nat) (Option.some Jvm.ClassFile.FieldType.int)) ∈ WT := wt_of (wt_3 (List.mem_of_getElem? (i := 128) (by decide +kernel))) (by decide +kernel)
theorem se_Tr_Wa_byKind__Tr_byKind : (Jvm.Cond.selects "LanternBridge$Tiring" y_Wa_byKind y_Tr_byKind) ∈ WT := wt_of (wt_3 (List.mem_of_getElem? (i := 129) (by decide +kernel))) (by decide +kernel)
theorem im_Tr_byKind : (Jvm.Cond.instanceMethod y_Tr_byKind) ∈ WT := wt_of (wt_3 (List.mem_of_getElem? (i := 130) (by decide +kernel))) (by decide +kernel)
theorem cd_Tr_byKind : (Jvm.Cond.code y_Tr_byKind prog_11_method_2_code (6 : Nat) (Option.some Jvm.ClassFile.FieldType.int)) ∈ WT := wt_of (wt_3 (List.mem_of_getElem? (i := 131) (by decide +kernel))) (by decide +kernel)
theorem ml_Tr_9 : (Jvm.Cond.methodLink "LanternBridge$Tiring" (9 : Nat) y_Ti_byKind) ∈ WT := wt_of (wt_3 (List.mem_of_getElem? (i := 132) (by decide +kernel))) (by decide +kernel)
theorem cd_Wa_byKind : (Jvm.Cond.code y_Wa_byKind prog_12_method_4_code (5 : Nat) (Option.some Jvm.ClassFile.FieldType.int)) ∈ WT := wt_of (wt_3 (List.mem_of_getElem? (i := 133) (by decide +kernel))) (by decide +kernel)
theorem ml_Go_72 : (Jvm.Cond.methodLink "LanternBridge$Goings" (72 : Nat) y_Math_max) ∈ WT := wt_of (wt_3 (List.mem_of_getElem? (i := 134) (by decide +kernel))) (by decide +kernel)
theorem ml_Go_62 : (Jvm.Cond.methodLink "LanternBridge$Goings" (62 : Nat) y_Go_layCan) ∈ WT := wt_of (wt_3 (List.mem_of_getElem? (i := 135) (by decide +kernel))) (by decide +kernel)
theorem im_Go_layCan : (Jvm.Cond.instanceMethod y_Go_layCan) ∈ WT := wt_of (wt_3 (List.mem_of_getElem? (i := 137) (by decide +kernel))) (by decide +kernel)
theorem cd_Go_layCan : (Jvm.Cond.code y_Go_layCan prog_3_method_5_code (3 : Nat) (Option.none : Option Jvm.ClassFile.FieldType)) ∈ WT := wt_of (wt_3 (List.mem_of_getElem? (i := 138) (by decide +kernel))) (by decide +kernel)
theorem ml_Go_78 : (Jvm.Cond.methodLink "LanternBridge$Goings" (78 : Nat) y_Go_isBorne) ∈ WT := wt_of (wt_3 (List.mem_of_getElem? (i := 139) (by decide +kernel))) (by decide +kernel)
theorem im_Go_isBorne : (Jvm.Cond.instanceMethod y_Go_isBorne) ∈ WT := wt_of (wt_3 (List.mem_of_getElem? (i := 141) (by decide +kernel))) (by decide +kernel)
theorem cd_Go_isBorne : (Jvm.Cond.code y_Go_isBorne prog_3_method_9_code (5 : Nat) (Option.some Jvm.ClassFile.FieldType.boolean)) ∈ WT := wt_of (wt_3 (List.mem_of_getElem? (i := 142) (by decide +kernel))) (by decide +kernel)
theorem ml_Go_82 : (Jvm.Cond.methodLink "LanternBridge$Goings" (82 : Nat) y_Go_isBarred) ∈ WT := wt_of (wt_3 (List.mem_of_getElem? (i := 143) (by decide +kernel))) (by decide +kernel)
theorem im_Go_isBarred : (Jvm.Cond.instanceMethod y_Go_isBarred) ∈ WT := wt_of (wt_3 (List.mem_of_getElem? (i := 145) (by decide +kernel))) (by decide +kernel)
theorem cd_Go_isBarred : (Jvm.Cond.code y_Go_isBarred prog_3_method_10_code (5 : Nat) (Option.some Jvm.ClassFile.FieldType.boolean)) ∈ WT := wt_of (wt_3 (List.mem_of_getElem? (i := 146) (by decide +kernel))) (by decide +kernel)
theorem ml_Go_105 : (Jvm.Cond.methodLink "LanternBridge$Goings" (105 : Nat) y_Ni_bars) ∈ WT := wt_of (wt_3 (List.mem_of_getElem? (i := 147) (by decide +kernel))) (by decide +kernel)
theorem im_Ni_bars : (Jvm.Cond.instanceMethod y_Ni_bars) ∈ WT := wt_of (wt_3 (List.mem_of_getElem? (i := 148) (by decide +kernel))) (by decide +kernel)
theorem se_Ni_Ni_bars__Ni_bars : (Jvm.Cond.selects "LanternBridge$Night" y_Ni_bars y_Ni_bars) ∈ WT := wt_of (wt_3 (List.mem_of_getElem? (i := 149) (by decide +kernel))) (by decide +kernel)
theorem cd_Ni_bars : (Jvm.Cond.code y_Ni_bars prog_6_method_16_code (3 : Nat) (Option.some Jvm.ClassFile.FieldType.boolean)) ∈ WT := wt_of (wt_3 (List.mem_of_getElem? (i := 150) (by decide +kernel))) (by decide +kernel)
theorem ml_LB_128 : (Jvm.Cond.methodLink "LanternBridge" (128 : Nat) y_Go_minutesOf) ∈ WT := wt_of (wt_3 (List.mem_of_getElem? (i := 151) (by decide +kernel))) (by decide +kernel)
theorem im_Go_minutesOf : (Jvm.Cond.instanceMethod y_Go_minutesOf) ∈ WT := wt_of (wt_3 (List.mem_of_getElem? (i := 152) (by decide +kernel))) (by decide +kernel)
theorem se_Go_Go_minutesOf__Go_minutesOf : (Jvm.Cond.selects "LanternBridge$Goings" y_Go_minutesOf y_Go_minutesOf) ∈ WT := wt_of (wt_3 (List.mem_of_getElem? (i := 153) (by decide +kernel))) (by decide +kernel)
theorem cd_Go_minutesOf : (Jvm.Cond.code y_Go_minutesOf prog_3_method_7_code (3 : Nat) (Option.some Jvm.ClassFile.FieldType.int)) ∈ WT := wt_of (wt_3 (List.mem_of_getElem? (i := 154) (by decide +kernel))) (by decide +kernel)
theorem ml_LB_132 : (Jvm.Cond.methodLink "LanternBridge" (132 : Nat) y_Go_canBe) ∈ WT := wt_of (wt_3 (List.mem_of_getElem? (i := 155) (by decide +kernel))) (by decide +kernel)
theorem im_Go_canBe : (Jvm.Cond.instanceMethod y_Go_canBe) ∈ WT := wt_of (wt_3 (List.mem_of_getElem? (i := 156) (by decide +kernel))) (by decide +kernel)
theorem se_Go_Go_canBe__Go_canBe : (Jvm.Cond.selects "LanternBridge$Goings" y_Go_canBe y_Go_canBe) ∈ WT := wt_of (wt_3 (List.mem_of_getElem? (i := 157) (by decide +kernel))) (by decide +kernel)
theorem cd_Go_canBe : (Jvm.Cond.code y_Go_canBe prog_3_method_8_code (3 : Nat) (Option.some Jvm.ClassFile.FieldType.boolean)) ∈ WT := wt_of (wt_3 (List.mem_of_getElem? (i := 158) (by decide +kernel))) (by decide +kernel)
theorem ml_law_42 : (Jvm.Cond.methodLink "LanternBridgeLaw" (42 : Nat) y_LB_go) ∈ WT := wt_of (wt_3 (List.mem_of_getElem? (i := 159) (by decide +kernel))) (by decide +kernel)
theorem im_LB_go : (Jvm.Cond.instanceMethod y_LB_go) ∈ WT := wt_of (wt_3 (List.mem_of_getElem? (i := 160) (by decide +kernel))) (by decide +kernel)
theorem se_LB_LB_go__LB_go : (Jvm.Cond.selects "LanternBridge" y_LB_go y_LB_go) ∈ WT := wt_of (wt_3 (List.mem_of_getElem? (i := 161) (by decide +kernel))) (by decide +kernel)
theorem cd_LB_go : (Jvm.Cond.code y_LB_go prog_1_method_8_code (4 : Nat) (Option.some Jvm.ClassFile.FieldType.int)) ∈ WT := wt_of (wt_3 (List.mem_of_getElem? (i := 162) (by decide +kernel))) (by decide +kernel)
theorem ml_LB_136 : (Jvm.Cond.methodLink "LanternBridge" (136 : Nat) y_St_withLantern) ∈ WT := wt_of (wt_3 (List.mem_of_getElem? (i := 163) (by decide +kernel))) (by decide +kernel)
theorem im_St_withLantern : (Jvm.Cond.instanceMethod y_St_withLantern) ∈ WT := wt_of (wt_3 (List.mem_of_getElem? (i := 164) (by decide +kernel))) (by decide +kernel)
theorem se_St_St_withLantern__St_withLantern : (Jvm.Cond.selects "LanternBridge$State" y_St_withLantern y_St_withLantern) ∈ WT := wt_of (wt_3 (List.mem_of_getElem? (i := 165) (by decide +kernel))) (by decide +kernel)
theorem cd_St_withLantern : (Jvm.Cond.code y_St_withLantern prog_9_method_6_code (1 : Nat) (Option.some Jvm.ClassFile.FieldType.int)) ∈ WT := wt_of (wt_3 (List.mem_of_getElem? (i := 166) (by decide +kernel))) (by decide +kernel)
theorem ml_law_46 : (Jvm.Cond.methodLink "LanternBridgeLaw" (46 : Nat) y_LB_least) ∈ WT := wt_of (wt_3 (List.mem_of_getElem? (i := 167) (by decide +kernel))) (by decide +kernel)
theorem im_LB_least : (Jvm.Cond.instanceMethod y_LB_least) ∈ WT := wt_of (wt_3 (List.mem_of_getElem? (i := 168) (by decide +kernel))) (by decide +kernel)
theorem se_LB_LB_least__LB_least : (Jvm.Cond.selects "LanternBridge" y_LB_least y_LB_least) ∈ WT := wt_of (wt_3 (List.mem_of_getElem? (i := 169) (by decide +kernel))) (by decide +kernel)
theorem cd_LB_least : (Jvm.Cond.code y_LB_least prog_1_method_9_code (2 : Nat) (Option.some Jvm.ClassFile.FieldType.int)) ∈ WT := wt_of (wt_3 (List.mem_of_getElem? (i := 170) (by decide +kernel))) (by decide +kernel)
theorem ml_LB_139 : (Jvm.Cond.methodLink "LanternBridge" (139 : Nat) y_LB_leastFor) ∈ WT := wt_of (wt_3 (List.mem_of_getElem? (i := 171) (by decide +kernel))) (by decide +kernel)
theorem im_LB_leastFor : (Jvm.Cond.instanceMethod y_LB_leastFor) ∈ WT := wt_of (wt_3 (List.mem_of_getElem? (i := 173) (by decide +kernel))) (by decide +kernel)
theorem cd_LB_leastFor : (Jvm.Cond.code y_LB_leastFor prog_1_method_28_code (3 : Nat) (Option.some Jvm.ClassFile.FieldType.int)) ∈ WT := wt_of (wt_3 (List.mem_of_getElem? (i := 174) (by decide +kernel))) (by decide +kernel)
theorem ml_LB_142 : (Jvm.Cond.methodLink "LanternBridge" (142 : Nat) y_Se_measureTo) ∈ WT := wt_of (wt_3 (List.mem_of_getElem? (i := 175) (by decide +kernel))) (by decide +kernel)
theorem im_Se_measureTo : (Jvm.Cond.instanceMethod y_Se_measureTo) ∈ WT := wt_of (wt_3 (List.mem_of_getElem? (i := 176) (by decide +kernel))) (by decide +kernel)
theorem se_Se_Se_measureTo__Se_measureTo : (Jvm.Cond.selects "LanternBridge$Search" y_Se_measureTo y_Se_measureTo) ∈ WT := wt_of (wt_3 (List.mem_of_getElem? (i := 177) (by decide +kernel))) (by decide +kernel)
theorem cd_Se_measureTo : (Jvm.Cond.code y_Se_measureTo prog_8_method_2_code (5 : Nat) (Option.none : Option Jvm.ClassFile.FieldType)) ∈ WT := wt_of (wt_3 (List.mem_of_getElem? (i := 178) (by decide +kernel))) (by decide +kernel)
theorem ko_Se_23 : (Jvm.Cond.constant "LanternBridge$Search" (23 : Nat) (1073741824 : Int32)) ∈ WT := wt_of (wt_3 (List.mem_of_getElem? (i := 179) (by decide +kernel))) (by decide +kernel)
theorem ml_Se_24 : (Jvm.Cond.methodLink "LanternBridge$Search" (24 : Nat) y_Se_settleAll) ∈ WT := wt_of (wt_3 (List.mem_of_getElem? (i := 180) (by decide +kernel))) (by decide +kernel)
theorem im_Se_settleAll : (Jvm.Cond.instanceMethod y_Se_settleAll) ∈ WT := wt_of (wt_3 (List.mem_of_getElem? (i := 182) (by decide +kernel))) (by decide +kernel)
theorem cd_Se_settleAll : (Jvm.Cond.code y_Se_settleAll prog_8_method_7_code (12 : Nat) (Option.none : Option Jvm.ClassFile.FieldType)) ∈ WT := wt_of (wt_3 (List.mem_of_getElem? (i := 183) (by decide +kernel))) (by decide +kernel)
theorem ml_Se_35 : (Jvm.Cond.methodLink "LanternBridge$Search" (35 : Nat) y_Go_everybody) ∈ WT := wt_of (wt_3 (List.mem_of_getElem? (i := 184) (by decide +kernel))) (by decide +kernel)
theorem im_Go_everybody : (Jvm.Cond.instanceMethod y_Go_everybody) ∈ WT := wt_of (wt_3 (List.mem_of_getElem? (i := 185) (by decide +kernel))) (by decide +kernel)
theorem se_Go_Go_everybody__Go_everybody : (Jvm.Cond.selects "LanternBridge$Goings" y_Go_everybody y_Go_everybody) ∈ WT := wt_of (wt_3 (List.mem_of_getElem? (i := 186) (by decide +kernel))) (by decide +kernel)
theorem cd_Go_everybody : (Jvm.Cond.code y_Go_everybody prog_3_method_6_code (1 : Nat) (Option.some Jvm.ClassFile.FieldType.int)) ∈ WT := wt_of (wt_3 (List.mem_of_getElem? (i := 187) (by decide +kernel))) (by decide +kernel)
theorem ml_Se_57 : (Jvm.Cond.methodLink "LanternBridge$Search" (57 : Nat) y_Math_min) ∈ WT := wt_of (wt_3 (List.mem_of_getElem? (i := 188) (by decide +kernel))) (by decide +kernel)
theorem ml_Se_62 : (Jvm.Cond.methodLink "LanternBridge$Search" (62 : Nat) y_Se_leastUnsettled) ∈ WT := wt_of (wt_3 (List.mem_of_getElem? (i := 189) (by decide +kernel))) (by decide +kernel)
theorem im_Se_leastUnsettled : (Jvm.Cond.instanceMethod y_Se_leastUnsettled) ∈ WT := wt_of (wt_3 (List.mem_of_getElem? (i := 191) (by decide +kernel))) (by decide +kernel)
theorem cd_Se_leastUnsettled : (Jvm.Cond.code y_Se_leastUnsettled prog_8_method_8_code (5 : Nat) (Option.some Jvm.ClassFile.FieldType.int)) ∈ WT := wt_of (wt_3 (List.mem_of_getElem? (i := 192) (by decide +kernel))) (by decide +kernel)
theorem ml_Se_32 : (Jvm.Cond.methodLink "LanternBridge$Search" (32 : Nat) y_Se_bankWithLantern) ∈ WT := wt_of (wt_3 (List.mem_of_getElem? (i := 193) (by decide +kernel))) (by decide +kernel)
theorem im_Se_bankWithLantern : (Jvm.Cond.instanceMethod y_Se_bankWithLantern) ∈ WT := wt_of (wt_3 (List.mem_of_getElem? (i := 195) (by decide +kernel))) (by decide +kernel)
theorem cd_Se_bankWithLantern : (Jvm.Cond.code y_Se_bankWithLantern prog_8_method_9_code (3 : Nat) (Option.some Jvm.ClassFile.FieldType.int)) ∈ WT := wt_of (wt_3 (List.mem_of_getElem? (i := 196) (by decide +kernel))) (by decide +kernel)
theorem ml_Se_41 : (Jvm.Cond.methodLink "LanternBridge$Search" (41 : Nat) y_Go_canBe) ∈ WT := wt_of (wt_3 (List.mem_of_getElem? (i := 197) (by decide +kernel))) (by decide +kernel)
theorem ml_Se_45 : (Jvm.Cond.methodLink "LanternBridge$Search" (45 : Nat) y_Se_placeBehind) ∈ WT := wt_of (wt_3 (List.mem_of_getElem? (i := 198) (by decide +kernel))) (by decide +kernel)
theorem sm_Se_placeBehind : (Jvm.Cond.static y_Se_placeBehind) ∈ WT := wt_of (wt_3 (List.mem_of_getElem? (i := 199) (by decide +kernel))) (by decide +kernel)
theorem cd_Se_placeBehind : (Jvm.Cond.code y_Se_placeBehind prog_8_method_10_code (2 : Nat) (Option.some Jvm.ClassFile.FieldType.int)) ∈ WT := wt_of (wt_3 (List.mem_of_getElem? (i := 200) (by decide +kernel))) (by decide +kernel)
theorem ml_Se_49 : (Jvm.Cond.methodLink "LanternBridge$Search" (49 : Nat) y_Go_minutesOf) ∈ WT := wt_of (wt_3 (List.mem_of_getElem? (i := 201) (by decide +kernel))) (by decide +kernel)
theorem ml_LB_146 : (Jvm.Cond.methodLink "LanternBridge" (146 : Nat) y_St_place) ∈ WT := wt_of (wt_3 (List.mem_of_getElem? (i := 202) (by decide +kernel))) (by decide +kernel)
theorem im_St_place : (Jvm.Cond.instanceMethod y_St_place) ∈ WT := wt_of (wt_3 (List.mem_of_getElem? (i := 203) (by decide +kernel))) (by decide +kernel)
theorem se_St_St_place__St_place : (Jvm.Cond.selects "LanternBridge$State" y_St_place y_St_place) ∈ WT := wt_of (wt_3 (List.mem_of_getElem? (i := 204) (by decide +kernel))) (by decide +kernel)
theorem cd_St_place : (Jvm.Cond.code y_St_place prog_9_method_7_code (1 : Nat) (Option.some Jvm.ClassFile.FieldType.int)) ∈ WT := wt_of (wt_3 (List.mem_of_getElem? (i := 205) (by decide +kernel))) (by decide +kernel)
theorem ml_LB_149 : (Jvm.Cond.methodLink "LanternBridge" (149 : Nat) y_Se_measureAt) ∈ WT := wt_of (wt_3 (List.mem_of_getElem? (i := 206) (by decide +kernel))) (by decide +kernel)
theorem im_Se_measureAt : (Jvm.Cond.instanceMethod y_Se_measureAt) ∈ WT := wt_of (wt_3 (List.mem_of_getElem? (i := 207) (by decide +kernel))) (by decide +kernel)
theorem se_Se_Se_measureAt__Se_measureAt : (Jvm.Cond.selects "LanternBridge$Search" y_Se_measureAt y_Se_measureAt) ∈ WT := wt_of (wt_3 (List.mem_of_getElem? (i := 208) (by decide +kernel))) (by decide +kernel)
theorem cd_Se_measureAt : (Jvm.Cond.code y_Se_measureAt prog_8_method_4_code (2 : Nat) (Option.some Jvm.ClassFile.FieldType.int)) ∈ WT := wt_of (wt_3 (List.mem_of_getElem? (i := 209) (by decide +kernel))) (by decide +kernel)
theorem ml_law_50 : (Jvm.Cond.methodLink "LanternBridgeLaw" (50 : Nat) y_LB_fewest) ∈ WT := wt_of (wt_3 (List.mem_of_getElem? (i := 210) (by decide +kernel))) (by decide +kernel)
theorem im_LB_fewest : (Jvm.Cond.instanceMethod y_LB_fewest) ∈ WT := wt_of (wt_3 (List.mem_of_getElem? (i := 211) (by decide +kernel))) (by decide +kernel)
theorem se_LB_LB_fewest__LB_fewest : (Jvm.Cond.selects "LanternBridge" y_LB_fewest y_LB_fewest) ∈ WT := wt_of (wt_3 (List.mem_of_getElem? (i := 212) (by decide +kernel))) (by decide +kernel)
theorem cd_LB_fewest : (Jvm.Cond.code y_LB_fewest prog_1_method_10_code (2 : Nat) (Option.some Jvm.ClassFile.FieldType.int)) ∈ WT := wt_of (wt_3 (List.mem_of_getElem? (i := 213) (by decide +kernel))) (by decide +kernel)
theorem ml_law_54 : (Jvm.Cond.methodLink "LanternBridgeLaw" (54 : Nat) y_LB_first) ∈ WT := wt_of (wt_3 (List.mem_of_getElem? (i := 214) (by decide +kernel))) (by decide +kernel)
theorem im_LB_first : (Jvm.Cond.instanceMethod y_LB_first) ∈ WT := wt_of (wt_3 (List.mem_of_getElem? (i := 215) (by decide +kernel))) (by decide +kernel)
theorem se_LB_LB_first__LB_first : (Jvm.Cond.selects "LanternBridge" y_LB_first y_LB_first) ∈ WT := wt_of (wt_3 (List.mem_of_getElem? (i := 216) (by decide +kernel))) (by decide +kernel)
theorem cd_LB_first : (Jvm.Cond.code y_LB_first prog_1_method_11_code (2 : Nat) (Option.some Jvm.ClassFile.FieldType.int)) ∈ WT := wt_of (wt_3 (List.mem_of_getElem? (i := 217) (by decide +kernel))) (by decide +kernel)
theorem ml_LB_153 : (Jvm.Cond.methodLink "LanternBridge" (153 : Nat) y_Se_firstSetAt) ∈ WT := wt_of (wt_3 (List.mem_of_getElem? (i := 218) (by decide +kernel))) (by decide +kernel)
theorem im_Se_firstSetAt : (Jvm.Cond.instanceMethod y_Se_firstSetAt) ∈ WT := wt_of (wt_3 (List.mem_of_getElem? (i := 219) (by decide +kernel))) (by decide +kernel)
theorem se_Se_Se_firstSetAt__Se_firstSetAt : (Jvm.Cond.selects "LanternBridge$Search" y_Se_firstSetAt y_Se_firstSetAt) ∈ WT := wt_of (wt_3 (List.mem_of_getElem? (i := 220) (by decide +kernel))) (by decide +kernel)
theorem cd_Se_firstSetAt : (Jvm.Cond.code y_Se_firstSetAt prog_8_method_5_code (7 : Nat) (Option.some Jvm.ClassFile.FieldType.int)) ∈ WT := wt_of (wt_3 (List.mem_of_getElem? (i := 221) (by decide +kernel))) (by decide +kernel)
theorem ml_Se_28 : (Jvm.Cond.methodLink "LanternBridge$Search" (28 : Nat) y_Se_measureAt) ∈ WT := wt_of (wt_3 (List.mem_of_getElem? (i := 222) (by decide +kernel))) (by decide +kernel)
theorem ml_law_58 : (Jvm.Cond.methodLink "LanternBridgeLaw" (58 : Nat) y_LB_by) ∈ WT := wt_of (wt_3 (List.mem_of_getElem? (i := 223) (by decide +kernel))) (by decide +kernel)
theorem im_LB_by : (Jvm.Cond.instanceMethod y_LB_by) ∈ WT := wt_of (wt_3 (List.mem_of_getElem? (i := 224) (by decide +kernel))) (by decide +kernel)
theorem se_LB_LB_by__LB_by : (Jvm.Cond.selects "LanternBridge" y_LB_by y_LB_by) ∈ WT := wt_of (wt_3 (List.mem_of_getElem? (i := 225) (by decide +kernel))) (by decide +kernel)
theorem cd_LB_by : (Jvm.Cond.code y_LB_by prog_1_method_12_code (4 : Nat) (Option.some Jvm.ClassFile.FieldType.int)) ∈ WT := wt_of (wt_3 (List.mem_of_getElem? (i := 226) (by decide +kernel))) (by decide +kernel)
theorem ml_LB_156 : (Jvm.Cond.methodLink "LanternBridge" (156 : Nat) y_Se_measureFrom) ∈ WT := wt_of (wt_3 (List.mem_of_getElem? (i := 227) (by decide +kernel))) (by decide +kernel)
theorem im_Se_measureFrom : (Jvm.Cond.instanceMethod y_Se_measureFrom) ∈ WT := wt_of (wt_3 (List.mem_of_getElem? (i := 228) (by decide +kernel))) (by decide +kernel)
theorem se_Se_Se_measureFrom__Se_measureFrom : (Jvm.Cond.selects "LanternBridge$Search" y_Se_measureFrom y_Se_measureFrom) ∈ WT := wt_of (wt_3 (List.mem_of_getElem? (i := 229) (by decide +kernel))) (by decide +kernel)
theorem cd_Se_measureFrom : (Jvm.Cond.code y_Se_measureFrom prog_8_method_3_code (3 : Nat) (Option.none : Option Jvm.ClassFile.FieldType)) ∈ WT := wt_of (wt_3 (List.mem_of_getElem? (i := 230) (by decide +kernel))) (by decide +kernel)
theorem ml_LB_160 : (Jvm.Cond.methodLink "LanternBridge" (160 : Nat) y_Se_mostOver) ∈ WT := wt_of (wt_3 (List.mem_of_getElem? (i := 231) (by decide +kernel))) (by decide +kernel)
theorem im_Se_mostOver : (Jvm.Cond.instanceMethod y_Se_mostOver) ∈ WT := wt_of (wt_3 (List.mem_of_getElem? (i := 232) (by decide +kernel))) (by decide +kernel)
theorem se_Se_Se_mostOver__Se_mostOver : (Jvm.Cond.selects "LanternBridge$Search" y_Se_mostOver y_Se_mostOver) ∈ WT := wt_of (wt_3 (List.mem_of_getElem? (i := 233) (by decide +kernel))) (by decide +kernel)
theorem cd_Se_mostOver : (Jvm.Cond.code y_Se_mostOver prog_8_method_6_code (6 : Nat) (Option.some Jvm.ClassFile.FieldType.int)) ∈ WT := wt_of (wt_3 (List.mem_of_getElem? (i := 234) (by decide +kernel))) (by decide +kernel)
theorem ml_Se_52 : (Jvm.Cond.methodLink "LanternBridge$Search" (52 : Nat) y_Integer_bitCount) ∈ WT := wt_of (wt_3 (List.mem_of_getElem? (i := 235) (by decide +kernel))) (by decide +kernel)
theorem ml_LB_163 : (Jvm.Cond.methodLink "LanternBridge" (163 : Nat) y_Integer_bitCount) ∈ WT := wt_of (wt_3 (List.mem_of_getElem? (i := 236) (by decide +kernel))) (by decide +kernel)
theorem ml_law_62 : (Jvm.Cond.methodLink "LanternBridgeLaw" (62 : Nat) y_LB_quicker) ∈ WT := wt_of (wt_3 (List.mem_of_getElem? (i := 237) (by decide +kernel))) (by decide +kernel)
theorem im_LB_quicker : (Jvm.Cond.instanceMethod y_LB_quicker) ∈ WT := wt_of (wt_3 (List.mem_of_getElem? (i := 238) (by decide +kernel))) (by decide +kernel)
theorem se_LB_LB_quicker__LB_quicker : (Jvm.Cond.selects "LanternBridge" y_LB_quicker y_LB_quicker) ∈ WT := wt_of (wt_3 (List.mem_of_getElem? (i := 239) (by decide +kernel))) (by decide +kernel)
theorem cd_LB_quicker : (Jvm.Cond.code y_LB_quicker prog_1_method_13_code (5 : Nat) (Option.some Jvm.ClassFile.FieldType.int)) ∈ WT := wt_of (wt_4 (List.mem_of_getElem? (i := 0) (by decide +kernel))) (by decide +kernel)
theorem ml_LB_168 : (Jvm.Cond.methodLink "LanternBridge" (168 : Nat) y_St_everybody) ∈ WT := wt_of (wt_4 (List.mem_of_getElem? (i := 1) (by decide +kernel))) (by decide +kernel)
theorem ml_LB_171 : (Jvm.Cond.methodLink "LanternBridge" (171 : Nat) y_Go_putInstead) ∈ WT := wt_of (wt_4 (List.mem_of_getElem? (i := 2) (by decide +kernel))) (by decide +kernel)
theorem im_Go_putInstead : (Jvm.Cond.instanceMethod y_Go_putInstead) ∈ WT := wt_of (wt_4 (List.mem_of_getElem? (i := 3) (by decide +kernel))) (by decide +kernel)
theorem se_Go_Go_putInstead__Go_putInstead : (Jvm.Cond.selects "LanternBridge$Goings" y_Go_putInstead y_Go_putInstead) ∈ WT := wt_of (wt_4 (List.mem_of_getElem? (i := 4) (by decide +kernel))) (by decide +kernel)
theorem cd_Go_putInstead : (Jvm.Cond.code y_Go_putInstead prog_3_method_3_code (2 : Nat) (Option.none : Option Jvm.ClassFile.FieldType)) ∈ WT := wt_of (wt_4 (List.mem_of_getElem? (i := 5) (by decide +kernel))) (by decide +kernel)
theorem ml_law_66 : (Jvm.Cond.methodLink "LanternBridgeLaw" (66 : Nat) y_LB_leave) ∈ WT := wt_of (wt_4 (List.mem_of_getElem? (i := 6) (by decide +kernel))) (by decide +kernel)
theorem im_LB_leave : (Jvm.Cond.instanceMethod y_LB_leave) ∈ WT := wt_of (wt_4 (List.mem_of_getElem? (i := 7) (by decide +kernel))) (by decide +kernel)
theorem se_LB_LB_leave__LB_leave : (Jvm.Cond.selects "LanternBridge" y_LB_leave y_LB_leave) ∈ WT := wt_of (wt_4 (List.mem_of_getElem? (i := 8) (by decide +kernel))) (by decide +kernel)
theorem cd_LB_leave : (Jvm.Cond.code y_LB_leave prog_1_method_14_code (6 : Nat) (Option.some Jvm.ClassFile.FieldType.int)) ∈ WT := wt_of (wt_4 (List.mem_of_getElem? (i := 9) (by decide +kernel))) (by decide +kernel)
theorem ml_law_70 : (Jvm.Cond.methodLink "LanternBridgeLaw" (70 : Nat) y_LB_rule) ∈ WT := wt_of (wt_4 (List.mem_of_getElem? (i := 10) (by decide +kernel))) (by decide +kernel)
theorem im_LB_rule : (Jvm.Cond.instanceMethod y_LB_rule) ∈ WT := wt_of (wt_4 (List.mem_of_getElem? (i := 11) (by decide +kernel))) (by decide +kernel)
theorem se_LB_LB_rule__LB_rule : (Jvm.Cond.selects "LanternBridge" y_LB_rule y_LB_rule) ∈ WT := wt_of (wt_4 (List.mem_of_getElem? (i := 12) (by decide +kernel))) (by decide +kernel)
theorem cd_LB_rule : (Jvm.Cond.code y_LB_rule prog_1_method_15_code (7 : Nat) (Option.some Jvm.ClassFile.FieldType.int)) ∈ WT := wt_of (wt_4 (List.mem_of_getElem? (i := 13) (by decide +kernel))) (by decide +kernel)
theorem ml_LB_175 : (Jvm.Cond.methodLink "LanternBridge" (175 : Nat) y_Go_bestRule) ∈ WT := wt_of (wt_4 (List.mem_of_getElem? (i := 14) (by decide +kernel))) (by decide +kernel)
theorem im_Go_bestRule : (Jvm.Cond.instanceMethod y_Go_bestRule) ∈ WT := wt_of (wt_4 (List.mem_of_getElem? (i := 15) (by decide +kernel))) (by decide +kernel)
theorem se_Go_Go_bestRule__Go_bestRule : (Jvm.Cond.selects "LanternBridge$Goings" y_Go_bestRule y_Go_bestRule) ∈ WT := wt_of (wt_4 (List.mem_of_getElem? (i := 16) (by decide +kernel))) (by decide +kernel)
theorem cd_Go_bestRule : (Jvm.Cond.code y_Go_bestRule prog_3_method_15_code (6 : Nat) (Option.some Jvm.ClassFile.FieldType.int)) ∈ WT := wt_of (wt_4 (List.mem_of_getElem? (i := 17) (by decide +kernel))) (by decide +kernel)
theorem ml_Go_126 : (Jvm.Cond.methodLink "LanternBridge$Goings" (126 : Nat) y_Go_byRule) ∈ WT := wt_of (wt_4 (List.mem_of_getElem? (i := 18) (by decide +kernel))) (by decide +kernel)
theorem im_Go_byRule : (Jvm.Cond.instanceMethod y_Go_byRule) ∈ WT := wt_of (wt_4 (List.mem_of_getElem? (i := 19) (by decide +kernel))) (by decide +kernel)
theorem se_Go_Go_byRule__Go_byRule : (Jvm.Cond.selects "LanternBridge$Goings" y_Go_byRule y_Go_byRule) ∈ WT := wt_of (wt_4 (List.mem_of_getElem? (i := 20) (by decide +kernel))) (by decide +kernel)
theorem cd_Go_byRule : (Jvm.Cond.code y_Go_byRule prog_3_method_16_code (10 : Nat) (Option.some Jvm.ClassFile.FieldType.int)) ∈ WT := wt_of (wt_4 (List.mem_of_getElem? (i := 21) (by decide +kernel))) (by decide +kernel)
theorem ml_Go_130 : (Jvm.Cond.methodLink "LanternBridge$Goings" (130 : Nat) y_Go_quickestOf) ∈ WT := wt_of (wt_4 (List.mem_of_getElem? (i := 22) (by decide +kernel))) (by decide +kernel)
theorem im_Go_quickestOf : (Jvm.Cond.instanceMethod y_Go_quickestOf) ∈ WT := wt_of (wt_4 (List.mem_of_getElem? (i := 24) (by decide +kernel))) (by decide +kernel)
theorem cd_Go_quickestOf : (Jvm.Cond.code y_Go_quickestOf prog_3_method_18_code (6 : Nat) (Option.some Jvm.ClassFile.FieldType.int)) ∈ WT := wt_of (wt_4 (List.mem_of_getElem? (i := 25) (by decide +kernel))) (by decide +kernel)
theorem ml_Go_133 : (Jvm.Cond.methodLink "LanternBridge$Goings" (133 : Nat) y_Go_overByRule) ∈ WT := wt_of (wt_4 (List.mem_of_getElem? (i := 26) (by decide +kernel))) (by decide +kernel)
theorem im_Go_overByRule : (Jvm.Cond.instanceMethod y_Go_overByRule) ∈ WT := wt_of (wt_4 (List.mem_of_getElem? (i := 28) (by decide +kernel))) (by decide +kernel)
theorem cd_Go_overByRule : (Jvm.Cond.code y_Go_overByRule prog_3_method_17_code (8 : Nat) (Option.some Jvm.ClassFile.FieldType.int)) ∈ WT := wt_of (wt_4 (List.mem_of_getElem? (i := 29) (by decide +kernel))) (by decide +kernel)
theorem ml_Go_142 : (Jvm.Cond.methodLink "LanternBridge$Goings" (142 : Nat) y_Go_slowestOf) ∈ WT := wt_of (wt_4 (List.mem_of_getElem? (i := 30) (by decide +kernel))) (by decide +kernel)
theorem im_Go_slowestOf : (Jvm.Cond.instanceMethod y_Go_slowestOf) ∈ WT := wt_of (wt_4 (List.mem_of_getElem? (i := 32) (by decide +kernel))) (by decide +kernel)
theorem cd_Go_slowestOf : (Jvm.Cond.code y_Go_slowestOf prog_3_method_19_code (6 : Nat) (Option.some Jvm.ClassFile.FieldType.int)) ∈ WT := wt_of (wt_4 (List.mem_of_getElem? (i := 33) (by decide +kernel))) (by decide +kernel)
theorem ml_Go_136 : (Jvm.Cond.methodLink "LanternBridge$Goings" (136 : Nat) y_Go_canBe) ∈ WT := wt_of (wt_4 (List.mem_of_getElem? (i := 34) (by decide +kernel))) (by decide +kernel)
theorem ml_Go_139 : (Jvm.Cond.methodLink "LanternBridge$Goings" (139 : Nat) y_Go_minutesOf) ∈ WT := wt_of (wt_4 (List.mem_of_getElem? (i := 35) (by decide +kernel))) (by decide +kernel)
theorem ml_LB_178 : (Jvm.Cond.methodLink "LanternBridge" (178 : Nat) y_Go_byRule) ∈ WT := wt_of (wt_4 (List.mem_of_getElem? (i := 36) (by decide +kernel))) (by decide +kernel)
theorem ml_law_74 : (Jvm.Cond.methodLink "LanternBridgeLaw" (74 : Nat) y_LB_seen) ∈ WT := wt_of (wt_4 (List.mem_of_getElem? (i := 37) (by decide +kernel))) (by decide +kernel)
theorem im_LB_seen : (Jvm.Cond.instanceMethod y_LB_seen) ∈ WT := wt_of (wt_4 (List.mem_of_getElem? (i := 38) (by decide +kernel))) (by decide +kernel)
theorem se_LB_LB_seen__LB_seen : (Jvm.Cond.selects "LanternBridge" y_LB_seen y_LB_seen) ∈ WT := wt_of (wt_4 (List.mem_of_getElem? (i := 39) (by decide +kernel))) (by decide +kernel)
theorem cd_LB_seen : (Jvm.Cond.code y_LB_seen prog_1_method_16_code (3 : Nat) (Option.some Jvm.ClassFile.FieldType.int)) ∈ WT := wt_of (wt_4 (List.mem_of_getElem? (i := 40) (by decide +kernel))) (by decide +kernel)
theorem ml_law_78 : (Jvm.Cond.methodLink "LanternBridgeLaw" (78 : Nat) y_LB_span) ∈ WT := wt_of (wt_4 (List.mem_of_getElem? (i := 41) (by decide +kernel))) (by decide +kernel)
theorem im_LB_span : (Jvm.Cond.instanceMethod y_LB_span) ∈ WT := wt_of (wt_4 (List.mem_of_getElem? (i := 42) (by decide +kernel))) (by decide +kernel)
theorem se_LB_LB_span__LB_span : (Jvm.Cond.selects "LanternBridge" y_LB_span y_LB_span) ∈ WT := wt_of (wt_4 (List.mem_of_getElem? (i := 43) (by decide +kernel))) (by decide +kernel)
theorem cd_LB_span : (Jvm.Cond.code y_LB_span prog_1_method_17_code (3 : Nat) (Option.some Jvm.ClassFile.FieldType.int)) ∈ WT := wt_of (wt_4 (List.mem_of_getElem? (i := 44) (by decide +kernel))) (by decide +kernel)
theorem ml_LB_191 : (Jvm.Cond.methodLink "LanternBridge" (191 : Nat) y_St_rowsAgree) ∈ WT := wt_of (wt_4 (List.mem_of_getElem? (i := 45) (by decide +kernel))) (by decide +kernel)
theorem im_St_rowsAgree : (Jvm.Cond.instanceMethod y_St_rowsAgree) ∈ WT := wt_of (wt_4 (List.mem_of_getElem? (i := 46) (by decide +kernel))) (by decide +kernel)
theorem se_St_St_rowsAgree__St_rowsAgree : (Jvm.Cond.selects "LanternBridge$State" y_St_rowsAgree y_St_rowsAgree) ∈ WT := wt_of (wt_4 (List.mem_of_getElem? (i := 47) (by decide +kernel))) (by decide +kernel)
theorem cd_St_rowsAgree : (Jvm.Cond.code y_St_rowsAgree prog_9_method_9_code (6 : Nat) (Option.some Jvm.ClassFile.FieldType.boolean)) ∈ WT := wt_of (wt_4 (List.mem_of_getElem? (i := 48) (by decide +kernel))) (by decide +kernel)
theorem ml_St_83 : (Jvm.Cond.methodLink "LanternBridge$State" (83 : Nat) y_St_greatestOwn) ∈ WT := wt_of (wt_4 (List.mem_of_getElem? (i := 49) (by decide +kernel))) (by decide +kernel)
theorem im_St_greatestOwn : (Jvm.Cond.instanceMethod y_St_greatestOwn) ∈ WT := wt_of (wt_4 (List.mem_of_getElem? (i := 50) (by decide +kernel))) (by decide +kernel)
theorem se_St_St_greatestOwn__St_greatestOwn : (Jvm.Cond.selects "LanternBridge$State" y_St_greatestOwn y_St_greatestOwn) ∈ WT := wt_of (wt_4 (List.mem_of_getElem? (i := 51) (by decide +kernel))) (by decide +kernel)
theorem cd_St_greatestOwn : (Jvm.Cond.code y_St_greatestOwn prog_9_method_8_code (4 : Nat) (Option.some Jvm.ClassFile.FieldType.int)) ∈ WT := wt_of (wt_4 (List.mem_of_getElem? (i := 52) (by decide +kernel))) (by decide +kernel)
theorem ml_St_77 : (Jvm.Cond.methodLink "LanternBridge$State" (77 : Nat) y_Math_min) ∈ WT := wt_of (wt_4 (List.mem_of_getElem? (i := 53) (by decide +kernel))) (by decide +kernel)
theorem ml_LB_194 : (Jvm.Cond.methodLink "LanternBridge" (194 : Nat) y_St_greatestOwn) ∈ WT := wt_of (wt_4 (List.mem_of_getElem? (i := 54) (by decide +kernel))) (by decide +kernel)
theorem ml_law_82 : (Jvm.Cond.methodLink "LanternBridgeLaw" (82 : Nat) y_LB_chance) ∈ WT := wt_of (wt_4 (List.mem_of_getElem? (i := 55) (by decide +kernel))) (by decide +kernel)
theorem im_LB_chance : (Jvm.Cond.instanceMethod y_LB_chance) ∈ WT := wt_of (wt_4 (List.mem_of_getElem? (i := 56) (by decide +kernel))) (by decide +kernel)
theorem se_LB_LB_chance__LB_chance : (Jvm.Cond.selects "LanternBridge" y_LB_chance y_LB_chance) ∈ WT := wt_of (wt_4 (List.mem_of_getElem? (i := 57) (by decide +kernel))) (by decide +kernel)
theorem cd_LB_chance : (Jvm.Cond.code y_LB_chance prog_1_method_18_code (9 : Nat) (Option.some Jvm.ClassFile.FieldType.long)) ∈ WT := wt_of (wt_4 (List.mem_of_getElem? (i := 58) (by decide +kernel))) (by decide +kernel)
theorem kj_LB_197 : (Jvm.Cond.constantLong "LanternBridge" (197 : Nat) (-9223372036854775808 : Int64)) ∈ WT := wt_of (wt_4 (List.mem_of_getElem? (i := 59) (by decide +kernel))) (by decide +kernel)
theorem ml_LB_199 : (Jvm.Cond.methodLink "LanternBridge" (199 : Nat) y_Go_takenBy) ∈ WT := wt_of (wt_4 (List.mem_of_getElem? (i := 60) (by decide +kernel))) (by decide +kernel)
theorem ml_LB_203 : (Jvm.Cond.methodLink "LanternBridge" (203 : Nat) y_Go_takenByOthers) ∈ WT := wt_of (wt_4 (List.mem_of_getElem? (i := 61) (by decide +kernel))) (by decide +kernel)
theorem im_Go_takenByOthers : (Jvm.Cond.instanceMethod y_Go_takenByOthers) ∈ WT := wt_of (wt_4 (List.mem_of_getElem? (i := 62) (by decide +kernel))) (by decide +kernel)
theorem se_Go_Go_takenByOthers__Go_takenByOthers : (Jvm.Cond.selects "LanternBridge$Goings" y_Go_takenByOthers y_Go_takenByOthers) ∈ WT := wt_of (wt_4 (List.mem_of_getElem? (i := 63) (by decide +kernel))) (by decide +kernel)
theorem cd_Go_takenByOthers : (Jvm.Cond.code y_Go_takenByOthers prog_3_method_11_code (6 : Nat) (Option.some Jvm.ClassFile.FieldType.int)) ∈ WT := wt_of (wt_4 (List.mem_of_getElem? (i := 64) (by decide +kernel))) (by decide +kernel)
theorem ml_LB_206 : (Jvm.Cond.methodLink "LanternBridge" (206 : Nat) y_Math_max) ∈ WT := wt_of (wt_4 (List.mem_of_getElem? (i := 65) (by decide +kernel))) (by decide +kernel)
theorem ml_LB_211 : (Jvm.Cond.methodLink "LanternBridge" (211 : Nat) y_LB_sharedWithTen) ∈ WT := wt_of (wt_4 (List.mem_of_getElem? (i := 66) (by decide +kernel))) (by decide +kernel)
theorem sm_LB_sharedWithTen : (Jvm.Cond.static y_LB_sharedWithTen) ∈ WT := wt_of (wt_4 (List.mem_of_getElem? (i := 67) (by decide +kernel))) (by decide +kernel)
theorem cd_LB_sharedWithTen : (Jvm.Cond.code y_LB_sharedWithTen prog_1_method_29_code (2 : Nat) (Option.some Jvm.ClassFile.FieldType.int)) ∈ WT := wt_of (wt_4 (List.mem_of_getElem? (i := 68) (by decide +kernel))) (by decide +kernel)
theorem ml_law_87 : (Jvm.Cond.methodLink "LanternBridgeLaw" (87 : Nat) y_LB_book) ∈ WT := wt_of (wt_4 (List.mem_of_getElem? (i := 69) (by decide +kernel))) (by decide +kernel)
theorem im_LB_book : (Jvm.Cond.instanceMethod y_LB_book) ∈ WT := wt_of (wt_4 (List.mem_of_getElem? (i := 70) (by decide +kernel))) (by decide +kernel)
theorem se_LB_LB_book__LB_book : (Jvm.Cond.selects "LanternBridge" y_LB_book y_LB_book) ∈ WT := wt_of (wt_4 (List.mem_of_getElem? (i := 71) (by decide +kernel))) (by decide +kernel)
theorem cd_LB_book : (Jvm.Cond.code y_LB_book prog_1_method_19_code (2 : Nat) (Option.some Jvm.ClassFile.FieldType.int)) ∈ WT := wt_of (wt_4 (List.mem_of_getElem? (i := 72) (by decide +kernel))) (by decide +kernel)
theorem ml_law_91 : (Jvm.Cond.methodLink "LanternBridgeLaw" (91 : Nat) y_LB_looked) ∈ WT := wt_of (wt_4 (List.mem_of_getElem? (i := 73) (by decide +kernel))) (by decide +kernel)
theorem im_LB_looked : (Jvm.Cond.instanceMethod y_LB_looked) ∈ WT := wt_of (wt_4 (List.mem_of_getElem? (i := 74) (by decide +kernel))) (by decide +kernel)
theorem se_LB_LB_looked__LB_looked : (Jvm.Cond.selects "LanternBridge" y_LB_looked y_LB_looked) ∈ WT := wt_of (wt_4 (List.mem_of_getElem? (i := 75) (by decide +kernel))) (by decide +kernel)
theorem cd_LB_looked : (Jvm.Cond.code y_LB_looked prog_1_method_20_code (8 : Nat) (Option.some Jvm.ClassFile.FieldType.int)) ∈ WT := wt_of (wt_4 (List.mem_of_getElem? (i := 76) (by decide +kernel))) (by decide +kernel)
theorem ml_law_95 : (Jvm.Cond.methodLink "LanternBridgeLaw" (95 : Nat) y_LB_act) ∈ WT := wt_of (wt_4 (List.mem_of_getElem? (i := 77) (by decide +kernel))) (by decide +kernel)
theorem im_LB_act : (Jvm.Cond.instanceMethod y_LB_act) ∈ WT := wt_of (wt_4 (List.mem_of_getElem? (i := 78) (by decide +kernel))) (by decide +kernel)
theorem se_LB_LB_act__LB_act : (Jvm.Cond.selects "LanternBridge" y_LB_act y_LB_act) ∈ WT := wt_of (wt_4 (List.mem_of_getElem? (i := 79) (by decide +kernel))) (by decide +kernel)
theorem cd_LB_act : (Jvm.Cond.code y_LB_act prog_1_method_21_code (5 : Nat) (Option.some Jvm.ClassFile.FieldType.int)) ∈ WT := wt_of (wt_4 (List.mem_of_getElem? (i := 80) (by decide +kernel))) (by decide +kernel)
theorem ml_LB_220 : (Jvm.Cond.methodLink "LanternBridge" (220 : Nat) y_Wa_goes) ∈ WT := wt_of (wt_4 (List.mem_of_getElem? (i := 81) (by decide +kernel))) (by decide +kernel)
theorem im_Wa_goes : (Jvm.Cond.instanceMethod y_Wa_goes) ∈ WT := wt_of (wt_4 (List.mem_of_getElem? (i := 82) (by decide +kernel))) (by decide +kernel)
theorem se_Wa_Wa_goes__Wa_goes : (Jvm.Cond.selects "LanternBridge$Walker" y_Wa_goes y_Wa_goes) ∈ WT := wt_of (wt_4 (List.mem_of_getElem? (i := 83) (by decide +kernel))) (by decide +kernel)
theorem w4_84 : (Jvm.Cond.sameMethod "LanternBridge$Walker" "LanternBridge$Walker" "goes" "(I[I)I") ∈ WT := wt_of (wt_4 (List.mem_of_getElem? (i := 84) (by decide +kernel))) (by decide +kernel)
theorem se_Ca_Wa_goes__Ca_goes : (Jvm.Cond.selects "LanternBridge$Carried" y_Wa_goes y_Ca_goes) ∈ WT := wt_of (wt_4 (List.mem_of_getElem? (i := 85) (by decide +kernel))) (by decide +kernel)
theorem im_Ca_goes : (Jvm.Cond.instanceMethod y_Ca_goes) ∈ WT := wt_of (wt_4 (List.mem_of_getElem? (i := 86) (by decide +kernel))) (by decide +kernel)
theorem cd_Ca_goes : (Jvm.Cond.code y_Ca_goes prog_2_method_3_code (3 : Nat) (Option.some Jvm.ClassFile.FieldType.int)) ∈ WT := wt_of (wt_4 (List.mem_of_getElem? (i := 87) (by decide +kernel))) (by decide +kernel)
theorem ml_Ca_11 : (Jvm.Cond.methodLink "LanternBridge$Carried" (11 : Nat) ({ cls := "LanternBridge$Carried", name := "begin", desc := "(I[I)V" } : Jvm.MethodName)) ∈ WT := wt_of (wt_4 (List.mem_of_getElem? (i := 88) (by decide +kernel))) (by decide +kernel)
theorem w4_89 : (Jvm.Cond.sameMethod "LanternBridge$Carried" "LanternBridge$Walker" "begin" "(I[I)V") ∈ WT := wt_of (wt_4 (List.mem_of_getElem? (i := 89) (by decide +kernel))) (by decide +kernel)
theorem sm_Wa_begin : (Jvm.Cond.static y_Wa_begin) ∈ WT := wt_of (wt_4 (List.mem_of_getElem? (i := 90) (by decide +kernel))) (by decide +kernel)
theorem cd_Wa_begin : (Jvm.Cond.code y_Wa_begin prog_12_method_8_code (3 : Nat) (Option.none : Option Jvm.ClassFile.FieldType)) ∈ WT := wt_of (wt_4 (List.mem_of_getElem? (i := 91) (by decide +kernel))) (by decide +kernel)
theorem ml_Ca_17 : (Jvm.Cond.methodLink "LanternBridge$Carried" (17 : Nat) ({ cls := "LanternBridge$Lame", name := "goes", desc := "(I[I)I" } : Jvm.MethodName)) ∈ WT := wt_of (wt_4 (List.mem_of_getElem? (i := 92) (by decide +kernel))) (by decide +kernel)
theorem w4_93 : (Jvm.Cond.sameMethod "LanternBridge$Lame" "LanternBridge$Walker" "goes" "(I[I)I") ∈ WT := wt_of (wt_4 (List.mem_of_getElem? (i := 93) (by decide +kernel))) (by decide +kernel)
theorem se_La_Wa_goes__Wa_goes : (Jvm.Cond.selects "LanternBridge$Lame" y_Wa_goes y_Wa_goes) ∈ WT := wt_of (wt_4 (List.mem_of_getElem? (i := 95) (by decide +kernel))) (by decide +kernel)
theorem se_Le_Wa_goes__Qu_goes : (Jvm.Cond.selects "LanternBridge$Leading" y_Wa_goes y_Qu_goes) ∈ WT := wt_of (wt_4 (List.mem_of_getElem? (i := 96) (by decide +kernel))) (by decide +kernel)
theorem im_Qu_goes : (Jvm.Cond.instanceMethod y_Qu_goes) ∈ WT := wt_of (wt_4 (List.mem_of_getElem? (i := 97) (by decide +kernel))) (by decide +kernel)
theorem cd_Qu_goes : (Jvm.Cond.code y_Qu_goes prog_7_method_3_code (3 : Nat) (Option.some Jvm.ClassFile.FieldType.int)) ∈ WT := wt_of (wt_4 (List.mem_of_getElem? (i := 98) (by decide +kernel))) (by decide +kernel)
theorem ml_Qu_13 : (Jvm.Cond.methodLink "LanternBridge$Quick" (13 : Nat) ({ cls := "LanternBridge$Quick", name := "begin", desc := "(I[I)V" } : Jvm.MethodName)) ∈ WT := wt_of (wt_4 (List.mem_of_getElem? (i := 99) (by decide +kernel))) (by decide +kernel)
theorem w4_100 : (Jvm.Cond.sameMethod "LanternBridge$Quick" "LanternBridge$Walker" "begin" "(I[I)V") ∈ WT := wt_of (wt_4 (List.mem_of_getElem? (i := 100) (by decide +kernel))) (by decide +kernel)
theorem ml_Qu_17 : (Jvm.Cond.methodLink "LanternBridge$Quick" (17 : Nat) y_Wa_goes) ∈ WT := wt_of (wt_4 (List.mem_of_getElem? (i := 101) (by decide +kernel))) (by decide +kernel)
theorem se_Qu_Wa_goes__Qu_goes : (Jvm.Cond.selects "LanternBridge$Quick" y_Wa_goes y_Qu_goes) ∈ WT := wt_of (wt_4 (List.mem_of_getElem? (i := 102) (by decide +kernel))) (by decide +kernel)
theorem se_Ti_Wa_goes__Wa_goes : (Jvm.Cond.selects "LanternBridge$Tied" y_Wa_goes y_Wa_goes) ∈ WT := wt_of (wt_4 (List.mem_of_getElem? (i := 103) (by decide +kernel))) (by decide +kernel)
theorem se_Tr_Wa_goes__Wa_goes : (Jvm.Cond.selects "LanternBridge$Tiring" y_Wa_goes y_Wa_goes) ∈ WT := wt_of (wt_4 (List.mem_of_getElem? (i := 104) (by decide +kernel))) (by decide +kernel)
theorem cd_Wa_goes : (Jvm.Cond.code y_Wa_goes prog_12_method_5_code (3 : Nat) (Option.some Jvm.ClassFile.FieldType.int)) ∈ WT := wt_of (wt_4 (List.mem_of_getElem? (i := 105) (by decide +kernel))) (by decide +kernel)
theorem ml_Wa_46 : (Jvm.Cond.methodLink "LanternBridge$Walker" (46 : Nat) y_Wa_begin) ∈ WT := wt_of (wt_4 (List.mem_of_getElem? (i := 106) (by decide +kernel))) (by decide +kernel)
theorem ml_LB_224 : (Jvm.Cond.methodLink "LanternBridge" (224 : Nat) y_Wa_waits) ∈ WT := wt_of (wt_4 (List.mem_of_getElem? (i := 107) (by decide +kernel))) (by decide +kernel)
theorem im_Wa_waits : (Jvm.Cond.instanceMethod y_Wa_waits) ∈ WT := wt_of (wt_4 (List.mem_of_getElem? (i := 108) (by decide +kernel))) (by decide +kernel)
theorem se_Wa_Wa_waits__Wa_waits : (Jvm.Cond.selects "LanternBridge$Walker" y_Wa_waits y_Wa_waits) ∈ WT := wt_of (wt_4 (List.mem_of_getElem? (i := 109) (by decide +kernel))) (by decide +kernel)
theorem w4_110 : (Jvm.Cond.sameMethod "LanternBridge$Walker" "LanternBridge$Walker" "waits" "(I[I)I") ∈ WT := wt_of (wt_4 (List.mem_of_getElem? (i := 110) (by decide +kernel))) (by decide +kernel)
theorem se_Ca_Wa_waits__La_waits : (Jvm.Cond.selects "LanternBridge$Carried" y_Wa_waits y_La_waits) ∈ WT := wt_of (wt_4 (List.mem_of_getElem? (i := 111) (by decide +kernel))) (by decide +kernel)
theorem im_La_waits : (Jvm.Cond.instanceMethod y_La_waits) ∈ WT := wt_of (wt_4 (List.mem_of_getElem? (i := 112) (by decide +kernel))) (by decide +kernel)
theorem cd_La_waits : (Jvm.Cond.code y_La_waits prog_4_method_3_code (3 : Nat) (Option.some Jvm.ClassFile.FieldType.int)) ∈ WT := wt_of (wt_4 (List.mem_of_getElem? (i := 113) (by decide +kernel))) (by decide +kernel)
theorem ml_La_13 : (Jvm.Cond.methodLink "LanternBridge$Lame" (13 : Nat) ({ cls := "LanternBridge$Lame", name := "begin", desc := "(I[I)V" } : Jvm.MethodName)) ∈ WT := wt_of (wt_4 (List.mem_of_getElem? (i := 114) (by decide +kernel))) (by decide +kernel)
theorem w4_115 : (Jvm.Cond.sameMethod "LanternBridge$Lame" "LanternBridge$Walker" "begin" "(I[I)V") ∈ WT := wt_of (wt_4 (List.mem_of_getElem? (i := 115) (by decide +kernel))) (by decide +kernel)
theorem ml_La_17 : (Jvm.Cond.methodLink "LanternBridge$Lame" (17 : Nat) y_Wa_waits) ∈ WT := wt_of (wt_4 (List.mem_of_getElem? (i := 116) (by decide +kernel))) (by decide +kernel)
theorem se_La_Wa_waits__La_waits : (Jvm.Cond.selects "LanternBridge$Lame" y_Wa_waits y_La_waits) ∈ WT := wt_of (wt_4 (List.mem_of_getElem? (i := 117) (by decide +kernel))) (by decide +kernel)
theorem se_Le_Wa_waits__Wa_waits : (Jvm.Cond.selects "LanternBridge$Leading" y_Wa_waits y_Wa_waits) ∈ WT := wt_of (wt_4 (List.mem_of_getElem? (i := 118) (by decide +kernel))) (by decide +kernel)
theorem se_Qu_Wa_waits__Wa_waits : (Jvm.Cond.selects "LanternBridge$Quick" y_Wa_waits y_Wa_waits) ∈ WT := wt_of (wt_4 (List.mem_of_getElem? (i := 119) (by decide +kernel))) (by decide +kernel)
theorem se_Ti_Wa_waits__Wa_waits : (Jvm.Cond.selects "LanternBridge$Tied" y_Wa_waits y_Wa_waits) ∈ WT := wt_of (wt_4 (List.mem_of_getElem? (i := 120) (by decide +kernel))) (by decide +kernel)
theorem se_Tr_Wa_waits__Tr_waits : (Jvm.Cond.selects "LanternBridge$Tiring" y_Wa_waits y_Tr_waits) ∈ WT := wt_of (wt_4 (List.mem_of_getElem? (i := 121) (by decide +kernel))) (by decide +kernel)
theorem im_Tr_waits : (Jvm.Cond.instanceMethod y_Tr_waits) ∈ WT := wt_of (wt_4 (List.mem_of_getElem? (i := 122) (by decide +kernel))) (by decide +kernel)
theorem cd_Tr_waits : (Jvm.Cond.code y_Tr_waits prog_11_method_3_code (3 : Nat) (Option.some Jvm.ClassFile.FieldType.int)) ∈ WT := wt_of (wt_4 (List.mem_of_getElem? (i := 123) (by decide +kernel))) (by decide +kernel)
theorem ml_Tr_19 : (Jvm.Cond.methodLink "LanternBridge$Tiring" (19 : Nat) ({ cls := "LanternBridge$Tiring", name := "begin", desc := "(I[I)V" } : Jvm.MethodName)) ∈ WT := wt_of (wt_4 (List.mem_of_getElem? (i := 124) (by decide +kernel))) (by decide +kernel)
theorem w4_125 : (Jvm.Cond.sameMethod "LanternBridge$Tiring" "LanternBridge$Walker" "begin" "(I[I)V") ∈ WT := wt_of (wt_4 (List.mem_of_getElem? (i := 125) (by decide +kernel))) (by decide +kernel)
theorem ml_Tr_23 : (Jvm.Cond.methodLink "LanternBridge$Tiring" (23 : Nat) ({ cls := "LanternBridge$Tied", name := "waits", desc := "(I[I)I" } : Jvm.MethodName)) ∈ WT := wt_of (wt_4 (List.mem_of_getElem? (i := 126) (by decide +kernel))) (by decide +kernel)
theorem w4_127 : (Jvm.Cond.sameMethod "LanternBridge$Tied" "LanternBridge$Walker" "waits" "(I[I)I") ∈ WT := wt_of (wt_4 (List.mem_of_getElem? (i := 127) (by decide +kernel))) (by decide +kernel)
theorem cd_Wa_waits : (Jvm.Cond.code y_Wa_waits prog_12_method_6_code (3 : Nat) (Option.some Jvm.ClassFile.FieldType.int)) ∈ WT := wt_of (wt_4 (List.mem_of_getElem? (i := 129) (by decide +kernel))) (by decide +kernel)
theorem ml_Wa_50 : (Jvm.Cond.methodLink "LanternBridge$Walker" (50 : Nat) y_Wa_goes) ∈ WT := wt_of (wt_4 (List.mem_of_getElem? (i := 130) (by decide +kernel))) (by decide +kernel)
theorem ml_LB_227 : (Jvm.Cond.methodLink "LanternBridge" (227 : Nat) y_Wa_tells) ∈ WT := wt_of (wt_4 (List.mem_of_getElem? (i := 131) (by decide +kernel))) (by decide +kernel)
theorem im_Wa_tells : (Jvm.Cond.instanceMethod y_Wa_tells) ∈ WT := wt_of (wt_4 (List.mem_of_getElem? (i := 132) (by decide +kernel))) (by decide +kernel)
theorem se_Wa_Wa_tells__Wa_tells : (Jvm.Cond.selects "LanternBridge$Walker" y_Wa_tells y_Wa_tells) ∈ WT := wt_of (wt_4 (List.mem_of_getElem? (i := 133) (by decide +kernel))) (by decide +kernel)
theorem w4_134 : (Jvm.Cond.sameMethod "LanternBridge$Walker" "LanternBridge$Walker" "tells" "(I[I)I") ∈ WT := wt_of (wt_4 (List.mem_of_getElem? (i := 134) (by decide +kernel))) (by decide +kernel)
theorem se_Ca_Wa_tells__Wa_tells : (Jvm.Cond.selects "LanternBridge$Carried" y_Wa_tells y_Wa_tells) ∈ WT := wt_of (wt_4 (List.mem_of_getElem? (i := 135) (by decide +kernel))) (by decide +kernel)
theorem se_La_Wa_tells__Wa_tells : (Jvm.Cond.selects "LanternBridge$Lame" y_Wa_tells y_Wa_tells) ∈ WT := wt_of (wt_4 (List.mem_of_getElem? (i := 136) (by decide +kernel))) (by decide +kernel)
theorem se_Le_Wa_tells__Le_tells : (Jvm.Cond.selects "LanternBridge$Leading" y_Wa_tells y_Le_tells) ∈ WT := wt_of (wt_4 (List.mem_of_getElem? (i := 137) (by decide +kernel))) (by decide +kernel)
theorem im_Le_tells : (Jvm.Cond.instanceMethod y_Le_tells) ∈ WT := wt_of (wt_4 (List.mem_of_getElem? (i := 138) (by decide +kernel))) (by decide +kernel)
theorem cd_Le_tells : (Jvm.Cond.code y_Le_tells prog_5_method_2_code (3 : Nat) (Option.some Jvm.ClassFile.FieldType.int)) ∈ WT := wt_of (wt_4 (List.mem_of_getElem? (i := 139) (by decide +kernel))) (by decide +kernel)
theorem ml_Le_7 : (Jvm.Cond.methodLink "LanternBridge$Leading" (7 : Nat) ({ cls := "LanternBridge$Leading", name := "begin", desc := "(I[I)V" } : Jvm.MethodName)) ∈ WT := wt_of (wt_4 (List.mem_of_getElem? (i := 140) (by decide +kernel))) (by decide +kernel)
theorem w4_141 : (Jvm.Cond.sameMethod "LanternBridge$Leading" "LanternBridge$Walker" "begin" "(I[I)V") ∈ WT := wt_of (wt_4 (List.mem_of_getElem? (i := 141) (by decide +kernel))) (by decide +kernel)
theorem ml_Le_13 : (Jvm.Cond.methodLink "LanternBridge$Leading" (13 : Nat) ({ cls := "LanternBridge$Quick", name := "tells", desc := "(I[I)I" } : Jvm.MethodName)) ∈ WT := wt_of (wt_4 (List.mem_of_getElem? (i := 142) (by decide +kernel))) (by decide +kernel)
theorem w4_143 : (Jvm.Cond.sameMethod "LanternBridge$Quick" "LanternBridge$Walker" "tells" "(I[I)I") ∈ WT := wt_of (wt_4 (List.mem_of_getElem? (i := 143) (by decide +kernel))) (by decide +kernel)
theorem ml_Le_17 : (Jvm.Cond.methodLink "LanternBridge$Leading" (17 : Nat) ({ cls := "LanternBridge$Leading", name := "goes", desc := "(I[I)I" } : Jvm.MethodName)) ∈ WT := wt_of (wt_4 (List.mem_of_getElem? (i := 145) (by decide +kernel))) (by decide +kernel)
theorem w4_146 : (Jvm.Cond.sameMethod "LanternBridge$Leading" "LanternBridge$Quick" "goes" "(I[I)I") ∈ WT := wt_of (wt_4 (List.mem_of_getElem? (i := 146) (by decide +kernel))) (by decide +kernel)
theorem se_Le_Le_goes__Qu_goes : (Jvm.Cond.selects "LanternBridge$Leading" ({ cls := "LanternBridge$Leading", name := "goes", desc := "(I[I)I" } : Jvm.MethodName) y_Qu_goes) ∈ WT := wt_of (wt_4 (List.mem_of_getElem? (i := 148) (by decide +kernel))) (by decide +kernel)
theorem se_Qu_Wa_tells__Wa_tells : (Jvm.Cond.selects "LanternBridge$Quick" y_Wa_tells y_Wa_tells) ∈ WT := wt_of (wt_4 (List.mem_of_getElem? (i := 149) (by decide +kernel))) (by decide +kernel)
theorem se_Ti_Wa_tells__Ti_tells : (Jvm.Cond.selects "LanternBridge$Tied" y_Wa_tells y_Ti_tells) ∈ WT := wt_of (wt_4 (List.mem_of_getElem? (i := 150) (by decide +kernel))) (by decide +kernel)
theorem im_Ti_tells : (Jvm.Cond.instanceMethod y_Ti_tells) ∈ WT := wt_of (wt_4 (List.mem_of_getElem? (i := 151) (by decide +kernel))) (by decide +kernel)
theorem cd_Ti_tells : (Jvm.Cond.code y_Ti_tells prog_10_method_3_code (3 : Nat) (Option.some Jvm.ClassFile.FieldType.int)) ∈ WT := wt_of (wt_4 (List.mem_of_getElem? (i := 152) (by decide +kernel))) (by decide +kernel)
theorem ml_Ti_16 : (Jvm.Cond.methodLink "LanternBridge$Tied" (16 : Nat) ({ cls := "LanternBridge$Tied", name := "begin", desc := "(I[I)V" } : Jvm.MethodName)) ∈ WT := wt_of (wt_4 (List.mem_of_getElem? (i := 153) (by decide +kernel))) (by decide +kernel)
theorem w4_154 : (Jvm.Cond.sameMethod "LanternBridge$Tied" "LanternBridge$Walker" "begin" "(I[I)V") ∈ WT := wt_of (wt_4 (List.mem_of_getElem? (i := 154) (by decide +kernel))) (by decide +kernel)
theorem ml_Ti_20 : (Jvm.Cond.methodLink "LanternBridge$Tied" (20 : Nat) y_Wa_tells) ∈ WT := wt_of (wt_4 (List.mem_of_getElem? (i := 155) (by decide +kernel))) (by decide +kernel)
theorem se_Tr_Wa_tells__Ti_tells : (Jvm.Cond.selects "LanternBridge$Tiring" y_Wa_tells y_Ti_tells) ∈ WT := wt_of (wt_4 (List.mem_of_getElem? (i := 156) (by decide +kernel))) (by decide +kernel)
theorem cd_Wa_tells : (Jvm.Cond.code y_Wa_tells prog_12_method_7_code (3 : Nat) (Option.some Jvm.ClassFile.FieldType.int)) ∈ WT := wt_of (wt_4 (List.mem_of_getElem? (i := 157) (by decide +kernel))) (by decide +kernel)
theorem ml_Wa_54 : (Jvm.Cond.methodLink "LanternBridge$Walker" (54 : Nat) y_Wa_waits) ∈ WT := wt_of (wt_4 (List.mem_of_getElem? (i := 158) (by decide +kernel))) (by decide +kernel)
theorem ml_law_99 : (Jvm.Cond.methodLink "LanternBridgeLaw" (99 : Nat) y_LB_trace) ∈ WT := wt_of (wt_4 (List.mem_of_getElem? (i := 159) (by decide +kernel))) (by decide +kernel)
theorem im_LB_trace : (Jvm.Cond.instanceMethod y_LB_trace) ∈ WT := wt_of (wt_4 (List.mem_of_getElem? (i := 160) (by decide +kernel))) (by decide +kernel)
theorem se_LB_LB_trace__LB_trace : (Jvm.Cond.selects "LanternBridge" y_LB_trace y_LB_trace) ∈ WT := wt_of (wt_4 (List.mem_of_getElem? (i := 161) (by decide +kernel))) (by decide +kernel)
theorem cd_LB_trace : (Jvm.Cond.code y_LB_trace prog_1_method_22_code (2 : Nat) (Option.some Jvm.ClassFile.FieldType.int)) ∈ WT := wt_of (wt_4 (List.mem_of_getElem? (i := 162) (by decide +kernel))) (by decide +kernel)
theorem ml_law_103 : (Jvm.Cond.methodLink "LanternBridgeLaw" (103 : Nat) y_LB_as) ∈ WT := wt_of (wt_4 (List.mem_of_getElem? (i := 163) (by decide +kernel))) (by decide +kernel)
theorem im_LB_as : (Jvm.Cond.instanceMethod y_LB_as) ∈ WT := wt_of (wt_4 (List.mem_of_getElem? (i := 164) (by decide +kernel))) (by decide +kernel)
theorem se_LB_LB_as__LB_as : (Jvm.Cond.selects "LanternBridge" y_LB_as y_LB_as) ∈ WT := wt_of (wt_4 (List.mem_of_getElem? (i := 165) (by decide +kernel))) (by decide +kernel)
theorem cd_LB_as : (Jvm.Cond.code y_LB_as prog_1_method_23_code (4 : Nat) (Option.some Jvm.ClassFile.FieldType.int)) ∈ WT := wt_of (wt_4 (List.mem_of_getElem? (i := 166) (by decide +kernel))) (by decide +kernel)
theorem ml_LB_230 : (Jvm.Cond.methodLink "LanternBridge" (230 : Nat) y_Wa_isUnder) ∈ WT := wt_of (wt_4 (List.mem_of_getElem? (i := 167) (by decide +kernel))) (by decide +kernel)
theorem im_Wa_isUnder : (Jvm.Cond.instanceMethod y_Wa_isUnder) ∈ WT := wt_of (wt_4 (List.mem_of_getElem? (i := 168) (by decide +kernel))) (by decide +kernel)
theorem se_Wa_Wa_isUnder__Wa_isUnder : (Jvm.Cond.selects "LanternBridge$Walker" y_Wa_isUnder y_Wa_isUnder) ∈ WT := wt_of (wt_4 (List.mem_of_getElem? (i := 169) (by decide +kernel))) (by decide +kernel)
theorem w4_170 : (Jvm.Cond.sameMethod "LanternBridge$Walker" "LanternBridge$Walker" "isUnder" "(I)Z") ∈ WT := wt_of (wt_4 (List.mem_of_getElem? (i := 170) (by decide +kernel))) (by decide +kernel)
theorem se_Ca_Wa_isUnder__Wa_isUnder : (Jvm.Cond.selects "LanternBridge$Carried" y_Wa_isUnder y_Wa_isUnder) ∈ WT := wt_of (wt_4 (List.mem_of_getElem? (i := 171) (by decide +kernel))) (by decide +kernel)
theorem se_La_Wa_isUnder__Wa_isUnder : (Jvm.Cond.selects "LanternBridge$Lame" y_Wa_isUnder y_Wa_isUnder) ∈ WT := wt_of (wt_4 (List.mem_of_getElem? (i := 172) (by decide +kernel))) (by decide +kernel)
theorem se_Le_Wa_isUnder__Wa_isUnder : (Jvm.Cond.selects "LanternBridge$Leading" y_Wa_isUnder y_Wa_isUnder) ∈ WT := wt_of (wt_4 (List.mem_of_getElem? (i := 173) (by decide +kernel))) (by decide +kernel)
theorem se_Qu_Wa_isUnder__Wa_isUnder : (Jvm.Cond.selects "LanternBridge$Quick" y_Wa_isUnder y_Wa_isUnder) ∈ WT := wt_of (wt_4 (List.mem_of_getElem? (i := 174) (by decide +kernel))) (by decide +kernel)
theorem se_Ti_Wa_isUnder__Wa_isUnder : (Jvm.Cond.selects "LanternBridge$Tied" y_Wa_isUnder y_Wa_isUnder) ∈ WT := wt_of (wt_4 (List.mem_of_getElem? (i := 175) (by decide +kernel))) (by decide +kernel)
theorem se_Tr_Wa_isUnder__Wa_isUnder : (Jvm.Cond.selects "LanternBridge$Tiring" y_Wa_isUnder y_Wa_isUnder) ∈ WT := wt_of (wt_4 (List.mem_of_getElem? (i := 176) (by decide +kernel))) (by decide +kernel)
theorem cd_Wa_isUnder : (Jvm.Cond.code y_Wa_isUnder prog_12_method_3_code (2 : Nat) (Option.some Jvm.ClassFile.FieldType.boolean)) ∈ WT := wt_of (wt_4 (List.mem_of_getElem? (i := 177) (by decide +kernel))) (by decide +kernel)
theorem ml_law_107 : (Jvm.Cond.methodLink "LanternBridgeLaw" (107 : Nat) y_LB_image) ∈ WT := wt_of (wt_4 (List.mem_of_getElem? (i := 178) (by decide +kernel))) (by decide +kernel)
theorem im_LB_image : (Jvm.Cond.instanceMethod y_LB_image) ∈ WT := wt_of (wt_4 (List.mem_of_getElem? (i := 179) (by decide +kernel))) (by decide +kernel)
theorem se_LB_LB_image__LB_image : (Jvm.Cond.selects "LanternBridge" y_LB_image y_LB_image) ∈ WT := wt_of (wt_4 (List.mem_of_getElem? (i := 180) (by decide +kernel))) (by decide +kernel)
theorem cd_LB_image : (Jvm.Cond.code y_LB_image prog_1_method_24_code (1 : Nat) (Option.some Jvm.ClassFile.FieldType.int)) ∈ WT := wt_of (wt_4 (List.mem_of_getElem? (i := 181) (by decide +kernel))) (by decide +kernel)
theorem ml_LB_233 : (Jvm.Cond.methodLink "LanternBridge" (233 : Nat) y_St_copyFrom) ∈ WT := wt_of (wt_4 (List.mem_of_getElem? (i := 182) (by decide +kernel))) (by decide +kernel)
theorem im_St_copyFrom : (Jvm.Cond.instanceMethod y_St_copyFrom) ∈ WT := wt_of (wt_4 (List.mem_of_getElem? (i := 183) (by decide +kernel))) (by decide +kernel)
theorem se_St_St_copyFrom__St_copyFrom : (Jvm.Cond.selects "LanternBridge$State" y_St_copyFrom y_St_copyFrom) ∈ WT := wt_of (wt_4 (List.mem_of_getElem? (i := 184) (by decide +kernel))) (by decide +kernel)
theorem cd_St_copyFrom : (Jvm.Cond.code y_St_copyFrom prog_9_method_2_code (3 : Nat) (Option.none : Option Jvm.ClassFile.FieldType)) ∈ WT := wt_of (wt_4 (List.mem_of_getElem? (i := 185) (by decide +kernel))) (by decide +kernel)
theorem ml_St_39 : (Jvm.Cond.methodLink "LanternBridge$State" (39 : Nat) ({ cls := "java/lang/System", name := "arraycopy", desc := "(Ljava/lang/Object;ILjava/lang/Object;II)V" } : Jvm.MethodName)) ∈ WT := wt_of (wt_4 (List.mem_of_getElem? (i := 186) (by decide +kernel))) (by decide +kernel)
theorem ml_law_111 : (Jvm.Cond.methodLink "LanternBridgeLaw" (111 : Nat) y_LB_undo) ∈ WT := wt_of (wt_4 (List.mem_of_getElem? (i := 187) (by decide +kernel))) (by decide +kernel)
theorem im_LB_undo : (Jvm.Cond.instanceMethod y_LB_undo) ∈ WT := wt_of (wt_4 (List.mem_of_getElem? (i := 188) (by decide +kernel))) (by decide +kernel)
theorem se_LB_LB_undo__LB_undo : (Jvm.Cond.selects "LanternBridge" y_LB_undo y_LB_undo) ∈ WT := wt_of (wt_4 (List.mem_of_getElem? (i := 189) (by decide +kernel))) (by decide +kernel)
theorem cd_LB_undo : (Jvm.Cond.code y_LB_undo prog_1_method_25_code (1 : Nat) (Option.some Jvm.ClassFile.FieldType.int)) ∈ WT := wt_of (wt_4 (List.mem_of_getElem? (i := 190) (by decide +kernel))) (by decide +kernel)
theorem ml_law_115 : (Jvm.Cond.methodLink "LanternBridgeLaw" (115 : Nat) y_LB_count) ∈ WT := wt_of (wt_4 (List.mem_of_getElem? (i := 191) (by decide +kernel))) (by decide +kernel)
theorem im_LB_count : (Jvm.Cond.instanceMethod y_LB_count) ∈ WT := wt_of (wt_4 (List.mem_of_getElem? (i := 192) (by decide +kernel))) (by decide +kernel)
theorem se_LB_LB_count__LB_count : (Jvm.Cond.selects "LanternBridge" y_LB_count y_LB_count) ∈ WT := wt_of (wt_4 (List.mem_of_getElem? (i := 193) (by decide +kernel))) (by decide +kernel)
theorem cd_LB_count : (Jvm.Cond.code y_LB_count prog_1_method_26_code (2 : Nat) (Option.some Jvm.ClassFile.FieldType.int)) ∈ WT := wt_of (wt_4 (List.mem_of_getElem? (i := 194) (by decide +kernel))) (by decide +kernel)
theorem kl_law_10 : (Jvm.Cond.classLink "LanternBridgeLaw" (10 : Nat) "LanternBridgeModel") ∈ WT := wt_of (wt_4 (List.mem_of_getElem? (i := 195) (by decide +kernel))) (by decide +kernel)
theorem ia_Md : (Jvm.Cond.instantiable "LanternBridgeModel" (24 : Nat)) ∈ WT := wt_of (wt_4 (List.mem_of_getElem? (i := 196) (by decide +kernel))) (by decide +kernel)
theorem ml_law_12 : (Jvm.Cond.methodLink "LanternBridgeLaw" (12 : Nat) y_Md_init) ∈ WT := wt_of (wt_4 (List.mem_of_getElem? (i := 197) (by decide +kernel))) (by decide +kernel)
theorem im_Md_init : (Jvm.Cond.instanceMethod y_Md_init) ∈ WT := wt_of (wt_4 (List.mem_of_getElem? (i := 198) (by decide +kernel))) (by decide +kernel)
theorem cd_Md_init : (Jvm.Cond.code y_Md_init prog_14_method_1_code (1 : Nat) (Option.none : Option Jvm.ClassFile.FieldType)) ∈ WT := wt_of (wt_4 (List.mem_of_getElem? (i := 199) (by decide +kernel))) (by decide +kernel)
theorem ml_Md_3 : (Jvm.Cond.methodLink "LanternBridgeModel" (3 : Nat) y_Object_init) ∈ WT := wt_of (wt_4 (List.mem_of_getElem? (i := 200) (by decide +kernel))) (by decide +kernel)
theorem fl_Md_9 : (Jvm.Cond.fieldLink "LanternBridgeModel" (9 : Nat) "LanternBridgeModel" "s" "[I") ∈ WT := wt_of (wt_4 (List.mem_of_getElem? (i := 201) (by decide +kernel))) (by decide +kernel)
theorem fl_Md_15 : (Jvm.Cond.fieldLink "LanternBridgeModel" (15 : Nat) "LanternBridgeModel" "image" "[I") ∈ WT := wt_of (wt_4 (List.mem_of_getElem? (i := 202) (by decide +kernel))) (by decide +kernel)
theorem fl_Md_280 : (Jvm.Cond.fieldLink "LanternBridgeModel" (280 : Nat) "LanternBridgeModel" "hasImage" "Z") ∈ WT := wt_of (wt_4 (List.mem_of_getElem? (i := 203) (by decide +kernel))) (by decide +kernel)
theorem fl_Md_78 : (Jvm.Cond.fieldLink "LanternBridgeModel" (78 : Nat) "LanternBridgeModel" "act" "I") ∈ WT := wt_of (wt_4 (List.mem_of_getElem? (i := 204) (by decide +kernel))) (by decide +kernel)
theorem fl_Md_52 : (Jvm.Cond.fieldLink "LanternBridgeModel" (52 : Nat) "LanternBridgeModel" "spot" "I") ∈ WT := wt_of (wt_4 (List.mem_of_getElem? (i := 205) (by decide +kernel))) (by decide +kernel)
theorem fl_Md_55 : (Jvm.Cond.fieldLink "LanternBridgeModel" (55 : Nat) "LanternBridgeModel" "end" "I") ∈ WT := wt_of (wt_4 (List.mem_of_getElem? (i := 206) (by decide +kernel))) (by decide +kernel)
theorem fl_Md_58 : (Jvm.Cond.fieldLink "LanternBridgeModel" (58 : Nat) "LanternBridgeModel" "isWrong" "Z") ∈ WT := wt_of (wt_4 (List.mem_of_getElem? (i := 207) (by decide +kernel))) (by decide +kernel)
theorem fl_Md_81 : (Jvm.Cond.fieldLink "LanternBridgeModel" (81 : Nat) "LanternBridgeModel" "open" "I") ∈ WT := wt_of (wt_4 (List.mem_of_getElem? (i := 208) (by decide +kernel))) (by decide +kernel)
theorem fl_Md_18 : (Jvm.Cond.fieldLink "LanternBridgeModel" (18 : Nat) "LanternBridgeModel" "by" "[I") ∈ WT := wt_of (wt_4 (List.mem_of_getElem? (i := 209) (by decide +kernel))) (by decide +kernel)
theorem fl_Md_21 : (Jvm.Cond.fieldLink "LanternBridgeModel" (21 : Nat) "LanternBridgeModel" "truths" "[Z") ∈ WT := wt_of (wt_4 (List.mem_of_getElem? (i := 210) (by decide +kernel))) (by decide +kernel)
theorem fl_Md_143 : (Jvm.Cond.fieldLink "LanternBridgeModel" (143 : Nat) "LanternBridgeModel" "slower" "I") ∈ WT := wt_of (wt_4 (List.mem_of_getElem? (i := 211) (by decide +kernel))) (by decide +kernel)
theorem fl_Md_146 : (Jvm.Cond.fieldLink "LanternBridgeModel" (146 : Nat) "LanternBridgeModel" "isBarred" "Z") ∈ WT := wt_of (wt_4 (List.mem_of_getElem? (i := 212) (by decide +kernel))) (by decide +kernel)
theorem fl_Md_25 : (Jvm.Cond.fieldLink "LanternBridgeModel" (25 : Nat) "LanternBridgeModel" "costs" "[I") ∈ WT := wt_of (wt_4 (List.mem_of_getElem? (i := 213) (by decide +kernel))) (by decide +kernel)
theorem fl_Md_28 : (Jvm.Cond.fieldLink "LanternBridgeModel" (28 : Nat) "LanternBridgeModel" "dist" "[I") ∈ WT := wt_of (wt_4 (List.mem_of_getElem? (i := 214) (by decide +kernel))) (by decide +kernel)
theorem fl_Md_31 : (Jvm.Cond.fieldLink "LanternBridgeModel" (31 : Nat) "LanternBridgeModel" "steps" "[I") ∈ WT := wt_of (wt_4 (List.mem_of_getElem? (i := 215) (by decide +kernel))) (by decide +kernel)
theorem fl_Md_34 : (Jvm.Cond.fieldLink "LanternBridgeModel" (34 : Nat) "LanternBridgeModel" "toward" "[I") ∈ WT := wt_of (wt_4 (List.mem_of_getElem? (i := 216) (by decide +kernel))) (by decide +kernel)
theorem fl_Md_215 : (Jvm.Cond.fieldLink "LanternBridgeModel" (215 : Nat) "LanternBridgeModel" "ruleMinutes" "I") ∈ WT := wt_of (wt_4 (List.mem_of_getElem? (i := 217) (by decide +kernel))) (by decide +kernel)
theorem fl_Md_218 : (Jvm.Cond.fieldLink "LanternBridgeModel" (218 : Nat) "LanternBridgeModel" "ruleGoings" "I") ∈ WT := wt_of (wt_4 (List.mem_of_getElem? (i := 218) (by decide +kernel))) (by decide +kernel)
theorem fl_Md_37 : (Jvm.Cond.fieldLink "LanternBridgeModel" (37 : Nat) "LanternBridgeModel" "bodies" "[I") ∈ WT := wt_of (wt_4 (List.mem_of_getElem? (i := 219) (by decide +kernel))) (by decide +kernel)
theorem fl_Md_244 : (Jvm.Cond.fieldLink "LanternBridgeModel" (244 : Nat) "LanternBridgeModel" "ran" "I") ∈ WT := wt_of (wt_4 (List.mem_of_getElem? (i := 220) (by decide +kernel))) (by decide +kernel)
theorem fl_Md_253 : (Jvm.Cond.fieldLink "LanternBridgeModel" (253 : Nat) "LanternBridgeModel" "kind" "I") ∈ WT := wt_of (wt_4 (List.mem_of_getElem? (i := 221) (by decide +kernel))) (by decide +kernel)
theorem fl_Md_250 : (Jvm.Cond.fieldLink "LanternBridgeModel" (250 : Nat) "LanternBridgeModel" "number" "I") ∈ WT := wt_of (wt_4 (List.mem_of_getElem? (i := 222) (by decide +kernel))) (by decide +kernel)
theorem fl_Md_265 : (Jvm.Cond.fieldLink "LanternBridgeModel" (265 : Nat) "LanternBridgeModel" "tellsV" "I") ∈ WT := wt_of (wt_4 (List.mem_of_getElem? (i := 223) (by decide +kernel))) (by decide +kernel)
theorem su_Md_Object : (Jvm.Cond.superclass "LanternBridgeModel" "java/lang/Object") ∈ WT := wt_of (wt_5 (List.mem_of_getElem? (i := 32) (by decide +kernel))) (by decide +kernel)
theorem ml_law_17 : (Jvm.Cond.methodLink "LanternBridgeLaw" (17 : Nat) y_Md_feed) ∈ WT := wt_of (wt_5 (List.mem_of_getElem? (i := 33) (by decide +kernel))) (by decide +kernel)
theorem im_Md_feed : (Jvm.Cond.instanceMethod y_Md_feed) ∈ WT := wt_of (wt_5 (List.mem_of_getElem? (i := 34) (by decide +kernel))) (by decide +kernel)
theorem se_Md_Md_feed__Md_feed : (Jvm.Cond.selects "LanternBridgeModel" y_Md_feed y_Md_feed) ∈ WT := wt_of (wt_5 (List.mem_of_getElem? (i := 35) (by decide +kernel))) (by decide +kernel)
theorem cd_Md_feed : (Jvm.Cond.code y_Md_feed prog_14_method_8_code (2 : Nat) (Option.some Jvm.ClassFile.FieldType.int)) ∈ WT := wt_of (wt_5 (List.mem_of_getElem? (i := 36) (by decide +kernel))) (by decide +kernel)
theorem ml_Md_44 : (Jvm.Cond.methodLink "LanternBridgeModel" (44 : Nat) y_Md_in) ∈ WT := wt_of (wt_5 (List.mem_of_getElem? (i := 37) (by decide +kernel))) (by decide +kernel)
theorem sm_Md_in : (Jvm.Cond.static y_Md_in) ∈ WT := wt_of (wt_5 (List.mem_of_getElem? (i := 38) (by decide +kernel))) (by decide +kernel)
theorem cd_Md_in : (Jvm.Cond.code y_Md_in prog_14_method_3_code (3 : Nat) (Option.some Jvm.ClassFile.FieldType.boolean)) ∈ WT := wt_of (wt_5 (List.mem_of_getElem? (i := 39) (by decide +kernel))) (by decide +kernel)
theorem ml_law_22 : (Jvm.Cond.methodLink "LanternBridgeLaw" (22 : Nat) y_Md_night) ∈ WT := wt_of (wt_5 (List.mem_of_getElem? (i := 40) (by decide +kernel))) (by decide +kernel)
theorem im_Md_night : (Jvm.Cond.instanceMethod y_Md_night) ∈ WT := wt_of (wt_5 (List.mem_of_getElem? (i := 41) (by decide +kernel))) (by decide +kernel)
theorem se_Md_Md_night__Md_night : (Jvm.Cond.selects "LanternBridgeModel" y_Md_night y_Md_night) ∈ WT := wt_of (wt_5 (List.mem_of_getElem? (i := 42) (by decide +kernel))) (by decide +kernel)
theorem cd_Md_night : (Jvm.Cond.code y_Md_night prog_14_method_21_code (2 : Nat) (Option.some Jvm.ClassFile.FieldType.int)) ∈ WT := wt_of (wt_5 (List.mem_of_getElem? (i := 43) (by decide +kernel))) (by decide +kernel)
theorem ml_Md_128 : (Jvm.Cond.methodLink "LanternBridgeModel" (128 : Nat) y_Md_clauseHere) ∈ WT := wt_of (wt_5 (List.mem_of_getElem? (i := 44) (by decide +kernel))) (by decide +kernel)
theorem im_Md_clauseHere : (Jvm.Cond.instanceMethod y_Md_clauseHere) ∈ WT := wt_of (wt_5 (List.mem_of_getElem? (i := 46) (by decide +kernel))) (by decide +kernel)
theorem cd_Md_clauseHere : (Jvm.Cond.code y_Md_clauseHere prog_14_method_20_code (2 : Nat) (Option.none : Option Jvm.ClassFile.FieldType)) ∈ WT := wt_of (wt_5 (List.mem_of_getElem? (i := 47) (by decide +kernel))) (by decide +kernel)
theorem ml_Md_62 : (Jvm.Cond.methodLink "LanternBridgeModel" (62 : Nat) y_Md_here) ∈ WT := wt_of (wt_5 (List.mem_of_getElem? (i := 48) (by decide +kernel))) (by decide +kernel)
theorem im_Md_here : (Jvm.Cond.instanceMethod y_Md_here) ∈ WT := wt_of (wt_5 (List.mem_of_getElem? (i := 50) (by decide +kernel))) (by decide +kernel)
theorem cd_Md_here : (Jvm.Cond.code y_Md_here prog_14_method_9_code (1 : Nat) (Option.some Jvm.ClassFile.FieldType.int)) ∈ WT := wt_of (wt_5 (List.mem_of_getElem? (i := 51) (by decide +kernel))) (by decide +kernel)
theorem ml_Md_107 : (Jvm.Cond.methodLink "LanternBridgeModel" (107 : Nat) y_Md_spells) ∈ WT := wt_of (wt_5 (List.mem_of_getElem? (i := 53) (by decide +kernel))) (by decide +kernel)
theorem im_Md_spells : (Jvm.Cond.instanceMethod y_Md_spells) ∈ WT := wt_of (wt_5 (List.mem_of_getElem? (i := 55) (by decide +kernel))) (by decide +kernel)
theorem cd_Md_spells : (Jvm.Cond.code y_Md_spells prog_14_method_11_code (3 : Nat) (Option.none : Option Jvm.ClassFile.FieldType)) ∈ WT := wt_of (wt_5 (List.mem_of_getElem? (i := 56) (by decide +kernel))) (by decide +kernel)
theorem ml_Md_65 : (Jvm.Cond.methodLink "LanternBridgeModel" (65 : Nat) y_String_length) ∈ WT := wt_of (wt_5 (List.mem_of_getElem? (i := 57) (by decide +kernel))) (by decide +kernel)
theorem ml_Md_70 : (Jvm.Cond.methodLink "LanternBridgeModel" (70 : Nat) y_String_charAt) ∈ WT := wt_of (wt_5 (List.mem_of_getElem? (i := 58) (by decide +kernel))) (by decide +kernel)
theorem ml_Md_74 : (Jvm.Cond.methodLink "LanternBridgeModel" (74 : Nat) y_Md_must) ∈ WT := wt_of (wt_5 (List.mem_of_getElem? (i := 59) (by decide +kernel))) (by decide +kernel)
theorem im_Md_must : (Jvm.Cond.instanceMethod y_Md_must) ∈ WT := wt_of (wt_5 (List.mem_of_getElem? (i := 61) (by decide +kernel))) (by decide +kernel)
theorem cd_Md_must : (Jvm.Cond.code y_Md_must prog_14_method_10_code (2 : Nat) (Option.none : Option Jvm.ClassFile.FieldType)) ∈ WT := wt_of (wt_5 (List.mem_of_getElem? (i := 62) (by decide +kernel))) (by decide +kernel)
theorem ml_Md_101 : (Jvm.Cond.methodLink "LanternBridgeModel" (101 : Nat) y_Md_figures) ∈ WT := wt_of (wt_5 (List.mem_of_getElem? (i := 63) (by decide +kernel))) (by decide +kernel)
theorem im_Md_figures : (Jvm.Cond.instanceMethod y_Md_figures) ∈ WT := wt_of (wt_5 (List.mem_of_getElem? (i := 65) (by decide +kernel))) (by decide +kernel)
theorem cd_Md_figures : (Jvm.Cond.code y_Md_figures prog_14_method_12_code (3 : Nat) (Option.some Jvm.ClassFile.FieldType.int)) ∈ WT := wt_of (wt_5 (List.mem_of_getElem? (i := 66) (by decide +kernel))) (by decide +kernel)
theorem ml_Md_90 : (Jvm.Cond.methodLink "LanternBridgeModel" (90 : Nat) y_Md_some) ∈ WT := wt_of (wt_5 (List.mem_of_getElem? (i := 67) (by decide +kernel))) (by decide +kernel)
theorem im_Md_some : (Jvm.Cond.instanceMethod y_Md_some) ∈ WT := wt_of (wt_5 (List.mem_of_getElem? (i := 69) (by decide +kernel))) (by decide +kernel)
theorem cd_Md_some : (Jvm.Cond.code y_Md_some prog_14_method_17_code (1 : Nat) (Option.none : Option Jvm.ClassFile.FieldType)) ∈ WT := wt_of (wt_5 (List.mem_of_getElem? (i := 70) (by decide +kernel))) (by decide +kernel)
theorem ml_Md_104 : (Jvm.Cond.methodLink "LanternBridgeModel" (104 : Nat) y_Md_every) ∈ WT := wt_of (wt_5 (List.mem_of_getElem? (i := 71) (by decide +kernel))) (by decide +kernel)
theorem im_Md_every : (Jvm.Cond.instanceMethod y_Md_every) ∈ WT := wt_of (wt_5 (List.mem_of_getElem? (i := 73) (by decide +kernel))) (by decide +kernel)
theorem cd_Md_every : (Jvm.Cond.code y_Md_every prog_14_method_16_code (1 : Nat) (Option.none : Option Jvm.ClassFile.FieldType)) ∈ WT := wt_of (wt_5 (List.mem_of_getElem? (i := 74) (by decide +kernel))) (by decide +kernel)
theorem ml_Md_84 : (Jvm.Cond.methodLink "LanternBridgeModel" (84 : Nat) y_Md_factor) ∈ WT := wt_of (wt_5 (List.mem_of_getElem? (i := 75) (by decide +kernel))) (by decide +kernel)
theorem im_Md_factor : (Jvm.Cond.instanceMethod y_Md_factor) ∈ WT := wt_of (wt_5 (List.mem_of_getElem? (i := 77) (by decide +kernel))) (by decide +kernel)
theorem cd_Md_factor : (Jvm.Cond.code y_Md_factor prog_14_method_15_code (5 : Nat) (Option.none : Option Jvm.ClassFile.FieldType)) ∈ WT := wt_of (wt_5 (List.mem_of_getElem? (i := 78) (by decide +kernel))) (by decide +kernel)
theorem ml_Md_87 : (Jvm.Cond.methodLink "LanternBridgeModel" (87 : Nat) y_Md_emits) ∈ WT := wt_of (wt_5 (List.mem_of_getElem? (i := 79) (by decide +kernel))) (by decide +kernel)
theorem im_Md_emits : (Jvm.Cond.instanceMethod y_Md_emits) ∈ WT := wt_of (wt_5 (List.mem_of_getElem? (i := 81) (by decide +kernel))) (by decide +kernel)
theorem cd_Md_emits : (Jvm.Cond.code y_Md_emits prog_14_method_14_code (2 : Nat) (Option.none : Option Jvm.ClassFile.FieldType)) ∈ WT := wt_of (wt_5 (List.mem_of_getElem? (i := 82) (by decide +kernel))) (by decide +kernel)
theorem ml_Md_95 : (Jvm.Cond.methodLink "LanternBridgeModel" (95 : Nat) y_Md_among) ∈ WT := wt_of (wt_5 (List.mem_of_getElem? (i := 84) (by decide +kernel))) (by decide +kernel)
theorem im_Md_among : (Jvm.Cond.instanceMethod y_Md_among) ∈ WT := wt_of (wt_5 (List.mem_of_getElem? (i := 86) (by decide +kernel))) (by decide +kernel)
theorem cd_Md_among : (Jvm.Cond.code y_Md_among prog_14_method_13_code (3 : Nat) (Option.some Jvm.ClassFile.FieldType.int)) ∈ WT := wt_of (wt_5 (List.mem_of_getElem? (i := 87) (by decide +kernel))) (by decide +kernel)
theorem ml_Md_121 : (Jvm.Cond.methodLink "LanternBridgeModel" (121 : Nat) y_Md_clauseOfB) ∈ WT := wt_of (wt_5 (List.mem_of_getElem? (i := 89) (by decide +kernel))) (by decide +kernel)
theorem im_Md_clauseOfB : (Jvm.Cond.instanceMethod y_Md_clauseOfB) ∈ WT := wt_of (wt_5 (List.mem_of_getElem? (i := 91) (by decide +kernel))) (by decide +kernel)
theorem cd_Md_clauseOfB : (Jvm.Cond.code y_Md_clauseOfB prog_14_method_19_code (1 : Nat) (Option.none : Option Jvm.ClassFile.FieldType)) ∈ WT := wt_of (wt_5 (List.mem_of_getElem? (i := 92) (by decide +kernel))) (by decide +kernel)
theorem ml_Md_115 : (Jvm.Cond.methodLink "LanternBridgeModel" (115 : Nat) y_Md_tellsHere) ∈ WT := wt_of (wt_5 (List.mem_of_getElem? (i := 95) (by decide +kernel))) (by decide +kernel)
theorem im_Md_tellsHere : (Jvm.Cond.instanceMethod y_Md_tellsHere) ∈ WT := wt_of (wt_5 (List.mem_of_getElem? (i := 97) (by decide +kernel))) (by decide +kernel)
theorem cd_Md_tellsHere : (Jvm.Cond.code y_Md_tellsHere prog_14_method_18_code (4 : Nat) (Option.none : Option Jvm.ClassFile.FieldType)) ∈ WT := wt_of (wt_5 (List.mem_of_getElem? (i := 98) (by decide +kernel))) (by decide +kernel)
theorem ml_law_27 : (Jvm.Cond.methodLink "LanternBridgeLaw" (27 : Nat) y_Md_person) ∈ WT := wt_of (wt_5 (List.mem_of_getElem? (i := 101) (by decide +kernel))) (by decide +kernel)
theorem im_Md_person : (Jvm.Cond.instanceMethod y_Md_person) ∈ WT := wt_of (wt_5 (List.mem_of_getElem? (i := 102) (by decide +kernel))) (by decide +kernel)
theorem se_Md_Md_person__Md_person : (Jvm.Cond.selects "LanternBridgeModel" y_Md_person y_Md_person) ∈ WT := wt_of (wt_5 (List.mem_of_getElem? (i := 103) (by decide +kernel))) (by decide +kernel)
theorem cd_Md_person : (Jvm.Cond.code y_Md_person prog_14_method_23_code (6 : Nat) (Option.some Jvm.ClassFile.FieldType.int)) ∈ WT := wt_of (wt_5 (List.mem_of_getElem? (i := 104) (by decide +kernel))) (by decide +kernel)
theorem ml_law_32 : (Jvm.Cond.methodLink "LanternBridgeLaw" (32 : Nat) y_Md_of) ∈ WT := wt_of (wt_5 (List.mem_of_getElem? (i := 105) (by decide +kernel))) (by decide +kernel)
theorem im_Md_of : (Jvm.Cond.instanceMethod y_Md_of) ∈ WT := wt_of (wt_5 (List.mem_of_getElem? (i := 106) (by decide +kernel))) (by decide +kernel)
theorem se_Md_Md_of__Md_of : (Jvm.Cond.selects "LanternBridgeModel" y_Md_of y_Md_of) ∈ WT := wt_of (wt_5 (List.mem_of_getElem? (i := 107) (by decide +kernel))) (by decide +kernel)
theorem cd_Md_of : (Jvm.Cond.code y_Md_of prog_14_method_24_code (3 : Nat) (Option.some Jvm.ClassFile.FieldType.int)) ∈ WT := wt_of (wt_5 (List.mem_of_getElem? (i := 108) (by decide +kernel))) (by decide +kernel)
theorem ml_Md_131 : (Jvm.Cond.methodLink "LanternBridgeModel" (131 : Nat) y_Md_isPerson) ∈ WT := wt_of (wt_5 (List.mem_of_getElem? (i := 109) (by decide +kernel))) (by decide +kernel)
theorem im_Md_isPerson : (Jvm.Cond.instanceMethod y_Md_isPerson) ∈ WT := wt_of (wt_5 (List.mem_of_getElem? (i := 111) (by decide +kernel))) (by decide +kernel)
theorem cd_Md_isPerson : (Jvm.Cond.code y_Md_isPerson prog_14_method_5_code (2 : Nat) (Option.some Jvm.ClassFile.FieldType.boolean)) ∈ WT := wt_of (wt_5 (List.mem_of_getElem? (i := 112) (by decide +kernel))) (by decide +kernel)
theorem ml_law_36 : (Jvm.Cond.methodLink "LanternBridgeLaw" (36 : Nat) y_Md_told) ∈ WT := wt_of (wt_5 (List.mem_of_getElem? (i := 113) (by decide +kernel))) (by decide +kernel)
theorem im_Md_told : (Jvm.Cond.instanceMethod y_Md_told) ∈ WT := wt_of (wt_5 (List.mem_of_getElem? (i := 114) (by decide +kernel))) (by decide +kernel)
theorem se_Md_Md_told__Md_told : (Jvm.Cond.selects "LanternBridgeModel" y_Md_told y_Md_told) ∈ WT := wt_of (wt_5 (List.mem_of_getElem? (i := 115) (by decide +kernel))) (by decide +kernel)
theorem cd_Md_told : (Jvm.Cond.code y_Md_told prog_14_method_25_code (2 : Nat) (Option.some Jvm.ClassFile.FieldType.int)) ∈ WT := wt_of (wt_5 (List.mem_of_getElem? (i := 116) (by decide +kernel))) (by decide +kernel)
theorem ml_Md_135 : (Jvm.Cond.methodLink "LanternBridgeModel" (135 : Nat) y_Md_tellsOf) ∈ WT := wt_of (wt_5 (List.mem_of_getElem? (i := 117) (by decide +kernel))) (by decide +kernel)
theorem im_Md_tellsOf : (Jvm.Cond.instanceMethod y_Md_tellsOf) ∈ WT := wt_of (wt_5 (List.mem_of_getElem? (i := 119) (by decide +kernel))) (by decide +kernel)
theorem cd_Md_tellsOf : (Jvm.Cond.code y_Md_tellsOf prog_14_method_22_code (3 : Nat) (Option.some Jvm.ClassFile.FieldType.int)) ∈ WT := wt_of (wt_5 (List.mem_of_getElem? (i := 120) (by decide +kernel))) (by decide +kernel)
theorem ml_law_41 : (Jvm.Cond.methodLink "LanternBridgeLaw" (41 : Nat) y_Md_going) ∈ WT := wt_of (wt_5 (List.mem_of_getElem? (i := 121) (by decide +kernel))) (by decide +kernel)
theorem im_Md_going : (Jvm.Cond.instanceMethod y_Md_going) ∈ WT := wt_of (wt_5 (List.mem_of_getElem? (i := 122) (by decide +kernel))) (by decide +kernel)
theorem se_Md_Md_going__Md_going : (Jvm.Cond.selects "LanternBridgeModel" y_Md_going y_Md_going) ∈ WT := wt_of (wt_5 (List.mem_of_getElem? (i := 123) (by decide +kernel))) (by decide +kernel)
theorem cd_Md_going : (Jvm.Cond.code y_Md_going prog_14_method_31_code (4 : Nat) (Option.some Jvm.ClassFile.FieldType.int)) ∈ WT := wt_of (wt_5 (List.mem_of_getElem? (i := 124) (by decide +kernel))) (by decide +kernel)
theorem ml_Md_164 : (Jvm.Cond.methodLink "LanternBridgeModel" (164 : Nat) y_Md_isSet) ∈ WT := wt_of (wt_5 (List.mem_of_getElem? (i := 125) (by decide +kernel))) (by decide +kernel)
theorem im_Md_isSet : (Jvm.Cond.instanceMethod y_Md_isSet) ∈ WT := wt_of (wt_5 (List.mem_of_getElem? (i := 127) (by decide +kernel))) (by decide +kernel)
theorem cd_Md_isSet : (Jvm.Cond.code y_Md_isSet prog_14_method_7_code (2 : Nat) (Option.some Jvm.ClassFile.FieldType.boolean)) ∈ WT := wt_of (wt_5 (List.mem_of_getElem? (i := 128) (by decide +kernel))) (by decide +kernel)
theorem ml_Md_48 : (Jvm.Cond.methodLink "LanternBridgeModel" (48 : Nat) y_Md_all) ∈ WT := wt_of (wt_5 (List.mem_of_getElem? (i := 129) (by decide +kernel))) (by decide +kernel)
theorem im_Md_all : (Jvm.Cond.instanceMethod y_Md_all) ∈ WT := wt_of (wt_5 (List.mem_of_getElem? (i := 131) (by decide +kernel))) (by decide +kernel)
theorem cd_Md_all : (Jvm.Cond.code y_Md_all prog_14_method_6_code (1 : Nat) (Option.some Jvm.ClassFile.FieldType.int)) ∈ WT := wt_of (wt_5 (List.mem_of_getElem? (i := 132) (by decide +kernel))) (by decide +kernel)
theorem ml_Md_167 : (Jvm.Cond.methodLink "LanternBridgeModel" (167 : Nat) y_Md_minutesOf) ∈ WT := wt_of (wt_5 (List.mem_of_getElem? (i := 133) (by decide +kernel))) (by decide +kernel)
theorem im_Md_minutesOf : (Jvm.Cond.instanceMethod y_Md_minutesOf) ∈ WT := wt_of (wt_5 (List.mem_of_getElem? (i := 135) (by decide +kernel))) (by decide +kernel)
theorem cd_Md_minutesOf : (Jvm.Cond.code y_Md_minutesOf prog_14_method_29_code (6 : Nat) (Option.some Jvm.ClassFile.FieldType.int)) ∈ WT := wt_of (wt_5 (List.mem_of_getElem? (i := 136) (by decide +kernel))) (by decide +kernel)
theorem ml_Md_157 : (Jvm.Cond.methodLink "LanternBridgeModel" (157 : Nat) y_Md_takes) ∈ WT := wt_of (wt_5 (List.mem_of_getElem? (i := 137) (by decide +kernel))) (by decide +kernel)
theorem im_Md_takes : (Jvm.Cond.instanceMethod y_Md_takes) ∈ WT := wt_of (wt_5 (List.mem_of_getElem? (i := 139) (by decide +kernel))) (by decide +kernel)
theorem cd_Md_takes : (Jvm.Cond.code y_Md_takes prog_14_method_28_code (10 : Nat) (Option.some Jvm.ClassFile.FieldType.int)) ∈ WT := wt_of (wt_5 (List.mem_of_getElem? (i := 140) (by decide +kernel))) (by decide +kernel)
theorem ml_Md_149 : (Jvm.Cond.methodLink "LanternBridgeModel" (149 : Nat) y_Md_looks) ∈ WT := wt_of (wt_5 (List.mem_of_getElem? (i := 141) (by decide +kernel))) (by decide +kernel)
theorem im_Md_looks : (Jvm.Cond.instanceMethod y_Md_looks) ∈ WT := wt_of (wt_5 (List.mem_of_getElem? (i := 143) (by decide +kernel))) (by decide +kernel)
theorem cd_Md_looks : (Jvm.Cond.code y_Md_looks prog_14_method_26_code (12 : Nat) (Option.none : Option Jvm.ClassFile.FieldType)) ∈ WT := wt_of (wt_5 (List.mem_of_getElem? (i := 144) (by decide +kernel))) (by decide +kernel)
theorem ml_Md_139 : (Jvm.Cond.methodLink "LanternBridgeModel" (139 : Nat) y_Md_count1) ∈ WT := wt_of (wt_5 (List.mem_of_getElem? (i := 145) (by decide +kernel))) (by decide +kernel)
theorem sm_Md_count1 : (Jvm.Cond.static y_Md_count1) ∈ WT := wt_of (wt_5 (List.mem_of_getElem? (i := 146) (by decide +kernel))) (by decide +kernel)
theorem cd_Md_count1 : (Jvm.Cond.code y_Md_count1 prog_14_method_4_code (3 : Nat) (Option.some Jvm.ClassFile.FieldType.int)) ∈ WT := wt_of (wt_5 (List.mem_of_getElem? (i := 147) (by decide +kernel))) (by decide +kernel)
theorem ml_Md_153 : (Jvm.Cond.methodLink "LanternBridgeModel" (153 : Nat) y_Md_goes) ∈ WT := wt_of (wt_5 (List.mem_of_getElem? (i := 148) (by decide +kernel))) (by decide +kernel)
theorem im_Md_goes : (Jvm.Cond.instanceMethod y_Md_goes) ∈ WT := wt_of (wt_5 (List.mem_of_getElem? (i := 150) (by decide +kernel))) (by decide +kernel)
theorem cd_Md_goes : (Jvm.Cond.code y_Md_goes prog_14_method_27_code (3 : Nat) (Option.some Jvm.ClassFile.FieldType.boolean)) ∈ WT := wt_of (wt_5 (List.mem_of_getElem? (i := 151) (by decide +kernel))) (by decide +kernel)
theorem ml_Md_170 : (Jvm.Cond.methodLink "LanternBridgeModel" (170 : Nat) y_Md_canGo) ∈ WT := wt_of (wt_5 (List.mem_of_getElem? (i := 152) (by decide +kernel))) (by decide +kernel)
theorem im_Md_canGo : (Jvm.Cond.instanceMethod y_Md_canGo) ∈ WT := wt_of (wt_5 (List.mem_of_getElem? (i := 154) (by decide +kernel))) (by decide +kernel)
theorem cd_Md_canGo : (Jvm.Cond.code y_Md_canGo prog_14_method_30_code (6 : Nat) (Option.some Jvm.ClassFile.FieldType.boolean)) ∈ WT := wt_of (wt_5 (List.mem_of_getElem? (i := 155) (by decide +kernel))) (by decide +kernel)
theorem ml_Md_161 : (Jvm.Cond.methodLink "LanternBridgeModel" (161 : Nat) y_Md_told) ∈ WT := wt_of (wt_5 (List.mem_of_getElem? (i := 156) (by decide +kernel))) (by decide +kernel)
theorem ml_law_45 : (Jvm.Cond.methodLink "LanternBridgeLaw" (45 : Nat) y_Md_go) ∈ WT := wt_of (wt_5 (List.mem_of_getElem? (i := 157) (by decide +kernel))) (by decide +kernel)
theorem im_Md_go : (Jvm.Cond.instanceMethod y_Md_go) ∈ WT := wt_of (wt_5 (List.mem_of_getElem? (i := 158) (by decide +kernel))) (by decide +kernel)
theorem se_Md_Md_go__Md_go : (Jvm.Cond.selects "LanternBridgeModel" y_Md_go y_Md_go) ∈ WT := wt_of (wt_5 (List.mem_of_getElem? (i := 159) (by decide +kernel))) (by decide +kernel)
theorem cd_Md_go : (Jvm.Cond.code y_Md_go prog_14_method_33_code (4 : Nat) (Option.some Jvm.ClassFile.FieldType.int)) ∈ WT := wt_of (wt_5 (List.mem_of_getElem? (i := 160) (by decide +kernel))) (by decide +kernel)
theorem ml_Md_173 : (Jvm.Cond.methodLink "LanternBridgeModel" (173 : Nat) y_Md_areHere) ∈ WT := wt_of (wt_5 (List.mem_of_getElem? (i := 161) (by decide +kernel))) (by decide +kernel)
theorem sm_Md_areHere : (Jvm.Cond.static y_Md_areHere) ∈ WT := wt_of (wt_5 (List.mem_of_getElem? (i := 162) (by decide +kernel))) (by decide +kernel)
theorem cd_Md_areHere : (Jvm.Cond.code y_Md_areHere prog_14_method_32_code (3 : Nat) (Option.some Jvm.ClassFile.FieldType.boolean)) ∈ WT := wt_of (wt_5 (List.mem_of_getElem? (i := 163) (by decide +kernel))) (by decide +kernel)
theorem ml_law_49 : (Jvm.Cond.methodLink "LanternBridgeLaw" (49 : Nat) y_Md_least) ∈ WT := wt_of (wt_5 (List.mem_of_getElem? (i := 164) (by decide +kernel))) (by decide +kernel)
theorem im_Md_least : (Jvm.Cond.instanceMethod y_Md_least) ∈ WT := wt_of (wt_5 (List.mem_of_getElem? (i := 165) (by decide +kernel))) (by decide +kernel)
theorem se_Md_Md_least__Md_least : (Jvm.Cond.selects "LanternBridgeModel" y_Md_least y_Md_least) ∈ WT := wt_of (wt_5 (List.mem_of_getElem? (i := 166) (by decide +kernel))) (by decide +kernel)
theorem cd_Md_least : (Jvm.Cond.code y_Md_least prog_14_method_41_code (2 : Nat) (Option.some Jvm.ClassFile.FieldType.int)) ∈ WT := wt_of (wt_5 (List.mem_of_getElem? (i := 167) (by decide +kernel))) (by decide +kernel)
theorem ml_Md_190 : (Jvm.Cond.methodLink "LanternBridgeModel" (190 : Nat) y_Md_now) ∈ WT := wt_of (wt_5 (List.mem_of_getElem? (i := 168) (by decide +kernel))) (by decide +kernel)
theorem im_Md_now : (Jvm.Cond.instanceMethod y_Md_now) ∈ WT := wt_of (wt_5 (List.mem_of_getElem? (i := 170) (by decide +kernel))) (by decide +kernel)
theorem cd_Md_now : (Jvm.Cond.code y_Md_now prog_14_method_37_code (1 : Nat) (Option.some Jvm.ClassFile.FieldType.int)) ∈ WT := wt_of (wt_5 (List.mem_of_getElem? (i := 171) (by decide +kernel))) (by decide +kernel)
theorem ml_Md_193 : (Jvm.Cond.methodLink "LanternBridgeModel" (193 : Nat) y_Md_leastFrom) ∈ WT := wt_of (wt_5 (List.mem_of_getElem? (i := 172) (by decide +kernel))) (by decide +kernel)
theorem im_Md_leastFrom : (Jvm.Cond.instanceMethod y_Md_leastFrom) ∈ WT := wt_of (wt_5 (List.mem_of_getElem? (i := 174) (by decide +kernel))) (by decide +kernel)
theorem cd_Md_leastFrom : (Jvm.Cond.code y_Md_leastFrom prog_14_method_39_code (4 : Nat) (Option.some Jvm.ClassFile.FieldType.int)) ∈ WT := wt_of (wt_5 (List.mem_of_getElem? (i := 175) (by decide +kernel))) (by decide +kernel)
theorem ml_Md_180 : (Jvm.Cond.methodLink "LanternBridgeModel" (180 : Nat) y_Md_looksForCosts) ∈ WT := wt_of (wt_5 (List.mem_of_getElem? (i := 176) (by decide +kernel))) (by decide +kernel)
theorem im_Md_looksForCosts : (Jvm.Cond.instanceMethod y_Md_looksForCosts) ∈ WT := wt_of (wt_5 (List.mem_of_getElem? (i := 178) (by decide +kernel))) (by decide +kernel)
theorem cd_Md_looksForCosts : (Jvm.Cond.code y_Md_looksForCosts prog_14_method_34_code (6 : Nat) (Option.none : Option Jvm.ClassFile.FieldType)) ∈ WT := wt_of (wt_5 (List.mem_of_getElem? (i := 179) (by decide +kernel))) (by decide +kernel)
theorem ml_Md_183 : (Jvm.Cond.methodLink "LanternBridgeModel" (183 : Nat) y_Md_looksFrom) ∈ WT := wt_of (wt_5 (List.mem_of_getElem? (i := 180) (by decide +kernel))) (by decide +kernel)
theorem im_Md_looksFrom : (Jvm.Cond.instanceMethod y_Md_looksFrom) ∈ WT := wt_of (wt_5 (List.mem_of_getElem? (i := 182) (by decide +kernel))) (by decide +kernel)
theorem cd_Md_looksFrom : (Jvm.Cond.code y_Md_looksFrom prog_14_method_36_code (4 : Nat) (Option.none : Option Jvm.ClassFile.FieldType)) ∈ WT := wt_of (wt_5 (List.mem_of_getElem? (i := 183) (by decide +kernel))) (by decide +kernel)
theorem ko_Md_176 : (Jvm.Cond.constant "LanternBridgeModel" (176 : Nat) (1000000 : Int32)) ∈ WT := wt_of (wt_5 (List.mem_of_getElem? (i := 184) (by decide +kernel))) (by decide +kernel)
theorem ml_Md_177 : (Jvm.Cond.methodLink "LanternBridgeModel" (177 : Nat) y_Md_comesCloser) ∈ WT := wt_of (wt_5 (List.mem_of_getElem? (i := 185) (by decide +kernel))) (by decide +kernel)
theorem im_Md_comesCloser : (Jvm.Cond.instanceMethod y_Md_comesCloser) ∈ WT := wt_of (wt_5 (List.mem_of_getElem? (i := 187) (by decide +kernel))) (by decide +kernel)
theorem cd_Md_comesCloser : (Jvm.Cond.code y_Md_comesCloser prog_14_method_35_code (10 : Nat) (Option.some Jvm.ClassFile.FieldType.boolean)) ∈ WT := wt_of (wt_5 (List.mem_of_getElem? (i := 188) (by decide +kernel))) (by decide +kernel)
theorem ml_Md_186 : (Jvm.Cond.methodLink "LanternBridgeModel" (186 : Nat) y_Md_leastOf) ∈ WT := wt_of (wt_5 (List.mem_of_getElem? (i := 189) (by decide +kernel))) (by decide +kernel)
theorem im_Md_leastOf : (Jvm.Cond.instanceMethod y_Md_leastOf) ∈ WT := wt_of (wt_5 (List.mem_of_getElem? (i := 191) (by decide +kernel))) (by decide +kernel)
theorem cd_Md_leastOf : (Jvm.Cond.code y_Md_leastOf prog_14_method_38_code (5 : Nat) (Option.some Jvm.ClassFile.FieldType.int)) ∈ WT := wt_of (wt_5 (List.mem_of_getElem? (i := 192) (by decide +kernel))) (by decide +kernel)
theorem ml_Md_196 : (Jvm.Cond.methodLink "LanternBridgeModel" (196 : Nat) y_Md_orNone) ∈ WT := wt_of (wt_5 (List.mem_of_getElem? (i := 193) (by decide +kernel))) (by decide +kernel)
theorem sm_Md_orNone : (Jvm.Cond.static y_Md_orNone) ∈ WT := wt_of (wt_5 (List.mem_of_getElem? (i := 194) (by decide +kernel))) (by decide +kernel)
theorem cd_Md_orNone : (Jvm.Cond.code y_Md_orNone prog_14_method_40_code (1 : Nat) (Option.some Jvm.ClassFile.FieldType.int)) ∈ WT := wt_of (wt_5 (List.mem_of_getElem? (i := 195) (by decide +kernel))) (by decide +kernel)
theorem ml_law_53 : (Jvm.Cond.methodLink "LanternBridgeLaw" (53 : Nat) y_Md_fewest) ∈ WT := wt_of (wt_5 (List.mem_of_getElem? (i := 196) (by decide +kernel))) (by decide +kernel)
theorem im_Md_fewest : (Jvm.Cond.instanceMethod y_Md_fewest) ∈ WT := wt_of (wt_5 (List.mem_of_getElem? (i := 197) (by decide +kernel))) (by decide +kernel)
theorem se_Md_Md_fewest__Md_fewest : (Jvm.Cond.selects "LanternBridgeModel" y_Md_fewest y_Md_fewest) ∈ WT := wt_of (wt_5 (List.mem_of_getElem? (i := 198) (by decide +kernel))) (by decide +kernel)
theorem cd_Md_fewest : (Jvm.Cond.code y_Md_fewest prog_14_method_42_code (2 : Nat) (Option.some Jvm.ClassFile.FieldType.int)) ∈ WT := wt_of (wt_5 (List.mem_of_getElem? (i := 199) (by decide +kernel))) (by decide +kernel)
theorem ml_law_57 : (Jvm.Cond.methodLink "LanternBridgeLaw" (57 : Nat) y_Md_first) ∈ WT := wt_of (wt_5 (List.mem_of_getElem? (i := 200) (by decide +kernel))) (by decide +kernel)
theorem im_Md_first : (Jvm.Cond.instanceMethod y_Md_first) ∈ WT := wt_of (wt_5 (List.mem_of_getElem? (i := 201) (by decide +kernel))) (by decide +kernel)
theorem se_Md_Md_first__Md_first : (Jvm.Cond.selects "LanternBridgeModel" y_Md_first y_Md_first) ∈ WT := wt_of (wt_5 (List.mem_of_getElem? (i := 202) (by decide +kernel))) (by decide +kernel)
theorem cd_Md_first : (Jvm.Cond.code y_Md_first prog_14_method_43_code (6 : Nat) (Option.some Jvm.ClassFile.FieldType.int)) ∈ WT := wt_of (wt_5 (List.mem_of_getElem? (i := 203) (by decide +kernel))) (by decide +kernel)
theorem ml_Md_199 : (Jvm.Cond.methodLink "LanternBridgeModel" (199 : Nat) y_Md_looksToward) ∈ WT := wt_of (wt_5 (List.mem_of_getElem? (i := 204) (by decide +kernel))) (by decide +kernel)
theorem im_Md_looksToward : (Jvm.Cond.instanceMethod y_Md_looksToward) ∈ WT := wt_of (wt_5 (List.mem_of_getElem? (i := 206) (by decide +kernel))) (by decide +kernel)
theorem cd_Md_looksToward : (Jvm.Cond.code y_Md_looksToward prog_14_method_45_code (4 : Nat) (Option.none : Option Jvm.ClassFile.FieldType)) ∈ WT := wt_of (wt_5 (List.mem_of_getElem? (i := 207) (by decide +kernel))) (by decide +kernel)
theorem ml_Md_202 : (Jvm.Cond.methodLink "LanternBridgeModel" (202 : Nat) y_Md_isCloser) ∈ WT := wt_of (wt_5 (List.mem_of_getElem? (i := 208) (by decide +kernel))) (by decide +kernel)
theorem im_Md_isCloser : (Jvm.Cond.instanceMethod y_Md_isCloser) ∈ WT := wt_of (wt_5 (List.mem_of_getElem? (i := 210) (by decide +kernel))) (by decide +kernel)
theorem cd_Md_isCloser : (Jvm.Cond.code y_Md_isCloser prog_14_method_44_code (8 : Nat) (Option.some Jvm.ClassFile.FieldType.boolean)) ∈ WT := wt_of (wt_5 (List.mem_of_getElem? (i := 211) (by decide +kernel))) (by decide +kernel)
theorem ml_law_61 : (Jvm.Cond.methodLink "LanternBridgeLaw" (61 : Nat) y_Md_by) ∈ WT := wt_of (wt_5 (List.mem_of_getElem? (i := 212) (by decide +kernel))) (by decide +kernel)
theorem im_Md_by : (Jvm.Cond.instanceMethod y_Md_by) ∈ WT := wt_of (wt_5 (List.mem_of_getElem? (i := 213) (by decide +kernel))) (by decide +kernel)
theorem se_Md_Md_by__Md_by : (Jvm.Cond.selects "LanternBridgeModel" y_Md_by y_Md_by) ∈ WT := wt_of (wt_5 (List.mem_of_getElem? (i := 214) (by decide +kernel))) (by decide +kernel)
theorem cd_Md_by : (Jvm.Cond.code y_Md_by prog_14_method_46_code (6 : Nat) (Option.some Jvm.ClassFile.FieldType.int)) ∈ WT := wt_of (wt_5 (List.mem_of_getElem? (i := 215) (by decide +kernel))) (by decide +kernel)
theorem ml_law_65 : (Jvm.Cond.methodLink "LanternBridgeLaw" (65 : Nat) y_Md_quicker) ∈ WT := wt_of (wt_5 (List.mem_of_getElem? (i := 216) (by decide +kernel))) (by decide +kernel)
theorem im_Md_quicker : (Jvm.Cond.instanceMethod y_Md_quicker) ∈ WT := wt_of (wt_5 (List.mem_of_getElem? (i := 217) (by decide +kernel))) (by decide +kernel)
theorem se_Md_Md_quicker__Md_quicker : (Jvm.Cond.selects "LanternBridgeModel" y_Md_quicker y_Md_quicker) ∈ WT := wt_of (wt_5 (List.mem_of_getElem? (i := 218) (by decide +kernel))) (by decide +kernel)
theorem cd_Md_quicker : (Jvm.Cond.code y_Md_quicker prog_14_method_47_code (4 : Nat) (Option.some Jvm.ClassFile.FieldType.int)) ∈ WT := wt_of (wt_5 (List.mem_of_getElem? (i := 219) (by decide +kernel))) (by decide +kernel)
theorem ml_law_69 : (Jvm.Cond.methodLink "LanternBridgeLaw" (69 : Nat) y_Md_leave) ∈ WT := wt_of (wt_5 (List.mem_of_getElem? (i := 220) (by decide +kernel))) (by decide +kernel)
theorem im_Md_leave : (Jvm.Cond.instanceMethod y_Md_leave) ∈ WT := wt_of (wt_5 (List.mem_of_getElem? (i := 221) (by decide +kernel))) (by decide +kernel)
theorem se_Md_Md_leave__Md_leave : (Jvm.Cond.selects "LanternBridgeModel" y_Md_leave y_Md_leave) ∈ WT := wt_of (wt_5 (List.mem_of_getElem? (i := 222) (by decide +kernel))) (by decide +kernel)
theorem cd_Md_leave : (Jvm.Cond.code y_Md_leave prog_14_method_48_code (5 : Nat) (Option.some Jvm.ClassFile.FieldType.int)) ∈ WT := wt_of (wt_5 (List.mem_of_getElem? (i := 223) (by decide +kernel))) (by decide +kernel)
theorem ml_law_73 : (Jvm.Cond.methodLink "LanternBridgeLaw" (73 : Nat) y_Md_rule) ∈ WT := wt_of (wt_5 (List.mem_of_getElem? (i := 224) (by decide +kernel))) (by decide +kernel)
theorem im_Md_rule : (Jvm.Cond.instanceMethod y_Md_rule) ∈ WT := wt_of (wt_5 (List.mem_of_getElem? (i := 225) (by decide +kernel))) (by decide +kernel)
theorem se_Md_Md_rule__Md_rule : (Jvm.Cond.selects "LanternBridgeModel" y_Md_rule y_Md_rule) ∈ WT := wt_of (wt_5 (List.mem_of_getElem? (i := 226) (by decide +kernel))) (by decide +kernel)
theorem cd_Md_rule : (Jvm.Cond.code y_Md_rule prog_14_method_55_code (5 : Nat) (Option.some Jvm.ClassFile.FieldType.int)) ∈ WT := wt_of (wt_5 (List.mem_of_getElem? (i := 227) (by decide +kernel))) (by decide +kernel)
theorem ml_Md_227 : (Jvm.Cond.methodLink "LanternBridgeModel" (227 : Nat) y_Md_bestRule) ∈ WT := wt_of (wt_5 (List.mem_of_getElem? (i := 228) (by decide +kernel))) (by decide +kernel)
theorem im_Md_bestRule : (Jvm.Cond.instanceMethod y_Md_bestRule) ∈ WT := wt_of (wt_5 (List.mem_of_getElem? (i := 230) (by decide +kernel))) (by decide +kernel)
theorem cd_Md_bestRule : (Jvm.Cond.code y_Md_bestRule prog_14_method_54_code (5 : Nat) (Option.some Jvm.ClassFile.FieldType.int)) ∈ WT := wt_of (wt_5 (List.mem_of_getElem? (i := 231) (by decide +kernel))) (by decide +kernel)
theorem ml_Md_224 : (Jvm.Cond.methodLink "LanternBridgeModel" (224 : Nat) y_Md_goesByRule) ∈ WT := wt_of (wt_5 (List.mem_of_getElem? (i := 232) (by decide +kernel))) (by decide +kernel)
theorem im_Md_goesByRule : (Jvm.Cond.instanceMethod y_Md_goesByRule) ∈ WT := wt_of (wt_5 (List.mem_of_getElem? (i := 234) (by decide +kernel))) (by decide +kernel)
theorem cd_Md_goesByRule : (Jvm.Cond.code y_Md_goesByRule prog_14_method_53_code (5 : Nat) (Option.some Jvm.ClassFile.FieldType.boolean)) ∈ WT := wt_of (wt_5 (List.mem_of_getElem? (i := 235) (by decide +kernel))) (by decide +kernel)
theorem ml_Md_211 : (Jvm.Cond.methodLink "LanternBridgeModel" (211 : Nat) y_Md_endOf) ∈ WT := wt_of (wt_5 (List.mem_of_getElem? (i := 236) (by decide +kernel))) (by decide +kernel)
theorem im_Md_endOf : (Jvm.Cond.instanceMethod y_Md_endOf) ∈ WT := wt_of (wt_5 (List.mem_of_getElem? (i := 238) (by decide +kernel))) (by decide +kernel)
theorem cd_Md_endOf : (Jvm.Cond.code y_Md_endOf prog_14_method_50_code (5 : Nat) (Option.some Jvm.ClassFile.FieldType.int)) ∈ WT := wt_of (wt_5 (List.mem_of_getElem? (i := 239) (by decide +kernel))) (by decide +kernel)
theorem ml_Md_205 : (Jvm.Cond.methodLink "LanternBridgeModel" (205 : Nat) y_Md_isAhead) ∈ WT := wt_of (wt_6 (List.mem_of_getElem? (i := 0) (by decide +kernel))) (by decide +kernel)
theorem im_Md_isAhead : (Jvm.Cond.instanceMethod y_Md_isAhead) ∈ WT := wt_of (wt_6 (List.mem_of_getElem? (i := 2) (by decide +kernel))) (by decide +kernel)
theorem cd_Md_isAhead : (Jvm.Cond.code y_Md_isAhead prog_14_method_49_code (3 : Nat) (Option.some Jvm.ClassFile.FieldType.boolean)) ∈ WT := wt_of (wt_6 (List.mem_of_getElem? (i := 3) (by decide +kernel))) (by decide +kernel)
theorem ml_Md_221 : (Jvm.Cond.methodLink "LanternBridgeModel" (221 : Nat) y_Md_goesBy) ∈ WT := wt_of (wt_6 (List.mem_of_getElem? (i := 4) (by decide +kernel))) (by decide +kernel)
theorem im_Md_goesBy : (Jvm.Cond.instanceMethod y_Md_goesBy) ∈ WT := wt_of (wt_6 (List.mem_of_getElem? (i := 6) (by decide +kernel))) (by decide +kernel)
theorem cd_Md_goesBy : (Jvm.Cond.code y_Md_goesBy prog_14_method_52_code (6 : Nat) (Option.some Jvm.ClassFile.FieldType.int)) ∈ WT := wt_of (wt_6 (List.mem_of_getElem? (i := 7) (by decide +kernel))) (by decide +kernel)
theorem ml_Md_208 : (Jvm.Cond.methodLink "LanternBridgeModel" (208 : Nat) y_Md_leastTwo) ∈ WT := wt_of (wt_6 (List.mem_of_getElem? (i := 8) (by decide +kernel))) (by decide +kernel)
theorem im_Md_leastTwo : (Jvm.Cond.instanceMethod y_Md_leastTwo) ∈ WT := wt_of (wt_6 (List.mem_of_getElem? (i := 10) (by decide +kernel))) (by decide +kernel)
theorem cd_Md_leastTwo : (Jvm.Cond.code y_Md_leastTwo prog_14_method_51_code (4 : Nat) (Option.some Jvm.ClassFile.FieldType.int)) ∈ WT := wt_of (wt_6 (List.mem_of_getElem? (i := 11) (by decide +kernel))) (by decide +kernel)
theorem ml_law_77 : (Jvm.Cond.methodLink "LanternBridgeLaw" (77 : Nat) y_Md_seen) ∈ WT := wt_of (wt_6 (List.mem_of_getElem? (i := 12) (by decide +kernel))) (by decide +kernel)
theorem im_Md_seen : (Jvm.Cond.instanceMethod y_Md_seen) ∈ WT := wt_of (wt_6 (List.mem_of_getElem? (i := 13) (by decide +kernel))) (by decide +kernel)
theorem se_Md_Md_seen__Md_seen : (Jvm.Cond.selects "LanternBridgeModel" y_Md_seen y_Md_seen) ∈ WT := wt_of (wt_6 (List.mem_of_getElem? (i := 14) (by decide +kernel))) (by decide +kernel)
theorem cd_Md_seen : (Jvm.Cond.code y_Md_seen prog_14_method_56_code (3 : Nat) (Option.some Jvm.ClassFile.FieldType.int)) ∈ WT := wt_of (wt_6 (List.mem_of_getElem? (i := 15) (by decide +kernel))) (by decide +kernel)
theorem ml_law_81 : (Jvm.Cond.methodLink "LanternBridgeLaw" (81 : Nat) y_Md_span) ∈ WT := wt_of (wt_6 (List.mem_of_getElem? (i := 16) (by decide +kernel))) (by decide +kernel)
theorem im_Md_span : (Jvm.Cond.instanceMethod y_Md_span) ∈ WT := wt_of (wt_6 (List.mem_of_getElem? (i := 17) (by decide +kernel))) (by decide +kernel)
theorem se_Md_Md_span__Md_span : (Jvm.Cond.selects "LanternBridgeModel" y_Md_span y_Md_span) ∈ WT := wt_of (wt_6 (List.mem_of_getElem? (i := 18) (by decide +kernel))) (by decide +kernel)
theorem cd_Md_span : (Jvm.Cond.code y_Md_span prog_14_method_59_code (7 : Nat) (Option.some Jvm.ClassFile.FieldType.int)) ∈ WT := wt_of (wt_6 (List.mem_of_getElem? (i := 19) (by decide +kernel))) (by decide +kernel)
theorem ml_Md_233 : (Jvm.Cond.methodLink "LanternBridgeModel" (233 : Nat) y_Md_makersOf) ∈ WT := wt_of (wt_6 (List.mem_of_getElem? (i := 20) (by decide +kernel))) (by decide +kernel)
theorem im_Md_makersOf : (Jvm.Cond.instanceMethod y_Md_makersOf) ∈ WT := wt_of (wt_6 (List.mem_of_getElem? (i := 22) (by decide +kernel))) (by decide +kernel)
theorem cd_Md_makersOf : (Jvm.Cond.code y_Md_makersOf prog_14_method_58_code (4 : Nat) (Option.some Jvm.ClassFile.FieldType.int)) ∈ WT := wt_of (wt_6 (List.mem_of_getElem? (i := 23) (by decide +kernel))) (by decide +kernel)
theorem ml_Md_230 : (Jvm.Cond.methodLink "LanternBridgeModel" (230 : Nat) y_Md_mostOf) ∈ WT := wt_of (wt_6 (List.mem_of_getElem? (i := 24) (by decide +kernel))) (by decide +kernel)
theorem im_Md_mostOf : (Jvm.Cond.instanceMethod y_Md_mostOf) ∈ WT := wt_of (wt_6 (List.mem_of_getElem? (i := 26) (by decide +kernel))) (by decide +kernel)
theorem cd_Md_mostOf : (Jvm.Cond.code y_Md_mostOf prog_14_method_57_code (4 : Nat) (Option.some Jvm.ClassFile.FieldType.int)) ∈ WT := wt_of (wt_6 (List.mem_of_getElem? (i := 27) (by decide +kernel))) (by decide +kernel)
theorem ml_law_86 : (Jvm.Cond.methodLink "LanternBridgeLaw" (86 : Nat) y_Md_chance) ∈ WT := wt_of (wt_6 (List.mem_of_getElem? (i := 28) (by decide +kernel))) (by decide +kernel)
theorem im_Md_chance : (Jvm.Cond.instanceMethod y_Md_chance) ∈ WT := wt_of (wt_6 (List.mem_of_getElem? (i := 29) (by decide +kernel))) (by decide +kernel)
theorem se_Md_Md_chance__Md_chance : (Jvm.Cond.selects "LanternBridgeModel" y_Md_chance y_Md_chance) ∈ WT := wt_of (wt_6 (List.mem_of_getElem? (i := 30) (by decide +kernel))) (by decide +kernel)
theorem cd_Md_chance : (Jvm.Cond.code y_Md_chance prog_14_method_61_code (8 : Nat) (Option.some Jvm.ClassFile.FieldType.long)) ∈ WT := wt_of (wt_6 (List.mem_of_getElem? (i := 31) (by decide +kernel))) (by decide +kernel)
theorem kj_Md_236 : (Jvm.Cond.constantLong "LanternBridgeModel" (236 : Nat) (-9223372036854775808 : Int64)) ∈ WT := wt_of (wt_6 (List.mem_of_getElem? (i := 32) (by decide +kernel))) (by decide +kernel)
theorem kj_Md_238 : (Jvm.Cond.constantLong "LanternBridgeModel" (238 : Nat) (10 : Int64)) ∈ WT := wt_of (wt_6 (List.mem_of_getElem? (i := 33) (by decide +kernel))) (by decide +kernel)
theorem ml_Md_240 : (Jvm.Cond.methodLink "LanternBridgeModel" (240 : Nat) y_Md_lowest) ∈ WT := wt_of (wt_6 (List.mem_of_getElem? (i := 34) (by decide +kernel))) (by decide +kernel)
theorem sm_Md_lowest : (Jvm.Cond.static y_Md_lowest) ∈ WT := wt_of (wt_6 (List.mem_of_getElem? (i := 35) (by decide +kernel))) (by decide +kernel)
theorem cd_Md_lowest : (Jvm.Cond.code y_Md_lowest prog_14_method_60_code (11 : Nat) (Option.some Jvm.ClassFile.FieldType.long)) ∈ WT := wt_of (wt_6 (List.mem_of_getElem? (i := 36) (by decide +kernel))) (by decide +kernel)
theorem ml_law_90 : (Jvm.Cond.methodLink "LanternBridgeLaw" (90 : Nat) y_Md_book) ∈ WT := wt_of (wt_6 (List.mem_of_getElem? (i := 37) (by decide +kernel))) (by decide +kernel)
theorem im_Md_book : (Jvm.Cond.instanceMethod y_Md_book) ∈ WT := wt_of (wt_6 (List.mem_of_getElem? (i := 38) (by decide +kernel))) (by decide +kernel)
theorem se_Md_Md_book__Md_book : (Jvm.Cond.selects "LanternBridgeModel" y_Md_book y_Md_book) ∈ WT := wt_of (wt_6 (List.mem_of_getElem? (i := 39) (by decide +kernel))) (by decide +kernel)
theorem cd_Md_book : (Jvm.Cond.code y_Md_book prog_14_method_62_code (2 : Nat) (Option.some Jvm.ClassFile.FieldType.int)) ∈ WT := wt_of (wt_6 (List.mem_of_getElem? (i := 40) (by decide +kernel))) (by decide +kernel)
theorem ml_law_94 : (Jvm.Cond.methodLink "LanternBridgeLaw" (94 : Nat) y_Md_looked) ∈ WT := wt_of (wt_6 (List.mem_of_getElem? (i := 41) (by decide +kernel))) (by decide +kernel)
theorem im_Md_looked : (Jvm.Cond.instanceMethod y_Md_looked) ∈ WT := wt_of (wt_6 (List.mem_of_getElem? (i := 42) (by decide +kernel))) (by decide +kernel)
theorem se_Md_Md_looked__Md_looked : (Jvm.Cond.selects "LanternBridgeModel" y_Md_looked y_Md_looked) ∈ WT := wt_of (wt_6 (List.mem_of_getElem? (i := 43) (by decide +kernel))) (by decide +kernel)
theorem cd_Md_looked : (Jvm.Cond.code y_Md_looked prog_14_method_63_code (7 : Nat) (Option.some Jvm.ClassFile.FieldType.int)) ∈ WT := wt_of (wt_6 (List.mem_of_getElem? (i := 44) (by decide +kernel))) (by decide +kernel)
theorem ml_law_98 : (Jvm.Cond.methodLink "LanternBridgeLaw" (98 : Nat) y_Md_act) ∈ WT := wt_of (wt_6 (List.mem_of_getElem? (i := 45) (by decide +kernel))) (by decide +kernel)
theorem im_Md_act : (Jvm.Cond.instanceMethod y_Md_act) ∈ WT := wt_of (wt_6 (List.mem_of_getElem? (i := 46) (by decide +kernel))) (by decide +kernel)
theorem se_Md_Md_act__Md_act : (Jvm.Cond.selects "LanternBridgeModel" y_Md_act y_Md_act) ∈ WT := wt_of (wt_6 (List.mem_of_getElem? (i := 47) (by decide +kernel))) (by decide +kernel)
theorem cd_Md_act : (Jvm.Cond.code y_Md_act prog_14_method_72_code (4 : Nat) (Option.some Jvm.ClassFile.FieldType.int)) ∈ WT := wt_of (wt_6 (List.mem_of_getElem? (i := 48) (by decide +kernel))) (by decide +kernel)
theorem ml_Md_262 : (Jvm.Cond.methodLink "LanternBridgeModel" (262 : Nat) y_Md_goesActs) ∈ WT := wt_of (wt_6 (List.mem_of_getElem? (i := 49) (by decide +kernel))) (by decide +kernel)
theorem im_Md_goesActs : (Jvm.Cond.instanceMethod y_Md_goesActs) ∈ WT := wt_of (wt_6 (List.mem_of_getElem? (i := 51) (by decide +kernel))) (by decide +kernel)
theorem cd_Md_goesActs : (Jvm.Cond.code y_Md_goesActs prog_14_method_67_code (2 : Nat) (Option.some Jvm.ClassFile.FieldType.int)) ∈ WT := wt_of (wt_6 (List.mem_of_getElem? (i := 52) (by decide +kernel))) (by decide +kernel)
theorem ml_Md_256 : (Jvm.Cond.methodLink "LanternBridgeModel" (256 : Nat) y_Md_isUnder) ∈ WT := wt_of (wt_6 (List.mem_of_getElem? (i := 53) (by decide +kernel))) (by decide +kernel)
theorem sm_Md_isUnder : (Jvm.Cond.static y_Md_isUnder) ∈ WT := wt_of (wt_6 (List.mem_of_getElem? (i := 54) (by decide +kernel))) (by decide +kernel)
theorem cd_Md_isUnder : (Jvm.Cond.code y_Md_isUnder prog_14_method_65_code (2 : Nat) (Option.some Jvm.ClassFile.FieldType.boolean)) ∈ WT := wt_of (wt_6 (List.mem_of_getElem? (i := 55) (by decide +kernel))) (by decide +kernel)
theorem ml_Md_247 : (Jvm.Cond.methodLink "LanternBridgeModel" (247 : Nat) y_Md_ranBody) ∈ WT := wt_of (wt_6 (List.mem_of_getElem? (i := 56) (by decide +kernel))) (by decide +kernel)
theorem im_Md_ranBody : (Jvm.Cond.instanceMethod y_Md_ranBody) ∈ WT := wt_of (wt_6 (List.mem_of_getElem? (i := 58) (by decide +kernel))) (by decide +kernel)
theorem cd_Md_ranBody : (Jvm.Cond.code y_Md_ranBody prog_14_method_64_code (2 : Nat) (Option.none : Option Jvm.ClassFile.FieldType)) ∈ WT := wt_of (wt_6 (List.mem_of_getElem? (i := 59) (by decide +kernel))) (by decide +kernel)
theorem ml_Md_259 : (Jvm.Cond.methodLink "LanternBridgeModel" (259 : Nat) y_Md_plainGoes) ∈ WT := wt_of (wt_6 (List.mem_of_getElem? (i := 60) (by decide +kernel))) (by decide +kernel)
theorem im_Md_plainGoes : (Jvm.Cond.instanceMethod y_Md_plainGoes) ∈ WT := wt_of (wt_6 (List.mem_of_getElem? (i := 62) (by decide +kernel))) (by decide +kernel)
theorem cd_Md_plainGoes : (Jvm.Cond.code y_Md_plainGoes prog_14_method_66_code (2 : Nat) (Option.some Jvm.ClassFile.FieldType.int)) ∈ WT := wt_of (wt_6 (List.mem_of_getElem? (i := 63) (by decide +kernel))) (by decide +kernel)
theorem ml_Md_271 : (Jvm.Cond.methodLink "LanternBridgeModel" (271 : Nat) y_Md_waitsActs) ∈ WT := wt_of (wt_6 (List.mem_of_getElem? (i := 64) (by decide +kernel))) (by decide +kernel)
theorem im_Md_waitsActs : (Jvm.Cond.instanceMethod y_Md_waitsActs) ∈ WT := wt_of (wt_6 (List.mem_of_getElem? (i := 66) (by decide +kernel))) (by decide +kernel)
theorem cd_Md_waitsActs : (Jvm.Cond.code y_Md_waitsActs prog_14_method_69_code (2 : Nat) (Option.some Jvm.ClassFile.FieldType.int)) ∈ WT := wt_of (wt_6 (List.mem_of_getElem? (i := 67) (by decide +kernel))) (by decide +kernel)
theorem ml_Md_268 : (Jvm.Cond.methodLink "LanternBridgeModel" (268 : Nat) y_Md_plainWaits) ∈ WT := wt_of (wt_6 (List.mem_of_getElem? (i := 68) (by decide +kernel))) (by decide +kernel)
theorem im_Md_plainWaits : (Jvm.Cond.instanceMethod y_Md_plainWaits) ∈ WT := wt_of (wt_6 (List.mem_of_getElem? (i := 70) (by decide +kernel))) (by decide +kernel)
theorem cd_Md_plainWaits : (Jvm.Cond.code y_Md_plainWaits prog_14_method_68_code (2 : Nat) (Option.some Jvm.ClassFile.FieldType.int)) ∈ WT := wt_of (wt_6 (List.mem_of_getElem? (i := 71) (by decide +kernel))) (by decide +kernel)
theorem ml_Md_277 : (Jvm.Cond.methodLink "LanternBridgeModel" (277 : Nat) y_Md_tellsActs) ∈ WT := wt_of (wt_6 (List.mem_of_getElem? (i := 72) (by decide +kernel))) (by decide +kernel)
theorem im_Md_tellsActs : (Jvm.Cond.instanceMethod y_Md_tellsActs) ∈ WT := wt_of (wt_6 (List.mem_of_getElem? (i := 74) (by decide +kernel))) (by decide +kernel)
theorem cd_Md_tellsActs : (Jvm.Cond.code y_Md_tellsActs prog_14_method_71_code (3 : Nat) (Option.some Jvm.ClassFile.FieldType.int)) ∈ WT := wt_of (wt_6 (List.mem_of_getElem? (i := 75) (by decide +kernel))) (by decide +kernel)
theorem ml_Md_274 : (Jvm.Cond.methodLink "LanternBridgeModel" (274 : Nat) y_Md_plainTells) ∈ WT := wt_of (wt_6 (List.mem_of_getElem? (i := 76) (by decide +kernel))) (by decide +kernel)
theorem im_Md_plainTells : (Jvm.Cond.instanceMethod y_Md_plainTells) ∈ WT := wt_of (wt_6 (List.mem_of_getElem? (i := 78) (by decide +kernel))) (by decide +kernel)
theorem cd_Md_plainTells : (Jvm.Cond.code y_Md_plainTells prog_14_method_70_code (2 : Nat) (Option.some Jvm.ClassFile.FieldType.int)) ∈ WT := wt_of (wt_6 (List.mem_of_getElem? (i := 79) (by decide +kernel))) (by decide +kernel)
theorem ml_law_102 : (Jvm.Cond.methodLink "LanternBridgeLaw" (102 : Nat) y_Md_trace) ∈ WT := wt_of (wt_6 (List.mem_of_getElem? (i := 80) (by decide +kernel))) (by decide +kernel)
theorem im_Md_trace : (Jvm.Cond.instanceMethod y_Md_trace) ∈ WT := wt_of (wt_6 (List.mem_of_getElem? (i := 81) (by decide +kernel))) (by decide +kernel)
theorem se_Md_Md_trace__Md_trace : (Jvm.Cond.selects "LanternBridgeModel" y_Md_trace y_Md_trace) ∈ WT := wt_of (wt_6 (List.mem_of_getElem? (i := 82) (by decide +kernel))) (by decide +kernel)
theorem cd_Md_trace : (Jvm.Cond.code y_Md_trace prog_14_method_73_code (2 : Nat) (Option.some Jvm.ClassFile.FieldType.int)) ∈ WT := wt_of (wt_6 (List.mem_of_getElem? (i := 83) (by decide +kernel))) (by decide +kernel)
theorem ml_law_106 : (Jvm.Cond.methodLink "LanternBridgeLaw" (106 : Nat) y_Md_as) ∈ WT := wt_of (wt_6 (List.mem_of_getElem? (i := 84) (by decide +kernel))) (by decide +kernel)
theorem im_Md_as : (Jvm.Cond.instanceMethod y_Md_as) ∈ WT := wt_of (wt_6 (List.mem_of_getElem? (i := 85) (by decide +kernel))) (by decide +kernel)
theorem se_Md_Md_as__Md_as : (Jvm.Cond.selects "LanternBridgeModel" y_Md_as y_Md_as) ∈ WT := wt_of (wt_6 (List.mem_of_getElem? (i := 86) (by decide +kernel))) (by decide +kernel)
theorem cd_Md_as : (Jvm.Cond.code y_Md_as prog_14_method_74_code (3 : Nat) (Option.some Jvm.ClassFile.FieldType.int)) ∈ WT := wt_of (wt_6 (List.mem_of_getElem? (i := 87) (by decide +kernel))) (by decide +kernel)
theorem ml_law_110 : (Jvm.Cond.methodLink "LanternBridgeLaw" (110 : Nat) y_Md_image) ∈ WT := wt_of (wt_6 (List.mem_of_getElem? (i := 88) (by decide +kernel))) (by decide +kernel)
theorem im_Md_image : (Jvm.Cond.instanceMethod y_Md_image) ∈ WT := wt_of (wt_6 (List.mem_of_getElem? (i := 89) (by decide +kernel))) (by decide +kernel)
theorem se_Md_Md_image__Md_image : (Jvm.Cond.selects "LanternBridgeModel" y_Md_image y_Md_image) ∈ WT := wt_of (wt_6 (List.mem_of_getElem? (i := 90) (by decide +kernel))) (by decide +kernel)
theorem cd_Md_image : (Jvm.Cond.code y_Md_image prog_14_method_75_code (2 : Nat) (Option.some Jvm.ClassFile.FieldType.int)) ∈ WT := wt_of (wt_6 (List.mem_of_getElem? (i := 91) (by decide +kernel))) (by decide +kernel)
theorem ml_law_114 : (Jvm.Cond.methodLink "LanternBridgeLaw" (114 : Nat) y_Md_undo) ∈ WT := wt_of (wt_6 (List.mem_of_getElem? (i := 92) (by decide +kernel))) (by decide +kernel)
theorem im_Md_undo : (Jvm.Cond.instanceMethod y_Md_undo) ∈ WT := wt_of (wt_6 (List.mem_of_getElem? (i := 93) (by decide +kernel))) (by decide +kernel)
theorem se_Md_Md_undo__Md_undo : (Jvm.Cond.selects "LanternBridgeModel" y_Md_undo y_Md_undo) ∈ WT := wt_of (wt_6 (List.mem_of_getElem? (i := 94) (by decide +kernel))) (by decide +kernel)
theorem cd_Md_undo : (Jvm.Cond.code y_Md_undo prog_14_method_76_code (2 : Nat) (Option.some Jvm.ClassFile.FieldType.int)) ∈ WT := wt_of (wt_6 (List.mem_of_getElem? (i := 95) (by decide +kernel))) (by decide +kernel)
theorem ml_law_118 : (Jvm.Cond.methodLink "LanternBridgeLaw" (118 : Nat) y_Md_count) ∈ WT := wt_of (wt_6 (List.mem_of_getElem? (i := 96) (by decide +kernel))) (by decide +kernel)
theorem im_Md_count : (Jvm.Cond.instanceMethod y_Md_count) ∈ WT := wt_of (wt_6 (List.mem_of_getElem? (i := 97) (by decide +kernel))) (by decide +kernel)
theorem se_Md_Md_count__Md_count : (Jvm.Cond.selects "LanternBridgeModel" y_Md_count y_Md_count) ∈ WT := wt_of (wt_6 (List.mem_of_getElem? (i := 98) (by decide +kernel))) (by decide +kernel)
theorem cd_Md_count : (Jvm.Cond.code y_Md_count prog_14_method_77_code (2 : Nat) (Option.some Jvm.ClassFile.FieldType.int)) ∈ WT := wt_of (wt_6 (List.mem_of_getElem? (i := 99) (by decide +kernel))) (by decide +kernel)
theorem w6_100 : (Jvm.Cond.sameMethod "LanternBridge$Lame" "LanternBridge$Lame" "byKind" "(IIZI)I") ∈ WT := wt_of (wt_6 (List.mem_of_getElem? (i := 100) (by decide +kernel))) (by decide +kernel)
theorem w6_101 : (Jvm.Cond.sameMethod "LanternBridge$Tied" "LanternBridge$Tied" "byKind" "(IIZI)I") ∈ WT := wt_of (wt_6 (List.mem_of_getElem? (i := 101) (by decide +kernel))) (by decide +kernel)
theorem fl_String_9 : (Jvm.Cond.fieldLink "java/lang/String" (9 : Nat) "java/lang/String" "value" "[B") ∈ WT := wt_of (wt_6 (List.mem_of_getElem? (i := 111) (by decide +kernel))) (by decide +kernel)
theorem fl_String_15 : (Jvm.Cond.fieldLink "java/lang/String" (15 : Nat) "java/lang/String" "coder" "B") ∈ WT := wt_of (wt_6 (List.mem_of_getElem? (i := 112) (by decide +kernel))) (by decide +kernel)
theorem sp_Ni_take : Cond.selects "LanternBridge$Night" y_Ni_take y_Ni_take ∈ WT := wt_ofs (List.mem_of_getElem? (i := 0) (by decide +kernel)) (by decide +kernel)
theorem sp_Ni_signAt : Cond.selects "LanternBridge$Night" y_Ni_signAt y_Ni_signAt ∈ WT := wt_ofs (List.mem_of_getElem? (i := 1) (by decide +kernel)) (by decide +kernel)
theorem sp_Ni_readWord : Cond.selects "LanternBridge$Night" y_Ni_readWord y_Ni_readWord ∈ WT := wt_ofs (List.mem_of_getElem? (i := 2) (by decide +kernel)) (by decide +kernel)
theorem sp_Ni_takeAll : Cond.selects "LanternBridge$Night" y_Ni_takeAll y_Ni_takeAll ∈ WT := wt_ofs (List.mem_of_getElem? (i := 3) (by decide +kernel)) (by decide +kernel)
theorem sp_Ni_readNumber : Cond.selects "LanternBridge$Night" y_Ni_readNumber y_Ni_readNumber ∈ WT := wt_ofs (List.mem_of_getElem? (i := 4) (by decide +kernel)) (by decide +kernel)
theorem sp_Ni_readEither : Cond.selects "LanternBridge$Night" y_Ni_readEither y_Ni_readEither ∈ WT := wt_ofs (List.mem_of_getElem? (i := 5) (by decide +kernel)) (by decide +kernel)
theorem sp_Ni_readBoth : Cond.selects "LanternBridge$Night" y_Ni_readBoth y_Ni_readBoth ∈ WT := wt_ofs (List.mem_of_getElem? (i := 6) (by decide +kernel)) (by decide +kernel)
theorem sp_Ni_readSingle : Cond.selects "LanternBridge$Night" y_Ni_readSingle y_Ni_readSingle ∈ WT := wt_ofs (List.mem_of_getElem? (i := 7) (by decide +kernel)) (by decide +kernel)
theorem sp_Ni_readTest : Cond.selects "LanternBridge$Night" y_Ni_readTest y_Ni_readTest ∈ WT := wt_ofs (List.mem_of_getElem? (i := 8) (by decide +kernel)) (by decide +kernel)
theorem sp_Ni_indexIn : Cond.selects "LanternBridge$Night" y_Ni_indexIn y_Ni_indexIn ∈ WT := wt_ofs (List.mem_of_getElem? (i := 9) (by decide +kernel)) (by decide +kernel)
theorem sp_Ni_addCode : Cond.selects "LanternBridge$Night" y_Ni_addCode y_Ni_addCode ∈ WT := wt_ofs (List.mem_of_getElem? (i := 10) (by decide +kernel)) (by decide +kernel)
theorem sp_Ni_addClause : Cond.selects "LanternBridge$Night" y_Ni_addClause y_Ni_addClause ∈ WT := wt_ofs (List.mem_of_getElem? (i := 11) (by decide +kernel)) (by decide +kernel)
theorem sp_LB_refresh : Cond.selects "LanternBridge" y_LB_refresh y_LB_refresh ∈ WT := wt_ofs (List.mem_of_getElem? (i := 12) (by decide +kernel)) (by decide +kernel)
theorem sp_Go_layMinutes : Cond.selects "LanternBridge$Goings" y_Go_layMinutes y_Go_layMinutes ∈ WT := wt_ofs (List.mem_of_getElem? (i := 13) (by decide +kernel)) (by decide +kernel)
theorem sp_Go_layFacts : Cond.selects "LanternBridge$Goings" y_Go_layFacts y_Go_layFacts ∈ WT := wt_ofs (List.mem_of_getElem? (i := 14) (by decide +kernel)) (by decide +kernel)
theorem sp_Ni_holds : Cond.selects "LanternBridge$Night" y_Ni_holds y_Ni_holds ∈ WT := wt_ofs (List.mem_of_getElem? (i := 15) (by decide +kernel)) (by decide +kernel)
theorem sp_Go_goesHeavier : Cond.selects "LanternBridge$Goings" y_Go_goesHeavier y_Go_goesHeavier ∈ WT := wt_ofs (List.mem_of_getElem? (i := 16) (by decide +kernel)) (by decide +kernel)
theorem sp_Go_layCan : Cond.selects "LanternBridge$Goings" y_Go_layCan y_Go_layCan ∈ WT := wt_ofs (List.mem_of_getElem? (i := 17) (by decide +kernel)) (by decide +kernel)
theorem sp_Go_isBorne : Cond.selects "LanternBridge$Goings" y_Go_isBorne y_Go_isBorne ∈ WT := wt_ofs (List.mem_of_getElem? (i := 18) (by decide +kernel)) (by decide +kernel)
theorem sp_Go_isBarred : Cond.selects "LanternBridge$Goings" y_Go_isBarred y_Go_isBarred ∈ WT := wt_ofs (List.mem_of_getElem? (i := 19) (by decide +kernel)) (by decide +kernel)
theorem sp_LB_leastFor : Cond.selects "LanternBridge" y_LB_leastFor y_LB_leastFor ∈ WT := wt_ofs (List.mem_of_getElem? (i := 20) (by decide +kernel)) (by decide +kernel)
theorem sp_Se_settleAll : Cond.selects "LanternBridge$Search" y_Se_settleAll y_Se_settleAll ∈ WT := wt_ofs (List.mem_of_getElem? (i := 21) (by decide +kernel)) (by decide +kernel)
theorem sp_Se_leastUnsettled : Cond.selects "LanternBridge$Search" y_Se_leastUnsettled y_Se_leastUnsettled ∈ WT := wt_ofs (List.mem_of_getElem? (i := 22) (by decide +kernel)) (by decide +kernel)
theorem sp_Se_bankWithLantern : Cond.selects "LanternBridge$Search" y_Se_bankWithLantern y_Se_bankWithLantern ∈ WT := wt_ofs (List.mem_of_getElem? (i := 23) (by decide +kernel)) (by decide +kernel)
theorem sp_Go_quickestOf : Cond.selects "LanternBridge$Goings" y_Go_quickestOf y_Go_quickestOf ∈ WT := wt_ofs (List.mem_of_getElem? (i := 24) (by decide +kernel)) (by decide +kernel)
theorem sp_Go_overByRule : Cond.selects "LanternBridge$Goings" y_Go_overByRule y_Go_overByRule ∈ WT := wt_ofs (List.mem_of_getElem? (i := 25) (by decide +kernel)) (by decide +kernel)
theorem sp_Go_slowestOf : Cond.selects "LanternBridge$Goings" y_Go_slowestOf y_Go_slowestOf ∈ WT := wt_ofs (List.mem_of_getElem? (i := 26) (by decide +kernel)) (by decide +kernel)
theorem sp_Md_clauseHere : Cond.selects "LanternBridgeModel" y_Md_clauseHere y_Md_clauseHere ∈ WT := wt_ofs (List.mem_of_getElem? (i := 27) (by decide +kernel)) (by decide +kernel)
theorem sp_Md_here : Cond.selects "LanternBridgeModel" y_Md_here y_Md_here ∈ WT := wt_ofs (List.mem_of_getElem? (i := 28) (by decide +kernel)) (by decide +kernel)
theorem sp_Md_spells : Cond.selects "LanternBridgeModel" y_Md_spells y_Md_spells ∈ WT := wt_ofs (List.mem_of_getElem? (i := 29) (by decide +kernel)) (by decide +kernel)
theorem sp_Md_must : Cond.selects "LanternBridgeModel" y_Md_must y_Md_must ∈ WT := wt_ofs (List.mem_of_getElem? (i := 30) (by decide +kernel)) (by decide +kernel)
theorem sp_Md_figures : Cond.selects "LanternBridgeModel" y_Md_figures y_Md_figures ∈ WT := wt_ofs (List.mem_of_getElem? (i := 31) (by decide +kernel)) (by decide +kernel)
theorem sp_Md_some : Cond.selects "LanternBridgeModel" y_Md_some y_Md_some ∈ WT := wt_ofs (List.mem_of_getElem? (i := 32) (by decide +kernel)) (by decide +kernel)
theorem sp_Md_every : Cond.selects "LanternBridgeModel" y_Md_every y_Md_every ∈ WT := wt_ofs (List.mem_of_getElem? (i := 33) (by decide +kernel)) (by decide +kernel)
theorem sp_Md_factor : Cond.selects "LanternBridgeModel" y_Md_factor y_Md_factor ∈ WT := wt_ofs (List.mem_of_getElem? (i := 34) (by decide +kernel)) (by decide +kernel)
theorem sp_Md_emits : Cond.selects "LanternBridgeModel" y_Md_emits y_Md_emits ∈ WT := wt_ofs (List.mem_of_getElem? (i := 35) (by decide +kernel)) (by decide +kernel)
theorem sp_Md_among : Cond.selects "LanternBridgeModel" y_Md_among y_Md_among ∈ WT := wt_ofs (List.mem_of_getElem? (i := 36) (by decide +kernel)) (by decide +kernel)
theorem sp_Md_clauseOfB : Cond.selects "LanternBridgeModel" y_Md_clauseOfB y_Md_clauseOfB ∈ WT := wt_ofs (List.mem_of_getElem? (i := 37) (by decide +kernel)) (by decide +kernel)
theorem sp_Md_tellsHere : Cond.selects "LanternBridgeModel" y_Md_tellsHere y_Md_tellsHere ∈ WT := wt_ofs (List.mem_of_getElem? (i := 38) (by decide +kernel)) (by decide +kernel)
theorem sp_Md_isPerson : Cond.selects "LanternBridgeModel" y_Md_isPerson y_Md_isPerson ∈ WT := wt_ofs (List.mem_of_getElem? (i := 39) (by decide +kernel)) (by decide +kernel)
theorem sp_Md_tellsOf : Cond.selects "LanternBridgeModel" y_Md_tellsOf y_Md_tellsOf ∈ WT := wt_ofs (List.mem_of_getElem? (i := 40) (by decide +kernel)) (by decide +kernel)
theorem sp_Md_isSet : Cond.selects "LanternBridgeModel" y_Md_isSet y_Md_isSet ∈ WT := wt_ofs (List.mem_of_getElem? (i := 41) (by decide +kernel)) (by decide +kernel)
theorem sp_Md_all : Cond.selects "LanternBridgeModel" y_Md_all y_Md_all ∈ WT := wt_ofs (List.mem_of_getElem? (i := 42) (by decide +kernel)) (by decide +kernel)
theorem sp_Md_minutesOf : Cond.selects "LanternBridgeModel" y_Md_minutesOf y_Md_minutesOf ∈ WT := wt_ofs (List.mem_of_getElem? (i := 43) (by decide +kernel)) (by decide +kernel)
theorem sp_Md_takes : Cond.selects "LanternBridgeModel" y_Md_takes y_Md_takes ∈ WT := wt_ofs (List.mem_of_getElem? (i := 44) (by decide +kernel)) (by decide +kernel)
theorem sp_Md_looks : Cond.selects "LanternBridgeModel" y_Md_looks y_Md_looks ∈ WT := wt_ofs (List.mem_of_getElem? (i := 45) (by decide +kernel)) (by decide +kernel)
theorem sp_Md_goes : Cond.selects "LanternBridgeModel" y_Md_goes y_Md_goes ∈ WT := wt_ofs (List.mem_of_getElem? (i := 46) (by decide +kernel)) (by decide +kernel)
theorem sp_Md_canGo : Cond.selects "LanternBridgeModel" y_Md_canGo y_Md_canGo ∈ WT := wt_ofs (List.mem_of_getElem? (i := 47) (by decide +kernel)) (by decide +kernel)
theorem sp_Md_now : Cond.selects "LanternBridgeModel" y_Md_now y_Md_now ∈ WT := wt_ofs (List.mem_of_getElem? (i := 48) (by decide +kernel)) (by decide +kernel)
theorem sp_Md_leastFrom : Cond.selects "LanternBridgeModel" y_Md_leastFrom y_Md_leastFrom ∈ WT := wt_ofs (List.mem_of_getElem? (i := 49) (by decide +kernel)) (by decide +kernel)
theorem sp_Md_looksForCosts : Cond.selects "LanternBridgeModel" y_Md_looksForCosts y_Md_looksForCosts ∈ WT := wt_ofs (List.mem_of_getElem? (i := 50) (by decide +kernel)) (by decide +kernel)
theorem sp_Md_looksFrom : Cond.selects "LanternBridgeModel" y_Md_looksFrom y_Md_looksFrom ∈ WT := wt_ofs (List.mem_of_getElem? (i := 51) (by decide +kernel)) (by decide +kernel)
theorem sp_Md_comesCloser : Cond.selects "LanternBridgeModel" y_Md_comesCloser y_Md_comesCloser ∈ WT := wt_ofs (List.mem_of_getElem? (i := 52) (by decide +kernel)) (by decide +kernel)
theorem sp_Md_leastOf : Cond.selects "LanternBridgeModel" y_Md_leastOf y_Md_leastOf ∈ WT := wt_ofs (List.mem_of_getElem? (i := 53) (by decide +kernel)) (by decide +kernel)
theorem sp_Md_looksToward : Cond.selects "LanternBridgeModel" y_Md_looksToward y_Md_looksToward ∈ WT := wt_ofs (List.mem_of_getElem? (i := 54) (by decide +kernel)) (by decide +kernel)
theorem sp_Md_isCloser : Cond.selects "LanternBridgeModel" y_Md_isCloser y_Md_isCloser ∈ WT := wt_ofs (List.mem_of_getElem? (i := 55) (by decide +kernel)) (by decide +kernel)
theorem sp_Md_bestRule : Cond.selects "LanternBridgeModel" y_Md_bestRule y_Md_bestRule ∈ WT := wt_ofs (List.mem_of_getElem? (i := 56) (by decide +kernel)) (by decide +kernel)
theorem sp_Md_goesByRule : Cond.selects "LanternBridgeModel" y_Md_goesByRule y_Md_goesByRule ∈ WT := wt_ofs (List.mem_of_getElem? (i := 57) (by decide +kernel)) (by decide +kernel)
theorem sp_Md_endOf : Cond.selects "LanternBridgeModel" y_Md_endOf y_Md_endOf ∈ WT := wt_ofs (List.mem_of_getElem? (i := 58) (by decide +kernel)) (by decide +kernel)
theorem sp_Md_isAhead : Cond.selects "LanternBridgeModel" y_Md_isAhead y_Md_isAhead ∈ WT := wt_ofs (List.mem_of_getElem? (i := 59) (by decide +kernel)) (by decide +kernel)
theorem sp_Md_goesBy : Cond.selects "LanternBridgeModel" y_Md_goesBy y_Md_goesBy ∈ WT := wt_ofs (List.mem_of_getElem? (i := 60) (by decide +kernel)) (by decide +kernel)
theorem sp_Md_leastTwo : Cond.selects "LanternBridgeModel" y_Md_leastTwo y_Md_leastTwo ∈ WT := wt_ofs (List.mem_of_getElem? (i := 61) (by decide +kernel)) (by decide +kernel)
theorem sp_Md_makersOf : Cond.selects "LanternBridgeModel" y_Md_makersOf y_Md_makersOf ∈ WT := wt_ofs (List.mem_of_getElem? (i := 62) (by decide +kernel)) (by decide +kernel)
theorem sp_Md_mostOf : Cond.selects "LanternBridgeModel" y_Md_mostOf y_Md_mostOf ∈ WT := wt_ofs (List.mem_of_getElem? (i := 63) (by decide +kernel)) (by decide +kernel)
theorem sp_Md_goesActs : Cond.selects "LanternBridgeModel" y_Md_goesActs y_Md_goesActs ∈ WT := wt_ofs (List.mem_of_getElem? (i := 64) (by decide +kernel)) (by decide +kernel)
theorem sp_Md_ranBody : Cond.selects "LanternBridgeModel" y_Md_ranBody y_Md_ranBody ∈ WT := wt_ofs (List.mem_of_getElem? (i := 65) (by decide +kernel)) (by decide +kernel)
theorem sp_Md_plainGoes : Cond.selects "LanternBridgeModel" y_Md_plainGoes y_Md_plainGoes ∈ WT := wt_ofs (List.mem_of_getElem? (i := 66) (by decide +kernel)) (by decide +kernel)
theorem sp_Md_waitsActs : Cond.selects "LanternBridgeModel" y_Md_waitsActs y_Md_waitsActs ∈ WT := wt_ofs (List.mem_of_getElem? (i := 67) (by decide +kernel)) (by decide +kernel)
theorem sp_Md_plainWaits : Cond.selects "LanternBridgeModel" y_Md_plainWaits y_Md_plainWaits ∈ WT := wt_ofs (List.mem_of_getElem? (i := 68) (by decide +kernel)) (by decide +kernel)
theorem sp_Md_tellsActs : Cond.selects "LanternBridgeModel" y_Md_tellsActs y_Md_tellsActs ∈ WT := wt_ofs (List.mem_of_getElem? (i := 69) (by decide +kernel)) (by decide +kernel)
theorem sp_Md_plainTells : Cond.selects "LanternBridgeModel" y_Md_plainTells y_Md_plainTells ∈ WT := wt_ofs (List.mem_of_getElem? (i := 70) (by decide +kernel)) (by decide +kernel)
end
section
/-! ===== the texts: 12 String constants ===== -/
def lenS : List Nat := [4, 5, 3, 3, 5, 6, 3, 5, 3, 5, 6, 4]
def bytS : List (List Int32) := [[115, 108, 111, 119], [104, 101, 97, 118, 121], [111, 105, 108], [98, 97, 114], [98, 101, 97, 114, 115], [112, 107, 119, 110, 98, 113], [60, 61, 62], [115, 108, 111, 119, 32], [97, 114, 32], [101, 97, 114, 115, 32], [104, 101, 97, 118, 121, 32], [111, 105, 108, 32]]
def tL : List (String × Nat × String × Nat) := [("LanternBridge$Night", 82, "slow", 0), ("LanternBridge$Night", 88, "heavy", 1), ("LanternBridge$Night", 89, "oil", 2), ("LanternBridge$Night", 90, "bar", 3), ("LanternBridge$Night", 92, "bears", 4), ("LanternBridge$Night", 116, "pkwnbq", 5), ("LanternBridge$Night", 122, "<=>", 6), ("LanternBridgeModel", 119, "slow ", 7), ("LanternBridgeModel", 93, "pkwnbq", 5), ("LanternBridgeModel", 99, "<=>", 6), ("LanternBridgeModel", 111, "ar ", 8), ("LanternBridgeModel", 113, "ears ", 9), ("LanternBridgeModel", 124, "heavy ", 10), ("LanternBridgeModel", 126, "oil ", 11)]
def tR (adK : Nat → Nat) (U : State) : Prop := ∀ q ∈ tL, vk_R q.1 q.2.1 q.2.2.1 (adK q.2.2.2) U
def tS (adK adV : Nat → Nat) (A : Nat → Prop) (U : State) (H : Heap) : Prop := vk_S 12 lenS bytS adK adV A U H ∧ va_Z "java/lang/String" "COMPACT_STRINGS" "Z" (.int 1) A U H ∧ va_Zq "jdk/internal/util/Preconditions" "SIOOBE_FORMATTER" "Ljava/util/function/BiFunction;" A U H
theorem tR.warm {adK : Nat → Nat} {s U : State} (hW : s.WarmedH U.vm) (h : tR adK s) : tR adK U := fun q hq => (h q hq).warm hW
theorem tR.same {adK : Nat → Nat} {u U : State} (hv : U.vm = u.vm) (h : tR adK u) : tR adK U := fun q hq => (h q hq).same hv
theorem tS.moved {adK adV : Nat → Nat} {A : Nat → Prop} {u U : State} {H : Heap} (hvm : u.vm.Alike U.vm) (h : tS adK adV A u H) : tS adK adV A U H := ⟨h.1.moved hvm, h.2.1.moved hvm, h.2.2.moved hvm⟩
theorem tS.kept {adK adV : Nat → Nat} {A : Nat → Prop} {U : State} {H H1 : Heap} (h : tS adK adV A U H) (hq : ∀ a : Nat, a < H.size → ¬ A a → H1[a]? = H[a]?) : tS adK adV A U H1 := ⟨h.1.kept hq, h.2.1.kept hq, h.2.2.kept hq⟩
theorem tS.narrow {adK adV : Nat → Nat} {A B : Nat → Prop} {U : State} {H : Heap} (h : tS adK adV A U H) (hAB : ∀ q, B q → A q) : tS adK adV B U H := ⟨h.1.narrow hAB, h.2.1.narrow hAB, h.2.2.narrow hAB⟩
/-- length and char of a text -/
def sLen (i : Nat) : Int32 := nI (lenS.getD i 0)
def sCh (i k : Nat) : Int32 := (bytS.getD i []).getD k 0
end
section
/-! ===== the model: its world, its state (I: scalar fields by slot, R: arrays by the slot of their field) ===== -/
def mX (ad : Nat → Nat) (cI cZ : ClassId) (I : Nat → Int32) (R : Nat → Nat → Int32) : va_W :=
  [(ad 0, .inr (12, [.int (I 0), .ref (ad 1), .ref (ad 2), .int (I 3), .int (I 4), .int (I 5), .int (I 6), .int (I 7), .int (I 8), .ref (ad 9), .ref (ad 10), .int (I 11), .int (I 12), .ref (ad 13), .ref (ad 14), .ref (ad 15), .ref (ad 16), .int (I 17), .int (I 18), .ref (ad 19), .int (I 20), .int (I 21), .int (I 22), .int (I 23)])),
   (ad 1, .inl (cI, 890, .inl (R 1))),
   (ad 2, .inl (cI, 890, .inl (R 2))),
   (ad 9, .inl (cI, 6, .inl (R 9))),
   (ad 10, .inl (cZ, 64, .inl (R 10))),
   (ad 13, .inl (cI, 128, .inl (R 13))),
   (ad 14, .inl (cI, 128, .inl (R 14))),
   (ad 15, .inl (cI, 128, .inl (R 15))),
   (ad 16, .inl (cI, 128, .inl (R 16))),
   (ad 19, .inl (cI, 20, .inl (R 19)))]
def mK (dC : Nat → ClassId) (dI : Nat → Nat → Nat) (cI cZ : ClassId) (U : State) : Prop := va_K (dC, dI) CL [(cI, .int), (cZ, .boolean)] U
/-- what stands fast in a walk -/
def mC (p : Program) (s : State) (m : MethodId) (args : Array Value) (c : Code) (cc : ByteArray) (nL : Nat) (dC : Nat → ClassId) (dI : Nat → Nat → Nat) (cI cZ : ClassId) (A : Nat → Prop) (adK adV : Nat → Nat) : Prop := p.tables.exec = Jvm.exec ∧ c.code = cc ∧ c.maxLocals = nL ∧ s.vm.findClass R_Md = some m.cls ∧ (∀ w ∈ WT, w.before args s = true) ∧ mK dC dI cI cZ s ∧ tS adK adV A s s.heap ∧ tR adK s
def mH (A : Nat → Prop) (H0 : Heap) (dC : Nat → ClassId) (dI : Nat → Nat → Nat) (ad : Nat → Nat) (cI cZ : ClassId) (I : Nat → Int32) (R : Nat → Nat → Int32) (H : Heap) (locs : List Loc) : Prop := va_P (dC, dI) CL (mX ad cI cZ I R) H ∧ va_D A (mX ad cI cZ I R) ∧ va_S A H0 H locs
abbrev isZ (x : Int32) : Prop := x = 0 ∨ x = 1
abbrev ix (i : Int32) (n : Nat) : Prop := ¬ (i < 0 ∨ n ≤ i.toNatClampNeg)
theorem isZ_nar {x : Int32} (h : isZ x) : narrow .boolean (.int x) = .int x := by rcases h with rfl | rfl <;> decide +kernel
theorem isZ_fit {x : Int32} (h : isZ x) : fits .boolean (.int x) = true := by rcases h with rfl | rfl <;> decide +kernel
def upR (R : Nat → Nat → Int32) (k j : Nat) (x : Int32) : Nat → Nat → Int32 := va_up R k (upd (R k) j x)
abbrev MU : Type := (Nat → Int32) × (Nat → Nat → Int32)
def rL (d : Nat) : Room := { frames := d, cells := 0, slots := 0, locals := 40 * d }
section MR
variable {p : Program} {l : Launch} {e : Env} {Rm : Room} {s : State} {m : MethodId} {args : Array Value} {below : List Frame} {meth : Method} {c : Code} {H : Heap} {locs : List Loc} {cells slots : Nat} {Q : State → Prop} {cc : ByteArray} {nL pc : Nat} {ls : Array Slot} {rest : List Value} {dC : Nat → ClassId} {dI : Nat → Nat → Nat} {ad : Nat → Nat} {cI cZ : ClassId} {I : Nat → Int32} {R : Nat → Nat → Int32} {A : Nat → Prop} {H0 : Heap} {adK adV : Nat → Nat}
theorem mg_1 (C : mC p s m args c cc nL dC dI cI cZ A adK adV) (h : mH A H0 dC dI ad cI cZ I R H locs) (hdg : decode cc pc = .ok (.getfield 9, 3)) (kk : W p l e Rm s m args below meth c H locs cells slots Q (F0 m (pc + 3) ls (.ref (ad 1) :: rest))) : W p l e Rm s m args below meth c H locs cells slots Q (F0 m pc ls (.ref (ad 0) :: rest)) :=
  va_get (D := (dC, dI)) (ci := 12) (v := .ref (ad 1)) (C := R_Md) (T := F_Md) (N := 24) C.1 C.2.1 C.2.2.2.2.1 uw_Md C.2.2.2.1 C.2.2.2.2.2.1 h.1 0 rfl rfl 1 (by decide) (C.2.2.2.2.1 _ fl_Md_9) (fun _ h9 => h9) rfl hdg kk
theorem mg_2 (C : mC p s m args c cc nL dC dI cI cZ A adK adV) (h : mH A H0 dC dI ad cI cZ I R H locs) (hdg : decode cc pc = .ok (.getfield 15, 3)) (kk : W p l e Rm s m args below meth c H locs cells slots Q (F0 m (pc + 3) ls (.ref (ad 2) :: rest))) : W p l e Rm s m args below meth c H locs cells slots Q (F0 m pc ls (.ref (ad 0) :: rest)) :=
  va_get (D := (dC, dI)) (ci := 12) (v := .ref (ad 2)) (C := R_Md) (T := F_Md) (N := 24) C.1 C.2.1 C.2.2.2.2.1 uw_Md C.2.2.2.1 C.2.2.2.2.2.1 h.1 0 rfl rfl 2 (by decide) (C.2.2.2.2.1 _ fl_Md_15) (fun _ h9 => h9) rfl hdg kk
theorem mg_3 (C : mC p s m args c cc nL dC dI cI cZ A adK adV) (h : mH A H0 dC dI ad cI cZ I R H locs) (hdg : decode cc pc = .ok (.getfield 280, 3)) (kk : W p l e Rm s m args below meth c H locs cells slots Q (F0 m (pc + 3) ls (.int (I 3) :: rest))) : W p l e Rm s m args below meth c H locs cells slots Q (F0 m pc ls (.ref (ad 0) :: rest)) :=
  va_get (D := (dC, dI)) (ci := 12) (v := .int (I 3)) (C := R_Md) (T := F_Md) (N := 24) C.1 C.2.1 C.2.2.2.2.1 uw_Md C.2.2.2.1 C.2.2.2.2.2.1 h.1 0 rfl rfl 3 (by decide) (C.2.2.2.2.1 _ fl_Md_280) (fun _ h9 => h9) rfl hdg kk
theorem mp_3 (C : mC p s m args c cc nL dC dI cI cZ A adK adV) (h : mH A H0 dC dI ad cI cZ I R H locs) {x : Int32} (hz : isZ x) (hdg : decode cc pc = .ok (.putfield 280, 3)) (kk : ∀ (H1 : Heap) (locs1 : List Loc), mH A H0 dC dI ad cI cZ (upd I 3 x) R H1 locs1 → W p l e Rm s m args below meth c H1 locs1 cells slots Q (F0 m (pc + 3) ls rest)) : W p l e Rm s m args below meth c H locs cells slots Q (F0 m pc ls (.int x :: .ref (ad 0) :: rest)) :=
  va_put (D := (dC, dI)) (ci := 12) (v := .int x) (ty := .boolean) (C := R_Md) (T := F_Md) (N := 24) C.1 C.2.1 C.2.2.2.2.1 uw_Md ty_Md ok_Md nm_Md C.2.2.2.1 C.2.2.2.2.2.1 h.1 h.2.1 h.2.2 0 rfl rfl 3 (by decide) (C.2.2.2.2.1 _ fl_Md_280) (fun _ h9 => h9) rfl (by decide +kernel) (isZ_nar hz) (isZ_fit hz) (Nat.le_of_ble_eq_true rfl) hdg (fun H1 locs1 a1 a2 a3 => kk H1 locs1 ⟨a1, a2, a3⟩)
theorem mg_4 (C : mC p s m args c cc nL dC dI cI cZ A adK adV) (h : mH A H0 dC dI ad cI cZ I R H locs) (hdg : decode cc pc = .ok (.getfield 78, 3)) (kk : W p l e Rm s m args below meth c H locs cells slots Q (F0 m (pc + 3) ls (.int (I 4) :: rest))) : W p l e Rm s m args below meth c H locs cells slots Q (F0 m pc ls (.ref (ad 0) :: rest)) :=
  va_get (D := (dC, dI)) (ci := 12) (v := .int (I 4)) (C := R_Md) (T := F_Md) (N := 24) C.1 C.2.1 C.2.2.2.2.1 uw_Md C.2.2.2.1 C.2.2.2.2.2.1 h.1 0 rfl rfl 4 (by decide) (C.2.2.2.2.1 _ fl_Md_78) (fun _ h9 => h9) rfl hdg kk
theorem mp_4 (C : mC p s m args c cc nL dC dI cI cZ A adK adV) (h : mH A H0 dC dI ad cI cZ I R H locs) {x : Int32} (hdg : decode cc pc = .ok (.putfield 78, 3)) (kk : ∀ (H1 : Heap) (locs1 : List Loc), mH A H0 dC dI ad cI cZ (upd I 4 x) R H1 locs1 → W p l e Rm s m args below meth c H1 locs1 cells slots Q (F0 m (pc + 3) ls rest)) : W p l e Rm s m args below meth c H locs cells slots Q (F0 m pc ls (.int x :: .ref (ad 0) :: rest)) :=
  va_put (D := (dC, dI)) (ci := 12) (v := .int x) (ty := .int) (C := R_Md) (T := F_Md) (N := 24) C.1 C.2.1 C.2.2.2.2.1 uw_Md ty_Md ok_Md nm_Md C.2.2.2.1 C.2.2.2.2.2.1 h.1 h.2.1 h.2.2 0 rfl rfl 4 (by decide) (C.2.2.2.2.1 _ fl_Md_78) (fun _ h9 => h9) rfl (by decide +kernel) rfl rfl (Nat.le_of_ble_eq_true rfl) hdg (fun H1 locs1 a1 a2 a3 => kk H1 locs1 ⟨a1, a2, a3⟩)
theorem mg_5 (C : mC p s m args c cc nL dC dI cI cZ A adK adV) (h : mH A H0 dC dI ad cI cZ I R H locs) (hdg : decode cc pc = .ok (.getfield 52, 3)) (kk : W p l e Rm s m args below meth c H locs cells slots Q (F0 m (pc + 3) ls (.int (I 5) :: rest))) : W p l e Rm s m args below meth c H locs cells slots Q (F0 m pc ls (.ref (ad 0) :: rest)) :=
  va_get (D := (dC, dI)) (ci := 12) (v := .int (I 5)) (C := R_Md) (T := F_Md) (N := 24) C.1 C.2.1 C.2.2.2.2.1 uw_Md C.2.2.2.1 C.2.2.2.2.2.1 h.1 0 rfl rfl 5 (by decide) (C.2.2.2.2.1 _ fl_Md_52) (fun _ h9 => h9) rfl hdg kk
theorem mp_5 (C : mC p s m args c cc nL dC dI cI cZ A adK adV) (h : mH A H0 dC dI ad cI cZ I R H locs) {x : Int32} (hdg : decode cc pc = .ok (.putfield 52, 3)) (kk : ∀ (H1 : Heap) (locs1 : List Loc), mH A H0 dC dI ad cI cZ (upd I 5 x) R H1 locs1 → W p l e Rm s m args below meth c H1 locs1 cells slots Q (F0 m (pc + 3) ls rest)) : W p l e Rm s m args below meth c H locs cells slots Q (F0 m pc ls (.int x :: .ref (ad 0) :: rest)) :=
  va_put (D := (dC, dI)) (ci := 12) (v := .int x) (ty := .int) (C := R_Md) (T := F_Md) (N := 24) C.1 C.2.1 C.2.2.2.2.1 uw_Md ty_Md ok_Md nm_Md C.2.2.2.1 C.2.2.2.2.2.1 h.1 h.2.1 h.2.2 0 rfl rfl 5 (by decide) (C.2.2.2.2.1 _ fl_Md_52) (fun _ h9 => h9) rfl (by decide +kernel) rfl rfl (Nat.le_of_ble_eq_true rfl) hdg (fun H1 locs1 a1 a2 a3 => kk H1 locs1 ⟨a1, a2, a3⟩)
theorem mg_6 (C : mC p s m args c cc nL dC dI cI cZ A adK adV) (h : mH A H0 dC dI ad cI cZ I R H locs) (hdg : decode cc pc = .ok (.getfield 55, 3)) (kk : W p l e Rm s m args below meth c H locs cells slots Q (F0 m (pc + 3) ls (.int (I 6) :: rest))) : W p l e Rm s m args below meth c H locs cells slots Q (F0 m pc ls (.ref (ad 0) :: rest)) :=
  va_get (D := (dC, dI)) (ci := 12) (v := .int (I 6)) (C := R_Md) (T := F_Md) (N := 24) C.1 C.2.1 C.2.2.2.2.1 uw_Md C.2.2.2.1 C.2.2.2.2.2.1 h.1 0 rfl rfl 6 (by decide) (C.2.2.2.2.1 _ fl_Md_55) (fun _ h9 => h9) rfl hdg kk
theorem mp_6 (C : mC p s m args c cc nL dC dI cI cZ A adK adV) (h : mH A H0 dC dI ad cI cZ I R H locs) {x : Int32} (hdg : decode cc pc = .ok (.putfield 55, 3)) (kk : ∀ (H1 : Heap) (locs1 : List Loc), mH A H0 dC dI ad cI cZ (upd I 6 x) R H1 locs1 → W p l e Rm s m args below meth c H1 locs1 cells slots Q (F0 m (pc + 3) ls rest)) : W p l e Rm s m args below meth c H locs cells slots Q (F0 m pc ls (.int x :: .ref (ad 0) :: rest)) :=
  va_put (D := (dC, dI)) (ci := 12) (v := .int x) (ty := .int) (C := R_Md) (T := F_Md) (N := 24) C.1 C.2.1 C.2.2.2.2.1 uw_Md ty_Md ok_Md nm_Md C.2.2.2.1 C.2.2.2.2.2.1 h.1 h.2.1 h.2.2 0 rfl rfl 6 (by decide) (C.2.2.2.2.1 _ fl_Md_55) (fun _ h9 => h9) rfl (by decide +kernel) rfl rfl (Nat.le_of_ble_eq_true rfl) hdg (fun H1 locs1 a1 a2 a3 => kk H1 locs1 ⟨a1, a2, a3⟩)
theorem mg_7 (C : mC p s m args c cc nL dC dI cI cZ A adK adV) (h : mH A H0 dC dI ad cI cZ I R H locs) (hdg : decode cc pc = .ok (.getfield 58, 3)) (kk : W p l e Rm s m args below meth c H locs cells slots Q (F0 m (pc + 3) ls (.int (I 7) :: rest))) : W p l e Rm s m args below meth c H locs cells slots Q (F0 m pc ls (.ref (ad 0) :: rest)) :=
  va_get (D := (dC, dI)) (ci := 12) (v := .int (I 7)) (C := R_Md) (T := F_Md) (N := 24) C.1 C.2.1 C.2.2.2.2.1 uw_Md C.2.2.2.1 C.2.2.2.2.2.1 h.1 0 rfl rfl 7 (by decide) (C.2.2.2.2.1 _ fl_Md_58) (fun _ h9 => h9) rfl hdg kk
theorem mp_7 (C : mC p s m args c cc nL dC dI cI cZ A adK adV) (h : mH A H0 dC dI ad cI cZ I R H locs) {x : Int32} (hz : isZ x) (hdg : decode cc pc = .ok (.putfield 58, 3)) (kk : ∀ (H1 : Heap) (locs1 : List Loc), mH A H0 dC dI ad cI cZ (upd I 7 x) R H1 locs1 → W p l e Rm s m args below meth c H1 locs1 cells slots Q (F0 m (pc + 3) ls rest)) : W p l e Rm s m args below meth c H locs cells slots Q (F0 m pc ls (.int x :: .ref (ad 0) :: rest)) :=
  va_put (D := (dC, dI)) (ci := 12) (v := .int x) (ty := .boolean) (C := R_Md) (T := F_Md) (N := 24) C.1 C.2.1 C.2.2.2.2.1 uw_Md ty_Md ok_Md nm_Md C.2.2.2.1 C.2.2.2.2.2.1 h.1 h.2.1 h.2.2 0 rfl rfl 7 (by decide) (C.2.2.2.2.1 _ fl_Md_58) (fun _ h9 => h9) rfl (by decide +kernel) (isZ_nar hz) (isZ_fit hz) (Nat.le_of_ble_eq_true rfl) hdg (fun H1 locs1 a1 a2 a3 => kk H1 locs1 ⟨a1, a2, a3⟩)
theorem mg_8 (C : mC p s m args c cc nL dC dI cI cZ A adK adV) (h : mH A H0 dC dI ad cI cZ I R H locs) (hdg : decode cc pc = .ok (.getfield 81, 3)) (kk : W p l e Rm s m args below meth c H locs cells slots Q (F0 m (pc + 3) ls (.int (I 8) :: rest))) : W p l e Rm s m args below meth c H locs cells slots Q (F0 m pc ls (.ref (ad 0) :: rest)) :=
  va_get (D := (dC, dI)) (ci := 12) (v := .int (I 8)) (C := R_Md) (T := F_Md) (N := 24) C.1 C.2.1 C.2.2.2.2.1 uw_Md C.2.2.2.1 C.2.2.2.2.2.1 h.1 0 rfl rfl 8 (by decide) (C.2.2.2.2.1 _ fl_Md_81) (fun _ h9 => h9) rfl hdg kk
theorem mp_8 (C : mC p s m args c cc nL dC dI cI cZ A adK adV) (h : mH A H0 dC dI ad cI cZ I R H locs) {x : Int32} (hdg : decode cc pc = .ok (.putfield 81, 3)) (kk : ∀ (H1 : Heap) (locs1 : List Loc), mH A H0 dC dI ad cI cZ (upd I 8 x) R H1 locs1 → W p l e Rm s m args below meth c H1 locs1 cells slots Q (F0 m (pc + 3) ls rest)) : W p l e Rm s m args below meth c H locs cells slots Q (F0 m pc ls (.int x :: .ref (ad 0) :: rest)) :=
  va_put (D := (dC, dI)) (ci := 12) (v := .int x) (ty := .int) (C := R_Md) (T := F_Md) (N := 24) C.1 C.2.1 C.2.2.2.2.1 uw_Md ty_Md ok_Md nm_Md C.2.2.2.1 C.2.2.2.2.2.1 h.1 h.2.1 h.2.2 0 rfl rfl 8 (by decide) (C.2.2.2.2.1 _ fl_Md_81) (fun _ h9 => h9) rfl (by decide +kernel) rfl rfl (Nat.le_of_ble_eq_true rfl) hdg (fun H1 locs1 a1 a2 a3 => kk H1 locs1 ⟨a1, a2, a3⟩)
theorem mg_9 (C : mC p s m args c cc nL dC dI cI cZ A adK adV) (h : mH A H0 dC dI ad cI cZ I R H locs) (hdg : decode cc pc = .ok (.getfield 18, 3)) (kk : W p l e Rm s m args below meth c H locs cells slots Q (F0 m (pc + 3) ls (.ref (ad 9) :: rest))) : W p l e Rm s m args below meth c H locs cells slots Q (F0 m pc ls (.ref (ad 0) :: rest)) :=
  va_get (D := (dC, dI)) (ci := 12) (v := .ref (ad 9)) (C := R_Md) (T := F_Md) (N := 24) C.1 C.2.1 C.2.2.2.2.1 uw_Md C.2.2.2.1 C.2.2.2.2.2.1 h.1 0 rfl rfl 9 (by decide) (C.2.2.2.2.1 _ fl_Md_18) (fun _ h9 => h9) rfl hdg kk
theorem mg_10 (C : mC p s m args c cc nL dC dI cI cZ A adK adV) (h : mH A H0 dC dI ad cI cZ I R H locs) (hdg : decode cc pc = .ok (.getfield 21, 3)) (kk : W p l e Rm s m args below meth c H locs cells slots Q (F0 m (pc + 3) ls (.ref (ad 10) :: rest))) : W p l e Rm s m args below meth c H locs cells slots Q (F0 m pc ls (.ref (ad 0) :: rest)) :=
  va_get (D := (dC, dI)) (ci := 12) (v := .ref (ad 10)) (C := R_Md) (T := F_Md) (N := 24) C.1 C.2.1 C.2.2.2.2.1 uw_Md C.2.2.2.1 C.2.2.2.2.2.1 h.1 0 rfl rfl 10 (by decide) (C.2.2.2.2.1 _ fl_Md_21) (fun _ h9 => h9) rfl hdg kk
theorem mg_11 (C : mC p s m args c cc nL dC dI cI cZ A adK adV) (h : mH A H0 dC dI ad cI cZ I R H locs) (hdg : decode cc pc = .ok (.getfield 143, 3)) (kk : W p l e Rm s m args below meth c H locs cells slots Q (F0 m (pc + 3) ls (.int (I 11) :: rest))) : W p l e Rm s m args below meth c H locs cells slots Q (F0 m pc ls (.ref (ad 0) :: rest)) :=
  va_get (D := (dC, dI)) (ci := 12) (v := .int (I 11)) (C := R_Md) (T := F_Md) (N := 24) C.1 C.2.1 C.2.2.2.2.1 uw_Md C.2.2.2.1 C.2.2.2.2.2.1 h.1 0 rfl rfl 11 (by decide) (C.2.2.2.2.1 _ fl_Md_143) (fun _ h9 => h9) rfl hdg kk
theorem mp_11 (C : mC p s m args c cc nL dC dI cI cZ A adK adV) (h : mH A H0 dC dI ad cI cZ I R H locs) {x : Int32} (hdg : decode cc pc = .ok (.putfield 143, 3)) (kk : ∀ (H1 : Heap) (locs1 : List Loc), mH A H0 dC dI ad cI cZ (upd I 11 x) R H1 locs1 → W p l e Rm s m args below meth c H1 locs1 cells slots Q (F0 m (pc + 3) ls rest)) : W p l e Rm s m args below meth c H locs cells slots Q (F0 m pc ls (.int x :: .ref (ad 0) :: rest)) :=
  va_put (D := (dC, dI)) (ci := 12) (v := .int x) (ty := .int) (C := R_Md) (T := F_Md) (N := 24) C.1 C.2.1 C.2.2.2.2.1 uw_Md ty_Md ok_Md nm_Md C.2.2.2.1 C.2.2.2.2.2.1 h.1 h.2.1 h.2.2 0 rfl rfl 11 (by decide) (C.2.2.2.2.1 _ fl_Md_143) (fun _ h9 => h9) rfl (by decide +kernel) rfl rfl (Nat.le_of_ble_eq_true rfl) hdg (fun H1 locs1 a1 a2 a3 => kk H1 locs1 ⟨a1, a2, a3⟩)
theorem mg_12 (C : mC p s m args c cc nL dC dI cI cZ A adK adV) (h : mH A H0 dC dI ad cI cZ I R H locs) (hdg : decode cc pc = .ok (.getfield 146, 3)) (kk : W p l e Rm s m args below meth c H locs cells slots Q (F0 m (pc + 3) ls (.int (I 12) :: rest))) : W p l e Rm s m args below meth c H locs cells slots Q (F0 m pc ls (.ref (ad 0) :: rest)) :=
  va_get (D := (dC, dI)) (ci := 12) (v := .int (I 12)) (C := R_Md) (T := F_Md) (N := 24) C.1 C.2.1 C.2.2.2.2.1 uw_Md C.2.2.2.1 C.2.2.2.2.2.1 h.1 0 rfl rfl 12 (by decide) (C.2.2.2.2.1 _ fl_Md_146) (fun _ h9 => h9) rfl hdg kk
theorem mp_12 (C : mC p s m args c cc nL dC dI cI cZ A adK adV) (h : mH A H0 dC dI ad cI cZ I R H locs) {x : Int32} (hz : isZ x) (hdg : decode cc pc = .ok (.putfield 146, 3)) (kk : ∀ (H1 : Heap) (locs1 : List Loc), mH A H0 dC dI ad cI cZ (upd I 12 x) R H1 locs1 → W p l e Rm s m args below meth c H1 locs1 cells slots Q (F0 m (pc + 3) ls rest)) : W p l e Rm s m args below meth c H locs cells slots Q (F0 m pc ls (.int x :: .ref (ad 0) :: rest)) :=
  va_put (D := (dC, dI)) (ci := 12) (v := .int x) (ty := .boolean) (C := R_Md) (T := F_Md) (N := 24) C.1 C.2.1 C.2.2.2.2.1 uw_Md ty_Md ok_Md nm_Md C.2.2.2.1 C.2.2.2.2.2.1 h.1 h.2.1 h.2.2 0 rfl rfl 12 (by decide) (C.2.2.2.2.1 _ fl_Md_146) (fun _ h9 => h9) rfl (by decide +kernel) (isZ_nar hz) (isZ_fit hz) (Nat.le_of_ble_eq_true rfl) hdg (fun H1 locs1 a1 a2 a3 => kk H1 locs1 ⟨a1, a2, a3⟩)
theorem mg_13 (C : mC p s m args c cc nL dC dI cI cZ A adK adV) (h : mH A H0 dC dI ad cI cZ I R H locs) (hdg : decode cc pc = .ok (.getfield 25, 3)) (kk : W p l e Rm s m args below meth c H locs cells slots Q (F0 m (pc + 3) ls (.ref (ad 13) :: rest))) : W p l e Rm s m args below meth c H locs cells slots Q (F0 m pc ls (.ref (ad 0) :: rest)) :=
  va_get (D := (dC, dI)) (ci := 12) (v := .ref (ad 13)) (C := R_Md) (T := F_Md) (N := 24) C.1 C.2.1 C.2.2.2.2.1 uw_Md C.2.2.2.1 C.2.2.2.2.2.1 h.1 0 rfl rfl 13 (by decide) (C.2.2.2.2.1 _ fl_Md_25) (fun _ h9 => h9) rfl hdg kk
theorem mg_14 (C : mC p s m args c cc nL dC dI cI cZ A adK adV) (h : mH A H0 dC dI ad cI cZ I R H locs) (hdg : decode cc pc = .ok (.getfield 28, 3)) (kk : W p l e Rm s m args below meth c H locs cells slots Q (F0 m (pc + 3) ls (.ref (ad 14) :: rest))) : W p l e Rm s m args below meth c H locs cells slots Q (F0 m pc ls (.ref (ad 0) :: rest)) :=
  va_get (D := (dC, dI)) (ci := 12) (v := .ref (ad 14)) (C := R_Md) (T := F_Md) (N := 24) C.1 C.2.1 C.2.2.2.2.1 uw_Md C.2.2.2.1 C.2.2.2.2.2.1 h.1 0 rfl rfl 14 (by decide) (C.2.2.2.2.1 _ fl_Md_28) (fun _ h9 => h9) rfl hdg kk
theorem mg_15 (C : mC p s m args c cc nL dC dI cI cZ A adK adV) (h : mH A H0 dC dI ad cI cZ I R H locs) (hdg : decode cc pc = .ok (.getfield 31, 3)) (kk : W p l e Rm s m args below meth c H locs cells slots Q (F0 m (pc + 3) ls (.ref (ad 15) :: rest))) : W p l e Rm s m args below meth c H locs cells slots Q (F0 m pc ls (.ref (ad 0) :: rest)) :=
  va_get (D := (dC, dI)) (ci := 12) (v := .ref (ad 15)) (C := R_Md) (T := F_Md) (N := 24) C.1 C.2.1 C.2.2.2.2.1 uw_Md C.2.2.2.1 C.2.2.2.2.2.1 h.1 0 rfl rfl 15 (by decide) (C.2.2.2.2.1 _ fl_Md_31) (fun _ h9 => h9) rfl hdg kk
theorem mg_16 (C : mC p s m args c cc nL dC dI cI cZ A adK adV) (h : mH A H0 dC dI ad cI cZ I R H locs) (hdg : decode cc pc = .ok (.getfield 34, 3)) (kk : W p l e Rm s m args below meth c H locs cells slots Q (F0 m (pc + 3) ls (.ref (ad 16) :: rest))) : W p l e Rm s m args below meth c H locs cells slots Q (F0 m pc ls (.ref (ad 0) :: rest)) :=
  va_get (D := (dC, dI)) (ci := 12) (v := .ref (ad 16)) (C := R_Md) (T := F_Md) (N := 24) C.1 C.2.1 C.2.2.2.2.1 uw_Md C.2.2.2.1 C.2.2.2.2.2.1 h.1 0 rfl rfl 16 (by decide) (C.2.2.2.2.1 _ fl_Md_34) (fun _ h9 => h9) rfl hdg kk
theorem mg_17 (C : mC p s m args c cc nL dC dI cI cZ A adK adV) (h : mH A H0 dC dI ad cI cZ I R H locs) (hdg : decode cc pc = .ok (.getfield 215, 3)) (kk : W p l e Rm s m args below meth c H locs cells slots Q (F0 m (pc + 3) ls (.int (I 17) :: rest))) : W p l e Rm s m args below meth c H locs cells slots Q (F0 m pc ls (.ref (ad 0) :: rest)) :=
  va_get (D := (dC, dI)) (ci := 12) (v := .int (I 17)) (C := R_Md) (T := F_Md) (N := 24) C.1 C.2.1 C.2.2.2.2.1 uw_Md C.2.2.2.1 C.2.2.2.2.2.1 h.1 0 rfl rfl 17 (by decide) (C.2.2.2.2.1 _ fl_Md_215) (fun _ h9 => h9) rfl hdg kk
theorem mp_17 (C : mC p s m args c cc nL dC dI cI cZ A adK adV) (h : mH A H0 dC dI ad cI cZ I R H locs) {x : Int32} (hdg : decode cc pc = .ok (.putfield 215, 3)) (kk : ∀ (H1 : Heap) (locs1 : List Loc), mH A H0 dC dI ad cI cZ (upd I 17 x) R H1 locs1 → W p l e Rm s m args below meth c H1 locs1 cells slots Q (F0 m (pc + 3) ls rest)) : W p l e Rm s m args below meth c H locs cells slots Q (F0 m pc ls (.int x :: .ref (ad 0) :: rest)) :=
  va_put (D := (dC, dI)) (ci := 12) (v := .int x) (ty := .int) (C := R_Md) (T := F_Md) (N := 24) C.1 C.2.1 C.2.2.2.2.1 uw_Md ty_Md ok_Md nm_Md C.2.2.2.1 C.2.2.2.2.2.1 h.1 h.2.1 h.2.2 0 rfl rfl 17 (by decide) (C.2.2.2.2.1 _ fl_Md_215) (fun _ h9 => h9) rfl (by decide +kernel) rfl rfl (Nat.le_of_ble_eq_true rfl) hdg (fun H1 locs1 a1 a2 a3 => kk H1 locs1 ⟨a1, a2, a3⟩)
theorem mg_18 (C : mC p s m args c cc nL dC dI cI cZ A adK adV) (h : mH A H0 dC dI ad cI cZ I R H locs) (hdg : decode cc pc = .ok (.getfield 218, 3)) (kk : W p l e Rm s m args below meth c H locs cells slots Q (F0 m (pc + 3) ls (.int (I 18) :: rest))) : W p l e Rm s m args below meth c H locs cells slots Q (F0 m pc ls (.ref (ad 0) :: rest)) :=
  va_get (D := (dC, dI)) (ci := 12) (v := .int (I 18)) (C := R_Md) (T := F_Md) (N := 24) C.1 C.2.1 C.2.2.2.2.1 uw_Md C.2.2.2.1 C.2.2.2.2.2.1 h.1 0 rfl rfl 18 (by decide) (C.2.2.2.2.1 _ fl_Md_218) (fun _ h9 => h9) rfl hdg kk
theorem mp_18 (C : mC p s m args c cc nL dC dI cI cZ A adK adV) (h : mH A H0 dC dI ad cI cZ I R H locs) {x : Int32} (hdg : decode cc pc = .ok (.putfield 218, 3)) (kk : ∀ (H1 : Heap) (locs1 : List Loc), mH A H0 dC dI ad cI cZ (upd I 18 x) R H1 locs1 → W p l e Rm s m args below meth c H1 locs1 cells slots Q (F0 m (pc + 3) ls rest)) : W p l e Rm s m args below meth c H locs cells slots Q (F0 m pc ls (.int x :: .ref (ad 0) :: rest)) :=
  va_put (D := (dC, dI)) (ci := 12) (v := .int x) (ty := .int) (C := R_Md) (T := F_Md) (N := 24) C.1 C.2.1 C.2.2.2.2.1 uw_Md ty_Md ok_Md nm_Md C.2.2.2.1 C.2.2.2.2.2.1 h.1 h.2.1 h.2.2 0 rfl rfl 18 (by decide) (C.2.2.2.2.1 _ fl_Md_218) (fun _ h9 => h9) rfl (by decide +kernel) rfl rfl (Nat.le_of_ble_eq_true rfl) hdg (fun H1 locs1 a1 a2 a3 => kk H1 locs1 ⟨a1, a2, a3⟩)
theorem mg_19 (C : mC p s m args c cc nL dC dI cI cZ A adK adV) (h : mH A H0 dC dI ad cI cZ I R H locs) (hdg : decode cc pc = .ok (.getfield 37, 3)) (kk : W p l e Rm s m args below meth c H locs cells slots Q (F0 m (pc + 3) ls (.ref (ad 19) :: rest))) : W p l e Rm s m args below meth c H locs cells slots Q (F0 m pc ls (.ref (ad 0) :: rest)) :=
  va_get (D := (dC, dI)) (ci := 12) (v := .ref (ad 19)) (C := R_Md) (T := F_Md) (N := 24) C.1 C.2.1 C.2.2.2.2.1 uw_Md C.2.2.2.1 C.2.2.2.2.2.1 h.1 0 rfl rfl 19 (by decide) (C.2.2.2.2.1 _ fl_Md_37) (fun _ h9 => h9) rfl hdg kk
theorem mg_20 (C : mC p s m args c cc nL dC dI cI cZ A adK adV) (h : mH A H0 dC dI ad cI cZ I R H locs) (hdg : decode cc pc = .ok (.getfield 244, 3)) (kk : W p l e Rm s m args below meth c H locs cells slots Q (F0 m (pc + 3) ls (.int (I 20) :: rest))) : W p l e Rm s m args below meth c H locs cells slots Q (F0 m pc ls (.ref (ad 0) :: rest)) :=
  va_get (D := (dC, dI)) (ci := 12) (v := .int (I 20)) (C := R_Md) (T := F_Md) (N := 24) C.1 C.2.1 C.2.2.2.2.1 uw_Md C.2.2.2.1 C.2.2.2.2.2.1 h.1 0 rfl rfl 20 (by decide) (C.2.2.2.2.1 _ fl_Md_244) (fun _ h9 => h9) rfl hdg kk
theorem mp_20 (C : mC p s m args c cc nL dC dI cI cZ A adK adV) (h : mH A H0 dC dI ad cI cZ I R H locs) {x : Int32} (hdg : decode cc pc = .ok (.putfield 244, 3)) (kk : ∀ (H1 : Heap) (locs1 : List Loc), mH A H0 dC dI ad cI cZ (upd I 20 x) R H1 locs1 → W p l e Rm s m args below meth c H1 locs1 cells slots Q (F0 m (pc + 3) ls rest)) : W p l e Rm s m args below meth c H locs cells slots Q (F0 m pc ls (.int x :: .ref (ad 0) :: rest)) :=
  va_put (D := (dC, dI)) (ci := 12) (v := .int x) (ty := .int) (C := R_Md) (T := F_Md) (N := 24) C.1 C.2.1 C.2.2.2.2.1 uw_Md ty_Md ok_Md nm_Md C.2.2.2.1 C.2.2.2.2.2.1 h.1 h.2.1 h.2.2 0 rfl rfl 20 (by decide) (C.2.2.2.2.1 _ fl_Md_244) (fun _ h9 => h9) rfl (by decide +kernel) rfl rfl (Nat.le_of_ble_eq_true rfl) hdg (fun H1 locs1 a1 a2 a3 => kk H1 locs1 ⟨a1, a2, a3⟩)
theorem mg_21 (C : mC p s m args c cc nL dC dI cI cZ A adK adV) (h : mH A H0 dC dI ad cI cZ I R H locs) (hdg : decode cc pc = .ok (.getfield 253, 3)) (kk : W p l e Rm s m args below meth c H locs cells slots Q (F0 m (pc + 3) ls (.int (I 21) :: rest))) : W p l e Rm s m args below meth c H locs cells slots Q (F0 m pc ls (.ref (ad 0) :: rest)) :=
  va_get (D := (dC, dI)) (ci := 12) (v := .int (I 21)) (C := R_Md) (T := F_Md) (N := 24) C.1 C.2.1 C.2.2.2.2.1 uw_Md C.2.2.2.1 C.2.2.2.2.2.1 h.1 0 rfl rfl 21 (by decide) (C.2.2.2.2.1 _ fl_Md_253) (fun _ h9 => h9) rfl hdg kk
theorem mp_21 (C : mC p s m args c cc nL dC dI cI cZ A adK adV) (h : mH A H0 dC dI ad cI cZ I R H locs) {x : Int32} (hdg : decode cc pc = .ok (.putfield 253, 3)) (kk : ∀ (H1 : Heap) (locs1 : List Loc), mH A H0 dC dI ad cI cZ (upd I 21 x) R H1 locs1 → W p l e Rm s m args below meth c H1 locs1 cells slots Q (F0 m (pc + 3) ls rest)) : W p l e Rm s m args below meth c H locs cells slots Q (F0 m pc ls (.int x :: .ref (ad 0) :: rest)) :=
  va_put (D := (dC, dI)) (ci := 12) (v := .int x) (ty := .int) (C := R_Md) (T := F_Md) (N := 24) C.1 C.2.1 C.2.2.2.2.1 uw_Md ty_Md ok_Md nm_Md C.2.2.2.1 C.2.2.2.2.2.1 h.1 h.2.1 h.2.2 0 rfl rfl 21 (by decide) (C.2.2.2.2.1 _ fl_Md_253) (fun _ h9 => h9) rfl (by decide +kernel) rfl rfl (Nat.le_of_ble_eq_true rfl) hdg (fun H1 locs1 a1 a2 a3 => kk H1 locs1 ⟨a1, a2, a3⟩)
theorem mg_22 (C : mC p s m args c cc nL dC dI cI cZ A adK adV) (h : mH A H0 dC dI ad cI cZ I R H locs) (hdg : decode cc pc = .ok (.getfield 250, 3)) (kk : W p l e Rm s m args below meth c H locs cells slots Q (F0 m (pc + 3) ls (.int (I 22) :: rest))) : W p l e Rm s m args below meth c H locs cells slots Q (F0 m pc ls (.ref (ad 0) :: rest)) :=
  va_get (D := (dC, dI)) (ci := 12) (v := .int (I 22)) (C := R_Md) (T := F_Md) (N := 24) C.1 C.2.1 C.2.2.2.2.1 uw_Md C.2.2.2.1 C.2.2.2.2.2.1 h.1 0 rfl rfl 22 (by decide) (C.2.2.2.2.1 _ fl_Md_250) (fun _ h9 => h9) rfl hdg kk
theorem mp_22 (C : mC p s m args c cc nL dC dI cI cZ A adK adV) (h : mH A H0 dC dI ad cI cZ I R H locs) {x : Int32} (hdg : decode cc pc = .ok (.putfield 250, 3)) (kk : ∀ (H1 : Heap) (locs1 : List Loc), mH A H0 dC dI ad cI cZ (upd I 22 x) R H1 locs1 → W p l e Rm s m args below meth c H1 locs1 cells slots Q (F0 m (pc + 3) ls rest)) : W p l e Rm s m args below meth c H locs cells slots Q (F0 m pc ls (.int x :: .ref (ad 0) :: rest)) :=
  va_put (D := (dC, dI)) (ci := 12) (v := .int x) (ty := .int) (C := R_Md) (T := F_Md) (N := 24) C.1 C.2.1 C.2.2.2.2.1 uw_Md ty_Md ok_Md nm_Md C.2.2.2.1 C.2.2.2.2.2.1 h.1 h.2.1 h.2.2 0 rfl rfl 22 (by decide) (C.2.2.2.2.1 _ fl_Md_250) (fun _ h9 => h9) rfl (by decide +kernel) rfl rfl (Nat.le_of_ble_eq_true rfl) hdg (fun H1 locs1 a1 a2 a3 => kk H1 locs1 ⟨a1, a2, a3⟩)
theorem mg_23 (C : mC p s m args c cc nL dC dI cI cZ A adK adV) (h : mH A H0 dC dI ad cI cZ I R H locs) (hdg : decode cc pc = .ok (.getfield 265, 3)) (kk : W p l e Rm s m args below meth c H locs cells slots Q (F0 m (pc + 3) ls (.int (I 23) :: rest))) : W p l e Rm s m args below meth c H locs cells slots Q (F0 m pc ls (.ref (ad 0) :: rest)) :=
  va_get (D := (dC, dI)) (ci := 12) (v := .int (I 23)) (C := R_Md) (T := F_Md) (N := 24) C.1 C.2.1 C.2.2.2.2.1 uw_Md C.2.2.2.1 C.2.2.2.2.2.1 h.1 0 rfl rfl 23 (by decide) (C.2.2.2.2.1 _ fl_Md_265) (fun _ h9 => h9) rfl hdg kk
theorem mp_23 (C : mC p s m args c cc nL dC dI cI cZ A adK adV) (h : mH A H0 dC dI ad cI cZ I R H locs) {x : Int32} (hdg : decode cc pc = .ok (.putfield 265, 3)) (kk : ∀ (H1 : Heap) (locs1 : List Loc), mH A H0 dC dI ad cI cZ (upd I 23 x) R H1 locs1 → W p l e Rm s m args below meth c H1 locs1 cells slots Q (F0 m (pc + 3) ls rest)) : W p l e Rm s m args below meth c H locs cells slots Q (F0 m pc ls (.int x :: .ref (ad 0) :: rest)) :=
  va_put (D := (dC, dI)) (ci := 12) (v := .int x) (ty := .int) (C := R_Md) (T := F_Md) (N := 24) C.1 C.2.1 C.2.2.2.2.1 uw_Md ty_Md ok_Md nm_Md C.2.2.2.1 C.2.2.2.2.2.1 h.1 h.2.1 h.2.2 0 rfl rfl 23 (by decide) (C.2.2.2.2.1 _ fl_Md_265) (fun _ h9 => h9) rfl (by decide +kernel) rfl rfl (Nat.le_of_ble_eq_true rfl) hdg (fun H1 locs1 a1 a2 a3 => kk H1 locs1 ⟨a1, a2, a3⟩)
theorem ma_1 (C : mC p s m args c cc nL dC dI cI cZ A adK adV) (h : mH A H0 dC dI ad cI cZ I R H locs) {i : Int32} {j : Nat} (hj : i.toNatClampNeg = j) (hin : vp_in i 890) (hdg : decode cc pc = .ok (.iaload, 1)) (kk : W p l e Rm s m args below meth c H locs cells slots Q (F0 m (pc + 1) ls (.int (R 1 j) :: rest))) : W p l e Rm s m args below meth c H locs cells slots Q (F0 m pc ls (.int i :: .ref (ad 1) :: rest)) :=
  by subst hj; exact va_iald C.1 C.2.1 C.2.2.2.2.2.1 h.1 1 0 rfl rfl hin hdg kk
theorem ms_1 (C : mC p s m args c cc nL dC dI cI cZ A adK adV) (h : mH A H0 dC dI ad cI cZ I R H locs) {i x : Int32} {j : Nat} (hj : i.toNatClampNeg = j) (hin : vp_in i 890) (hdg : decode cc pc = .ok (.iastore, 1)) (kk : ∀ (H1 : Heap) (locs1 : List Loc), mH A H0 dC dI ad cI cZ I (upR R 1 j x) H1 locs1 → W p l e Rm s m args below meth c H1 locs1 cells slots Q (F0 m (pc + 1) ls rest)) : W p l e Rm s m args below meth c H locs cells slots Q (F0 m pc ls (.int x :: .int i :: .ref (ad 1) :: rest)) :=
  by subst hj; exact va_iast C.1 C.2.1 C.2.2.2.2.2.1 h.1 h.2.1 h.2.2 1 0 rfl rfl hin hdg (fun H1 locs1 a1 a2 a3 => kk H1 locs1 ⟨a1, a2, a3⟩)
theorem ma_2 (C : mC p s m args c cc nL dC dI cI cZ A adK adV) (h : mH A H0 dC dI ad cI cZ I R H locs) {i : Int32} {j : Nat} (hj : i.toNatClampNeg = j) (hin : vp_in i 890) (hdg : decode cc pc = .ok (.iaload, 1)) (kk : W p l e Rm s m args below meth c H locs cells slots Q (F0 m (pc + 1) ls (.int (R 2 j) :: rest))) : W p l e Rm s m args below meth c H locs cells slots Q (F0 m pc ls (.int i :: .ref (ad 2) :: rest)) :=
  by subst hj; exact va_iald C.1 C.2.1 C.2.2.2.2.2.1 h.1 2 0 rfl rfl hin hdg kk
theorem ms_2 (C : mC p s m args c cc nL dC dI cI cZ A adK adV) (h : mH A H0 dC dI ad cI cZ I R H locs) {i x : Int32} {j : Nat} (hj : i.toNatClampNeg = j) (hin : vp_in i 890) (hdg : decode cc pc = .ok (.iastore, 1)) (kk : ∀ (H1 : Heap) (locs1 : List Loc), mH A H0 dC dI ad cI cZ I (upR R 2 j x) H1 locs1 → W p l e Rm s m args below meth c H1 locs1 cells slots Q (F0 m (pc + 1) ls rest)) : W p l e Rm s m args below meth c H locs cells slots Q (F0 m pc ls (.int x :: .int i :: .ref (ad 2) :: rest)) :=
  by subst hj; exact va_iast C.1 C.2.1 C.2.2.2.2.2.1 h.1 h.2.1 h.2.2 2 0 rfl rfl hin hdg (fun H1 locs1 a1 a2 a3 => kk H1 locs1 ⟨a1, a2, a3⟩)
theorem ma_9 (C : mC p s m args c cc nL dC dI cI cZ A adK adV) (h : mH A H0 dC dI ad cI cZ I R H locs) {i : Int32} {j : Nat} (hj : i.toNatClampNeg = j) (hin : vp_in i 6) (hdg : decode cc pc = .ok (.iaload, 1)) (kk : W p l e Rm s m args below meth c H locs cells slots Q (F0 m (pc + 1) ls (.int (R 9 j) :: rest))) : W p l e Rm s m args below meth c H locs cells slots Q (F0 m pc ls (.int i :: .ref (ad 9) :: rest)) :=
  by subst hj; exact va_iald C.1 C.2.1 C.2.2.2.2.2.1 h.1 3 0 rfl rfl hin hdg kk
theorem ms_9 (C : mC p s m args c cc nL dC dI cI cZ A adK adV) (h : mH A H0 dC dI ad cI cZ I R H locs) {i x : Int32} {j : Nat} (hj : i.toNatClampNeg = j) (hin : vp_in i 6) (hdg : decode cc pc = .ok (.iastore, 1)) (kk : ∀ (H1 : Heap) (locs1 : List Loc), mH A H0 dC dI ad cI cZ I (upR R 9 j x) H1 locs1 → W p l e Rm s m args below meth c H1 locs1 cells slots Q (F0 m (pc + 1) ls rest)) : W p l e Rm s m args below meth c H locs cells slots Q (F0 m pc ls (.int x :: .int i :: .ref (ad 9) :: rest)) :=
  by subst hj; exact va_iast C.1 C.2.1 C.2.2.2.2.2.1 h.1 h.2.1 h.2.2 3 0 rfl rfl hin hdg (fun H1 locs1 a1 a2 a3 => kk H1 locs1 ⟨a1, a2, a3⟩)
theorem ma_10 (C : mC p s m args c cc nL dC dI cI cZ A adK adV) (h : mH A H0 dC dI ad cI cZ I R H locs) {i : Int32} {j : Nat} (hj : i.toNatClampNeg = j) (hin : vp_in i 64) (hdg : decode cc pc = .ok (.baload, 1)) (kk : W p l e Rm s m args below meth c H locs cells slots Q (F0 m (pc + 1) ls (.int (R 10 j) :: rest))) : W p l e Rm s m args below meth c H locs cells slots Q (F0 m pc ls (.int i :: .ref (ad 10) :: rest)) :=
  by subst hj; exact va_zald C.1 C.2.1 C.2.2.2.2.2.1 h.1 4 1 rfl rfl hin hdg kk
theorem ms_10 (C : mC p s m args c cc nL dC dI cI cZ A adK adV) (h : mH A H0 dC dI ad cI cZ I R H locs) {i x : Int32} {j : Nat} (hj : i.toNatClampNeg = j) (hin : vp_in i 64) (hdg : decode cc pc = .ok (.bastore, 1)) (kk : ∀ (H1 : Heap) (locs1 : List Loc), mH A H0 dC dI ad cI cZ I (upR R 10 j (vp_nar .boolean x)) H1 locs1 → W p l e Rm s m args below meth c H1 locs1 cells slots Q (F0 m (pc + 1) ls rest)) : W p l e Rm s m args below meth c H locs cells slots Q (F0 m pc ls (.int x :: .int i :: .ref (ad 10) :: rest)) :=
  by subst hj; exact va_zast C.1 C.2.1 C.2.2.2.2.2.1 h.1 h.2.1 h.2.2 4 1 rfl rfl hin hdg (fun H1 locs1 a1 a2 a3 => kk H1 locs1 ⟨a1, a2, a3⟩)
theorem ma_13 (C : mC p s m args c cc nL dC dI cI cZ A adK adV) (h : mH A H0 dC dI ad cI cZ I R H locs) {i : Int32} {j : Nat} (hj : i.toNatClampNeg = j) (hin : vp_in i 128) (hdg : decode cc pc = .ok (.iaload, 1)) (kk : W p l e Rm s m args below meth c H locs cells slots Q (F0 m (pc + 1) ls (.int (R 13 j) :: rest))) : W p l e Rm s m args below meth c H locs cells slots Q (F0 m pc ls (.int i :: .ref (ad 13) :: rest)) :=
  by subst hj; exact va_iald C.1 C.2.1 C.2.2.2.2.2.1 h.1 5 0 rfl rfl hin hdg kk
theorem ms_13 (C : mC p s m args c cc nL dC dI cI cZ A adK adV) (h : mH A H0 dC dI ad cI cZ I R H locs) {i x : Int32} {j : Nat} (hj : i.toNatClampNeg = j) (hin : vp_in i 128) (hdg : decode cc pc = .ok (.iastore, 1)) (kk : ∀ (H1 : Heap) (locs1 : List Loc), mH A H0 dC dI ad cI cZ I (upR R 13 j x) H1 locs1 → W p l e Rm s m args below meth c H1 locs1 cells slots Q (F0 m (pc + 1) ls rest)) : W p l e Rm s m args below meth c H locs cells slots Q (F0 m pc ls (.int x :: .int i :: .ref (ad 13) :: rest)) :=
  by subst hj; exact va_iast C.1 C.2.1 C.2.2.2.2.2.1 h.1 h.2.1 h.2.2 5 0 rfl rfl hin hdg (fun H1 locs1 a1 a2 a3 => kk H1 locs1 ⟨a1, a2, a3⟩)
theorem ma_14 (C : mC p s m args c cc nL dC dI cI cZ A adK adV) (h : mH A H0 dC dI ad cI cZ I R H locs) {i : Int32} {j : Nat} (hj : i.toNatClampNeg = j) (hin : vp_in i 128) (hdg : decode cc pc = .ok (.iaload, 1)) (kk : W p l e Rm s m args below meth c H locs cells slots Q (F0 m (pc + 1) ls (.int (R 14 j) :: rest))) : W p l e Rm s m args below meth c H locs cells slots Q (F0 m pc ls (.int i :: .ref (ad 14) :: rest)) :=
  by subst hj; exact va_iald C.1 C.2.1 C.2.2.2.2.2.1 h.1 6 0 rfl rfl hin hdg kk
theorem ms_14 (C : mC p s m args c cc nL dC dI cI cZ A adK adV) (h : mH A H0 dC dI ad cI cZ I R H locs) {i x : Int32} {j : Nat} (hj : i.toNatClampNeg = j) (hin : vp_in i 128) (hdg : decode cc pc = .ok (.iastore, 1)) (kk : ∀ (H1 : Heap) (locs1 : List Loc), mH A H0 dC dI ad cI cZ I (upR R 14 j x) H1 locs1 → W p l e Rm s m args below meth c H1 locs1 cells slots Q (F0 m (pc + 1) ls rest)) : W p l e Rm s m args below meth c H locs cells slots Q (F0 m pc ls (.int x :: .int i :: .ref (ad 14) :: rest)) :=
  by subst hj; exact va_iast C.1 C.2.1 C.2.2.2.2.2.1 h.1 h.2.1 h.2.2 6 0 rfl rfl hin hdg (fun H1 locs1 a1 a2 a3 => kk H1 locs1 ⟨a1, a2, a3⟩)
theorem ma_15 (C : mC p s m args c cc nL dC dI cI cZ A adK adV) (h : mH A H0 dC dI ad cI cZ I R H locs) {i : Int32} {j : Nat} (hj : i.toNatClampNeg = j) (hin : vp_in i 128) (hdg : decode cc pc = .ok (.iaload, 1)) (kk : W p l e Rm s m args below meth c H locs cells slots Q (F0 m (pc + 1) ls (.int (R 15 j) :: rest))) : W p l e Rm s m args below meth c H locs cells slots Q (F0 m pc ls (.int i :: .ref (ad 15) :: rest)) :=
  by subst hj; exact va_iald C.1 C.2.1 C.2.2.2.2.2.1 h.1 7 0 rfl rfl hin hdg kk
theorem ms_15 (C : mC p s m args c cc nL dC dI cI cZ A adK adV) (h : mH A H0 dC dI ad cI cZ I R H locs) {i x : Int32} {j : Nat} (hj : i.toNatClampNeg = j) (hin : vp_in i 128) (hdg : decode cc pc = .ok (.iastore, 1)) (kk : ∀ (H1 : Heap) (locs1 : List Loc), mH A H0 dC dI ad cI cZ I (upR R 15 j x) H1 locs1 → W p l e Rm s m args below meth c H1 locs1 cells slots Q (F0 m (pc + 1) ls rest)) : W p l e Rm s m args below meth c H locs cells slots Q (F0 m pc ls (.int x :: .int i :: .ref (ad 15) :: rest)) :=
  by subst hj; exact va_iast C.1 C.2.1 C.2.2.2.2.2.1 h.1 h.2.1 h.2.2 7 0 rfl rfl hin hdg (fun H1 locs1 a1 a2 a3 => kk H1 locs1 ⟨a1, a2, a3⟩)
theorem ma_16 (C : mC p s m args c cc nL dC dI cI cZ A adK adV) (h : mH A H0 dC dI ad cI cZ I R H locs) {i : Int32} {j : Nat} (hj : i.toNatClampNeg = j) (hin : vp_in i 128) (hdg : decode cc pc = .ok (.iaload, 1)) (kk : W p l e Rm s m args below meth c H locs cells slots Q (F0 m (pc + 1) ls (.int (R 16 j) :: rest))) : W p l e Rm s m args below meth c H locs cells slots Q (F0 m pc ls (.int i :: .ref (ad 16) :: rest)) :=
  by subst hj; exact va_iald C.1 C.2.1 C.2.2.2.2.2.1 h.1 8 0 rfl rfl hin hdg kk
theorem ms_16 (C : mC p s m args c cc nL dC dI cI cZ A adK adV) (h : mH A H0 dC dI ad cI cZ I R H locs) {i x : Int32} {j : Nat} (hj : i.toNatClampNeg = j) (hin : vp_in i 128) (hdg : decode cc pc = .ok (.iastore, 1)) (kk : ∀ (H1 : Heap) (locs1 : List Loc), mH A H0 dC dI ad cI cZ I (upR R 16 j x) H1 locs1 → W p l e Rm s m args below meth c H1 locs1 cells slots Q (F0 m (pc + 1) ls rest)) : W p l e Rm s m args below meth c H locs cells slots Q (F0 m pc ls (.int x :: .int i :: .ref (ad 16) :: rest)) :=
  by subst hj; exact va_iast C.1 C.2.1 C.2.2.2.2.2.1 h.1 h.2.1 h.2.2 8 0 rfl rfl hin hdg (fun H1 locs1 a1 a2 a3 => kk H1 locs1 ⟨a1, a2, a3⟩)
theorem ma_19 (C : mC p s m args c cc nL dC dI cI cZ A adK adV) (h : mH A H0 dC dI ad cI cZ I R H locs) {i : Int32} {j : Nat} (hj : i.toNatClampNeg = j) (hin : vp_in i 20) (hdg : decode cc pc = .ok (.iaload, 1)) (kk : W p l e Rm s m args below meth c H locs cells slots Q (F0 m (pc + 1) ls (.int (R 19 j) :: rest))) : W p l e Rm s m args below meth c H locs cells slots Q (F0 m pc ls (.int i :: .ref (ad 19) :: rest)) :=
  by subst hj; exact va_iald C.1 C.2.1 C.2.2.2.2.2.1 h.1 9 0 rfl rfl hin hdg kk
theorem ms_19 (C : mC p s m args c cc nL dC dI cI cZ A adK adV) (h : mH A H0 dC dI ad cI cZ I R H locs) {i x : Int32} {j : Nat} (hj : i.toNatClampNeg = j) (hin : vp_in i 20) (hdg : decode cc pc = .ok (.iastore, 1)) (kk : ∀ (H1 : Heap) (locs1 : List Loc), mH A H0 dC dI ad cI cZ I (upR R 19 j x) H1 locs1 → W p l e Rm s m args below meth c H1 locs1 cells slots Q (F0 m (pc + 1) ls rest)) : W p l e Rm s m args below meth c H locs cells slots Q (F0 m pc ls (.int x :: .int i :: .ref (ad 19) :: rest)) :=
  by subst hj; exact va_iast C.1 C.2.1 C.2.2.2.2.2.1 h.1 h.2.1 h.2.2 9 0 rfl rfl hin hdg (fun H1 locs1 a1 a2 a3 => kk H1 locs1 ⟨a1, a2, a3⟩)
end MR
end
section
/-! ===== contracts of the model's methods: f is the pure answer; where it is 'some', the method returns it ===== -/
abbrev mPre (dC : Nat → ClassId) (dI : Nat → Nat → Nat) (ad : Nat → Nat) (cI cZ : ClassId) (adK adV : Nat → Nat) (I : Nat → Int32) (R : Nat → Nat → Int32) (sz : Nat) : State → Prop := fun U => U.heap.size = sz ∧ va_P (dC, dI) CL (mX ad cI cZ I R) U.heap ∧ mK dC dI cI cZ U ∧ va_D (fun _ => True) (mX ad cI cZ I R) ∧ tS adK adV (va_A (mX ad cI cZ I R) sz) U U.heap ∧ tR adK U
abbrev mPost (dC : Nat → ClassId) (dI : Nat → Nat → Nat) (ad : Nat → Nat) (cI cZ : ClassId) (A : Nat → Prop) : MU → State → Prop := fun u t => va_P (dC, dI) CL (mX ad cI cZ u.1 u.2) t.heap ∧ mK dC dI cI cZ t ∧ va_D A (mX ad cI cZ u.1 u.2)
def MMi (l : Launch) (y : MethodName) (b : ByteArray) (n : Nat) (ty : FieldType) (rm : Room) (As : (Nat → Nat) → (Nat → Nat) → List Value) (I : Nat → Int32) (R : Nat → Nat → Int32) (f : Option (Int32 × MU)) : Prop :=
  ∀ (z : Int32 × MU), f = some z → ∀ (dC : Nat → ClassId) (dI : Nat → Nat → Nat) (ad : Nat → Nat) (cI cZ : ClassId) (adK adV : Nat → Nat) (sz : Nat), Met l y (Cond.code y b n (some ty) :: WT) rm (va_Pc (.ref (ad 0) :: As ad adK) (mPre dC dI ad cI cZ adK adV I R sz)) (va_Qi (fun r (u : MU) => (r, u) = z) (mPost dC dI ad cI cZ (va_A (mX ad cI cZ I R) sz)) (va_A (mX ad cI cZ I R) sz)) 0 0 (va_A (mX ad cI cZ I R) sz)
def MMv (l : Launch) (y : MethodName) (b : ByteArray) (n : Nat) (rm : Room) (As : (Nat → Nat) → (Nat → Nat) → List Value) (I : Nat → Int32) (R : Nat → Nat → Int32) (f : Option MU) : Prop :=
  ∀ (z : MU), f = some z → ∀ (dC : Nat → ClassId) (dI : Nat → Nat → Nat) (ad : Nat → Nat) (cI cZ : ClassId) (adK adV : Nat → Nat) (sz : Nat), Met l y (Cond.code y b n none :: WT) rm (va_Pc (.ref (ad 0) :: As ad adK) (mPre dC dI ad cI cZ adK adV I R sz)) (va_Qv (fun (u : MU) => u = z) (mPost dC dI ad cI cZ (va_A (mX ad cI cZ I R) sz)) (va_A (mX ad cI cZ I R) sz)) 0 0 (va_A (mX ad cI cZ I R) sz)
def MMl (l : Launch) (y : MethodName) (b : ByteArray) (n : Nat) (rm : Room) (As : (Nat → Nat) → (Nat → Nat) → List Value) (I : Nat → Int32) (R : Nat → Nat → Int32) (f : Option (Int64 × MU)) : Prop :=
  ∀ (z : Int64 × MU), f = some z → ∀ (dC : Nat → ClassId) (dI : Nat → Nat → Nat) (ad : Nat → Nat) (cI cZ : ClassId) (adK adV : Nat → Nat) (sz : Nat), Met l y (Cond.code y b n (some .long) :: WT) rm (va_Pc (.ref (ad 0) :: As ad adK) (mPre dC dI ad cI cZ adK adV I R sz)) (va_Ql (fun r (u : MU) => (r, u) = z) (mPost dC dI ad cI cZ (va_A (mX ad cI cZ I R) sz)) (va_A (mX ad cI cZ I R) sz)) 0 0 (va_A (mX ad cI cZ I R) sz)
/-- static methods that touch no heap -/
def MSi (l : Launch) (y : MethodName) (b : ByteArray) (n : Nat) (ty : FieldType) (rm : Room) (As : List Value) (f : Option Int32) : Prop :=
  ∀ (z : Int32), f = some z → Met l y (Cond.code y b n (some ty) :: WT) rm (va_Pc As (fun _ => True)) (fun _ st oc t => oc = .returned (some (.int z)) ∧ t.heap = st.heap) 0 0 (fun _ => False)
def MSl (l : Launch) (y : MethodName) (b : ByteArray) (n : Nat) (rm : Room) (As : List Value) (f : Option Int64) : Prop :=
  ∀ (z : Int64), f = some z → Met l y (Cond.code y b n (some .long) :: WT) rm (va_Pc As (fun _ => True)) (fun _ st oc t => oc = .returned (some (.long z)) ∧ t.heap = st.heap) 0 0 (fun _ => False)
theorem mX_A {ad : Nat → Nat} {cI cZ : ClassId} {I I' : Nat → Int32} {R R' : Nat → Nat → Int32} {sz q : Nat} (h : va_A (mX ad cI cZ I R) sz q) : va_A (mX ad cI cZ I' R') sz q := by
  rcases h with ⟨k, e, h⟩ | h
  · rcases k with _ | _ | _ | _ | _ | _ | _ | _ | _ | _ | k
    all_goals first | (cases h; exact Or.inl ⟨_, _, rfl⟩) | skip
    · exact Or.inl ⟨0, _, by cases h; rfl⟩
    · exact Or.inl ⟨1, _, by cases h; rfl⟩
    · exact Or.inl ⟨2, _, by cases h; rfl⟩
    · exact Or.inl ⟨3, _, by cases h; rfl⟩
    · exact Or.inl ⟨4, _, by cases h; rfl⟩
    · exact Or.inl ⟨5, _, by cases h; rfl⟩
    · exact Or.inl ⟨6, _, by cases h; rfl⟩
    · exact Or.inl ⟨7, _, by cases h; rfl⟩
    · exact Or.inl ⟨8, _, by cases h; rfl⟩
    · exact Or.inl ⟨9, _, by cases h; rfl⟩
    · exact absurd h (by simp [mX])
  · exact Or.inr h
section MF
variable {p : Program} {l : Launch} {e : Env} {Rm rm : Room} {s : State} {m : MethodId} {args : Array Value} {below : List Frame} {meth : Method} {c : Code} {H : Heap} {locs : List Loc} {cells slots : Nat} {Q : State → Prop} {cc b : ByteArray} {n nL pc ix na : Nat} {ls : Array Slot} {rest st0 As : List Value} {dC : Nat → ClassId} {dI : Nat → Nat → Nat} {ad : Nat → Nat} {cI cZ : ClassId} {I : Nat → Int32} {R : Nat → Nat → Int32} {A : Nat → Prop} {H0 : Heap} {y : MethodName} {ty : FieldType} {u : MU}
/-- the words of a callee among a caller's -/
theorem goodW {y : MethodName} {b : ByteArray} {n : Nat} {r : Option FieldType} (h : Cond.code y b n r ∈ WT) : GoodIn WT (Cond.code y b n r :: WT) := fun w hw => by
  rcases List.mem_cons.mp hw with rfl | hw
  · exact ⟨h, wt_good h⟩
  · exact ⟨hw, wt_good hw⟩
theorem cbW {r : Option FieldType} {own : String} (n0 : Nat) (hT : ∀ w ∈ WT, w.before args s = true) (cd : Cond.code y b n r ∈ WT) (hrc : rm.cells = 0) (hrs : rm.slots = 0) (ini : Cond.initialized y.cls ∈ WT) (ml : Cond.methodLink own ix y ∈ WT)
    (hd : y.cls ≠ "java/lang/invoke/MethodHandle" ∧ y.cls ≠ "java/lang/invoke/VarHandle" ∧ (parseMethodDescriptor y.desc).map (fun d => d.parameters.length) = some n0) (hR : rm.frames + 1 ≤ Rm.frames ∧ 8 + (n + 11) + rm.locals ≤ Rm.locals) : CallB Rm s args own ix y b n r (Cond.code y b n r :: WT) rm 0 0 n0 :=
  callB_of n0 hT (goodW cd) rfl hrc hrs (hT _ ini) (hT _ ml) hd hR
/-- a pure static call -/
theorem ks_i {z : Int32} {own : String} (hx : p.tables.exec = Jvm.exec) (hb : c.code = cc) (hml : c.maxLocals = nL) (hown : s.vm.findClass own = some m.cls) (hT : ∀ w ∈ WT, w.before args s = true)
    (hM : Met l y (Cond.code y b n (some ty) :: WT) rm (va_Pc As (fun _ => True)) (fun _ st oc t => oc = .returned (some (.int z)) ∧ t.heap = st.heap) 0 0 (fun _ => False)) (cb : CallB Rm s args own ix y b n (some ty) (Cond.code y b n (some ty) :: WT) rm 0 0 na) (sm : Cond.static y ∈ WT)
    (hn : As.length = na) (hsz : ls.size = nL) (hst : st0 = As.reverse ++ rest) (hW : (rest.map fun v => v.category).sum ≤ 8) (hdg : decode cc pc = .ok (.invokestatic ix, 3)) (hf : cells ≤ Rm.cells ∧ slots ≤ Rm.slots)
    (kk : W p l e Rm s m args below meth c H locs cells slots Q (F0 m (pc + 3) ls (.int z :: rest))) : W p l e Rm s m args below meth c H locs cells slots Q (F0 m pc ls st0) := by
  have hr := va_runS (l := l) (e := e) (R := Rm) (below := below) (meth := meth) (H := H) (locs := locs) (cells := cells) (slots := slots) (g := F0 m pc ls st0) (rest := rest) ⟨hx, hb, hml, hown, hT⟩ hM ⟨cb, hT _ sm⟩ ⟨fun a U g mk q => q, fun U _ _ => ⟨rfl, trivial⟩⟩ rfl hn hsz hst (lv_room hW) hdg hf
  intro T hT' X
  obtain ⟨v, st₀, t, T', L, h0, X', hL, e1, e2, ⟨hv, hh⟩, st⟩ := hr T hT' X
  cases hv
  have hL0 : L = [] := List.eq_nil_iff_forall_not_mem.mpr (fun q hq => hL q hq)
  subst hL0
  rw [List.append_nil] at X'
  obtain ⟨t2, a1, b1⟩ := kk T' (by rw [e1, hh, h0]) X'
  exact ⟨t2, st t2 a1, b1⟩
theorem ks_l {z : Int64} {own : String} (hx : p.tables.exec = Jvm.exec) (hb : c.code = cc) (hml : c.maxLocals = nL) (hown : s.vm.findClass own = some m.cls) (hT : ∀ w ∈ WT, w.before args s = true)
    (hM : Met l y (Cond.code y b n (some .long) :: WT) rm (va_Pc As (fun _ => True)) (fun _ st oc t => oc = .returned (some (.long z)) ∧ t.heap = st.heap) 0 0 (fun _ => False)) (cb : CallB Rm s args own ix y b n (some .long) (Cond.code y b n (some .long) :: WT) rm 0 0 na) (sm : Cond.static y ∈ WT)
    (hn : As.length = na) (hsz : ls.size = nL) (hst : st0 = As.reverse ++ rest) (hW : (rest.map fun v => v.category).sum ≤ 8) (hdg : decode cc pc = .ok (.invokestatic ix, 3)) (hf : cells ≤ Rm.cells ∧ slots ≤ Rm.slots)
    (kk : W p l e Rm s m args below meth c H locs cells slots Q (F0 m (pc + 3) ls (.long z :: rest))) : W p l e Rm s m args below meth c H locs cells slots Q (F0 m pc ls st0) := by
  have hr := va_runS (l := l) (e := e) (R := Rm) (below := below) (meth := meth) (H := H) (locs := locs) (cells := cells) (slots := slots) (g := F0 m pc ls st0) (rest := rest) ⟨hx, hb, hml, hown, hT⟩ hM ⟨cb, hT _ sm⟩ ⟨fun a U g mk q => q, fun U _ _ => ⟨rfl, trivial⟩⟩ rfl hn hsz hst (lv_room hW) hdg hf
  intro T hT' X
  obtain ⟨v, st₀, t, T', L, h0, X', hL, e1, e2, ⟨hv, hh⟩, st⟩ := hr T hT' X
  cases hv
  have hL0 : L = [] := List.eq_nil_iff_forall_not_mem.mpr (fun q hq => hL q hq)
  subst hL0
  rw [List.append_nil] at X'
  obtain ⟨t2, a1, b1⟩ := kk T' (by rw [e1, hh, h0]) X'
  exact ⟨t2, st t2 a1, b1⟩
/-- the entry of a static pure method -/
theorem en_si {f : Option Int32} (hy : plainName y.cls = true) (hlen : (lg_sl As).length ≤ n) (body : ∀ (z : Int32), f = some z → ∀ (p : Program) (e : Env) (s : State) (m : MethodId) (args : Array Value) (below : List Frame) (meth : Method) (c : Code) (ls : Array Slot), p.tables.exec = Jvm.exec → c.code = b → c.maxLocals = n → s.vm.findClass y.cls = some m.cls → (∀ w ∈ WT, w.before args s = true) → meth.sig.returnType = some ty → meth.locks = false → lv_has ls n (lv_args 0 As) → W p l e rm s m args below meth c s.heap [] 0 0 (MQ below (fun _ st oc t => oc = .returned (some (.int z)) ∧ t.heap = st.heap) args s 0 0 (fun _ => False)) (F0 m 0 ls [])) : MSi l y b n ty rm As f := by
  intro z hz
  refine Met.ofW (cc := b) (maxL := n) (ret := some ty) hy rfl ?_
  intro p e s m args below meth c s₁ B hml hv
  obtain ⟨rfl, -⟩ := hv
  have hts := atoms_spec (ws := Cond.code y b n (some ty) :: WT) B.pre
  rw [lg_entry_eq]
  exact body z hz p e s m _ below meth c _ B.exec B.bytes hml (findClass_of_methodNamed B.named) (fun w hw => hts w (List.mem_cons_of_mem _ hw)) B.returns B.notSynchronized (lv_entry As hlen)
theorem en_sl {f : Option Int64} (hy : plainName y.cls = true) (hlen : (lg_sl As).length ≤ n) (body : ∀ (z : Int64), f = some z → ∀ (p : Program) (e : Env) (s : State) (m : MethodId) (args : Array Value) (below : List Frame) (meth : Method) (c : Code) (ls : Array Slot), p.tables.exec = Jvm.exec → c.code = b → c.maxLocals = n → s.vm.findClass y.cls = some m.cls → (∀ w ∈ WT, w.before args s = true) → meth.sig.returnType = some .long → meth.locks = false → lv_has ls n (lv_args 0 As) → W p l e rm s m args below meth c s.heap [] 0 0 (MQ below (fun _ st oc t => oc = .returned (some (.long z)) ∧ t.heap = st.heap) args s 0 0 (fun _ => False)) (F0 m 0 ls [])) : MSl l y b n rm As f := by
  intro z hz
  refine Met.ofW (cc := b) (maxL := n) (ret := some .long) hy rfl ?_
  intro p e s m args below meth c s₁ B hml hv
  obtain ⟨rfl, -⟩ := hv
  have hts := atoms_spec (ws := Cond.code y b n (some .long) :: WT) B.pre
  rw [lg_entry_eq]
  exact body z hz p e s m _ below meth c _ B.exec B.bytes hml (findClass_of_methodNamed B.named) (fun w hw => hts w (List.mem_cons_of_mem _ hw)) B.returns B.notSynchronized (lv_entry As hlen)
theorem rt_si {z : Int32} (hx : p.tables.exec = Jvm.exec) (hb : c.code = cc) (hr : meth.sig.returnType = some ty) (hlk : meth.locks = false) (hn : narrow ty (.int z) = .int z) (hdg : decode cc pc = .ok (.ireturn, 1)) : W p l e Rm s m args below meth c s.heap [] 0 0 (MQ below (fun _ st oc t => oc = .returned (some (.int z)) ∧ t.heap = st.heap) args s 0 0 (fun _ => False)) (F0 m pc ls [.int z]) :=
  W.zret hx hb hr hn (fun t ht _ => ⟨rfl, ht⟩) (fun q hq => by cases hq) hdg hlk
theorem rt_sl {z : Int64} (hx : p.tables.exec = Jvm.exec) (hb : c.code = cc) (hr : meth.sig.returnType = some .long) (hlk : meth.locks = false) (hdg : decode cc pc = .ok (.lreturn, 1)) : W p l e Rm s m args below meth c s.heap [] 0 0 (MQ below (fun _ st oc t => oc = .returned (some (.long z)) ∧ t.heap = st.heap) args s 0 0 (fun _ => False)) (F0 m pc ls [.long z]) :=
  W.lret hx hb hr (fun t ht _ => ⟨rfl, ht⟩) (fun q hq => by cases hq) hdg hlk
end MF
end
section
/-! ===== entries, ends and calls of the model's methods ===== -/
theorem op_if {α : Type} {c : Prop} [Decidable c] {x : Option α} {z : α} (h : (if c then x else none) = some z) : c ∧ x = some z := by
  by_cases hc : c
  · rw [if_pos hc] at h; exact ⟨hc, h⟩
  · rw [if_neg hc] at h; cases h
theorem op_bind {α β : Type} {x : Option α} {f : α → Option β} {z : β} (h : x.bind f = some z) : ∃ y, x = some y ∧ f y = some z := by
  cases x with
  | none => cases h
  | some y => exact ⟨y, rfl, h⟩
theorem op_t {α : Type} {c : Prop} [Decidable c] {x y z : α} (hc : c) (h : (if c then x else y) = z) : x = z := by rw [if_pos hc] at h; exact h
theorem op_f {α : Type} {c : Prop} [Decidable c] {x y z : α} (hc : ¬ c) (h : (if c then x else y) = z) : y = z := by rw [if_neg hc] at h; exact h
theorem op_i1 {α : Type} {a x : α} (h : some a = some x) : a = x := Option.some.inj h
theorem op_i2 {α0 α1 : Type} {a0 x0 : α0} {a1 x1 : α1} (h : some (a0, a1) = some (x0, x1)) : a0 = x0 ∧ a1 = x1 := by cases h; exact ⟨rfl, rfl⟩
theorem op_i3 {α0 α1 α2 : Type} {a0 x0 : α0} {a1 x1 : α1} {a2 x2 : α2} (h : some (a0, a1, a2) = some (x0, x1, x2)) : a0 = x0 ∧ a1 = x1 ∧ a2 = x2 := by cases h; exact ⟨rfl, rfl, rfl⟩
theorem op_i4 {α0 α1 α2 α3 : Type} {a0 x0 : α0} {a1 x1 : α1} {a2 x2 : α2} {a3 x3 : α3} (h : some (a0, a1, a2, a3) = some (x0, x1, x2, x3)) : a0 = x0 ∧ a1 = x1 ∧ a2 = x2 ∧ a3 = x3 := by cases h; exact ⟨rfl, rfl, rfl, rfl⟩
theorem op_i5 {α0 α1 α2 α3 α4 : Type} {a0 x0 : α0} {a1 x1 : α1} {a2 x2 : α2} {a3 x3 : α3} {a4 x4 : α4} (h : some (a0, a1, a2, a3, a4) = some (x0, x1, x2, x3, x4)) : a0 = x0 ∧ a1 = x1 ∧ a2 = x2 ∧ a3 = x3 ∧ a4 = x4 := by cases h; exact ⟨rfl, rfl, rfl, rfl, rfl⟩
theorem op_i6 {α0 α1 α2 α3 α4 α5 : Type} {a0 x0 : α0} {a1 x1 : α1} {a2 x2 : α2} {a3 x3 : α3} {a4 x4 : α4} {a5 x5 : α5} (h : some (a0, a1, a2, a3, a4, a5) = some (x0, x1, x2, x3, x4, x5)) : a0 = x0 ∧ a1 = x1 ∧ a2 = x2 ∧ a3 = x3 ∧ a4 = x4 ∧ a5 = x5 := by cases h; exact ⟨rfl, rfl, rfl, rfl, rfl, rfl⟩
theorem op_i7 {α0 α1 α2 α3 α4 α5 α6 : Type} {a0 x0 : α0} {a1 x1 : α1} {a2 x2 : α2} {a3 x3 : α3} {a4 x4 : α4} {a5 x5 : α5} {a6 x6 : α6} (h : some (a0, a1, a2, a3, a4, a5, a6) = some (x0, x1, x2, x3, x4, x5, x6)) : a0 = x0 ∧ a1 = x1 ∧ a2 = x2 ∧ a3 = x3 ∧ a4 = x4 ∧ a5 = x5 ∧ a6 = x6 := by cases h; exact ⟨rfl, rfl, rfl, rfl, rfl, rfl, rfl⟩
theorem op_i8 {α0 α1 α2 α3 α4 α5 α6 α7 : Type} {a0 x0 : α0} {a1 x1 : α1} {a2 x2 : α2} {a3 x3 : α3} {a4 x4 : α4} {a5 x5 : α5} {a6 x6 : α6} {a7 x7 : α7} (h : some (a0, a1, a2, a3, a4, a5, a6, a7) = some (x0, x1, x2, x3, x4, x5, x6, x7)) : a0 = x0 ∧ a1 = x1 ∧ a2 = x2 ∧ a3 = x3 ∧ a4 = x4 ∧ a5 = x5 ∧ a6 = x6 ∧ a7 = x7 := by cases h; exact ⟨rfl, rfl, rfl, rfl, rfl, rfl, rfl, rfl⟩
abbrev mQi (dC : Nat → ClassId) (dI : Nat → Nat → Nat) (ad : Nat → Nat) (cI cZ : ClassId) (A : Nat → Prop) (below : List Frame) (args : Array Value) (s : State) (z : Int32 × MU) : State → Prop := MQ below (va_Qi (fun r (u : MU) => (r, u) = z) (mPost dC dI ad cI cZ A) A) args s 0 0 A
abbrev mQv (dC : Nat → ClassId) (dI : Nat → Nat → Nat) (ad : Nat → Nat) (cI cZ : ClassId) (A : Nat → Prop) (below : List Frame) (args : Array Value) (s : State) (z : MU) : State → Prop := MQ below (va_Qv (fun (u : MU) => u = z) (mPost dC dI ad cI cZ A) A) args s 0 0 A
abbrev mQl (dC : Nat → ClassId) (dI : Nat → Nat → Nat) (ad : Nat → Nat) (cI cZ : ClassId) (A : Nat → Prop) (below : List Frame) (args : Array Value) (s : State) (z : Int64 × MU) : State → Prop := MQ below (va_Ql (fun r (u : MU) => (r, u) = z) (mPost dC dI ad cI cZ A) A) args s 0 0 A
/-- the locals at a method's entry -/
theorem en_ls (m : MethodId) (vs : List Value) {n : Nat} (h : (lg_sl vs).length ≤ n) : ∃ ls : Array Slot, entryFrame m vs.toArray n = F0 m 0 ls [] ∧ lv_has ls n (lv_args 0 vs) := ⟨_, lg_entry_eq m vs n, lv_entry vs h⟩
section ME
variable {p : Program} {l : Launch} {e : Env} {Rm rm : Room} {s : State} {m : MethodId} {args : Array Value} {below : List Frame} {meth : Method} {c : Code} {H : Heap} {locs : List Loc} {cells slots : Nat} {Q : State → Prop} {cc b : ByteArray} {n nL pc ix na : Nat} {ls : Array Slot} {rest st0 : List Value} {As : (Nat → Nat) → (Nat → Nat) → List Value} {adK adV : Nat → Nat} {dC : Nat → ClassId} {dI : Nat → Nat → Nat} {ad : Nat → Nat} {cI cZ : ClassId} {I I' : Nat → Int32} {R R' : Nat → Nat → Int32} {A : Nat → Prop} {H0 : Heap} {y : MethodName} {ty : FieldType} {u : MU}
theorem en_mi {f : Option (Int32 × MU)} (hy : plainName y.cls = true) (hyc : y.cls = R_Md) (hlen : ∀ ad adK : Nat → Nat, (lg_sl (.ref (ad 0) :: As ad adK)).length ≤ n) (body : ∀ (z : Int32 × MU), f = some z → ∀ (p : Program) (e : Env) (s : State) (m : MethodId) (args : Array Value) (below : List Frame) (meth : Method) (c : Code) (dC : Nat → ClassId) (dI : Nat → Nat → Nat) (ad : Nat → Nat) (cI cZ : ClassId) (A : Nat → Prop) (adK adV : Nat → Nat) (ls : Array Slot), mC p s m args c b n dC dI cI cZ A adK adV → (∀ q, s.heap.size ≤ q → A q) → mH A s.heap dC dI ad cI cZ I R s.heap [] → meth.sig.returnType = some ty → meth.locks = false → lv_has ls n (lv_args 0 (.ref (ad 0) :: As ad adK)) → W p l e rm s m args below meth c s.heap [] 0 0 (mQi dC dI ad cI cZ A below args s z) (F0 m 0 ls [])) : MMi l y b n ty rm As I R f := by
  intro z hz dC dI ad cI cZ adK adV sz
  refine Met.ofW (cc := b) (maxL := n) (ret := some ty) hy rfl ?_
  intro p e s m args below meth c s₁ B hml hv
  obtain ⟨rfl, hsz, hP, hK, hD0, hTS, hTR⟩ := hv
  have hts := atoms_spec (ws := Cond.code y b n (some ty) :: WT) B.pre
  subst hsz
  obtain ⟨ls, hE, hl⟩ := en_ls m (.ref (ad 0) :: As ad adK) (hlen ad adK)
  rw [hE]
  exact body z hz p e s m _ below meth c dC dI ad cI cZ (va_A (mX ad cI cZ I R) s.heap.size) adK adV ls ⟨B.exec, B.bytes, hml, hyc ▸ findClass_of_methodNamed B.named, fun w hw => hts w (List.mem_cons_of_mem _ hw), hK, hTS, hTR⟩ (fun q h => Or.inr h) ⟨hP, hD0.self, va_S.rf⟩ B.returns B.notSynchronized hl
theorem en_mv {f : Option MU} (hy : plainName y.cls = true) (hyc : y.cls = R_Md) (hlen : ∀ ad adK : Nat → Nat, (lg_sl (.ref (ad 0) :: As ad adK)).length ≤ n) (body : ∀ (z : MU), f = some z → ∀ (p : Program) (e : Env) (s : State) (m : MethodId) (args : Array Value) (below : List Frame) (meth : Method) (c : Code) (dC : Nat → ClassId) (dI : Nat → Nat → Nat) (ad : Nat → Nat) (cI cZ : ClassId) (A : Nat → Prop) (adK adV : Nat → Nat) (ls : Array Slot), mC p s m args c b n dC dI cI cZ A adK adV → (∀ q, s.heap.size ≤ q → A q) → mH A s.heap dC dI ad cI cZ I R s.heap [] → meth.sig.returnType = none → meth.locks = false → lv_has ls n (lv_args 0 (.ref (ad 0) :: As ad adK)) → W p l e rm s m args below meth c s.heap [] 0 0 (mQv dC dI ad cI cZ A below args s z) (F0 m 0 ls [])) : MMv l y b n rm As I R f := by
  intro z hz dC dI ad cI cZ adK adV sz
  refine Met.ofW (cc := b) (maxL := n) (ret := none) hy rfl ?_
  intro p e s m args below meth c s₁ B hml hv
  obtain ⟨rfl, hsz, hP, hK, hD0, hTS, hTR⟩ := hv
  have hts := atoms_spec (ws := Cond.code y b n none :: WT) B.pre
  subst hsz
  obtain ⟨ls, hE, hl⟩ := en_ls m (.ref (ad 0) :: As ad adK) (hlen ad adK)
  rw [hE]
  exact body z hz p e s m _ below meth c dC dI ad cI cZ (va_A (mX ad cI cZ I R) s.heap.size) adK adV ls ⟨B.exec, B.bytes, hml, hyc ▸ findClass_of_methodNamed B.named, fun w hw => hts w (List.mem_cons_of_mem _ hw), hK, hTS, hTR⟩ (fun q h => Or.inr h) ⟨hP, hD0.self, va_S.rf⟩ B.returns B.notSynchronized hl
theorem en_ml {f : Option (Int64 × MU)} (hy : plainName y.cls = true) (hyc : y.cls = R_Md) (hlen : ∀ ad adK : Nat → Nat, (lg_sl (.ref (ad 0) :: As ad adK)).length ≤ n) (body : ∀ (z : Int64 × MU), f = some z → ∀ (p : Program) (e : Env) (s : State) (m : MethodId) (args : Array Value) (below : List Frame) (meth : Method) (c : Code) (dC : Nat → ClassId) (dI : Nat → Nat → Nat) (ad : Nat → Nat) (cI cZ : ClassId) (A : Nat → Prop) (adK adV : Nat → Nat) (ls : Array Slot), mC p s m args c b n dC dI cI cZ A adK adV → (∀ q, s.heap.size ≤ q → A q) → mH A s.heap dC dI ad cI cZ I R s.heap [] → meth.sig.returnType = some .long → meth.locks = false → lv_has ls n (lv_args 0 (.ref (ad 0) :: As ad adK)) → W p l e rm s m args below meth c s.heap [] 0 0 (mQl dC dI ad cI cZ A below args s z) (F0 m 0 ls [])) : MMl l y b n rm As I R f := by
  intro z hz dC dI ad cI cZ adK adV sz
  refine Met.ofW (cc := b) (maxL := n) (ret := some .long) hy rfl ?_
  intro p e s m args below meth c s₁ B hml hv
  obtain ⟨rfl, hsz, hP, hK, hD0, hTS, hTR⟩ := hv
  have hts := atoms_spec (ws := Cond.code y b n (some .long) :: WT) B.pre
  subst hsz
  obtain ⟨ls, hE, hl⟩ := en_ls m (.ref (ad 0) :: As ad adK) (hlen ad adK)
  rw [hE]
  exact body z hz p e s m _ below meth c dC dI ad cI cZ (va_A (mX ad cI cZ I R) s.heap.size) adK adV ls ⟨B.exec, B.bytes, hml, hyc ▸ findClass_of_methodNamed B.named, fun w hw => hts w (List.mem_cons_of_mem _ hw), hK, hTS, hTR⟩ (fun q h => Or.inr h) ⟨hP, hD0.self, va_S.rf⟩ B.returns B.notSynchronized hl
theorem rt_mi {z : Int32 × MU} {x : Int32} (C : mC p s m args c cc nL dC dI cI cZ A adK adV) (h : mH A s.heap dC dI ad cI cZ I R H locs) (hr : meth.sig.returnType = some ty) (hlk : meth.locks = false) (hf : some (x, I, R) = some z) (hn : narrow ty (.int x) = .int x) (hdg : decode cc pc = .ok (.ireturn, 1)) : W p l e Rm s m args below meth c H locs 0 0 (mQi dC dI ad cI cZ A below args s z) (F0 m pc ls [.int x]) := by
  cases hf
  exact W.zret C.1 C.2.1 hr hn (fun t ht hW => ⟨⟨x, (I, R), rfl, rfl, by rw [ht]; exact h.1, va_K.moved hW.alike C.2.2.2.2.2.1, h.2.1⟩, h.2.2.F ht⟩) h.2.2.2.2 hdg hlk
theorem rt_ml {z : Int64 × MU} {x : Int64} (C : mC p s m args c cc nL dC dI cI cZ A adK adV) (h : mH A s.heap dC dI ad cI cZ I R H locs) (hr : meth.sig.returnType = some .long) (hlk : meth.locks = false) (hf : some (x, I, R) = some z) (hdg : decode cc pc = .ok (.lreturn, 1)) : W p l e Rm s m args below meth c H locs 0 0 (mQl dC dI ad cI cZ A below args s z) (F0 m pc ls [.long x]) := by
  cases hf
  exact W.lret C.1 C.2.1 hr (fun t ht hW => ⟨⟨x, (I, R), rfl, rfl, by rw [ht]; exact h.1, va_K.moved hW.alike C.2.2.2.2.2.1, h.2.1⟩, h.2.2.F ht⟩) h.2.2.2.2 hdg hlk
theorem rt_mv {z : MU} (C : mC p s m args c cc nL dC dI cI cZ A adK adV) (h : mH A s.heap dC dI ad cI cZ I R H locs) (hr : meth.sig.returnType = none) (hlk : meth.locks = false) (hf : some (I, R) = some z) (hdg : decode cc pc = .ok (.return_, 1)) : W p l e Rm s m args below meth c H locs 0 0 (mQv dC dI ad cI cZ A below args s z) (F0 m pc ls []) := by
  cases hf
  exact W.vret C.1 C.2.1 hr (fun t ht hW => ⟨⟨(I, R), rfl, rfl, by rw [ht]; exact h.1, va_K.moved hW.alike C.2.2.2.2.2.1, h.2.1⟩, h.2.2.F ht⟩) h.2.2.2.2 hdg hlk
theorem mH_free (h : mH A H0 dC dI ad cI cZ I R H locs) (hA : ∀ q, H0.size ≤ q → A q) : ∀ q, va_A (mX ad cI cZ I R) H.size q → A q := fun q hq => by
  rcases hq with ⟨k, e, hk⟩ | hq
  · exact h.2.1.2 k _ hk
  · exact hA q (Nat.le_trans h.2.2.1 hq)
/-- a call of one of the model's instance methods by another -/
theorem kc_i {f : Option (Int32 × MU)} {r : Int32} (C : mC p s m args c cc nL dC dI cI cZ A adK adV) (h : mH A s.heap dC dI ad cI cZ I R H locs) (hA : ∀ q, s.heap.size ≤ q → A q) (hM : MMi l y b n ty rm As I R f) (hf : f = some (r, I', R'))
    (cb : CallB Rm s args R_Md ix y b n (some ty) (Cond.code y b n (some ty) :: WT) rm 0 0 na) (im : Cond.instanceMethod y ∈ WT) (se : Cond.selects R_Md y y ∈ WT)
    (hn : (As ad adK).length = na) (hsz : ls.size = nL) (hst : st0 = (As ad adK).reverse ++ .ref (ad 0) :: rest) (hW : (rest.map fun v => v.category).sum ≤ 8) (hdg : decode cc pc = .ok (.invokevirtual ix, 3)) (hcs : cells ≤ Rm.cells ∧ slots ≤ Rm.slots)
    (kk : ∀ (H1 : Heap) (locs1 : List Loc), mH A s.heap dC dI ad cI cZ I' R' H1 locs1 → W p l e Rm s m args below meth c H1 locs1 cells slots Q (F0 m (pc + 3) ls (.int r :: rest))) : W p l e Rm s m args below meth c H locs cells slots Q (F0 m pc ls st0) := by
  refine va_calli (va_runV (C := R_Md) (As := As ad adK) (rest := rest) ⟨C.1, C.2.1, C.2.2.1, C.2.2.2.1, C.2.2.2.2.1⟩ (hM _ hf dC dI ad cI cZ adK adV H.size) ⟨cb, C.2.2.2.2.1 _ im, C.2.2.2.2.1 _ se⟩ ⟨fun a U g mk q => ⟨q.1, q.2.1, q.2.2.1, va_K.moved (u := U) (U := U.calling g mk a) (Vm.Alike.refl U.vm) q.2.2.2.1, q.2.2.2.2.1, q.2.2.2.2.2.1.moved (u := U) (U := U.calling g mk a) (Vm.Alike.refl U.vm), q.2.2.2.2.2.2.same rfl⟩, va_recv C.2.2.2.2.2.1 h.1 (ci := 12) (q0 := 0) rfl rfl, fun U hU hW => ⟨rfl, by rw [hU], by rw [hU]; exact h.1, va_K.moved hW.alike C.2.2.2.2.2.1, h.2.1.weaken (fun _ _ _ _ => trivial), by rw [hU]; exact ((C.2.2.2.2.2.2.1.kept h.2.2.2.1).moved hW.alike).narrow (mH_free h hA), C.2.2.2.2.2.2.2.warm hW⟩⟩ rfl hn hsz hst (lv_room hW) hdg hcs) h.2.2 (fun q _ hq => mH_free h hA q hq) (mH_free h hA) (fun r1 u1 t H1 locs1 ht hvm hw hB hz1 hk1 hS => ?_)
  cases hw
  exact kk H1 locs1 ⟨by rw [← ht]; exact hB.1, hB.2.2.weaken (fun _ q _ hq => mH_free h hA _ hq), hS⟩
theorem kc_l {f : Option (Int64 × MU)} {r : Int64} (C : mC p s m args c cc nL dC dI cI cZ A adK adV) (h : mH A s.heap dC dI ad cI cZ I R H locs) (hA : ∀ q, s.heap.size ≤ q → A q) (hM : MMl l y b n rm As I R f) (hf : f = some (r, I', R'))
    (cb : CallB Rm s args R_Md ix y b n (some .long) (Cond.code y b n (some .long) :: WT) rm 0 0 na) (im : Cond.instanceMethod y ∈ WT) (se : Cond.selects R_Md y y ∈ WT)
    (hn : (As ad adK).length = na) (hsz : ls.size = nL) (hst : st0 = (As ad adK).reverse ++ .ref (ad 0) :: rest) (hW : (rest.map fun v => v.category).sum ≤ 8) (hdg : decode cc pc = .ok (.invokevirtual ix, 3)) (hcs : cells ≤ Rm.cells ∧ slots ≤ Rm.slots)
    (kk : ∀ (H1 : Heap) (locs1 : List Loc), mH A s.heap dC dI ad cI cZ I' R' H1 locs1 → W p l e Rm s m args below meth c H1 locs1 cells slots Q (F0 m (pc + 3) ls (.long r :: rest))) : W p l e Rm s m args below meth c H locs cells slots Q (F0 m pc ls st0) := by
  refine va_calll (va_runV (C := R_Md) (As := As ad adK) (rest := rest) ⟨C.1, C.2.1, C.2.2.1, C.2.2.2.1, C.2.2.2.2.1⟩ (hM _ hf dC dI ad cI cZ adK adV H.size) ⟨cb, C.2.2.2.2.1 _ im, C.2.2.2.2.1 _ se⟩ ⟨fun a U g mk q => ⟨q.1, q.2.1, q.2.2.1, va_K.moved (u := U) (U := U.calling g mk a) (Vm.Alike.refl U.vm) q.2.2.2.1, q.2.2.2.2.1, q.2.2.2.2.2.1.moved (u := U) (U := U.calling g mk a) (Vm.Alike.refl U.vm), q.2.2.2.2.2.2.same rfl⟩, va_recv C.2.2.2.2.2.1 h.1 (ci := 12) (q0 := 0) rfl rfl, fun U hU hW => ⟨rfl, by rw [hU], by rw [hU]; exact h.1, va_K.moved hW.alike C.2.2.2.2.2.1, h.2.1.weaken (fun _ _ _ _ => trivial), by rw [hU]; exact ((C.2.2.2.2.2.2.1.kept h.2.2.2.1).moved hW.alike).narrow (mH_free h hA), C.2.2.2.2.2.2.2.warm hW⟩⟩ rfl hn hsz hst (lv_room hW) hdg hcs) h.2.2 (fun q _ hq => mH_free h hA q hq) (mH_free h hA) (fun r1 u1 t H1 locs1 ht hvm hw hB hz1 hk1 hS => ?_)
  cases hw
  exact kk H1 locs1 ⟨by rw [← ht]; exact hB.1, hB.2.2.weaken (fun _ q _ hq => mH_free h hA _ hq), hS⟩
theorem kc_v {f : Option MU} (C : mC p s m args c cc nL dC dI cI cZ A adK adV) (h : mH A s.heap dC dI ad cI cZ I R H locs) (hA : ∀ q, s.heap.size ≤ q → A q) (hM : MMv l y b n rm As I R f) (hf : f = some (I', R'))
    (cb : CallB Rm s args R_Md ix y b n none (Cond.code y b n none :: WT) rm 0 0 na) (im : Cond.instanceMethod y ∈ WT) (se : Cond.selects R_Md y y ∈ WT)
    (hn : (As ad adK).length = na) (hsz : ls.size = nL) (hst : st0 = (As ad adK).reverse ++ .ref (ad 0) :: rest) (hW : (rest.map fun v => v.category).sum ≤ 8) (hdg : decode cc pc = .ok (.invokevirtual ix, 3)) (hcs : cells ≤ Rm.cells ∧ slots ≤ Rm.slots)
    (kk : ∀ (H1 : Heap) (locs1 : List Loc), mH A s.heap dC dI ad cI cZ I' R' H1 locs1 → W p l e Rm s m args below meth c H1 locs1 cells slots Q (F0 m (pc + 3) ls rest)) : W p l e Rm s m args below meth c H locs cells slots Q (F0 m pc ls st0) := by
  refine va_callv (va_runV (C := R_Md) (As := As ad adK) (rest := rest) ⟨C.1, C.2.1, C.2.2.1, C.2.2.2.1, C.2.2.2.2.1⟩ (hM _ hf dC dI ad cI cZ adK adV H.size) ⟨cb, C.2.2.2.2.1 _ im, C.2.2.2.2.1 _ se⟩ ⟨fun a U g mk q => ⟨q.1, q.2.1, q.2.2.1, va_K.moved (u := U) (U := U.calling g mk a) (Vm.Alike.refl U.vm) q.2.2.2.1, q.2.2.2.2.1, q.2.2.2.2.2.1.moved (u := U) (U := U.calling g mk a) (Vm.Alike.refl U.vm), q.2.2.2.2.2.2.same rfl⟩, va_recv C.2.2.2.2.2.1 h.1 (ci := 12) (q0 := 0) rfl rfl, fun U hU hW => ⟨rfl, by rw [hU], by rw [hU]; exact h.1, va_K.moved hW.alike C.2.2.2.2.2.1, h.2.1.weaken (fun _ _ _ _ => trivial), by rw [hU]; exact ((C.2.2.2.2.2.2.1.kept h.2.2.2.1).moved hW.alike).narrow (mH_free h hA), C.2.2.2.2.2.2.2.warm hW⟩⟩ rfl hn hsz hst (lv_room hW) hdg hcs) h.2.2 (fun q _ hq => mH_free h hA q hq) (mH_free h hA) (fun u1 t H1 locs1 ht hvm hw hB hz1 hk1 hS => ?_)
  cases hw
  exact kk H1 locs1 ⟨by rw [← ht]; exact hB.1, hB.2.2.weaken (fun _ q _ hq => mH_free h hA _ hq), hS⟩
theorem kc_r {f : Option Int32} {r : Int32} (C : mC p s m args c cc nL dC dI cI cZ A adK adV) (h : mH A s.heap dC dI ad cI cZ I R H locs) (hA : ∀ q, s.heap.size ≤ q → A q) (hM : MMi l y b n ty rm As I R (f.map fun r => (r, I, R))) (hf : f = some r)
    (cb : CallB Rm s args R_Md ix y b n (some ty) (Cond.code y b n (some ty) :: WT) rm 0 0 na) (im : Cond.instanceMethod y ∈ WT) (se : Cond.selects R_Md y y ∈ WT)
    (hn : (As ad adK).length = na) (hsz : ls.size = nL) (hst : st0 = (As ad adK).reverse ++ .ref (ad 0) :: rest) (hW : (rest.map fun v => v.category).sum ≤ 8) (hdg : decode cc pc = .ok (.invokevirtual ix, 3)) (hcs : cells ≤ Rm.cells ∧ slots ≤ Rm.slots)
    (kk : ∀ (H1 : Heap) (locs1 : List Loc), mH A s.heap dC dI ad cI cZ I R H1 locs1 → W p l e Rm s m args below meth c H1 locs1 cells slots Q (F0 m (pc + 3) ls (.int r :: rest))) : W p l e Rm s m args below meth c H locs cells slots Q (F0 m pc ls st0) :=
  kc_i C h hA hM (by rw [hf]; rfl) cb im se hn hsz hst hW hdg hcs kk
theorem op_map {α β : Type} {x : Option α} {g : α → β} {z : β} (h : x.map g = some z) : ∃ y, x = some y ∧ z = g y := by
  cases x with
  | none => cases h
  | some y => exact ⟨y, rfl, (Option.some.inj h).symm⟩
theorem rt_mr {r x : Int32} (C : mC p s m args c cc nL dC dI cI cZ A adK adV) (h : mH A s.heap dC dI ad cI cZ I R H locs) (hr : meth.sig.returnType = some ty) (hlk : meth.locks = false) (hf : some x = some r) (hn : narrow ty (.int x) = .int x) (hdg : decode cc pc = .ok (.ireturn, 1)) : W p l e Rm s m args below meth c H locs 0 0 (mQi dC dI ad cI cZ A below args s (r, I, R)) (F0 m pc ls [.int x]) :=
  rt_mi C h hr hlk (by cases hf; rfl) hn hdg
end ME
theorem tn_ne {x y : Int32} {v : Int} (hv : y.toInt = v) (h : ¬ x = y) : ¬ x.toInt = v := fun e => h (Int32.toInt_inj.mp (e.trans hv.symm))
end
section
/-! ===== methods that read texts alone (the JDK's) ===== -/
abbrev tB (adK adV : Nat → Nat) : State → Prop := fun U => tS adK adV (fun _ => False) U U.heap
def MTi (l : Launch) (y : MethodName) (b : ByteArray) (n : Nat) (ty : FieldType) (rm : Room) (adK adV : Nat → Nat) (As : List Value) (f : Option Int32) : Prop :=
  ∀ (z : Int32), f = some z → Met l y (Cond.code y b n (some ty) :: WT) rm (va_Pc As (tB adK adV)) (fun _ st oc t => oc = .returned (some (.int z)) ∧ t.heap = st.heap) 0 0 (fun _ => False)
def MTv (l : Launch) (y : MethodName) (b : ByteArray) (n : Nat) (rm : Room) (adK adV : Nat → Nat) (As : List Value) (f : Option Unit) : Prop :=
  ∀ (z : Unit), f = some z → Met l y (Cond.code y b n none :: WT) rm (va_Pc As (tB adK adV)) (fun _ st oc t => oc = .returned none ∧ t.heap = st.heap) 0 0 (fun _ => False)
abbrev isC (x : Int32) : Prop := 0 ≤ x.toInt ∧ x.toInt < 65536
theorem isC_nar {x : Int32} (h : isC x) : narrow .char (.int x) = .int x := by
  have h1 : ∃ j : Nat, j < 65536 ∧ x = nI j := by
    have h0 : ¬ x < 0 := by rw [Int32.lt_iff_toInt_lt, Int32.toInt_zero]; omega
    obtain ⟨j, hj, rfl⟩ := nI_of h0
    refine ⟨j, ?_, rfl⟩
    have := h.2
    rw [nI_toInt hj] at this
    omega
  obtain ⟨j, hj, rfl⟩ := h1
  exact (pk_charN hj).1
theorem isZ_narB {x : Int32} (h : isZ x) : narrow .byte (.int x) = .int x := by rcases h with rfl | rfl <;> decide +kernel
theorem zq_val {C n d : String} {A : Nat → Prop} {U : State} {H : Heap} (h : va_Zq C n d A U H) : ∃ q : Option Nat, va_Z C n d (va_rf q) A U H := by
  rcases h with h | ⟨t, h⟩
  · exact ⟨none, h⟩
  · exact ⟨some t, h⟩
section MT
variable {p : Program} {l : Launch} {e : Env} {Rm rm : Room} {s : State} {m : MethodId} {args : Array Value} {below : List Frame} {meth : Method} {c : Code} {H : Heap} {locs : List Loc} {cells slots : Nat} {Q : State → Prop} {cc b : ByteArray} {n nL pc ix na : Nat} {ls : Array Slot} {rest st0 As : List Value} {A : Nat → Prop} {H0 : Heap} {y : MethodName} {ty : FieldType} {adK adV : Nat → Nat}
theorem kt_s {z : Int32} {own : String} (hx : p.tables.exec = Jvm.exec) (hb : c.code = cc) (hml : c.maxLocals = nL) (hown : s.vm.findClass own = some m.cls) (hT : ∀ w ∈ WT, w.before args s = true) (hS0 : tS adK adV (fun _ => False) s H)
    (hM : Met l y (Cond.code y b n (some ty) :: WT) rm (va_Pc As (tB adK adV)) (fun _ st oc t => oc = .returned (some (.int z)) ∧ t.heap = st.heap) 0 0 (fun _ => False)) (cb : CallB Rm s args own ix y b n (some ty) (Cond.code y b n (some ty) :: WT) rm 0 0 na) (sm : Cond.static y ∈ WT)
    (hn : As.length = na) (hsz : ls.size = nL) (hst : st0 = As.reverse ++ rest) (hW : (rest.map fun v => v.category).sum ≤ 8) (hdg : decode cc pc = .ok (.invokestatic ix, 3)) (hf : cells ≤ Rm.cells ∧ slots ≤ Rm.slots)
    (kk : W p l e Rm s m args below meth c H locs cells slots Q (F0 m (pc + 3) ls (.int z :: rest))) : W p l e Rm s m args below meth c H locs cells slots Q (F0 m pc ls st0) := by
  have hr := va_runS (l := l) (e := e) (R := Rm) (below := below) (meth := meth) (H := H) (locs := locs) (cells := cells) (slots := slots) (g := F0 m pc ls st0) (rest := rest) ⟨hx, hb, hml, hown, hT⟩ hM ⟨cb, hT _ sm⟩ ⟨fun a U g mk q => ⟨q.1, q.2.moved (u := U) (U := U.calling g mk a) (Vm.Alike.refl U.vm)⟩, fun U hU hW => ⟨rfl, by show tS adK adV (fun _ => False) U U.heap; rw [hU]; exact hS0.moved hW.alike⟩⟩ rfl hn hsz hst (lv_room hW) hdg hf
  intro T hT' X
  obtain ⟨v, st₀, t, T', L, h0, X', hL, e1, e2, ⟨hv, hh⟩, st⟩ := hr T hT' X
  cases hv
  have hL0 : L = [] := List.eq_nil_iff_forall_not_mem.mpr (fun q hq => hL q hq)
  subst hL0
  rw [List.append_nil] at X'
  obtain ⟨t2, a1, b1⟩ := kk T' (by rw [e1, hh, h0]) X'
  exact ⟨t2, st t2 a1, b1⟩
theorem kt_sv {z : Unit} {own : String} (hx : p.tables.exec = Jvm.exec) (hb : c.code = cc) (hml : c.maxLocals = nL) (hown : s.vm.findClass own = some m.cls) (hT : ∀ w ∈ WT, w.before args s = true) (hS0 : tS adK adV (fun _ => False) s H)
    (hM : Met l y (Cond.code y b n none :: WT) rm (va_Pc As (tB adK adV)) (fun _ st oc t => oc = .returned none ∧ t.heap = st.heap) 0 0 (fun _ => False)) (cb : CallB Rm s args own ix y b n none (Cond.code y b n none :: WT) rm 0 0 na) (sm : Cond.static y ∈ WT)
    (hn : As.length = na) (hsz : ls.size = nL) (hst : st0 = As.reverse ++ rest) (hW : (rest.map fun v => v.category).sum ≤ 8) (hdg : decode cc pc = .ok (.invokestatic ix, 3)) (hf : cells ≤ Rm.cells ∧ slots ≤ Rm.slots)
    (kk : W p l e Rm s m args below meth c H locs cells slots Q (F0 m (pc + 3) ls rest)) : W p l e Rm s m args below meth c H locs cells slots Q (F0 m pc ls st0) := by
  have hr := va_runS (l := l) (e := e) (R := Rm) (below := below) (meth := meth) (H := H) (locs := locs) (cells := cells) (slots := slots) (g := F0 m pc ls st0) (rest := rest) ⟨hx, hb, hml, hown, hT⟩ hM ⟨cb, hT _ sm⟩ ⟨fun a U g mk q => ⟨q.1, q.2.moved (u := U) (U := U.calling g mk a) (Vm.Alike.refl U.vm)⟩, fun U hU hW => ⟨rfl, by show tS adK adV (fun _ => False) U U.heap; rw [hU]; exact hS0.moved hW.alike⟩⟩ rfl hn hsz hst (lv_room hW) hdg hf
  intro T hT' X
  obtain ⟨v, st₀, t, T', L, h0, X', hL, e1, e2, ⟨hv, hh⟩, st⟩ := hr T hT' X
  cases hv
  have hL0 : L = [] := List.eq_nil_iff_forall_not_mem.mpr (fun q hq => hL q hq)
  subst hL0
  rw [List.append_nil] at X'
  obtain ⟨t2, a1, b1⟩ := kk T' (by rw [e1, hh, h0]) X'
  exact ⟨t2, st t2 a1, b1⟩
theorem kt_v {z : Int32} {own : String} {i : Nat} (hx : p.tables.exec = Jvm.exec) (hb : c.code = cc) (hml : c.maxLocals = nL) (hown : s.vm.findClass own = some m.cls) (hT : ∀ w ∈ WT, w.before args s = true) (hS0 : tS adK adV (fun _ => False) s H) (hi : i < 12)
    (hM : Met l y (Cond.code y b n (some ty) :: WT) rm (va_Pc (.ref (adK i) :: As) (tB adK adV)) (fun _ st oc t => oc = .returned (some (.int z)) ∧ t.heap = st.heap) 0 0 (fun _ => False)) (cb : CallB Rm s args own ix y b n (some ty) (Cond.code y b n (some ty) :: WT) rm 0 0 na) (im : Cond.instanceMethod y ∈ WT) (se : Cond.selects "java/lang/String" y y ∈ WT)
    (hn : As.length = na) (hsz : ls.size = nL) (hst : st0 = As.reverse ++ .ref (adK i) :: rest) (hW : (rest.map fun v => v.category).sum ≤ 8) (hdg : decode cc pc = .ok (.invokevirtual ix, 3)) (hf : cells ≤ Rm.cells ∧ slots ≤ Rm.slots)
    (kk : W p l e Rm s m args below meth c H locs cells slots Q (F0 m (pc + 3) ls (.int z :: rest))) : W p l e Rm s m args below meth c H locs cells slots Q (F0 m pc ls st0) := by
  obtain ⟨cell, hc1, hc2, hc3, -⟩ := (hS0.1.1 i hi).1
  have hr := va_runV (l := l) (e := e) (R := Rm) (below := below) (meth := meth) (H := H) (locs := locs) (cells := cells) (slots := slots) (g := F0 m pc ls st0) (rest := rest) (C := "java/lang/String") (b := adK i) (As := As) ⟨hx, hb, hml, hown, hT⟩ hM ⟨cb, hT _ im, hT _ se⟩ ⟨fun a U g mk q => ⟨q.1, q.2.moved (u := U) (U := U.calling g mk a) (Vm.Alike.refl U.vm)⟩, ⟨cell, hc1, hc2, hc3⟩, fun U hU hW => ⟨rfl, by show tS adK adV (fun _ => False) U U.heap; rw [hU]; exact hS0.moved hW.alike⟩⟩ rfl hn hsz hst (lv_room hW) hdg hf
  intro T hT' X
  obtain ⟨v, st₀, t, T', L, h0, X', hL, e1, e2, ⟨hv, hh⟩, st⟩ := hr T hT' X
  cases hv
  have hL0 : L = [] := List.eq_nil_iff_forall_not_mem.mpr (fun q hq => hL q hq)
  subst hL0
  rw [List.append_nil] at X'
  obtain ⟨t2, a1, b1⟩ := kk T' (by rw [e1, hh, h0]) X'
  exact ⟨t2, st t2 a1, b1⟩
theorem en_ti {f : Option Int32} (hy : plainName y.cls = true) (hlen : (lg_sl As).length ≤ n) (body : ∀ (z : Int32), f = some z → ∀ (p : Program) (e : Env) (s : State) (m : MethodId) (args : Array Value) (below : List Frame) (meth : Method) (c : Code) (ls : Array Slot), p.tables.exec = Jvm.exec → c.code = b → c.maxLocals = n → s.vm.findClass y.cls = some m.cls → (∀ w ∈ WT, w.before args s = true) → meth.sig.returnType = some ty → meth.locks = false → tS adK adV (fun _ => False) s s.heap → lv_has ls n (lv_args 0 As) → W p l e rm s m args below meth c s.heap [] 0 0 (MQ below (fun _ st oc t => oc = .returned (some (.int z)) ∧ t.heap = st.heap) args s 0 0 (fun _ => False)) (F0 m 0 ls [])) : MTi l y b n ty rm adK adV As f := by
  intro z hz
  refine Met.ofW (cc := b) (maxL := n) (ret := some ty) hy rfl ?_
  intro p e s m args below meth c s₁ B hml hv
  obtain ⟨rfl, hTS⟩ := hv
  have hts := atoms_spec (ws := Cond.code y b n (some ty) :: WT) B.pre
  rw [lg_entry_eq]
  exact body z hz p e s m _ below meth c _ B.exec B.bytes hml (findClass_of_methodNamed B.named) (fun w hw => hts w (List.mem_cons_of_mem _ hw)) B.returns B.notSynchronized hTS (lv_entry As hlen)
theorem en_tv {f : Option Unit} (hy : plainName y.cls = true) (hlen : (lg_sl As).length ≤ n) (body : ∀ (z : Unit), f = some z → ∀ (p : Program) (e : Env) (s : State) (m : MethodId) (args : Array Value) (below : List Frame) (meth : Method) (c : Code) (ls : Array Slot), p.tables.exec = Jvm.exec → c.code = b → c.maxLocals = n → s.vm.findClass y.cls = some m.cls → (∀ w ∈ WT, w.before args s = true) → meth.sig.returnType = none → meth.locks = false → tS adK adV (fun _ => False) s s.heap → lv_has ls n (lv_args 0 As) → W p l e rm s m args below meth c s.heap [] 0 0 (MQ below (fun _ st oc t => oc = .returned none ∧ t.heap = st.heap) args s 0 0 (fun _ => False)) (F0 m 0 ls [])) : MTv l y b n rm adK adV As f := by
  intro z hz
  refine Met.ofW (cc := b) (maxL := n) (ret := none) hy rfl ?_
  intro p e s m args below meth c s₁ B hml hv
  obtain ⟨rfl, hTS⟩ := hv
  have hts := atoms_spec (ws := Cond.code y b n none :: WT) B.pre
  rw [lg_entry_eq]
  exact body z hz p e s m _ below meth c _ B.exec B.bytes hml (findClass_of_methodNamed B.named) (fun w hw => hts w (List.mem_cons_of_mem _ hw)) B.returns B.notSynchronized hTS (lv_entry As hlen)
theorem rt_sv (hx : p.tables.exec = Jvm.exec) (hb : c.code = cc) (hr : meth.sig.returnType = none) (hlk : meth.locks = false) (hdg : decode cc pc = .ok (.return_, 1)) : W p l e Rm s m args below meth c s.heap [] 0 0 (MQ below (fun _ st oc t => oc = .returned none ∧ t.heap = st.heap) args s 0 0 (fun _ => False)) (F0 m pc ls []) :=
  W.vret hx hb hr (fun t ht _ => ⟨rfl, ht⟩) (fun q hq => by cases hq) hdg hlk
end MT
theorem mT {p : Program} {s : State} {m : MethodId} {args : Array Value} {c : Code} {H : Heap} {locs : List Loc} {cc : ByteArray} {nL : Nat} {dC : Nat → ClassId} {dI : Nat → Nat → Nat} {ad : Nat → Nat} {cI cZ : ClassId} {I : Nat → Int32} {R : Nat → Nat → Int32} {A : Nat → Prop} {adK adV : Nat → Nat} (C : mC p s m args c cc nL dC dI cI cZ A adK adV) (h : mH A s.heap dC dI ad cI cZ I R H locs) : tS adK adV (fun _ => False) s H := (C.2.2.2.2.2.2.1.kept h.2.2.2.1).narrow (fun _ q => q.elim)
end
section
theorem cdL_max : Cond.code Lib.Math.max.name Lib.Math.max.code 2 (some .int) ∈ WT := wt_of (wt_1 (List.mem_of_getElem? (i := 47) (by decide +kernel))) (by decide +kernel)
theorem smL_max : Cond.static Lib.Math.max.name ∈ WT := wt_of (wt_1 (List.mem_of_getElem? (i := 46) (by decide +kernel))) (by decide +kernel)
theorem cdL_min : Cond.code Lib.Math.min.name Lib.Math.min.code 2 (some .int) ∈ WT := wt_of (wt_1 (List.mem_of_getElem? (i := 44) (by decide +kernel))) (by decide +kernel)
theorem smL_min : Cond.static Lib.Math.min.name ∈ WT := wt_of (wt_1 (List.mem_of_getElem? (i := 43) (by decide +kernel))) (by decide +kernel)
abbrev jmax (x y : Int32) : Int32 := if x < y then y else x
abbrev jmin (x y : Int32) : Int32 := if y < x then y else x
section MX
variable {p : Program} {l : Launch} {e : Env} {Rm : Room} {s : State} {m : MethodId} {args : Array Value} {below : List Frame} {meth : Method} {c : Code} {H : Heap} {locs : List Loc} {cells slots : Nat} {Q : State → Prop} {cc : ByteArray} {nL pc ix : Nat} {ls : Array Slot} {rest : List Value}
theorem k_jmax {own : String} {x y : Int32} (hx : p.tables.exec = Jvm.exec) (hb : c.code = cc) (hml : c.maxLocals = nL) (hown : s.vm.findClass own = some m.cls) (hsz : ls.size = nL) (ml : (Cond.methodLink own ix Lib.Math.max.name).before args s = true) (hT : ∀ w ∈ WT, w.before args s = true) (hdg : decode cc pc = .ok (.invokestatic ix, 3)) (hfr : 1 ≤ Rm.frames) (hlo : (rest.map fun v => v.category).sum ≤ 8) (hlo2 : 21 ≤ Rm.locals) (hcs : cells ≤ Rm.cells ∧ slots ≤ Rm.slots)
    (kk : W p l e Rm s m args below meth c H locs cells slots Q (F0 m (pc + 3) ls (.int (jmax x y) :: rest))) : W p l e Rm s m args below meth c H locs cells slots Q (F0 m pc ls (.int y :: .int x :: rest)) :=
  va_mmax hx hb (hml.trans hsz.symm) hown ml (hT _ smL_max) (hT _ ini_Math) (hT _ cdL_max) hfr (by omega) hcs.1 hcs.2 hdg kk
theorem k_jmin {own : String} {x y : Int32} (hx : p.tables.exec = Jvm.exec) (hb : c.code = cc) (hml : c.maxLocals = nL) (hown : s.vm.findClass own = some m.cls) (hsz : ls.size = nL) (ml : (Cond.methodLink own ix Lib.Math.min.name).before args s = true) (hT : ∀ w ∈ WT, w.before args s = true) (hdg : decode cc pc = .ok (.invokestatic ix, 3)) (hfr : 1 ≤ Rm.frames) (hlo : (rest.map fun v => v.category).sum ≤ 8) (hlo2 : 21 ≤ Rm.locals) (hcs : cells ≤ Rm.cells ∧ slots ≤ Rm.slots)
    (kk : W p l e Rm s m args below meth c H locs cells slots Q (F0 m (pc + 3) ls (.int (jmin x y) :: rest))) : W p l e Rm s m args below meth c H locs cells slots Q (F0 m pc ls (.int y :: .int x :: rest)) :=
  va_mmin hx hb (hml.trans hsz.symm) hown ml (hT _ smL_min) (hT _ ini_Math) (hT _ cdL_min) hfr (by omega) hcs.1 hcs.2 hdg kk
end MX
theorem tn_ne2 {x y : Int32} {v : Int} (hv : y.toInt = v) (h : ¬ x = y) : ¬ v = x.toInt := fun e => h (Int32.toInt_inj.mp (e.symm.trans hv.symm))
end
section
theorem hd_String_coder : y_String_coder.cls ≠ "java/lang/invoke/MethodHandle" ∧ y_String_coder.cls ≠ "java/lang/invoke/VarHandle" ∧ (parseMethodDescriptor y_String_coder.desc).map (fun d => d.parameters.length) = some 0 := by decide +kernel
theorem d_String_coder_0 : decode b_String_coder 0 = .ok (.getstatic 38, 3) := by decide +kernel
theorem d_String_coder_3 : decode b_String_coder 3 = .ok (.ifCond .eq 10, 3) := by decide +kernel
theorem d_String_coder_6 : decode b_String_coder 6 = .ok (.aload_n 0, 1) := by decide +kernel
theorem d_String_coder_7 : decode b_String_coder 7 = .ok (.getfield 15, 3) := by decide +kernel
theorem d_String_coder_10 : decode b_String_coder 10 = .ok (.goto 4, 3) := by decide +kernel
theorem d_String_coder_13 : decode b_String_coder 13 = .ok (.iconst 1, 1) := by decide +kernel
theorem d_String_coder_14 : decode b_String_coder 14 = .ok (.ireturn, 1) := by decide +kernel
def p_String_coder (n : Nat) (v0 : Nat)  : Option (Int32) := some 0
set_option maxHeartbeats 4000000 in
theorem c_String_coder (l : Launch) (n : Nat) (adK adV : Nat → Nat) (v0 : Nat)  (hv0 : v0 < 12) : MTi l y_String_coder b_String_coder 1 .byte (rL 1) adK adV [.ref (adK v0)] (p_String_coder n v0 ) := by
  refine en_ti (by decide) (Nat.le_of_ble_eq_true rfl) ?_
  intro z hf p e s m args below meth c ls hx hb hml hown hT hr hlk hTS hl
  have hl : lv_has ls 1 [(0, .ref (adK v0))] := hl
  unfold p_String_coder at hf
  refine va_gets hx hb hTS.2.1 va_S.rf hown (hT _ fl_String_38) (fun _ h9 => h9) d_String_coder_0 ?_
  refine lv_if_eq (tgt := 13) hx hb d_String_coder_3 (by decide) (fun hc => absurd hc (by decide)) (fun _ => ?_)
  refine lv_aload_n hx hb d_String_coder_6 rfl (lv_at hl 0 rfl) ?_
  refine vk_getf hx hb (hTS.1.1 v0 hv0).2.1 va_S.rf hown (hT _ fl_String_15) (fun _ h9 => h9) d_String_coder_7 ?_
  refine lv_goto (tgt := 14) hx hb d_String_coder_10 (by decide) ?_
  obtain rfl := op_i1 hf
  exact rt_si hx hb hr hlk (by decide) d_String_coder_14
theorem hd_String_length : y_String_length.cls ≠ "java/lang/invoke/MethodHandle" ∧ y_String_length.cls ≠ "java/lang/invoke/VarHandle" ∧ (parseMethodDescriptor y_String_length.desc).map (fun d => d.parameters.length) = some 0 := by decide +kernel
theorem d_String_length_0 : decode b_String_length 0 = .ok (.aload_n 0, 1) := by decide +kernel
theorem d_String_length_1 : decode b_String_length 1 = .ok (.getfield 9, 3) := by decide +kernel
theorem d_String_length_4 : decode b_String_length 4 = .ok (.arraylength, 1) := by decide +kernel
theorem d_String_length_5 : decode b_String_length 5 = .ok (.aload_n 0, 1) := by decide +kernel
theorem d_String_length_6 : decode b_String_length 6 = .ok (.invokevirtual 335, 3) := by decide +kernel
theorem d_String_length_9 : decode b_String_length 9 = .ok (.ishr, 1) := by decide +kernel
theorem d_String_length_10 : decode b_String_length 10 = .ok (.ireturn, 1) := by decide +kernel
def p_String_length (n : Nat) (v0 : Nat)  : Option (Int32) := (p_String_coder n v0).bind fun x2 => some (((sLen v0) >>> (x2 &&& 31)))
set_option maxHeartbeats 4000000 in
theorem c_String_length (l : Launch) (n : Nat) (adK adV : Nat → Nat) (v0 : Nat)  (hv0 : v0 < 12) : MTi l y_String_length b_String_length 1 .int (rL 2) adK adV [.ref (adK v0)] (p_String_length n v0 ) := by
  refine en_ti (by decide) (Nat.le_of_ble_eq_true rfl) ?_
  intro z hf p e s m args below meth c ls hx hb hml hown hT hr hlk hTS hl
  have hl : lv_has ls 1 [(0, .ref (adK v0))] := hl
  unfold p_String_length at hf
  refine lv_aload_n hx hb d_String_length_0 rfl (lv_at hl 0 rfl) ?_
  refine vk_getf hx hb (hTS.1.1 v0 hv0).2.2.1 va_S.rf hown (hT _ fl_String_9) (fun _ h9 => h9) d_String_length_1 ?_
  refine va_tlen (v := sLen v0) hx hb (hTS.1.1 v0 hv0).2.2.2 va_S.rf rfl d_String_length_4 ?_
  refine lv_aload_n hx hb d_String_length_5 rfl (lv_at hl 0 rfl) ?_
  obtain ⟨x2, hc1, hf⟩ := op_bind hf
  refine kt_v (i := v0) (rest := [.int (sLen v0)]) hx hb hml hown hT hTS hv0 (c_String_coder l n adK adV v0 hv0 _ hc1) (cbW 0 hT cd_String_coder rfl rfl ini_String ml_String_335 hd_String_coder ⟨Nat.le_of_ble_eq_true rfl, Nat.le_of_ble_eq_true rfl⟩) im_String_coder se_String_String_coder__String_coder rfl hl.1 rfl (Nat.le_of_ble_eq_true rfl) d_String_length_6 ⟨Nat.zero_le _, Nat.zero_le _⟩ ?_
  refine lv_ishr hx hb d_String_length_9 ?_
  obtain rfl := op_i1 hf
  exact rt_si hx hb hr hlk rfl d_String_length_10
theorem hd_String_isLatin1 : y_String_isLatin1.cls ≠ "java/lang/invoke/MethodHandle" ∧ y_String_isLatin1.cls ≠ "java/lang/invoke/VarHandle" ∧ (parseMethodDescriptor y_String_isLatin1.desc).map (fun d => d.parameters.length) = some 0 := by decide +kernel
theorem d_String_isLatin1_0 : decode b_String_isLatin1 0 = .ok (.getstatic 38, 3) := by decide +kernel
theorem d_String_isLatin1_3 : decode b_String_isLatin1 3 = .ok (.ifCond .eq 14, 3) := by decide +kernel
theorem d_String_isLatin1_6 : decode b_String_isLatin1 6 = .ok (.aload_n 0, 1) := by decide +kernel
theorem d_String_isLatin1_7 : decode b_String_isLatin1 7 = .ok (.getfield 15, 3) := by decide +kernel
theorem d_String_isLatin1_10 : decode b_String_isLatin1 10 = .ok (.ifCond .ne 7, 3) := by decide +kernel
theorem d_String_isLatin1_13 : decode b_String_isLatin1 13 = .ok (.iconst 1, 1) := by decide +kernel
theorem d_String_isLatin1_14 : decode b_String_isLatin1 14 = .ok (.goto 4, 3) := by decide +kernel
theorem d_String_isLatin1_17 : decode b_String_isLatin1 17 = .ok (.iconst 0, 1) := by decide +kernel
theorem d_String_isLatin1_18 : decode b_String_isLatin1 18 = .ok (.ireturn, 1) := by decide +kernel
def p_String_isLatin1 (n : Nat) (v0 : Nat)  : Option (Int32) := some 1
set_option maxHeartbeats 4000000 in
theorem c_String_isLatin1 (l : Launch) (n : Nat) (adK adV : Nat → Nat) (v0 : Nat)  (hv0 : v0 < 12) : MTi l y_String_isLatin1 b_String_isLatin1 1 .boolean (rL 1) adK adV [.ref (adK v0)] (p_String_isLatin1 n v0 ) := by
  refine en_ti (by decide) (Nat.le_of_ble_eq_true rfl) ?_
  intro z hf p e s m args below meth c ls hx hb hml hown hT hr hlk hTS hl
  have hl : lv_has ls 1 [(0, .ref (adK v0))] := hl
  unfold p_String_isLatin1 at hf
  refine va_gets hx hb hTS.2.1 va_S.rf hown (hT _ fl_String_38) (fun _ h9 => h9) d_String_isLatin1_0 ?_
  refine lv_if_eq (tgt := 17) hx hb d_String_isLatin1_3 (by decide) (fun hc => absurd hc (by decide)) (fun _ => ?_)
  refine lv_aload_n hx hb d_String_isLatin1_6 rfl (lv_at hl 0 rfl) ?_
  refine vk_getf hx hb (hTS.1.1 v0 hv0).2.1 va_S.rf hown (hT _ fl_String_15) (fun _ h9 => h9) d_String_isLatin1_7 ?_
  refine lv_if_ne (tgt := 17) hx hb d_String_isLatin1_10 (by decide) (fun hc => absurd hc (by decide)) (fun _ => ?_)
  refine lv_iconst (v := 1) hx hb d_String_isLatin1_13 (by decide) ?_
  refine lv_goto (tgt := 18) hx hb d_String_isLatin1_14 (by decide) ?_
  obtain rfl := op_i1 hf
  exact rt_si hx hb hr hlk (by decide) d_String_isLatin1_18
theorem hd_Pre_checkIndex : y_Pre_checkIndex.cls ≠ "java/lang/invoke/MethodHandle" ∧ y_Pre_checkIndex.cls ≠ "java/lang/invoke/VarHandle" ∧ (parseMethodDescriptor y_Pre_checkIndex.desc).map (fun d => d.parameters.length) = some 3 := by decide +kernel
theorem d_Pre_checkIndex_0 : decode b_Pre_checkIndex 0 = .ok (.iload_n 0, 1) := by decide +kernel
theorem d_Pre_checkIndex_1 : decode b_Pre_checkIndex 1 = .ok (.ifCond .lt 8, 3) := by decide +kernel
theorem d_Pre_checkIndex_4 : decode b_Pre_checkIndex 4 = .ok (.iload_n 0, 1) := by decide +kernel
theorem d_Pre_checkIndex_5 : decode b_Pre_checkIndex 5 = .ok (.iload_n 1, 1) := by decide +kernel
theorem d_Pre_checkIndex_6 : decode b_Pre_checkIndex 6 = .ok (.if_icmp .lt 10, 3) := by decide +kernel
theorem d_Pre_checkIndex_9 : decode b_Pre_checkIndex 9 = .ok (.aload_n 2, 1) := by decide +kernel
theorem d_Pre_checkIndex_10 : decode b_Pre_checkIndex 10 = .ok (.iload_n 0, 1) := by decide +kernel
theorem d_Pre_checkIndex_11 : decode b_Pre_checkIndex 11 = .ok (.iload_n 1, 1) := by decide +kernel
theorem d_Pre_checkIndex_12 : decode b_Pre_checkIndex 12 = .ok (.invokestatic 95, 3) := by decide +kernel
theorem d_Pre_checkIndex_15 : decode b_Pre_checkIndex 15 = .ok (.athrow, 1) := by decide +kernel
theorem d_Pre_checkIndex_16 : decode b_Pre_checkIndex 16 = .ok (.iload_n 0, 1) := by decide +kernel
theorem d_Pre_checkIndex_17 : decode b_Pre_checkIndex 17 = .ok (.ireturn, 1) := by decide +kernel
def p_Pre_checkIndex (n : Nat) (v0 : Int32) (v1 : Int32)  : Option (Int32) := (if v0 < 0 then none else (if v0 < v1 then some () else none) : Option (Unit)).bind fun _ => some v0
set_option maxHeartbeats 4000000 in
theorem c_Pre_checkIndex (l : Launch) (n : Nat) (adK adV : Nat → Nat) (v0 : Int32) (v1 : Int32) (v2 : Option Nat)   : MTi l y_Pre_checkIndex b_Pre_checkIndex 3 .int (rL 1) adK adV [.int v0, .int v1, va_rf v2] (p_Pre_checkIndex n v0 v1 ) := by
  refine en_ti (by decide) (by cases v2 <;> exact Nat.le_of_ble_eq_true rfl) ?_
  intro z hf p e s m args below meth c ls hx hb hml hown hT hr hlk hTS hl
  have hl : lv_has ls 3 [(0, .int v0), (1, .int v1), (2, va_rf v2)] := hl
  unfold p_Pre_checkIndex at hf
  refine lv_iload_n hx hb d_Pre_checkIndex_0 rfl (lv_at hl 0 rfl) ?_
  obtain ⟨_, he, hf⟩ := op_bind hf
  have K1 : ∀ (ls : Array Slot), lv_has ls 3 [(0, .int v0)] → W p l e (rL 1) s m args below meth c s.heap [] 0 0 (MQ below (fun _ st oc t => oc = .returned (some (.int z)) ∧ t.heap = st.heap) args s 0 0 (fun _ => False)) (F0 m 16 ls []) := by
    intro ls hl
    refine lv_iload_n hx hb d_Pre_checkIndex_16 rfl (lv_at hl 0 rfl) ?_
    obtain rfl := op_i1 hf
    exact rt_si hx hb hr hlk rfl d_Pre_checkIndex_17
  have hf := he
  refine lv_if_lt (tgt := 9) hx hb d_Pre_checkIndex_1 (by decide) (fun hc => ?_) (fun hc => ?_)
  · have hf := op_t hc hf
    cases hf
  · have hf := op_f hc hf
    refine lv_iload_n hx hb d_Pre_checkIndex_4 rfl (lv_at hl 0 rfl) ?_
    refine lv_iload_n hx hb d_Pre_checkIndex_5 rfl (lv_at hl 1 rfl) ?_
    refine lv_icmp_lt (tgt := 16) hx hb d_Pre_checkIndex_6 (by decide) (fun hc => ?_) (fun hc => ?_)
    · have hf := op_t hc hf
      exact K1 ls (lv_sub hl [0] rfl)
    · have hf := op_f hc hf
      cases hf
theorem hd_String_checkIndex : y_String_checkIndex.cls ≠ "java/lang/invoke/MethodHandle" ∧ y_String_checkIndex.cls ≠ "java/lang/invoke/VarHandle" ∧ (parseMethodDescriptor y_String_checkIndex.desc).map (fun d => d.parameters.length) = some 2 := by decide +kernel
theorem d_String_checkIndex_0 : decode b_String_checkIndex 0 = .ok (.iload_n 0, 1) := by decide +kernel
theorem d_String_checkIndex_1 : decode b_String_checkIndex 1 = .ok (.iload_n 1, 1) := by decide +kernel
theorem d_String_checkIndex_2 : decode b_String_checkIndex 2 = .ok (.getstatic 1053, 3) := by decide +kernel
theorem d_String_checkIndex_5 : decode b_String_checkIndex 5 = .ok (.invokestatic 1059, 3) := by decide +kernel
theorem d_String_checkIndex_8 : decode b_String_checkIndex 8 = .ok (.pop, 1) := by decide +kernel
theorem d_String_checkIndex_9 : decode b_String_checkIndex 9 = .ok (.return_, 1) := by decide +kernel
def p_String_checkIndex (n : Nat) (v0 : Int32) (v1 : Int32)  : Option (Unit) := (p_Pre_checkIndex n v0 v1).bind fun x3 => some ()
set_option maxHeartbeats 4000000 in
theorem c_String_checkIndex (l : Launch) (n : Nat) (adK adV : Nat → Nat) (v0 : Int32) (v1 : Int32)   : MTv l y_String_checkIndex b_String_checkIndex 2 (rL 2) adK adV [.int v0, .int v1] (p_String_checkIndex n v0 v1 ) := by
  refine en_tv (by decide) (Nat.le_of_ble_eq_true rfl) ?_
  intro z hf p e s m args below meth c ls hx hb hml hown hT hr hlk hTS hl
  have hl : lv_has ls 2 [(0, .int v0), (1, .int v1)] := hl
  unfold p_String_checkIndex at hf
  refine lv_iload_n hx hb d_String_checkIndex_0 rfl (lv_at hl 0 rfl) ?_
  refine lv_iload_n hx hb d_String_checkIndex_1 rfl (lv_at hl 1 rfl) ?_
  obtain ⟨q1, hzq1⟩ := zq_val hTS.2.2
  refine va_gets hx hb hzq1 va_S.rf hown (hT _ fl_String_1053) (fun _ h9 => h9) d_String_checkIndex_2 ?_
  obtain ⟨x3, hc2, hf⟩ := op_bind hf
  refine kt_s (rest := []) hx hb hml hown hT hTS (c_Pre_checkIndex l n adK adV v0 v1 q1  _ hc2) (cbW 3 hT cd_Pre_checkIndex rfl rfl ini_Pre ml_String_1059 hd_Pre_checkIndex ⟨Nat.le_of_ble_eq_true rfl, Nat.le_of_ble_eq_true rfl⟩) sm_Pre_checkIndex rfl hl.1 rfl (Nat.le_of_ble_eq_true rfl) d_String_checkIndex_5 ⟨Nat.zero_le _, Nat.zero_le _⟩ ?_
  refine lv_pop hx hb d_String_checkIndex_8 rfl ?_
  exact rt_sv hx hb hr hlk d_String_checkIndex_9
theorem hd_SL1_charAt : y_SL1_charAt.cls ≠ "java/lang/invoke/MethodHandle" ∧ y_SL1_charAt.cls ≠ "java/lang/invoke/VarHandle" ∧ (parseMethodDescriptor y_SL1_charAt.desc).map (fun d => d.parameters.length) = some 2 := by decide +kernel
theorem d_SL1_charAt_0 : decode b_SL1_charAt 0 = .ok (.iload_n 1, 1) := by decide +kernel
theorem d_SL1_charAt_1 : decode b_SL1_charAt 1 = .ok (.aload_n 0, 1) := by decide +kernel
theorem d_SL1_charAt_2 : decode b_SL1_charAt 2 = .ok (.arraylength, 1) := by decide +kernel
theorem d_SL1_charAt_3 : decode b_SL1_charAt 3 = .ok (.invokestatic 9, 3) := by decide +kernel
theorem d_SL1_charAt_6 : decode b_SL1_charAt 6 = .ok (.aload_n 0, 1) := by decide +kernel
theorem d_SL1_charAt_7 : decode b_SL1_charAt 7 = .ok (.iload_n 1, 1) := by decide +kernel
theorem d_SL1_charAt_8 : decode b_SL1_charAt 8 = .ok (.baload, 1) := by decide +kernel
theorem d_SL1_charAt_9 : decode b_SL1_charAt 9 = .ok (.sipush 255, 3) := by decide +kernel
theorem d_SL1_charAt_12 : decode b_SL1_charAt 12 = .ok (.iand, 1) := by decide +kernel
theorem d_SL1_charAt_13 : decode b_SL1_charAt 13 = .ok (.i2c, 1) := by decide +kernel
theorem d_SL1_charAt_14 : decode b_SL1_charAt 14 = .ok (.ireturn, 1) := by decide +kernel
def p_SL1_charAt (n : Nat) (v0 : Nat) (v1 : Int32)  : Option (Int32) := (p_String_checkIndex n v1 (sLen v0)).bind fun _ => if ix v1 (lenS.getD v0 0) then if isC ((((sCh v0 v1.toNatClampNeg) &&& 255).toUInt32 % 65536).toInt32) then some ((((sCh v0 v1.toNatClampNeg) &&& 255).toUInt32 % 65536).toInt32) else none else none
set_option maxHeartbeats 4000000 in
theorem c_SL1_charAt (l : Launch) (n : Nat) (adK adV : Nat → Nat) (v0 : Nat) (v1 : Int32)  (hv0 : v0 < 12) : MTi l y_SL1_charAt b_SL1_charAt 2 .char (rL 3) adK adV [.ref (adV v0), .int v1] (p_SL1_charAt n v0 v1 ) := by
  refine en_ti (by decide) (Nat.le_of_ble_eq_true rfl) ?_
  intro z hf p e s m args below meth c ls hx hb hml hown hT hr hlk hTS hl
  have hl : lv_has ls 2 [(0, .ref (adV v0)), (1, .int v1)] := hl
  unfold p_SL1_charAt at hf
  refine lv_iload_n hx hb d_SL1_charAt_0 rfl (lv_at hl 1 rfl) ?_
  refine lv_aload_n hx hb d_SL1_charAt_1 rfl (lv_at hl 0 rfl) ?_
  refine va_tlen (v := sLen v0) hx hb (hTS.1.1 v0 hv0).2.2.2 va_S.rf rfl d_SL1_charAt_2 ?_
  obtain ⟨x2, hc1, hf⟩ := op_bind hf
  refine kt_sv (z := x2) (rest := []) hx hb hml hown hT hTS (c_String_checkIndex l n adK adV v1 (sLen v0)  _ hc1) (cbW 2 hT cd_String_checkIndex rfl rfl ini_String ml_SL1_9 hd_String_checkIndex ⟨Nat.le_of_ble_eq_true rfl, Nat.le_of_ble_eq_true rfl⟩) sm_String_checkIndex rfl hl.1 rfl (Nat.le_of_ble_eq_true rfl) d_SL1_charAt_3 ⟨Nat.zero_le _, Nat.zero_le _⟩ ?_
  refine lv_aload_n hx hb d_SL1_charAt_6 rfl (lv_at hl 0 rfl) ?_
  refine lv_iload_n hx hb d_SL1_charAt_7 rfl (lv_at hl 1 rfl) ?_
  obtain ⟨h3, hf⟩ := op_if hf
  refine va_tb (v := .int (sCh v0 v1.toNatClampNeg)) hx hb (hTS.1.1 v0 hv0).2.2.2 va_S.rf h3 rfl d_SL1_charAt_8 ?_
  refine lv_sipush (v := 255) hx hb d_SL1_charAt_9 (by decide) ?_
  refine lv_iand hx hb d_SL1_charAt_12 ?_
  refine lv_i2c hx hb d_SL1_charAt_13 rfl ?_
  obtain ⟨h4, hf⟩ := op_if hf
  obtain rfl := op_i1 hf
  exact rt_si hx hb hr hlk (isC_nar h4) d_SL1_charAt_14
theorem hd_String_charAt : y_String_charAt.cls ≠ "java/lang/invoke/MethodHandle" ∧ y_String_charAt.cls ≠ "java/lang/invoke/VarHandle" ∧ (parseMethodDescriptor y_String_charAt.desc).map (fun d => d.parameters.length) = some 1 := by decide +kernel
theorem d_String_charAt_0 : decode b_String_charAt 0 = .ok (.aload_n 0, 1) := by decide +kernel
theorem d_String_charAt_1 : decode b_String_charAt 1 = .ok (.invokevirtual 492, 3) := by decide +kernel
theorem d_String_charAt_4 : decode b_String_charAt 4 = .ok (.ifCond .eq 12, 3) := by decide +kernel
theorem d_String_charAt_7 : decode b_String_charAt 7 = .ok (.aload_n 0, 1) := by decide +kernel
theorem d_String_charAt_8 : decode b_String_charAt 8 = .ok (.getfield 9, 3) := by decide +kernel
theorem d_String_charAt_11 : decode b_String_charAt 11 = .ok (.iload_n 1, 1) := by decide +kernel
theorem d_String_charAt_12 : decode b_String_charAt 12 = .ok (.invokestatic 495, 3) := by decide +kernel
theorem d_String_charAt_15 : decode b_String_charAt 15 = .ok (.ireturn, 1) := by decide +kernel
theorem d_String_charAt_16 : decode b_String_charAt 16 = .ok (.aload_n 0, 1) := by decide +kernel
theorem d_String_charAt_17 : decode b_String_charAt 17 = .ok (.getfield 9, 3) := by decide +kernel
theorem d_String_charAt_20 : decode b_String_charAt 20 = .ok (.iload_n 1, 1) := by decide +kernel
theorem d_String_charAt_21 : decode b_String_charAt 21 = .ok (.invokestatic 498, 3) := by decide +kernel
theorem d_String_charAt_24 : decode b_String_charAt 24 = .ok (.ireturn, 1) := by decide +kernel
def p_String_charAt (n : Nat) (v0 : Nat) (v1 : Int32)  : Option (Int32) := (p_String_isLatin1 n v0).bind fun x2 => (if x2 = 0 then none else (p_SL1_charAt n v0 v1).bind fun x4 => if isC x4 then some x4 else none)
set_option maxHeartbeats 4000000 in
theorem c_String_charAt (l : Launch) (n : Nat) (adK adV : Nat → Nat) (v0 : Nat) (v1 : Int32)  (hv0 : v0 < 12) : MTi l y_String_charAt b_String_charAt 2 .char (rL 4) adK adV [.ref (adK v0), .int v1] (p_String_charAt n v0 v1 ) := by
  refine en_ti (by decide) (Nat.le_of_ble_eq_true rfl) ?_
  intro z hf p e s m args below meth c ls hx hb hml hown hT hr hlk hTS hl
  have hl : lv_has ls 2 [(0, .ref (adK v0)), (1, .int v1)] := hl
  unfold p_String_charAt at hf
  refine lv_aload_n hx hb d_String_charAt_0 rfl (lv_at hl 0 rfl) ?_
  obtain ⟨x2, hc1, hf⟩ := op_bind hf
  refine kt_v (i := v0) (rest := []) hx hb hml hown hT hTS hv0 (c_String_isLatin1 l n adK adV v0 hv0 _ hc1) (cbW 0 hT cd_String_isLatin1 rfl rfl ini_String ml_String_492 hd_String_isLatin1 ⟨Nat.le_of_ble_eq_true rfl, Nat.le_of_ble_eq_true rfl⟩) im_String_isLatin1 se_String_String_isLatin1__String_isLatin1 rfl hl.1 rfl (Nat.le_of_ble_eq_true rfl) d_String_charAt_1 ⟨Nat.zero_le _, Nat.zero_le _⟩ ?_
  refine lv_if_eq (tgt := 16) hx hb d_String_charAt_4 (by decide) (fun hc => ?_) (fun hc => ?_)
  · have hf := op_t hc hf
    cases hf
  · have hf := op_f hc hf
    refine lv_aload_n hx hb d_String_charAt_7 rfl (lv_at hl 0 rfl) ?_
    refine vk_getf hx hb (hTS.1.1 v0 hv0).2.2.1 va_S.rf hown (hT _ fl_String_9) (fun _ h9 => h9) d_String_charAt_8 ?_
    refine lv_iload_n hx hb d_String_charAt_11 rfl (lv_at hl 1 rfl) ?_
    obtain ⟨x4, hc3, hf⟩ := op_bind hf
    refine kt_s (rest := []) hx hb hml hown hT hTS (c_SL1_charAt l n adK adV v0 v1 hv0 _ hc3) (cbW 2 hT cd_SL1_charAt rfl rfl ini_SL1 ml_String_495 hd_SL1_charAt ⟨Nat.le_of_ble_eq_true rfl, Nat.le_of_ble_eq_true rfl⟩) sm_SL1_charAt rfl hl.1 rfl (Nat.le_of_ble_eq_true rfl) d_String_charAt_12 ⟨Nat.zero_le _, Nat.zero_le _⟩ ?_
    obtain ⟨h5, hf⟩ := op_if hf
    obtain rfl := op_i1 hf
    exact rt_si hx hb hr hlk (isC_nar h5) d_String_charAt_15
theorem hd_SL1_canEncode : y_SL1_canEncode.cls ≠ "java/lang/invoke/MethodHandle" ∧ y_SL1_canEncode.cls ≠ "java/lang/invoke/VarHandle" ∧ (parseMethodDescriptor y_SL1_canEncode.desc).map (fun d => d.parameters.length) = some 1 := by decide +kernel
theorem d_SL1_canEncode_0 : decode b_SL1_canEncode 0 = .ok (.iload_n 0, 1) := by decide +kernel
theorem d_SL1_canEncode_1 : decode b_SL1_canEncode 1 = .ok (.ifCond .lt 14, 3) := by decide +kernel
theorem d_SL1_canEncode_4 : decode b_SL1_canEncode 4 = .ok (.iload_n 0, 1) := by decide +kernel
theorem d_SL1_canEncode_5 : decode b_SL1_canEncode 5 = .ok (.sipush 255, 3) := by decide +kernel
theorem d_SL1_canEncode_8 : decode b_SL1_canEncode 8 = .ok (.if_icmp .gt 7, 3) := by decide +kernel
theorem d_SL1_canEncode_11 : decode b_SL1_canEncode 11 = .ok (.iconst 1, 1) := by decide +kernel
theorem d_SL1_canEncode_12 : decode b_SL1_canEncode 12 = .ok (.goto 4, 3) := by decide +kernel
theorem d_SL1_canEncode_15 : decode b_SL1_canEncode 15 = .ok (.iconst 0, 1) := by decide +kernel
theorem d_SL1_canEncode_16 : decode b_SL1_canEncode 16 = .ok (.ireturn, 1) := by decide +kernel
def p_SL1_canEncode (n : Nat) (v0 : Int32)  : Option (Int32) := (if v0 < 0 then some 0 else (if 255 < v0 then some 0 else some 1) : Option (Int32)).bind fun x2 => if isZ x2 then some x2 else none
set_option maxHeartbeats 4000000 in
theorem c_SL1_canEncode (l : Launch) (n : Nat) (v0 : Int32)   : MSi l y_SL1_canEncode b_SL1_canEncode 1 .boolean (rL 1) [.int v0] (p_SL1_canEncode n v0 ) := by
  refine en_si (by decide) (Nat.le_of_ble_eq_true rfl) ?_
  intro z hf p e s m args below meth c ls hx hb hml hown hT hr hlk hl
  have hl : lv_has ls 1 [(0, .int v0)] := hl
  unfold p_SL1_canEncode at hf
  refine lv_iload_n hx hb d_SL1_canEncode_0 rfl (lv_at hl 0 rfl) ?_
  obtain ⟨x2, he, hf⟩ := op_bind hf
  have K1 : ∀ (ls : Array Slot), lv_has ls 1 [] → W p l e (rL 1) s m args below meth c s.heap [] 0 0 (MQ below (fun _ st oc t => oc = .returned (some (.int z)) ∧ t.heap = st.heap) args s 0 0 (fun _ => False)) (F0 m 16 ls [.int x2]) := by
    intro ls hl
    obtain ⟨h3, hf⟩ := op_if hf
    obtain rfl := op_i1 hf
    exact rt_si hx hb hr hlk (isZ_nar h3) d_SL1_canEncode_16
  have hf := he
  refine lv_if_lt (tgt := 15) hx hb d_SL1_canEncode_1 (by decide) (fun hc => ?_) (fun hc => ?_)
  · have hf := op_t hc hf
    refine lv_iconst (v := 0) hx hb d_SL1_canEncode_15 (by decide) ?_
    obtain rfl := op_i1 hf
    exact K1 ls (lv_sub hl [] rfl)
  · have hf := op_f hc hf
    refine lv_iload_n hx hb d_SL1_canEncode_4 rfl (lv_at hl 0 rfl) ?_
    refine lv_sipush (v := 255) hx hb d_SL1_canEncode_5 (by decide) ?_
    refine lv_icmp_gt (tgt := 15) hx hb d_SL1_canEncode_8 (by decide) (fun hc => ?_) (fun hc => ?_)
    · have hf := op_t hc hf
      refine lv_iconst (v := 0) hx hb d_SL1_canEncode_15 (by decide) ?_
      obtain rfl := op_i1 hf
      exact K1 ls (lv_sub hl [] rfl)
    · have hf := op_f hc hf
      refine lv_iconst (v := 1) hx hb d_SL1_canEncode_11 (by decide) ?_
      refine lv_goto (tgt := 16) hx hb d_SL1_canEncode_12 (by decide) ?_
      obtain rfl := op_i1 hf
      exact K1 ls (lv_sub hl [] rfl)
theorem hd_SL1_indexOfChar : y_SL1_indexOfChar.cls ≠ "java/lang/invoke/MethodHandle" ∧ y_SL1_indexOfChar.cls ≠ "java/lang/invoke/VarHandle" ∧ (parseMethodDescriptor y_SL1_indexOfChar.desc).map (fun d => d.parameters.length) = some 4 := by decide +kernel
theorem d_SL1_indexOfChar_0 : decode b_SL1_indexOfChar 0 = .ok (.iload_n 1, 1) := by decide +kernel
theorem d_SL1_indexOfChar_1 : decode b_SL1_indexOfChar 1 = .ok (.i2b, 1) := by decide +kernel
theorem d_SL1_indexOfChar_2 : decode b_SL1_indexOfChar 2 = .ok (.istore 4, 2) := by decide +kernel
theorem d_SL1_indexOfChar_4 : decode b_SL1_indexOfChar 4 = .ok (.iload_n 2, 1) := by decide +kernel
theorem d_SL1_indexOfChar_5 : decode b_SL1_indexOfChar 5 = .ok (.istore 5, 2) := by decide +kernel
theorem d_SL1_indexOfChar_7 : decode b_SL1_indexOfChar 7 = .ok (.iload 5, 2) := by decide +kernel
theorem d_SL1_indexOfChar_9 : decode b_SL1_indexOfChar 9 = .ok (.iload_n 3, 1) := by decide +kernel
theorem d_SL1_indexOfChar_10 : decode b_SL1_indexOfChar 10 = .ok (.if_icmp .ge 21, 3) := by decide +kernel
theorem d_SL1_indexOfChar_13 : decode b_SL1_indexOfChar 13 = .ok (.aload_n 0, 1) := by decide +kernel
theorem d_SL1_indexOfChar_14 : decode b_SL1_indexOfChar 14 = .ok (.iload 5, 2) := by decide +kernel
theorem d_SL1_indexOfChar_16 : decode b_SL1_indexOfChar 16 = .ok (.baload, 1) := by decide +kernel
theorem d_SL1_indexOfChar_17 : decode b_SL1_indexOfChar 17 = .ok (.iload 4, 2) := by decide +kernel
theorem d_SL1_indexOfChar_19 : decode b_SL1_indexOfChar 19 = .ok (.if_icmp .ne 6, 3) := by decide +kernel
theorem d_SL1_indexOfChar_22 : decode b_SL1_indexOfChar 22 = .ok (.iload 5, 2) := by decide +kernel
theorem d_SL1_indexOfChar_24 : decode b_SL1_indexOfChar 24 = .ok (.ireturn, 1) := by decide +kernel
theorem d_SL1_indexOfChar_25 : decode b_SL1_indexOfChar 25 = .ok (.iinc 5 1, 3) := by decide +kernel
theorem d_SL1_indexOfChar_28 : decode b_SL1_indexOfChar 28 = .ok (.goto (-21), 3) := by decide +kernel
theorem d_SL1_indexOfChar_31 : decode b_SL1_indexOfChar 31 = .ok (.iconst (-1), 1) := by decide +kernel
theorem d_SL1_indexOfChar_32 : decode b_SL1_indexOfChar 32 = .ok (.ireturn, 1) := by decide +kernel
def l_SL1_indexOfChar_7 (n : Nat) (v0 : Nat) (v3 : Int32) (v4 : Int32)  : Nat → Int32 → Option (Int32)
  | 0, _ => none
  | k + 1, v5 => (if v3 ≤ v5 then some (-1) else if ix v5 (lenS.getD v0 0) then (if (sCh v0 v5.toNatClampNeg) = v4 then some v5 else l_SL1_indexOfChar_7 n v0 v3 v4 k (v5 + 1)) else none)
set_option maxHeartbeats 4000000 in
theorem wl_SL1_indexOfChar_7  {p : Program} {l : Launch} {e : Env} {s : State} {m : MethodId} {args : Array Value} {below : List Frame} {meth : Method} {c : Code} (hx : p.tables.exec = Jvm.exec) (hb : c.code = b_SL1_indexOfChar) (hml : c.maxLocals = 6) (hown : s.vm.findClass "java/lang/StringLatin1" = some m.cls) (hT : ∀ w ∈ WT, w.before args s = true) (hr : meth.sig.returnType = some .int) (hlk : meth.locks = false) {adK adV : Nat → Nat} (hTS : tS adK adV (fun _ => False) s s.heap) (n : Nat) (v0 : Nat) (hv0 : v0 < 12) (v3 : Int32) (v4 : Int32)  : ∀ (k : Nat) (v5 : Int32) (z : Int32), l_SL1_indexOfChar_7 n v0 v3 v4 k v5 = some z → ∀ (ls : Array Slot), lv_has ls 6 [(0, .ref (adV v0)), (3, .int v3), (4, .int v4), (5, .int v5)] → W p l e (rL 1) s m args below meth c s.heap [] 0 0 (MQ below (fun _ st oc t => oc = .returned (some (.int z)) ∧ t.heap = st.heap) args s 0 0 (fun _ => False)) (F0 m 7 ls []) := by
  intro k
  induction k with
  | zero => intro v5 z hf; exact absurd hf (by unfold l_SL1_indexOfChar_7; exact fun h9 => by cases h9)
  | succ k ih =>
    intro v5 z hf ls hl
    unfold l_SL1_indexOfChar_7 at hf
    refine lv_iload hx hb d_SL1_indexOfChar_7 (lv_at hl 3 rfl) ?_
    refine lv_iload_n hx hb d_SL1_indexOfChar_9 rfl (lv_at hl 1 rfl) ?_
    refine lv_icmp_ge (tgt := 31) hx hb d_SL1_indexOfChar_10 (by decide) (fun hc => ?_) (fun hc => ?_)
    · have hf := op_t hc hf
      refine lv_iconst (v := (-1)) hx hb d_SL1_indexOfChar_31 (by decide) ?_
      obtain rfl := op_i1 hf
      exact rt_si hx hb hr hlk rfl d_SL1_indexOfChar_32
    · have hf := op_f hc hf
      refine lv_aload_n hx hb d_SL1_indexOfChar_13 rfl (lv_at hl 0 rfl) ?_
      refine lv_iload hx hb d_SL1_indexOfChar_14 (lv_at hl 3 rfl) ?_
      obtain ⟨h1, hf⟩ := op_if hf
      refine va_tb (v := .int (sCh v0 v5.toNatClampNeg)) hx hb (hTS.1.1 v0 hv0).2.2.2 va_S.rf h1 rfl d_SL1_indexOfChar_16 ?_
      refine lv_iload hx hb d_SL1_indexOfChar_17 (lv_at hl 2 rfl) ?_
      refine lv_icmp_ne (tgt := 25) hx hb d_SL1_indexOfChar_19 (by decide) (fun hc => ?_) (fun hc => ?_)
      · have hf := op_f hc hf
        refine lv_iinc (v := (v5 + 1)) (lv' := [(5, .int (v5 + 1)), (0, .ref (adV v0)), (3, .int v3), (4, .int v4)]) hx hb d_SL1_indexOfChar_25 hl (k := 3) rfl rfl (by decide) rfl (fun ls hl => ?_)
        refine lv_goto (tgt := 7) hx hb d_SL1_indexOfChar_28 (by decide) ?_
        exact ih (v5 + 1) _ hf ls (lv_sub hl [1, 2, 3, 0] rfl)
      · have hf := op_t hc hf
        refine lv_iload hx hb d_SL1_indexOfChar_22 (lv_at hl 3 rfl) ?_
        obtain rfl := op_i1 hf
        exact rt_si hx hb hr hlk rfl d_SL1_indexOfChar_24
def p_SL1_indexOfChar (n : Nat) (v0 : Nat) (v1 : Int32) (v2 : Int32) (v3 : Int32)  : Option (Int32) := l_SL1_indexOfChar_7 n v0 v3 (v1.toInt8.toInt32) n v2
set_option maxHeartbeats 4000000 in
theorem c_SL1_indexOfChar (l : Launch) (n : Nat) (adK adV : Nat → Nat) (v0 : Nat) (v1 : Int32) (v2 : Int32) (v3 : Int32)  (hv0 : v0 < 12) : MTi l y_SL1_indexOfChar b_SL1_indexOfChar 6 .int (rL 1) adK adV [.ref (adV v0), .int v1, .int v2, .int v3] (p_SL1_indexOfChar n v0 v1 v2 v3 ) := by
  refine en_ti (by decide) (Nat.le_of_ble_eq_true rfl) ?_
  intro z hf p e s m args below meth c ls hx hb hml hown hT hr hlk hTS hl
  have hl : lv_has ls 6 [(0, .ref (adV v0)), (1, .int v1), (2, .int v2), (3, .int v3)] := hl
  unfold p_SL1_indexOfChar at hf
  refine lv_iload_n hx hb d_SL1_indexOfChar_0 rfl (lv_at hl 1 rfl) ?_
  refine lv_i2b hx hb d_SL1_indexOfChar_1 rfl ?_
  refine lv_istore (lv' := [(4, .int (v1.toInt8.toInt32)), (0, .ref (adV v0)), (1, .int v1), (2, .int v2), (3, .int v3)]) hx hb d_SL1_indexOfChar_2 hl (by decide) rfl (fun ls hl => ?_)
  refine lv_iload_n hx hb d_SL1_indexOfChar_4 rfl (lv_at hl 3 rfl) ?_
  refine lv_istore (lv' := [(5, .int v2), (4, .int (v1.toInt8.toInt32)), (0, .ref (adV v0)), (1, .int v1), (2, .int v2), (3, .int v3)]) hx hb d_SL1_indexOfChar_5 hl (by decide) rfl (fun ls hl => ?_)
  exact wl_SL1_indexOfChar_7 hx hb hml hown hT hr hlk hTS n v0 hv0 v3 (v1.toInt8.toInt32) n v2 _ hf ls (lv_sub hl [2, 5, 1, 0] rfl)
theorem hd_SL1_indexOf : y_SL1_indexOf.cls ≠ "java/lang/invoke/MethodHandle" ∧ y_SL1_indexOf.cls ≠ "java/lang/invoke/VarHandle" ∧ (parseMethodDescriptor y_SL1_indexOf.desc).map (fun d => d.parameters.length) = some 4 := by decide +kernel
theorem d_SL1_indexOf_0 : decode b_SL1_indexOf 0 = .ok (.iload_n 1, 1) := by decide +kernel
theorem d_SL1_indexOf_1 : decode b_SL1_indexOf 1 = .ok (.invokestatic 88, 3) := by decide +kernel
theorem d_SL1_indexOf_4 : decode b_SL1_indexOf 4 = .ok (.ifCond .ne 5, 3) := by decide +kernel
theorem d_SL1_indexOf_7 : decode b_SL1_indexOf 7 = .ok (.iconst (-1), 1) := by decide +kernel
theorem d_SL1_indexOf_8 : decode b_SL1_indexOf 8 = .ok (.ireturn, 1) := by decide +kernel
theorem d_SL1_indexOf_9 : decode b_SL1_indexOf 9 = .ok (.iload_n 2, 1) := by decide +kernel
theorem d_SL1_indexOf_10 : decode b_SL1_indexOf 10 = .ok (.iconst 0, 1) := by decide +kernel
theorem d_SL1_indexOf_11 : decode b_SL1_indexOf 11 = .ok (.invokestatic 92, 3) := by decide +kernel
theorem d_SL1_indexOf_14 : decode b_SL1_indexOf 14 = .ok (.istore_n 2, 1) := by decide +kernel
theorem d_SL1_indexOf_15 : decode b_SL1_indexOf 15 = .ok (.iload_n 3, 1) := by decide +kernel
theorem d_SL1_indexOf_16 : decode b_SL1_indexOf 16 = .ok (.aload_n 0, 1) := by decide +kernel
theorem d_SL1_indexOf_17 : decode b_SL1_indexOf 17 = .ok (.arraylength, 1) := by decide +kernel
theorem d_SL1_indexOf_18 : decode b_SL1_indexOf 18 = .ok (.invokestatic 38, 3) := by decide +kernel
theorem d_SL1_indexOf_21 : decode b_SL1_indexOf 21 = .ok (.istore_n 3, 1) := by decide +kernel
theorem d_SL1_indexOf_22 : decode b_SL1_indexOf 22 = .ok (.iload_n 2, 1) := by decide +kernel
theorem d_SL1_indexOf_23 : decode b_SL1_indexOf 23 = .ok (.iload_n 3, 1) := by decide +kernel
theorem d_SL1_indexOf_24 : decode b_SL1_indexOf 24 = .ok (.if_icmp .lt 5, 3) := by decide +kernel
theorem d_SL1_indexOf_27 : decode b_SL1_indexOf 27 = .ok (.iconst (-1), 1) := by decide +kernel
theorem d_SL1_indexOf_28 : decode b_SL1_indexOf 28 = .ok (.ireturn, 1) := by decide +kernel
theorem d_SL1_indexOf_29 : decode b_SL1_indexOf 29 = .ok (.aload_n 0, 1) := by decide +kernel
theorem d_SL1_indexOf_30 : decode b_SL1_indexOf 30 = .ok (.iload_n 1, 1) := by decide +kernel
theorem d_SL1_indexOf_31 : decode b_SL1_indexOf 31 = .ok (.iload_n 2, 1) := by decide +kernel
theorem d_SL1_indexOf_32 : decode b_SL1_indexOf 32 = .ok (.iload_n 3, 1) := by decide +kernel
theorem d_SL1_indexOf_33 : decode b_SL1_indexOf 33 = .ok (.invokestatic 95, 3) := by decide +kernel
theorem d_SL1_indexOf_36 : decode b_SL1_indexOf 36 = .ok (.ireturn, 1) := by decide +kernel
def p_SL1_indexOf (n : Nat) (v0 : Nat) (v1 : Int32) (v2 : Int32) (v3 : Int32)  : Option (Int32) := (p_SL1_canEncode n v1).bind fun x2 => (if x2 = 0 then some (-1) else (if (jmax v2 0) < (jmin v3 (sLen v0)) then (p_SL1_indexOfChar n v0 v1 (jmax v2 0) (jmin v3 (sLen v0))).bind fun x4 => some x4 else some (-1)))
set_option maxHeartbeats 4000000 in
theorem c_SL1_indexOf (l : Launch) (n : Nat) (adK adV : Nat → Nat) (v0 : Nat) (v1 : Int32) (v2 : Int32) (v3 : Int32)  (hv0 : v0 < 12) : MTi l y_SL1_indexOf b_SL1_indexOf 4 .int (rL 2) adK adV [.ref (adV v0), .int v1, .int v2, .int v3] (p_SL1_indexOf n v0 v1 v2 v3 ) := by
  refine en_ti (by decide) (Nat.le_of_ble_eq_true rfl) ?_
  intro z hf p e s m args below meth c ls hx hb hml hown hT hr hlk hTS hl
  have hl : lv_has ls 4 [(0, .ref (adV v0)), (1, .int v1), (2, .int v2), (3, .int v3)] := hl
  unfold p_SL1_indexOf at hf
  refine lv_iload_n hx hb d_SL1_indexOf_0 rfl (lv_at hl 1 rfl) ?_
  obtain ⟨x2, hc1, hf⟩ := op_bind hf
  refine ks_i (rest := []) hx hb hml hown hT (c_SL1_canEncode l n v1 _ hc1) (cbW 1 hT cd_SL1_canEncode rfl rfl ini_SL1 ml_SL1_88 hd_SL1_canEncode ⟨Nat.le_of_ble_eq_true rfl, Nat.le_of_ble_eq_true rfl⟩) sm_SL1_canEncode rfl hl.1 rfl (Nat.le_of_ble_eq_true rfl) d_SL1_indexOf_1 ⟨Nat.zero_le _, Nat.zero_le _⟩ ?_
  refine lv_if_ne (tgt := 9) hx hb d_SL1_indexOf_4 (by decide) (fun hc => ?_) (fun hc => ?_)
  · have hf := op_f hc hf
    refine lv_iload_n hx hb d_SL1_indexOf_9 rfl (lv_at hl 2 rfl) ?_
    refine lv_iconst (v := 0) hx hb d_SL1_indexOf_10 (by decide) ?_
    refine k_jmax hx hb hml hown hl.1 (hT _ ml_SL1_92) hT d_SL1_indexOf_11 (Nat.le_of_ble_eq_true rfl) (Nat.le_of_ble_eq_true rfl) (Nat.le_of_ble_eq_true rfl) ⟨Nat.zero_le _, Nat.zero_le _⟩ ?_
    refine lv_istore_n (lv' := [(2, .int (jmax v2 0)), (0, .ref (adV v0)), (1, .int v1), (3, .int v3)]) hx hb d_SL1_indexOf_14 rfl hl (by decide) rfl (fun ls hl => ?_)
    refine lv_iload_n hx hb d_SL1_indexOf_15 rfl (lv_at hl 3 rfl) ?_
    refine lv_aload_n hx hb d_SL1_indexOf_16 rfl (lv_at hl 1 rfl) ?_
    refine va_tlen (v := sLen v0) hx hb (hTS.1.1 v0 hv0).2.2.2 va_S.rf rfl d_SL1_indexOf_17 ?_
    refine k_jmin hx hb hml hown hl.1 (hT _ ml_SL1_38) hT d_SL1_indexOf_18 (Nat.le_of_ble_eq_true rfl) (Nat.le_of_ble_eq_true rfl) (Nat.le_of_ble_eq_true rfl) ⟨Nat.zero_le _, Nat.zero_le _⟩ ?_
    refine lv_istore_n (lv' := [(3, .int (jmin v3 (sLen v0))), (2, .int (jmax v2 0)), (0, .ref (adV v0)), (1, .int v1)]) hx hb d_SL1_indexOf_21 rfl hl (by decide) rfl (fun ls hl => ?_)
    refine lv_iload_n hx hb d_SL1_indexOf_22 rfl (lv_at hl 1 rfl) ?_
    refine lv_iload_n hx hb d_SL1_indexOf_23 rfl (lv_at hl 0 rfl) ?_
    refine lv_icmp_lt (tgt := 29) hx hb d_SL1_indexOf_24 (by decide) (fun hc => ?_) (fun hc => ?_)
    · have hf := op_t hc hf
      refine lv_aload_n hx hb d_SL1_indexOf_29 rfl (lv_at hl 2 rfl) ?_
      refine lv_iload_n hx hb d_SL1_indexOf_30 rfl (lv_at hl 3 rfl) ?_
      refine lv_iload_n hx hb d_SL1_indexOf_31 rfl (lv_at hl 1 rfl) ?_
      refine lv_iload_n hx hb d_SL1_indexOf_32 rfl (lv_at hl 0 rfl) ?_
      obtain ⟨x4, hc3, hf⟩ := op_bind hf
      refine kt_s (rest := []) hx hb hml hown hT hTS (c_SL1_indexOfChar l n adK adV v0 v1 (jmax v2 0) (jmin v3 (sLen v0)) hv0 _ hc3) (cbW 4 hT cd_SL1_indexOfChar rfl rfl ini_SL1 ml_SL1_95 hd_SL1_indexOfChar ⟨Nat.le_of_ble_eq_true rfl, Nat.le_of_ble_eq_true rfl⟩) sm_SL1_indexOfChar rfl hl.1 rfl (Nat.le_of_ble_eq_true rfl) d_SL1_indexOf_33 ⟨Nat.zero_le _, Nat.zero_le _⟩ ?_
      obtain rfl := op_i1 hf
      exact rt_si hx hb hr hlk rfl d_SL1_indexOf_36
    · have hf := op_f hc hf
      refine lv_iconst (v := (-1)) hx hb d_SL1_indexOf_27 (by decide) ?_
      obtain rfl := op_i1 hf
      exact rt_si hx hb hr hlk rfl d_SL1_indexOf_28
  · have hf := op_t hc hf
    refine lv_iconst (v := (-1)) hx hb d_SL1_indexOf_7 (by decide) ?_
    obtain rfl := op_i1 hf
    exact rt_si hx hb hr hlk rfl d_SL1_indexOf_8
theorem hd_String_indexOf_o1 : y_String_indexOf_o1.cls ≠ "java/lang/invoke/MethodHandle" ∧ y_String_indexOf_o1.cls ≠ "java/lang/invoke/VarHandle" ∧ (parseMethodDescriptor y_String_indexOf_o1.desc).map (fun d => d.parameters.length) = some 2 := by decide +kernel
theorem d_String_indexOf_o1_0 : decode b_String_indexOf_o1 0 = .ok (.aload_n 0, 1) := by decide +kernel
theorem d_String_indexOf_o1_1 : decode b_String_indexOf_o1 1 = .ok (.invokevirtual 492, 3) := by decide +kernel
theorem d_String_indexOf_o1_4 : decode b_String_indexOf_o1 4 = .ok (.ifCond .eq 19, 3) := by decide +kernel
theorem d_String_indexOf_o1_7 : decode b_String_indexOf_o1 7 = .ok (.aload_n 0, 1) := by decide +kernel
theorem d_String_indexOf_o1_8 : decode b_String_indexOf_o1 8 = .ok (.getfield 9, 3) := by decide +kernel
theorem d_String_indexOf_o1_11 : decode b_String_indexOf_o1 11 = .ok (.iload_n 1, 1) := by decide +kernel
theorem d_String_indexOf_o1_12 : decode b_String_indexOf_o1 12 = .ok (.iload_n 2, 1) := by decide +kernel
theorem d_String_indexOf_o1_13 : decode b_String_indexOf_o1 13 = .ok (.aload_n 0, 1) := by decide +kernel
theorem d_String_indexOf_o1_14 : decode b_String_indexOf_o1 14 = .ok (.invokevirtual 505, 3) := by decide +kernel
theorem d_String_indexOf_o1_17 : decode b_String_indexOf_o1 17 = .ok (.invokestatic 637, 3) := by decide +kernel
theorem d_String_indexOf_o1_20 : decode b_String_indexOf_o1 20 = .ok (.goto 16, 3) := by decide +kernel
theorem d_String_indexOf_o1_23 : decode b_String_indexOf_o1 23 = .ok (.aload_n 0, 1) := by decide +kernel
theorem d_String_indexOf_o1_24 : decode b_String_indexOf_o1 24 = .ok (.getfield 9, 3) := by decide +kernel
theorem d_String_indexOf_o1_27 : decode b_String_indexOf_o1 27 = .ok (.iload_n 1, 1) := by decide +kernel
theorem d_String_indexOf_o1_28 : decode b_String_indexOf_o1 28 = .ok (.iload_n 2, 1) := by decide +kernel
theorem d_String_indexOf_o1_29 : decode b_String_indexOf_o1 29 = .ok (.aload_n 0, 1) := by decide +kernel
theorem d_String_indexOf_o1_30 : decode b_String_indexOf_o1 30 = .ok (.invokevirtual 505, 3) := by decide +kernel
theorem d_String_indexOf_o1_33 : decode b_String_indexOf_o1 33 = .ok (.invokestatic 640, 3) := by decide +kernel
theorem d_String_indexOf_o1_36 : decode b_String_indexOf_o1 36 = .ok (.ireturn, 1) := by decide +kernel
def p_String_indexOf_o1 (n : Nat) (v0 : Nat) (v1 : Int32) (v2 : Int32)  : Option (Int32) := (p_String_isLatin1 n v0).bind fun x2 => (if x2 = 0 then none else (p_String_length n v0).bind fun x6 => (p_SL1_indexOf n v0 v1 v2 x6).bind fun x8 => some x8 : Option (Int32)).bind fun x4 => some x4
set_option maxHeartbeats 4000000 in
theorem c_String_indexOf_o1 (l : Launch) (n : Nat) (adK adV : Nat → Nat) (v0 : Nat) (v1 : Int32) (v2 : Int32)  (hv0 : v0 < 12) : MTi l y_String_indexOf_o1 b_String_indexOf_o1 3 .int (rL 3) adK adV [.ref (adK v0), .int v1, .int v2] (p_String_indexOf_o1 n v0 v1 v2 ) := by
  refine en_ti (by decide) (Nat.le_of_ble_eq_true rfl) ?_
  intro z hf p e s m args below meth c ls hx hb hml hown hT hr hlk hTS hl
  have hl : lv_has ls 3 [(0, .ref (adK v0)), (1, .int v1), (2, .int v2)] := hl
  unfold p_String_indexOf_o1 at hf
  refine lv_aload_n hx hb d_String_indexOf_o1_0 rfl (lv_at hl 0 rfl) ?_
  obtain ⟨x2, hc1, hf⟩ := op_bind hf
  refine kt_v (i := v0) (rest := []) hx hb hml hown hT hTS hv0 (c_String_isLatin1 l n adK adV v0 hv0 _ hc1) (cbW 0 hT cd_String_isLatin1 rfl rfl ini_String ml_String_492 hd_String_isLatin1 ⟨Nat.le_of_ble_eq_true rfl, Nat.le_of_ble_eq_true rfl⟩) im_String_isLatin1 se_String_String_isLatin1__String_isLatin1 rfl hl.1 rfl (Nat.le_of_ble_eq_true rfl) d_String_indexOf_o1_1 ⟨Nat.zero_le _, Nat.zero_le _⟩ ?_
  obtain ⟨x4, he, hf⟩ := op_bind hf
  have K3 : ∀ (ls : Array Slot), lv_has ls 3 [] → W p l e (rL 3) s m args below meth c s.heap [] 0 0 (MQ below (fun _ st oc t => oc = .returned (some (.int z)) ∧ t.heap = st.heap) args s 0 0 (fun _ => False)) (F0 m 36 ls [.int x4]) := by
    intro ls hl
    obtain rfl := op_i1 hf
    exact rt_si hx hb hr hlk rfl d_String_indexOf_o1_36
  have hf := he
  refine lv_if_eq (tgt := 23) hx hb d_String_indexOf_o1_4 (by decide) (fun hc => ?_) (fun hc => ?_)
  · have hf := op_t hc hf
    cases hf
  · have hf := op_f hc hf
    refine lv_aload_n hx hb d_String_indexOf_o1_7 rfl (lv_at hl 0 rfl) ?_
    refine vk_getf hx hb (hTS.1.1 v0 hv0).2.2.1 va_S.rf hown (hT _ fl_String_9) (fun _ h9 => h9) d_String_indexOf_o1_8 ?_
    refine lv_iload_n hx hb d_String_indexOf_o1_11 rfl (lv_at hl 1 rfl) ?_
    refine lv_iload_n hx hb d_String_indexOf_o1_12 rfl (lv_at hl 2 rfl) ?_
    refine lv_aload_n hx hb d_String_indexOf_o1_13 rfl (lv_at hl 0 rfl) ?_
    obtain ⟨x6, hc5, hf⟩ := op_bind hf
    refine kt_v (i := v0) (rest := [.int v2, .int v1, .ref (adV v0)]) hx hb hml hown hT hTS hv0 (c_String_length l n adK adV v0 hv0 _ hc5) (cbW 0 hT cd_String_length rfl rfl ini_String ml_String_505 hd_String_length ⟨Nat.le_of_ble_eq_true rfl, Nat.le_of_ble_eq_true rfl⟩) im_String_length se_String_String_length__String_length rfl hl.1 rfl (Nat.le_of_ble_eq_true rfl) d_String_indexOf_o1_14 ⟨Nat.zero_le _, Nat.zero_le _⟩ ?_
    obtain ⟨x8, hc7, hf⟩ := op_bind hf
    refine kt_s (rest := []) hx hb hml hown hT hTS (c_SL1_indexOf l n adK adV v0 v1 v2 x6 hv0 _ hc7) (cbW 4 hT cd_SL1_indexOf rfl rfl ini_SL1 ml_String_637 hd_SL1_indexOf ⟨Nat.le_of_ble_eq_true rfl, Nat.le_of_ble_eq_true rfl⟩) sm_SL1_indexOf rfl hl.1 rfl (Nat.le_of_ble_eq_true rfl) d_String_indexOf_o1_17 ⟨Nat.zero_le _, Nat.zero_le _⟩ ?_
    refine lv_goto (tgt := 36) hx hb d_String_indexOf_o1_20 (by decide) ?_
    obtain rfl := op_i1 hf
    exact K3 ls (lv_sub hl [] rfl)
theorem hd_String_indexOf : y_String_indexOf.cls ≠ "java/lang/invoke/MethodHandle" ∧ y_String_indexOf.cls ≠ "java/lang/invoke/VarHandle" ∧ (parseMethodDescriptor y_String_indexOf.desc).map (fun d => d.parameters.length) = some 1 := by decide +kernel
theorem d_String_indexOf_0 : decode b_String_indexOf 0 = .ok (.aload_n 0, 1) := by decide +kernel
theorem d_String_indexOf_1 : decode b_String_indexOf 1 = .ok (.iload_n 1, 1) := by decide +kernel
theorem d_String_indexOf_2 : decode b_String_indexOf 2 = .ok (.iconst 0, 1) := by decide +kernel
theorem d_String_indexOf_3 : decode b_String_indexOf 3 = .ok (.invokevirtual 633, 3) := by decide +kernel
theorem d_String_indexOf_6 : decode b_String_indexOf 6 = .ok (.ireturn, 1) := by decide +kernel
def p_String_indexOf (n : Nat) (v0 : Nat) (v1 : Int32)  : Option (Int32) := (p_String_indexOf_o1 n v0 v1 0).bind fun x2 => some x2
set_option maxHeartbeats 4000000 in
theorem c_String_indexOf (l : Launch) (n : Nat) (adK adV : Nat → Nat) (v0 : Nat) (v1 : Int32)  (hv0 : v0 < 12) : MTi l y_String_indexOf b_String_indexOf 2 .int (rL 4) adK adV [.ref (adK v0), .int v1] (p_String_indexOf n v0 v1 ) := by
  refine en_ti (by decide) (Nat.le_of_ble_eq_true rfl) ?_
  intro z hf p e s m args below meth c ls hx hb hml hown hT hr hlk hTS hl
  have hl : lv_has ls 2 [(0, .ref (adK v0)), (1, .int v1)] := hl
  unfold p_String_indexOf at hf
  refine lv_aload_n hx hb d_String_indexOf_0 rfl (lv_at hl 0 rfl) ?_
  refine lv_iload_n hx hb d_String_indexOf_1 rfl (lv_at hl 1 rfl) ?_
  refine lv_iconst (v := 0) hx hb d_String_indexOf_2 (by decide) ?_
  obtain ⟨x2, hc1, hf⟩ := op_bind hf
  refine kt_v (i := v0) (rest := []) hx hb hml hown hT hTS hv0 (c_String_indexOf_o1 l n adK adV v0 v1 0 hv0 _ hc1) (cbW 2 hT cd_String_indexOf_o1 rfl rfl ini_String ml_String_633 hd_String_indexOf_o1 ⟨Nat.le_of_ble_eq_true rfl, Nat.le_of_ble_eq_true rfl⟩) im_String_indexOf_o1 se_String_String_indexOf_o1__String_indexOf_o1 rfl hl.1 rfl (Nat.le_of_ble_eq_true rfl) d_String_indexOf_3 ⟨Nat.zero_le _, Nat.zero_le _⟩ ?_
  obtain rfl := op_i1 hf
  exact rt_si hx hb hr hlk rfl d_String_indexOf_6
theorem hd_Integer_bitCount : y_Integer_bitCount.cls ≠ "java/lang/invoke/MethodHandle" ∧ y_Integer_bitCount.cls ≠ "java/lang/invoke/VarHandle" ∧ (parseMethodDescriptor y_Integer_bitCount.desc).map (fun d => d.parameters.length) = some 1 := by decide +kernel
theorem d_Integer_bitCount_0 : decode b_Integer_bitCount 0 = .ok (.iload_n 0, 1) := by decide +kernel
theorem d_Integer_bitCount_1 : decode b_Integer_bitCount 1 = .ok (.iload_n 0, 1) := by decide +kernel
theorem d_Integer_bitCount_2 : decode b_Integer_bitCount 2 = .ok (.iconst 1, 1) := by decide +kernel
theorem d_Integer_bitCount_3 : decode b_Integer_bitCount 3 = .ok (.iushr, 1) := by decide +kernel
theorem d_Integer_bitCount_4 : decode b_Integer_bitCount 4 = .ok (.ldc_w 265, 3) := by decide +kernel
theorem d_Integer_bitCount_7 : decode b_Integer_bitCount 7 = .ok (.iand, 1) := by decide +kernel
theorem d_Integer_bitCount_8 : decode b_Integer_bitCount 8 = .ok (.isub, 1) := by decide +kernel
theorem d_Integer_bitCount_9 : decode b_Integer_bitCount 9 = .ok (.istore_n 0, 1) := by decide +kernel
theorem d_Integer_bitCount_10 : decode b_Integer_bitCount 10 = .ok (.iload_n 0, 1) := by decide +kernel
theorem d_Integer_bitCount_11 : decode b_Integer_bitCount 11 = .ok (.ldc_w 266, 3) := by decide +kernel
theorem d_Integer_bitCount_14 : decode b_Integer_bitCount 14 = .ok (.iand, 1) := by decide +kernel
theorem d_Integer_bitCount_15 : decode b_Integer_bitCount 15 = .ok (.iload_n 0, 1) := by decide +kernel
theorem d_Integer_bitCount_16 : decode b_Integer_bitCount 16 = .ok (.iconst 2, 1) := by decide +kernel
theorem d_Integer_bitCount_17 : decode b_Integer_bitCount 17 = .ok (.iushr, 1) := by decide +kernel
theorem d_Integer_bitCount_18 : decode b_Integer_bitCount 18 = .ok (.ldc_w 266, 3) := by decide +kernel
theorem d_Integer_bitCount_21 : decode b_Integer_bitCount 21 = .ok (.iand, 1) := by decide +kernel
theorem d_Integer_bitCount_22 : decode b_Integer_bitCount 22 = .ok (.iadd, 1) := by decide +kernel
theorem d_Integer_bitCount_23 : decode b_Integer_bitCount 23 = .ok (.istore_n 0, 1) := by decide +kernel
theorem d_Integer_bitCount_24 : decode b_Integer_bitCount 24 = .ok (.iload_n 0, 1) := by decide +kernel
theorem d_Integer_bitCount_25 : decode b_Integer_bitCount 25 = .ok (.iload_n 0, 1) := by decide +kernel
theorem d_Integer_bitCount_26 : decode b_Integer_bitCount 26 = .ok (.iconst 4, 1) := by decide +kernel
theorem d_Integer_bitCount_27 : decode b_Integer_bitCount 27 = .ok (.iushr, 1) := by decide +kernel
theorem d_Integer_bitCount_28 : decode b_Integer_bitCount 28 = .ok (.iadd, 1) := by decide +kernel
theorem d_Integer_bitCount_29 : decode b_Integer_bitCount 29 = .ok (.ldc_w 267, 3) := by decide +kernel
theorem d_Integer_bitCount_32 : decode b_Integer_bitCount 32 = .ok (.iand, 1) := by decide +kernel
theorem d_Integer_bitCount_33 : decode b_Integer_bitCount 33 = .ok (.istore_n 0, 1) := by decide +kernel
theorem d_Integer_bitCount_34 : decode b_Integer_bitCount 34 = .ok (.iload_n 0, 1) := by decide +kernel
theorem d_Integer_bitCount_35 : decode b_Integer_bitCount 35 = .ok (.iload_n 0, 1) := by decide +kernel
theorem d_Integer_bitCount_36 : decode b_Integer_bitCount 36 = .ok (.bipush 8, 2) := by decide +kernel
theorem d_Integer_bitCount_38 : decode b_Integer_bitCount 38 = .ok (.iushr, 1) := by decide +kernel
theorem d_Integer_bitCount_39 : decode b_Integer_bitCount 39 = .ok (.iadd, 1) := by decide +kernel
theorem d_Integer_bitCount_40 : decode b_Integer_bitCount 40 = .ok (.istore_n 0, 1) := by decide +kernel
theorem d_Integer_bitCount_41 : decode b_Integer_bitCount 41 = .ok (.iload_n 0, 1) := by decide +kernel
theorem d_Integer_bitCount_42 : decode b_Integer_bitCount 42 = .ok (.iload_n 0, 1) := by decide +kernel
theorem d_Integer_bitCount_43 : decode b_Integer_bitCount 43 = .ok (.bipush 16, 2) := by decide +kernel
theorem d_Integer_bitCount_45 : decode b_Integer_bitCount 45 = .ok (.iushr, 1) := by decide +kernel
theorem d_Integer_bitCount_46 : decode b_Integer_bitCount 46 = .ok (.iadd, 1) := by decide +kernel
theorem d_Integer_bitCount_47 : decode b_Integer_bitCount 47 = .ok (.istore_n 0, 1) := by decide +kernel
theorem d_Integer_bitCount_48 : decode b_Integer_bitCount 48 = .ok (.iload_n 0, 1) := by decide +kernel
theorem d_Integer_bitCount_49 : decode b_Integer_bitCount 49 = .ok (.bipush 63, 2) := by decide +kernel
theorem d_Integer_bitCount_51 : decode b_Integer_bitCount 51 = .ok (.iand, 1) := by decide +kernel
theorem d_Integer_bitCount_52 : decode b_Integer_bitCount 52 = .ok (.ireturn, 1) := by decide +kernel
def p_Integer_bitCount (n : Nat) (v0 : Int32)  : Option (Int32) := some (((((((((v0 - (((v0.toUInt32 >>> ((1 : Int32).toUInt32 &&& Int32.toUInt32 31)).toInt32) &&& 1431655765)) &&& 858993459) + ((((v0 - (((v0.toUInt32 >>> ((1 : Int32).toUInt32 &&& Int32.toUInt32 31)).toInt32) &&& 1431655765)).toUInt32 >>> ((2 : Int32).toUInt32 &&& Int32.toUInt32 31)).toInt32) &&& 858993459)) + ((((((v0 - (((v0.toUInt32 >>> ((1 : Int32).toUInt32 &&& Int32.toUInt32 31)).toInt32) &&& 1431655765)) &&& 858993459) + ((((v0 - (((v0.toUInt32 >>> ((1 : Int32).toUInt32 &&& Int32.toUInt32 31)).toInt32) &&& 1431655765)).toUInt32 >>> ((2 : Int32).toUInt32 &&& Int32.toUInt32 31)).toInt32) &&& 858993459))).toUInt32 >>> ((4 : Int32).toUInt32 &&& Int32.toUInt32 31)).toInt32)) &&& 252645135) + ((((((((v0 - (((v0.toUInt32 >>> ((1 : Int32).toUInt32 &&& Int32.toUInt32 31)).toInt32) &&& 1431655765)) &&& 858993459) + ((((v0 - (((v0.toUInt32 >>> ((1 : Int32).toUInt32 &&& Int32.toUInt32 31)).toInt32) &&& 1431655765)).toUInt32 >>> ((2 : Int32).toUInt32 &&& Int32.toUInt32 31)).toInt32) &&& 858993459)) + ((((((v0 - (((v0.toUInt32 >>> ((1 : Int32).toUInt32 &&& Int32.toUInt32 31)).toInt32) &&& 1431655765)) &&& 858993459) + ((((v0 - (((v0.toUInt32 >>> ((1 : Int32).toUInt32 &&& Int32.toUInt32 31)).toInt32) &&& 1431655765)).toUInt32 >>> ((2 : Int32).toUInt32 &&& Int32.toUInt32 31)).toInt32) &&& 858993459))).toUInt32 >>> ((4 : Int32).toUInt32 &&& Int32.toUInt32 31)).toInt32)) &&& 252645135)).toUInt32 >>> ((8 : Int32).toUInt32 &&& Int32.toUInt32 31)).toInt32)) + (((((((((v0 - (((v0.toUInt32 >>> ((1 : Int32).toUInt32 &&& Int32.toUInt32 31)).toInt32) &&& 1431655765)) &&& 858993459) + ((((v0 - (((v0.toUInt32 >>> ((1 : Int32).toUInt32 &&& Int32.toUInt32 31)).toInt32) &&& 1431655765)).toUInt32 >>> ((2 : Int32).toUInt32 &&& Int32.toUInt32 31)).toInt32) &&& 858993459)) + ((((((v0 - (((v0.toUInt32 >>> ((1 : Int32).toUInt32 &&& Int32.toUInt32 31)).toInt32) &&& 1431655765)) &&& 858993459) + ((((v0 - (((v0.toUInt32 >>> ((1 : Int32).toUInt32 &&& Int32.toUInt32 31)).toInt32) &&& 1431655765)).toUInt32 >>> ((2 : Int32).toUInt32 &&& Int32.toUInt32 31)).toInt32) &&& 858993459))).toUInt32 >>> ((4 : Int32).toUInt32 &&& Int32.toUInt32 31)).toInt32)) &&& 252645135) + ((((((((v0 - (((v0.toUInt32 >>> ((1 : Int32).toUInt32 &&& Int32.toUInt32 31)).toInt32) &&& 1431655765)) &&& 858993459) + ((((v0 - (((v0.toUInt32 >>> ((1 : Int32).toUInt32 &&& Int32.toUInt32 31)).toInt32) &&& 1431655765)).toUInt32 >>> ((2 : Int32).toUInt32 &&& Int32.toUInt32 31)).toInt32) &&& 858993459)) + ((((((v0 - (((v0.toUInt32 >>> ((1 : Int32).toUInt32 &&& Int32.toUInt32 31)).toInt32) &&& 1431655765)) &&& 858993459) + ((((v0 - (((v0.toUInt32 >>> ((1 : Int32).toUInt32 &&& Int32.toUInt32 31)).toInt32) &&& 1431655765)).toUInt32 >>> ((2 : Int32).toUInt32 &&& Int32.toUInt32 31)).toInt32) &&& 858993459))).toUInt32 >>> ((4 : Int32).toUInt32 &&& Int32.toUInt32 31)).toInt32)) &&& 252645135)).toUInt32 >>> ((8 : Int32).toUInt32 &&& Int32.toUInt32 31)).toInt32))).toUInt32 >>> ((16 : Int32).toUInt32 &&& Int32.toUInt32 31)).toInt32)) &&& 63))
set_option maxHeartbeats 4000000 in
theorem c_Integer_bitCount (l : Launch) (n : Nat) (v0 : Int32)   : MSi l y_Integer_bitCount b_Integer_bitCount 1 .int (rL 1) [.int v0] (p_Integer_bitCount n v0 ) := by
  refine en_si (by decide) (Nat.le_of_ble_eq_true rfl) ?_
  intro z hf p e s m args below meth c ls hx hb hml hown hT hr hlk hl
  have hl : lv_has ls 1 [(0, .int v0)] := hl
  unfold p_Integer_bitCount at hf
  refine lv_iload_n hx hb d_Integer_bitCount_0 rfl (lv_at hl 0 rfl) ?_
  refine lv_iload_n hx hb d_Integer_bitCount_1 rfl (lv_at hl 0 rfl) ?_
  refine lv_iconst (v := 1) hx hb d_Integer_bitCount_2 (by decide) ?_
  refine lv_iushr hx hb d_Integer_bitCount_3 rfl ?_
  refine lv_ldcw (v := 1431655765) hx hb hown (hT _ ko_Integer_265) d_Integer_bitCount_4 ?_
  refine lv_iand hx hb d_Integer_bitCount_7 ?_
  refine lv_isub hx hb d_Integer_bitCount_8 ?_
  refine lv_istore_n (lv' := [(0, .int (v0 - (((v0.toUInt32 >>> ((1 : Int32).toUInt32 &&& Int32.toUInt32 31)).toInt32) &&& 1431655765)))]) hx hb d_Integer_bitCount_9 rfl hl (by decide) rfl (fun ls hl => ?_)
  refine lv_iload_n hx hb d_Integer_bitCount_10 rfl (lv_at hl 0 rfl) ?_
  refine lv_ldcw (v := 858993459) hx hb hown (hT _ ko_Integer_266) d_Integer_bitCount_11 ?_
  refine lv_iand hx hb d_Integer_bitCount_14 ?_
  refine lv_iload_n hx hb d_Integer_bitCount_15 rfl (lv_at hl 0 rfl) ?_
  refine lv_iconst (v := 2) hx hb d_Integer_bitCount_16 (by decide) ?_
  refine lv_iushr hx hb d_Integer_bitCount_17 rfl ?_
  refine lv_ldcw (v := 858993459) hx hb hown (hT _ ko_Integer_266) d_Integer_bitCount_18 ?_
  refine lv_iand hx hb d_Integer_bitCount_21 ?_
  refine lv_iadd hx hb d_Integer_bitCount_22 ?_
  refine lv_istore_n (lv' := [(0, .int (((v0 - (((v0.toUInt32 >>> ((1 : Int32).toUInt32 &&& Int32.toUInt32 31)).toInt32) &&& 1431655765)) &&& 858993459) + ((((v0 - (((v0.toUInt32 >>> ((1 : Int32).toUInt32 &&& Int32.toUInt32 31)).toInt32) &&& 1431655765)).toUInt32 >>> ((2 : Int32).toUInt32 &&& Int32.toUInt32 31)).toInt32) &&& 858993459)))]) hx hb d_Integer_bitCount_23 rfl hl (by decide) rfl (fun ls hl => ?_)
  refine lv_iload_n hx hb d_Integer_bitCount_24 rfl (lv_at hl 0 rfl) ?_
  refine lv_iload_n hx hb d_Integer_bitCount_25 rfl (lv_at hl 0 rfl) ?_
  refine lv_iconst (v := 4) hx hb d_Integer_bitCount_26 (by decide) ?_
  refine lv_iushr hx hb d_Integer_bitCount_27 rfl ?_
  refine lv_iadd hx hb d_Integer_bitCount_28 ?_
  refine lv_ldcw (v := 252645135) hx hb hown (hT _ ko_Integer_267) d_Integer_bitCount_29 ?_
  refine lv_iand hx hb d_Integer_bitCount_32 ?_
  refine lv_istore_n (lv' := [(0, .int (((((v0 - (((v0.toUInt32 >>> ((1 : Int32).toUInt32 &&& Int32.toUInt32 31)).toInt32) &&& 1431655765)) &&& 858993459) + ((((v0 - (((v0.toUInt32 >>> ((1 : Int32).toUInt32 &&& Int32.toUInt32 31)).toInt32) &&& 1431655765)).toUInt32 >>> ((2 : Int32).toUInt32 &&& Int32.toUInt32 31)).toInt32) &&& 858993459)) + ((((((v0 - (((v0.toUInt32 >>> ((1 : Int32).toUInt32 &&& Int32.toUInt32 31)).toInt32) &&& 1431655765)) &&& 858993459) + ((((v0 - (((v0.toUInt32 >>> ((1 : Int32).toUInt32 &&& Int32.toUInt32 31)).toInt32) &&& 1431655765)).toUInt32 >>> ((2 : Int32).toUInt32 &&& Int32.toUInt32 31)).toInt32) &&& 858993459))).toUInt32 >>> ((4 : Int32).toUInt32 &&& Int32.toUInt32 31)).toInt32)) &&& 252645135))]) hx hb d_Integer_bitCount_33 rfl hl (by decide) rfl (fun ls hl => ?_)
  refine lv_iload_n hx hb d_Integer_bitCount_34 rfl (lv_at hl 0 rfl) ?_
  refine lv_iload_n hx hb d_Integer_bitCount_35 rfl (lv_at hl 0 rfl) ?_
  refine lv_bipush (v := 8) hx hb d_Integer_bitCount_36 (by decide) ?_
  refine lv_iushr hx hb d_Integer_bitCount_38 rfl ?_
  refine lv_iadd hx hb d_Integer_bitCount_39 ?_
  refine lv_istore_n (lv' := [(0, .int ((((((v0 - (((v0.toUInt32 >>> ((1 : Int32).toUInt32 &&& Int32.toUInt32 31)).toInt32) &&& 1431655765)) &&& 858993459) + ((((v0 - (((v0.toUInt32 >>> ((1 : Int32).toUInt32 &&& Int32.toUInt32 31)).toInt32) &&& 1431655765)).toUInt32 >>> ((2 : Int32).toUInt32 &&& Int32.toUInt32 31)).toInt32) &&& 858993459)) + ((((((v0 - (((v0.toUInt32 >>> ((1 : Int32).toUInt32 &&& Int32.toUInt32 31)).toInt32) &&& 1431655765)) &&& 858993459) + ((((v0 - (((v0.toUInt32 >>> ((1 : Int32).toUInt32 &&& Int32.toUInt32 31)).toInt32) &&& 1431655765)).toUInt32 >>> ((2 : Int32).toUInt32 &&& Int32.toUInt32 31)).toInt32) &&& 858993459))).toUInt32 >>> ((4 : Int32).toUInt32 &&& Int32.toUInt32 31)).toInt32)) &&& 252645135) + ((((((((v0 - (((v0.toUInt32 >>> ((1 : Int32).toUInt32 &&& Int32.toUInt32 31)).toInt32) &&& 1431655765)) &&& 858993459) + ((((v0 - (((v0.toUInt32 >>> ((1 : Int32).toUInt32 &&& Int32.toUInt32 31)).toInt32) &&& 1431655765)).toUInt32 >>> ((2 : Int32).toUInt32 &&& Int32.toUInt32 31)).toInt32) &&& 858993459)) + ((((((v0 - (((v0.toUInt32 >>> ((1 : Int32).toUInt32 &&& Int32.toUInt32 31)).toInt32) &&& 1431655765)) &&& 858993459) + ((((v0 - (((v0.toUInt32 >>> ((1 : Int32).toUInt32 &&& Int32.toUInt32 31)).toInt32) &&& 1431655765)).toUInt32 >>> ((2 : Int32).toUInt32 &&& Int32.toUInt32 31)).toInt32) &&& 858993459))).toUInt32 >>> ((4 : Int32).toUInt32 &&& Int32.toUInt32 31)).toInt32)) &&& 252645135)).toUInt32 >>> ((8 : Int32).toUInt32 &&& Int32.toUInt32 31)).toInt32)))]) hx hb d_Integer_bitCount_40 rfl hl (by decide) rfl (fun ls hl => ?_)
  refine lv_iload_n hx hb d_Integer_bitCount_41 rfl (lv_at hl 0 rfl) ?_
  refine lv_iload_n hx hb d_Integer_bitCount_42 rfl (lv_at hl 0 rfl) ?_
  refine lv_bipush (v := 16) hx hb d_Integer_bitCount_43 (by decide) ?_
  refine lv_iushr hx hb d_Integer_bitCount_45 rfl ?_
  refine lv_iadd hx hb d_Integer_bitCount_46 ?_
  refine lv_istore_n (lv' := [(0, .int (((((((v0 - (((v0.toUInt32 >>> ((1 : Int32).toUInt32 &&& Int32.toUInt32 31)).toInt32) &&& 1431655765)) &&& 858993459) + ((((v0 - (((v0.toUInt32 >>> ((1 : Int32).toUInt32 &&& Int32.toUInt32 31)).toInt32) &&& 1431655765)).toUInt32 >>> ((2 : Int32).toUInt32 &&& Int32.toUInt32 31)).toInt32) &&& 858993459)) + ((((((v0 - (((v0.toUInt32 >>> ((1 : Int32).toUInt32 &&& Int32.toUInt32 31)).toInt32) &&& 1431655765)) &&& 858993459) + ((((v0 - (((v0.toUInt32 >>> ((1 : Int32).toUInt32 &&& Int32.toUInt32 31)).toInt32) &&& 1431655765)).toUInt32 >>> ((2 : Int32).toUInt32 &&& Int32.toUInt32 31)).toInt32) &&& 858993459))).toUInt32 >>> ((4 : Int32).toUInt32 &&& Int32.toUInt32 31)).toInt32)) &&& 252645135) + ((((((((v0 - (((v0.toUInt32 >>> ((1 : Int32).toUInt32 &&& Int32.toUInt32 31)).toInt32) &&& 1431655765)) &&& 858993459) + ((((v0 - (((v0.toUInt32 >>> ((1 : Int32).toUInt32 &&& Int32.toUInt32 31)).toInt32) &&& 1431655765)).toUInt32 >>> ((2 : Int32).toUInt32 &&& Int32.toUInt32 31)).toInt32) &&& 858993459)) + ((((((v0 - (((v0.toUInt32 >>> ((1 : Int32).toUInt32 &&& Int32.toUInt32 31)).toInt32) &&& 1431655765)) &&& 858993459) + ((((v0 - (((v0.toUInt32 >>> ((1 : Int32).toUInt32 &&& Int32.toUInt32 31)).toInt32) &&& 1431655765)).toUInt32 >>> ((2 : Int32).toUInt32 &&& Int32.toUInt32 31)).toInt32) &&& 858993459))).toUInt32 >>> ((4 : Int32).toUInt32 &&& Int32.toUInt32 31)).toInt32)) &&& 252645135)).toUInt32 >>> ((8 : Int32).toUInt32 &&& Int32.toUInt32 31)).toInt32)) + (((((((((v0 - (((v0.toUInt32 >>> ((1 : Int32).toUInt32 &&& Int32.toUInt32 31)).toInt32) &&& 1431655765)) &&& 858993459) + ((((v0 - (((v0.toUInt32 >>> ((1 : Int32).toUInt32 &&& Int32.toUInt32 31)).toInt32) &&& 1431655765)).toUInt32 >>> ((2 : Int32).toUInt32 &&& Int32.toUInt32 31)).toInt32) &&& 858993459)) + ((((((v0 - (((v0.toUInt32 >>> ((1 : Int32).toUInt32 &&& Int32.toUInt32 31)).toInt32) &&& 1431655765)) &&& 858993459) + ((((v0 - (((v0.toUInt32 >>> ((1 : Int32).toUInt32 &&& Int32.toUInt32 31)).toInt32) &&& 1431655765)).toUInt32 >>> ((2 : Int32).toUInt32 &&& Int32.toUInt32 31)).toInt32) &&& 858993459))).toUInt32 >>> ((4 : Int32).toUInt32 &&& Int32.toUInt32 31)).toInt32)) &&& 252645135) + ((((((((v0 - (((v0.toUInt32 >>> ((1 : Int32).toUInt32 &&& Int32.toUInt32 31)).toInt32) &&& 1431655765)) &&& 858993459) + ((((v0 - (((v0.toUInt32 >>> ((1 : Int32).toUInt32 &&& Int32.toUInt32 31)).toInt32) &&& 1431655765)).toUInt32 >>> ((2 : Int32).toUInt32 &&& Int32.toUInt32 31)).toInt32) &&& 858993459)) + ((((((v0 - (((v0.toUInt32 >>> ((1 : Int32).toUInt32 &&& Int32.toUInt32 31)).toInt32) &&& 1431655765)) &&& 858993459) + ((((v0 - (((v0.toUInt32 >>> ((1 : Int32).toUInt32 &&& Int32.toUInt32 31)).toInt32) &&& 1431655765)).toUInt32 >>> ((2 : Int32).toUInt32 &&& Int32.toUInt32 31)).toInt32) &&& 858993459))).toUInt32 >>> ((4 : Int32).toUInt32 &&& Int32.toUInt32 31)).toInt32)) &&& 252645135)).toUInt32 >>> ((8 : Int32).toUInt32 &&& Int32.toUInt32 31)).toInt32))).toUInt32 >>> ((16 : Int32).toUInt32 &&& Int32.toUInt32 31)).toInt32)))]) hx hb d_Integer_bitCount_47 rfl hl (by decide) rfl (fun ls hl => ?_)
  refine lv_iload_n hx hb d_Integer_bitCount_48 rfl (lv_at hl 0 rfl) ?_
  refine lv_bipush (v := 63) hx hb d_Integer_bitCount_49 (by decide) ?_
  refine lv_iand hx hb d_Integer_bitCount_51 ?_
  obtain rfl := op_i1 hf
  exact rt_si hx hb hr hlk rfl d_Integer_bitCount_52
end
section
theorem hd_Md_in : y_Md_in.cls ≠ "java/lang/invoke/MethodHandle" ∧ y_Md_in.cls ≠ "java/lang/invoke/VarHandle" ∧ (parseMethodDescriptor y_Md_in.desc).map (fun d => d.parameters.length) = some 3 := by decide +kernel
theorem d_Md_in_0 : decode b_Md_in 0 = .ok (.iload_n 0, 1) := by decide +kernel
theorem d_Md_in_1 : decode b_Md_in 1 = .ok (.iload_n 1, 1) := by decide +kernel
theorem d_Md_in_2 : decode b_Md_in 2 = .ok (.if_icmp .lt 12, 3) := by decide +kernel
theorem d_Md_in_5 : decode b_Md_in 5 = .ok (.iload_n 0, 1) := by decide +kernel
theorem d_Md_in_6 : decode b_Md_in 6 = .ok (.iload_n 2, 1) := by decide +kernel
theorem d_Md_in_7 : decode b_Md_in 7 = .ok (.if_icmp .gt 7, 3) := by decide +kernel
theorem d_Md_in_10 : decode b_Md_in 10 = .ok (.iconst 1, 1) := by decide +kernel
theorem d_Md_in_11 : decode b_Md_in 11 = .ok (.goto 4, 3) := by decide +kernel
theorem d_Md_in_14 : decode b_Md_in 14 = .ok (.iconst 0, 1) := by decide +kernel
theorem d_Md_in_15 : decode b_Md_in 15 = .ok (.ireturn, 1) := by decide +kernel
def p_Md_in (n : Nat) (v0 : Int32) (v1 : Int32) (v2 : Int32)  : Option (Int32) := (if v0 < v1 then some 0 else (if v2 < v0 then some 0 else some 1) : Option (Int32)).bind fun x2 => if isZ x2 then some x2 else none
set_option maxHeartbeats 4000000 in
theorem c_Md_in (l : Launch) (n : Nat) (v0 : Int32) (v1 : Int32) (v2 : Int32)   : MSi l y_Md_in b_Md_in 3 .boolean (rL 5) [.int v0, .int v1, .int v2] (p_Md_in n v0 v1 v2 ) := by
  refine en_si (by decide) (Nat.le_of_ble_eq_true rfl) ?_
  intro z hf p e s m args below meth c ls hx hb hml hown hT hr hlk hl
  have hl : lv_has ls 3 [(0, .int v0), (1, .int v1), (2, .int v2)] := hl
  unfold p_Md_in at hf
  refine lv_iload_n hx hb d_Md_in_0 rfl (lv_at hl 0 rfl) ?_
  refine lv_iload_n hx hb d_Md_in_1 rfl (lv_at hl 1 rfl) ?_
  obtain ⟨x2, he, hf⟩ := op_bind hf
  have K1 : ∀ (ls : Array Slot), lv_has ls 3 [] → W p l e (rL 5) s m args below meth c s.heap [] 0 0 (MQ below (fun _ st oc t => oc = .returned (some (.int z)) ∧ t.heap = st.heap) args s 0 0 (fun _ => False)) (F0 m 15 ls [.int x2]) := by
    intro ls hl
    obtain ⟨h3, hf⟩ := op_if hf
    obtain rfl := op_i1 hf
    exact rt_si hx hb hr hlk (isZ_nar h3) d_Md_in_15
  have hf := he
  refine lv_icmp_lt (tgt := 14) hx hb d_Md_in_2 (by decide) (fun hc => ?_) (fun hc => ?_)
  · have hf := op_t hc hf
    refine lv_iconst (v := 0) hx hb d_Md_in_14 (by decide) ?_
    obtain rfl := op_i1 hf
    exact K1 ls (lv_sub hl [] rfl)
  · have hf := op_f hc hf
    refine lv_iload_n hx hb d_Md_in_5 rfl (lv_at hl 0 rfl) ?_
    refine lv_iload_n hx hb d_Md_in_6 rfl (lv_at hl 2 rfl) ?_
    refine lv_icmp_gt (tgt := 14) hx hb d_Md_in_7 (by decide) (fun hc => ?_) (fun hc => ?_)
    · have hf := op_t hc hf
      refine lv_iconst (v := 0) hx hb d_Md_in_14 (by decide) ?_
      obtain rfl := op_i1 hf
      exact K1 ls (lv_sub hl [] rfl)
    · have hf := op_f hc hf
      refine lv_iconst (v := 1) hx hb d_Md_in_10 (by decide) ?_
      refine lv_goto (tgt := 15) hx hb d_Md_in_11 (by decide) ?_
      obtain rfl := op_i1 hf
      exact K1 ls (lv_sub hl [] rfl)
theorem hd_Md_count1 : y_Md_count1.cls ≠ "java/lang/invoke/MethodHandle" ∧ y_Md_count1.cls ≠ "java/lang/invoke/VarHandle" ∧ (parseMethodDescriptor y_Md_count1.desc).map (fun d => d.parameters.length) = some 1 := by decide +kernel
theorem d_Md_count1_0 : decode b_Md_count1 0 = .ok (.iconst 0, 1) := by decide +kernel
theorem d_Md_count1_1 : decode b_Md_count1 1 = .ok (.istore_n 1, 1) := by decide +kernel
theorem d_Md_count1_2 : decode b_Md_count1 2 = .ok (.iconst 0, 1) := by decide +kernel
theorem d_Md_count1_3 : decode b_Md_count1 3 = .ok (.istore_n 2, 1) := by decide +kernel
theorem d_Md_count1_4 : decode b_Md_count1 4 = .ok (.iload_n 2, 1) := by decide +kernel
theorem d_Md_count1_5 : decode b_Md_count1 5 = .ok (.bipush 6, 2) := by decide +kernel
theorem d_Md_count1_7 : decode b_Md_count1 7 = .ok (.if_icmp .ge 17, 3) := by decide +kernel
theorem d_Md_count1_10 : decode b_Md_count1 10 = .ok (.iload_n 1, 1) := by decide +kernel
theorem d_Md_count1_11 : decode b_Md_count1 11 = .ok (.iload_n 0, 1) := by decide +kernel
theorem d_Md_count1_12 : decode b_Md_count1 12 = .ok (.iload_n 2, 1) := by decide +kernel
theorem d_Md_count1_13 : decode b_Md_count1 13 = .ok (.ishr, 1) := by decide +kernel
theorem d_Md_count1_14 : decode b_Md_count1 14 = .ok (.iconst 1, 1) := by decide +kernel
theorem d_Md_count1_15 : decode b_Md_count1 15 = .ok (.iand, 1) := by decide +kernel
theorem d_Md_count1_16 : decode b_Md_count1 16 = .ok (.iadd, 1) := by decide +kernel
theorem d_Md_count1_17 : decode b_Md_count1 17 = .ok (.istore_n 1, 1) := by decide +kernel
theorem d_Md_count1_18 : decode b_Md_count1 18 = .ok (.iinc 2 1, 3) := by decide +kernel
theorem d_Md_count1_21 : decode b_Md_count1 21 = .ok (.goto (-17), 3) := by decide +kernel
theorem d_Md_count1_24 : decode b_Md_count1 24 = .ok (.iload_n 1, 1) := by decide +kernel
theorem d_Md_count1_25 : decode b_Md_count1 25 = .ok (.ireturn, 1) := by decide +kernel
def l_Md_count1_4 (n : Nat)  (v0 : Int32)  : Nat → Int32 → Int32 → Option (Int32)
  | 0, _, _ => none
  | k + 1, v1, v2 => (if 6 ≤ v2 then some v1 else l_Md_count1_4 n v0 k (v1 + ((v0 >>> (v2 &&& 31)) &&& 1)) (v2 + 1))
set_option maxHeartbeats 4000000 in
theorem wl_Md_count1_4 {Q : State → Prop}  {p : Program} {l : Launch} {e : Env} {s : State} {m : MethodId} {args : Array Value} {below : List Frame} {meth : Method} {c : Code} (hx : p.tables.exec = Jvm.exec) (hb : c.code = b_Md_count1) (hml : c.maxLocals = 3) (hown : s.vm.findClass "LanternBridgeModel" = some m.cls) (hT : ∀ w ∈ WT, w.before args s = true) (hr : meth.sig.returnType = some .int) (hlk : meth.locks = false) (n : Nat)  (v0 : Int32)  : ∀ (k : Nat) (v1 : Int32) (v2 : Int32) (r0 : Int32), l_Md_count1_4 n v0 k v1 v2 = some r0 → (∀ (ls : Array Slot), lv_has ls 3 [(1, .int r0)] → W p l e (rL 5) s m args below meth c s.heap [] 0 0 Q (F0 m 24 ls [])) → ∀ (ls : Array Slot), lv_has ls 3 [(0, .int v0), (1, .int v1), (2, .int v2)] → W p l e (rL 5) s m args below meth c s.heap [] 0 0 Q (F0 m 4 ls []) := by
  intro k
  induction k with
  | zero => intro v1 v2 r0 hf; exact absurd hf (by unfold l_Md_count1_4; exact fun h9 => by cases h9)
  | succ k ih =>
    intro v1 v2 r0 hf K ls hl
    unfold l_Md_count1_4 at hf
    refine lv_iload_n hx hb d_Md_count1_4 rfl (lv_at hl 2 rfl) ?_
    refine lv_bipush (v := 6) hx hb d_Md_count1_5 (by decide) ?_
    refine lv_icmp_ge (tgt := 24) hx hb d_Md_count1_7 (by decide) (fun hc => ?_) (fun hc => ?_)
    · have hf := op_t hc hf
      obtain rfl := op_i1 hf
      exact K ls (lv_sub hl [1] rfl)
    · have hf := op_f hc hf
      refine lv_iload_n hx hb d_Md_count1_10 rfl (lv_at hl 1 rfl) ?_
      refine lv_iload_n hx hb d_Md_count1_11 rfl (lv_at hl 0 rfl) ?_
      refine lv_iload_n hx hb d_Md_count1_12 rfl (lv_at hl 2 rfl) ?_
      refine lv_ishr hx hb d_Md_count1_13 ?_
      refine lv_iconst (v := 1) hx hb d_Md_count1_14 (by decide) ?_
      refine lv_iand hx hb d_Md_count1_15 ?_
      refine lv_iadd hx hb d_Md_count1_16 ?_
      refine lv_istore_n (lv' := [(1, .int (v1 + ((v0 >>> (v2 &&& 31)) &&& 1))), (0, .int v0), (2, .int v2)]) hx hb d_Md_count1_17 rfl hl (by decide) rfl (fun ls hl => ?_)
      refine lv_iinc (v := (v2 + 1)) (lv' := [(2, .int (v2 + 1)), (1, .int (v1 + ((v0 >>> (v2 &&& 31)) &&& 1))), (0, .int v0)]) hx hb d_Md_count1_18 hl (k := 2) rfl rfl (by decide) rfl (fun ls hl => ?_)
      refine lv_goto (tgt := 4) hx hb d_Md_count1_21 (by decide) ?_
      exact ih (v1 + ((v0 >>> (v2 &&& 31)) &&& 1)) (v2 + 1) _ hf K ls (lv_sub hl [2, 1, 0] rfl)
def p_Md_count1 (n : Nat) (v0 : Int32)  : Option (Int32) := (l_Md_count1_4 n v0 n 0 0).bind fun y1 => some y1
set_option maxHeartbeats 4000000 in
theorem c_Md_count1 (l : Launch) (n : Nat) (v0 : Int32)   : MSi l y_Md_count1 b_Md_count1 3 .int (rL 5) [.int v0] (p_Md_count1 n v0 ) := by
  refine en_si (by decide) (Nat.le_of_ble_eq_true rfl) ?_
  intro z hf p e s m args below meth c ls hx hb hml hown hT hr hlk hl
  have hl : lv_has ls 3 [(0, .int v0)] := hl
  unfold p_Md_count1 at hf
  refine lv_iconst (v := 0) hx hb d_Md_count1_0 (by decide) ?_
  refine lv_istore_n (lv' := [(1, .int 0), (0, .int v0)]) hx hb d_Md_count1_1 rfl hl (by decide) rfl (fun ls hl => ?_)
  refine lv_iconst (v := 0) hx hb d_Md_count1_2 (by decide) ?_
  refine lv_istore_n (lv' := [(2, .int 0), (1, .int 0), (0, .int v0)]) hx hb d_Md_count1_3 rfl hl (by decide) rfl (fun ls hl => ?_)
  obtain ⟨y1, he, hf⟩ := op_bind hf
  refine wl_Md_count1_4 hx hb hml hown hT hr hlk n v0 n 0 0 _ he (fun ls hl => ?_) ls (lv_sub hl [2, 1, 0] rfl)
  refine lv_iload_n hx hb d_Md_count1_24 rfl (lv_at hl 0 rfl) ?_
  obtain rfl := op_i1 hf
  exact rt_si hx hb hr hlk rfl d_Md_count1_25
theorem hd_Md_all : y_Md_all.cls ≠ "java/lang/invoke/MethodHandle" ∧ y_Md_all.cls ≠ "java/lang/invoke/VarHandle" ∧ (parseMethodDescriptor y_Md_all.desc).map (fun d => d.parameters.length) = some 0 := by decide +kernel
theorem d_Md_all_0 : decode b_Md_all 0 = .ok (.iconst 1, 1) := by decide +kernel
theorem d_Md_all_1 : decode b_Md_all 1 = .ok (.aload_n 0, 1) := by decide +kernel
theorem d_Md_all_2 : decode b_Md_all 2 = .ok (.getfield 9, 3) := by decide +kernel
theorem d_Md_all_5 : decode b_Md_all 5 = .ok (.iconst 0, 1) := by decide +kernel
theorem d_Md_all_6 : decode b_Md_all 6 = .ok (.iaload, 1) := by decide +kernel
theorem d_Md_all_7 : decode b_Md_all 7 = .ok (.ishl, 1) := by decide +kernel
theorem d_Md_all_8 : decode b_Md_all 8 = .ok (.iconst 1, 1) := by decide +kernel
theorem d_Md_all_9 : decode b_Md_all 9 = .ok (.isub, 1) := by decide +kernel
theorem d_Md_all_10 : decode b_Md_all 10 = .ok (.ireturn, 1) := by decide +kernel
def p_Md_all (n : Nat)  (I : Nat → Int32) (R : Nat → Nat → Int32) : Option (Int32) := some ((1 <<< ((R 1 0) &&& 31)) - 1)
set_option maxHeartbeats 4000000 in
theorem c_Md_all (l : Launch) (n : Nat)  (I : Nat → Int32) (R : Nat → Nat → Int32)  : MMi l y_Md_all b_Md_all 1 .int (rL 5) (fun ad adK => []) I R ((p_Md_all n I R).map fun r => (r, I, R)) := by
  refine en_mi (by decide) rfl (fun _ _ => Nat.le_of_ble_eq_true rfl) ?_
  intro z hz p e s m args below meth c dC dI ad cI cZ A adK adV ls C hA h hr hlk hl
  have hl : lv_has ls 1 [(0, .ref (ad 0))] := hl
  obtain ⟨z, hf, rfl⟩ := op_map hz
  unfold p_Md_all at hf
  obtain ⟨hx, hb, hml, hown, hT, -⟩ := id C
  refine lv_iconst (v := 1) hx hb d_Md_all_0 (by decide) ?_
  refine lv_aload_n hx hb d_Md_all_1 rfl (lv_at hl 0 rfl) ?_
  refine mg_1 C h d_Md_all_2 ?_
  refine lv_iconst (v := 0) hx hb d_Md_all_5 (by decide) ?_
  refine ma_1 C h (j := 0) (by decide) (show ix 0 890 by decide) d_Md_all_6 ?_
  refine lv_ishl hx hb d_Md_all_7 ?_
  refine lv_iconst (v := 1) hx hb d_Md_all_8 (by decide) ?_
  refine lv_isub hx hb d_Md_all_9 ?_
  exact rt_mr C h hr hlk hf rfl d_Md_all_10
theorem hd_Md_isPerson : y_Md_isPerson.cls ≠ "java/lang/invoke/MethodHandle" ∧ y_Md_isPerson.cls ≠ "java/lang/invoke/VarHandle" ∧ (parseMethodDescriptor y_Md_isPerson.desc).map (fun d => d.parameters.length) = some 1 := by decide +kernel
theorem d_Md_isPerson_0 : decode b_Md_isPerson 0 = .ok (.iload_n 1, 1) := by decide +kernel
theorem d_Md_isPerson_1 : decode b_Md_isPerson 1 = .ok (.iconst 0, 1) := by decide +kernel
theorem d_Md_isPerson_2 : decode b_Md_isPerson 2 = .ok (.aload_n 0, 1) := by decide +kernel
theorem d_Md_isPerson_3 : decode b_Md_isPerson 3 = .ok (.getfield 9, 3) := by decide +kernel
theorem d_Md_isPerson_6 : decode b_Md_isPerson 6 = .ok (.iconst 0, 1) := by decide +kernel
theorem d_Md_isPerson_7 : decode b_Md_isPerson 7 = .ok (.iaload, 1) := by decide +kernel
theorem d_Md_isPerson_8 : decode b_Md_isPerson 8 = .ok (.iconst 1, 1) := by decide +kernel
theorem d_Md_isPerson_9 : decode b_Md_isPerson 9 = .ok (.isub, 1) := by decide +kernel
theorem d_Md_isPerson_10 : decode b_Md_isPerson 10 = .ok (.invokestatic 44, 3) := by decide +kernel
theorem d_Md_isPerson_13 : decode b_Md_isPerson 13 = .ok (.ireturn, 1) := by decide +kernel
def p_Md_isPerson (n : Nat) (v1 : Int32) (I : Nat → Int32) (R : Nat → Nat → Int32) : Option (Int32) := (p_Md_in n v1 0 ((R 1 0) - 1)).bind fun x2 => if isZ x2 then some x2 else none
set_option maxHeartbeats 4000000 in
theorem c_Md_isPerson (l : Launch) (n : Nat) (v1 : Int32) (I : Nat → Int32) (R : Nat → Nat → Int32)  : MMi l y_Md_isPerson b_Md_isPerson 2 .boolean (rL 6) (fun ad adK => [.int v1]) I R ((p_Md_isPerson n v1 I R).map fun r => (r, I, R)) := by
  refine en_mi (by decide) rfl (fun _ _ => Nat.le_of_ble_eq_true rfl) ?_
  intro z hz p e s m args below meth c dC dI ad cI cZ A adK adV ls C hA h hr hlk hl
  have hl : lv_has ls 2 [(0, .ref (ad 0)), (1, .int v1)] := hl
  obtain ⟨z, hf, rfl⟩ := op_map hz
  unfold p_Md_isPerson at hf
  obtain ⟨hx, hb, hml, hown, hT, -⟩ := id C
  refine lv_iload_n hx hb d_Md_isPerson_0 rfl (lv_at hl 1 rfl) ?_
  refine lv_iconst (v := 0) hx hb d_Md_isPerson_1 (by decide) ?_
  refine lv_aload_n hx hb d_Md_isPerson_2 rfl (lv_at hl 0 rfl) ?_
  refine mg_1 C h d_Md_isPerson_3 ?_
  refine lv_iconst (v := 0) hx hb d_Md_isPerson_6 (by decide) ?_
  refine ma_1 C h (j := 0) (by decide) (show ix 0 890 by decide) d_Md_isPerson_7 ?_
  refine lv_iconst (v := 1) hx hb d_Md_isPerson_8 (by decide) ?_
  refine lv_isub hx hb d_Md_isPerson_9 ?_
  obtain ⟨x2, hc1, hf⟩ := op_bind hf
  refine ks_i (rest := []) hx hb hml hown hT (c_Md_in l n v1 0 ((R 1 0) - 1) _ hc1) (cbW 3 hT cd_Md_in rfl rfl ini_Md ml_Md_44 hd_Md_in ⟨Nat.le_of_ble_eq_true rfl, Nat.le_of_ble_eq_true rfl⟩) sm_Md_in rfl hl.1 rfl (Nat.le_of_ble_eq_true rfl) d_Md_isPerson_10 ⟨Nat.zero_le _, Nat.zero_le _⟩ ?_
  obtain ⟨h3, hf⟩ := op_if hf
  exact rt_mr C h hr hlk hf (isZ_nar h3) d_Md_isPerson_13
theorem hd_Md_isSet : y_Md_isSet.cls ≠ "java/lang/invoke/MethodHandle" ∧ y_Md_isSet.cls ≠ "java/lang/invoke/VarHandle" ∧ (parseMethodDescriptor y_Md_isSet.desc).map (fun d => d.parameters.length) = some 1 := by decide +kernel
theorem d_Md_isSet_0 : decode b_Md_isSet 0 = .ok (.iload_n 1, 1) := by decide +kernel
theorem d_Md_isSet_1 : decode b_Md_isSet 1 = .ok (.iconst 0, 1) := by decide +kernel
theorem d_Md_isSet_2 : decode b_Md_isSet 2 = .ok (.aload_n 0, 1) := by decide +kernel
theorem d_Md_isSet_3 : decode b_Md_isSet 3 = .ok (.invokevirtual 48, 3) := by decide +kernel
theorem d_Md_isSet_6 : decode b_Md_isSet 6 = .ok (.invokestatic 44, 3) := by decide +kernel
theorem d_Md_isSet_9 : decode b_Md_isSet 9 = .ok (.ireturn, 1) := by decide +kernel
def p_Md_isSet (n : Nat) (v1 : Int32) (I : Nat → Int32) (R : Nat → Nat → Int32) : Option (Int32) := (p_Md_all n I R).bind fun x2 => (p_Md_in n v1 0 x2).bind fun x4 => if isZ x4 then some x4 else none
set_option maxHeartbeats 4000000 in
theorem c_Md_isSet (l : Launch) (n : Nat) (v1 : Int32) (I : Nat → Int32) (R : Nat → Nat → Int32)  : MMi l y_Md_isSet b_Md_isSet 2 .boolean (rL 6) (fun ad adK => [.int v1]) I R ((p_Md_isSet n v1 I R).map fun r => (r, I, R)) := by
  refine en_mi (by decide) rfl (fun _ _ => Nat.le_of_ble_eq_true rfl) ?_
  intro z hz p e s m args below meth c dC dI ad cI cZ A adK adV ls C hA h hr hlk hl
  have hl : lv_has ls 2 [(0, .ref (ad 0)), (1, .int v1)] := hl
  obtain ⟨z, hf, rfl⟩ := op_map hz
  unfold p_Md_isSet at hf
  obtain ⟨hx, hb, hml, hown, hT, -⟩ := id C
  refine lv_iload_n hx hb d_Md_isSet_0 rfl (lv_at hl 1 rfl) ?_
  refine lv_iconst (v := 0) hx hb d_Md_isSet_1 (by decide) ?_
  refine lv_aload_n hx hb d_Md_isSet_2 rfl (lv_at hl 0 rfl) ?_
  obtain ⟨x2, hc1, hf⟩ := op_bind hf
  refine kc_r (rest := [.int 0, .int v1]) C h hA (c_Md_all l n I R) hc1 (cbW 0 hT cd_Md_all rfl rfl ini_Md ml_Md_48 hd_Md_all ⟨Nat.le_of_ble_eq_true rfl, Nat.le_of_ble_eq_true rfl⟩) im_Md_all sp_Md_all rfl hl.1 rfl (Nat.le_of_ble_eq_true rfl) d_Md_isSet_3 ⟨Nat.zero_le _, Nat.zero_le _⟩ (fun H locs h => ?_)
  obtain ⟨x4, hc3, hf⟩ := op_bind hf
  refine ks_i (rest := []) hx hb hml hown hT (c_Md_in l n v1 0 x2 _ hc3) (cbW 3 hT cd_Md_in rfl rfl ini_Md ml_Md_44 hd_Md_in ⟨Nat.le_of_ble_eq_true rfl, Nat.le_of_ble_eq_true rfl⟩) sm_Md_in rfl hl.1 rfl (Nat.le_of_ble_eq_true rfl) d_Md_isSet_6 ⟨Nat.zero_le _, Nat.zero_le _⟩ ?_
  obtain ⟨h5, hf⟩ := op_if hf
  exact rt_mr C h hr hlk hf (isZ_nar h5) d_Md_isSet_9
theorem hd_Md_feed : y_Md_feed.cls ≠ "java/lang/invoke/MethodHandle" ∧ y_Md_feed.cls ≠ "java/lang/invoke/VarHandle" ∧ (parseMethodDescriptor y_Md_feed.desc).map (fun d => d.parameters.length) = some 1 := by decide +kernel
theorem d_Md_feed_0 : decode b_Md_feed 0 = .ok (.iload_n 1, 1) := by decide +kernel
theorem d_Md_feed_1 : decode b_Md_feed 1 = .ok (.iconst 0, 1) := by decide +kernel
theorem d_Md_feed_2 : decode b_Md_feed 2 = .ok (.bipush 127, 2) := by decide +kernel
theorem d_Md_feed_4 : decode b_Md_feed 4 = .ok (.invokestatic 44, 3) := by decide +kernel
theorem d_Md_feed_7 : decode b_Md_feed 7 = .ok (.ifCond .ne 6, 3) := by decide +kernel
theorem d_Md_feed_10 : decode b_Md_feed 10 = .ok (.bipush (-2), 2) := by decide +kernel
theorem d_Md_feed_12 : decode b_Md_feed 12 = .ok (.ireturn, 1) := by decide +kernel
theorem d_Md_feed_13 : decode b_Md_feed 13 = .ok (.aload_n 0, 1) := by decide +kernel
theorem d_Md_feed_14 : decode b_Md_feed 14 = .ok (.getfield 9, 3) := by decide +kernel
theorem d_Md_feed_17 : decode b_Md_feed 17 = .ok (.iconst 4, 1) := by decide +kernel
theorem d_Md_feed_18 : decode b_Md_feed 18 = .ok (.iaload, 1) := by decide +kernel
theorem d_Md_feed_19 : decode b_Md_feed 19 = .ok (.bipush 100, 2) := by decide +kernel
theorem d_Md_feed_21 : decode b_Md_feed 21 = .ok (.if_icmp .ne 6, 3) := by decide +kernel
theorem d_Md_feed_24 : decode b_Md_feed 24 = .ok (.bipush (-4), 2) := by decide +kernel
theorem d_Md_feed_26 : decode b_Md_feed 26 = .ok (.ireturn, 1) := by decide +kernel
theorem d_Md_feed_27 : decode b_Md_feed 27 = .ok (.aload_n 0, 1) := by decide +kernel
theorem d_Md_feed_28 : decode b_Md_feed 28 = .ok (.getfield 9, 3) := by decide +kernel
theorem d_Md_feed_31 : decode b_Md_feed 31 = .ok (.bipush 70, 2) := by decide +kernel
theorem d_Md_feed_33 : decode b_Md_feed 33 = .ok (.aload_n 0, 1) := by decide +kernel
theorem d_Md_feed_34 : decode b_Md_feed 34 = .ok (.getfield 9, 3) := by decide +kernel
theorem d_Md_feed_37 : decode b_Md_feed 37 = .ok (.iconst 4, 1) := by decide +kernel
theorem d_Md_feed_38 : decode b_Md_feed 38 = .ok (.iaload, 1) := by decide +kernel
theorem d_Md_feed_39 : decode b_Md_feed 39 = .ok (.iadd, 1) := by decide +kernel
theorem d_Md_feed_40 : decode b_Md_feed 40 = .ok (.iload_n 1, 1) := by decide +kernel
theorem d_Md_feed_41 : decode b_Md_feed 41 = .ok (.iastore, 1) := by decide +kernel
theorem d_Md_feed_42 : decode b_Md_feed 42 = .ok (.aload_n 0, 1) := by decide +kernel
theorem d_Md_feed_43 : decode b_Md_feed 43 = .ok (.getfield 9, 3) := by decide +kernel
theorem d_Md_feed_46 : decode b_Md_feed 46 = .ok (.iconst 4, 1) := by decide +kernel
theorem d_Md_feed_47 : decode b_Md_feed 47 = .ok (.dup2, 1) := by decide +kernel
theorem d_Md_feed_48 : decode b_Md_feed 48 = .ok (.iaload, 1) := by decide +kernel
theorem d_Md_feed_49 : decode b_Md_feed 49 = .ok (.iconst 1, 1) := by decide +kernel
theorem d_Md_feed_50 : decode b_Md_feed 50 = .ok (.iadd, 1) := by decide +kernel
theorem d_Md_feed_51 : decode b_Md_feed 51 = .ok (.iastore, 1) := by decide +kernel
theorem d_Md_feed_52 : decode b_Md_feed 52 = .ok (.aload_n 0, 1) := by decide +kernel
theorem d_Md_feed_53 : decode b_Md_feed 53 = .ok (.getfield 9, 3) := by decide +kernel
theorem d_Md_feed_56 : decode b_Md_feed 56 = .ok (.iconst 4, 1) := by decide +kernel
theorem d_Md_feed_57 : decode b_Md_feed 57 = .ok (.iaload, 1) := by decide +kernel
theorem d_Md_feed_58 : decode b_Md_feed 58 = .ok (.ireturn, 1) := by decide +kernel
def p_Md_feed (n : Nat) (v1 : Int32) (I : Nat → Int32) (R : Nat → Nat → Int32) : Option (Int32 × MU) := (p_Md_in n v1 0 127).bind fun x2 => (if x2 = 0 then some ((-2), I, R) else (if (R 1 4) = 100 then some ((-4), I, R) else if ix (70 + (R 1 4)) 890 then some ((((upR (upR R 1 (70 + (R 1 4)).toNatClampNeg v1) 1 4 (((upR R 1 (70 + (R 1 4)).toNatClampNeg v1) 1 4) + 1))) 1 4), I, (upR (upR R 1 (70 + (R 1 4)).toNatClampNeg v1) 1 4 (((upR R 1 (70 + (R 1 4)).toNatClampNeg v1) 1 4) + 1))) else none))
set_option maxHeartbeats 4000000 in
theorem c_Md_feed (l : Launch) (n : Nat) (v1 : Int32) (I : Nat → Int32) (R : Nat → Nat → Int32)  : MMi l y_Md_feed b_Md_feed 2 .int (rL 6) (fun ad adK => [.int v1]) I R (p_Md_feed n v1 I R) := by
  refine en_mi (by decide) rfl (fun _ _ => Nat.le_of_ble_eq_true rfl) ?_
  intro z hf p e s m args below meth c dC dI ad cI cZ A adK adV ls C hA h hr hlk hl
  have hl : lv_has ls 2 [(0, .ref (ad 0)), (1, .int v1)] := hl
  unfold p_Md_feed at hf
  obtain ⟨hx, hb, hml, hown, hT, -⟩ := id C
  refine lv_iload_n hx hb d_Md_feed_0 rfl (lv_at hl 1 rfl) ?_
  refine lv_iconst (v := 0) hx hb d_Md_feed_1 (by decide) ?_
  refine lv_bipush (v := 127) hx hb d_Md_feed_2 (by decide) ?_
  obtain ⟨x2, hc1, hf⟩ := op_bind hf
  refine ks_i (rest := []) hx hb hml hown hT (c_Md_in l n v1 0 127 _ hc1) (cbW 3 hT cd_Md_in rfl rfl ini_Md ml_Md_44 hd_Md_in ⟨Nat.le_of_ble_eq_true rfl, Nat.le_of_ble_eq_true rfl⟩) sm_Md_in rfl hl.1 rfl (Nat.le_of_ble_eq_true rfl) d_Md_feed_4 ⟨Nat.zero_le _, Nat.zero_le _⟩ ?_
  refine lv_if_ne (tgt := 13) hx hb d_Md_feed_7 (by decide) (fun hc => ?_) (fun hc => ?_)
  · have hf := op_f hc hf
    refine lv_aload_n hx hb d_Md_feed_13 rfl (lv_at hl 0 rfl) ?_
    refine mg_1 C h d_Md_feed_14 ?_
    refine lv_iconst (v := 4) hx hb d_Md_feed_17 (by decide) ?_
    refine ma_1 C h (j := 4) (by decide) (show ix 4 890 by decide) d_Md_feed_18 ?_
    refine lv_bipush (v := 100) hx hb d_Md_feed_19 (by decide) ?_
    refine lv_icmp_ne (tgt := 27) hx hb d_Md_feed_21 (by decide) (fun hc => ?_) (fun hc => ?_)
    · have hf := op_f hc hf
      refine lv_aload_n hx hb d_Md_feed_27 rfl (lv_at hl 0 rfl) ?_
      refine mg_1 C h d_Md_feed_28 ?_
      refine lv_bipush (v := 70) hx hb d_Md_feed_31 (by decide) ?_
      refine lv_aload_n hx hb d_Md_feed_33 rfl (lv_at hl 0 rfl) ?_
      refine mg_1 C h d_Md_feed_34 ?_
      refine lv_iconst (v := 4) hx hb d_Md_feed_37 (by decide) ?_
      refine ma_1 C h (j := 4) (by decide) (show ix 4 890 by decide) d_Md_feed_38 ?_
      refine lv_iadd hx hb d_Md_feed_39 ?_
      refine lv_iload_n hx hb d_Md_feed_40 rfl (lv_at hl 1 rfl) ?_
      obtain ⟨h3, hf⟩ := op_if hf
      refine ms_1 C h rfl h3 d_Md_feed_41 (fun H locs h => ?_)
      refine lv_aload_n hx hb d_Md_feed_42 rfl (lv_at hl 0 rfl) ?_
      refine mg_1 C h d_Md_feed_43 ?_
      refine lv_iconst (v := 4) hx hb d_Md_feed_46 (by decide) ?_
      refine lv_dup2_11 hx hb d_Md_feed_47 rfl rfl ?_
      refine ma_1 C h (j := 4) (by decide) (show ix 4 890 by decide) d_Md_feed_48 ?_
      refine lv_iconst (v := 1) hx hb d_Md_feed_49 (by decide) ?_
      refine lv_iadd hx hb d_Md_feed_50 ?_
      refine ms_1 C h (j := 4) (by decide) (show ix 4 890 by decide) d_Md_feed_51 (fun H locs h => ?_)
      refine lv_aload_n hx hb d_Md_feed_52 rfl (lv_at hl 0 rfl) ?_
      refine mg_1 C h d_Md_feed_53 ?_
      refine lv_iconst (v := 4) hx hb d_Md_feed_56 (by decide) ?_
      refine ma_1 C h (j := 4) (by decide) (show ix 4 890 by decide) d_Md_feed_57 ?_
      exact rt_mi C h hr hlk hf rfl d_Md_feed_58
    · have hf := op_t hc hf
      refine lv_bipush (v := (-4)) hx hb d_Md_feed_24 (by decide) ?_
      exact rt_mi C h hr hlk hf rfl d_Md_feed_26
  · have hf := op_t hc hf
    refine lv_bipush (v := (-2)) hx hb d_Md_feed_10 (by decide) ?_
    exact rt_mi C h hr hlk hf rfl d_Md_feed_12
theorem hd_Md_here : y_Md_here.cls ≠ "java/lang/invoke/MethodHandle" ∧ y_Md_here.cls ≠ "java/lang/invoke/VarHandle" ∧ (parseMethodDescriptor y_Md_here.desc).map (fun d => d.parameters.length) = some 0 := by decide +kernel
theorem d_Md_here_0 : decode b_Md_here 0 = .ok (.aload_n 0, 1) := by decide +kernel
theorem d_Md_here_1 : decode b_Md_here 1 = .ok (.getfield 52, 3) := by decide +kernel
theorem d_Md_here_4 : decode b_Md_here 4 = .ok (.aload_n 0, 1) := by decide +kernel
theorem d_Md_here_5 : decode b_Md_here 5 = .ok (.getfield 55, 3) := by decide +kernel
theorem d_Md_here_8 : decode b_Md_here 8 = .ok (.if_icmp .ge 18, 3) := by decide +kernel
theorem d_Md_here_11 : decode b_Md_here 11 = .ok (.aload_n 0, 1) := by decide +kernel
theorem d_Md_here_12 : decode b_Md_here 12 = .ok (.getfield 9, 3) := by decide +kernel
theorem d_Md_here_15 : decode b_Md_here 15 = .ok (.bipush 70, 2) := by decide +kernel
theorem d_Md_here_17 : decode b_Md_here 17 = .ok (.aload_n 0, 1) := by decide +kernel
theorem d_Md_here_18 : decode b_Md_here 18 = .ok (.getfield 52, 3) := by decide +kernel
theorem d_Md_here_21 : decode b_Md_here 21 = .ok (.iadd, 1) := by decide +kernel
theorem d_Md_here_22 : decode b_Md_here 22 = .ok (.iaload, 1) := by decide +kernel
theorem d_Md_here_23 : decode b_Md_here 23 = .ok (.goto 4, 3) := by decide +kernel
theorem d_Md_here_26 : decode b_Md_here 26 = .ok (.iconst (-1), 1) := by decide +kernel
theorem d_Md_here_27 : decode b_Md_here 27 = .ok (.ireturn, 1) := by decide +kernel
def p_Md_here (n : Nat)  (I : Nat → Int32) (R : Nat → Nat → Int32) : Option (Int32) := (if (I 6) ≤ (I 5) then some (-1) else if ix (70 + (I 5)) 890 then some (R 1 (70 + (I 5)).toNatClampNeg) else none : Option (Int32)).bind fun x2 => some x2
set_option maxHeartbeats 4000000 in
theorem c_Md_here (l : Launch) (n : Nat)  (I : Nat → Int32) (R : Nat → Nat → Int32)  : MMi l y_Md_here b_Md_here 1 .int (rL 5) (fun ad adK => []) I R ((p_Md_here n I R).map fun r => (r, I, R)) := by
  refine en_mi (by decide) rfl (fun _ _ => Nat.le_of_ble_eq_true rfl) ?_
  intro z hz p e s m args below meth c dC dI ad cI cZ A adK adV ls C hA h hr hlk hl
  have hl : lv_has ls 1 [(0, .ref (ad 0))] := hl
  obtain ⟨z, hf, rfl⟩ := op_map hz
  unfold p_Md_here at hf
  obtain ⟨hx, hb, hml, hown, hT, -⟩ := id C
  refine lv_aload_n hx hb d_Md_here_0 rfl (lv_at hl 0 rfl) ?_
  refine mg_5 C h d_Md_here_1 ?_
  refine lv_aload_n hx hb d_Md_here_4 rfl (lv_at hl 0 rfl) ?_
  refine mg_6 C h d_Md_here_5 ?_
  obtain ⟨x2, he, hf⟩ := op_bind hf
  have K1 : ∀ (ls : Array Slot), lv_has ls 1 [] → ∀ (H : Heap) (locs : List Loc), mH A s.heap dC dI ad cI cZ I R H locs → W p l e (rL 5) s m args below meth c H locs 0 0 (mQi dC dI ad cI cZ A below args s (z, I, R)) (F0 m 27 ls [.int x2]) := by
    intro ls hl H locs h
    exact rt_mr C h hr hlk hf rfl d_Md_here_27
  have hf := he
  refine lv_icmp_ge (tgt := 26) hx hb d_Md_here_8 (by decide) (fun hc => ?_) (fun hc => ?_)
  · have hf := op_t hc hf
    refine lv_iconst (v := (-1)) hx hb d_Md_here_26 (by decide) ?_
    obtain rfl := op_i1 hf
    exact K1 ls (lv_sub hl [] rfl) s.heap [] h
  · have hf := op_f hc hf
    refine lv_aload_n hx hb d_Md_here_11 rfl (lv_at hl 0 rfl) ?_
    refine mg_1 C h d_Md_here_12 ?_
    refine lv_bipush (v := 70) hx hb d_Md_here_15 (by decide) ?_
    refine lv_aload_n hx hb d_Md_here_17 rfl (lv_at hl 0 rfl) ?_
    refine mg_5 C h d_Md_here_18 ?_
    refine lv_iadd hx hb d_Md_here_21 ?_
    obtain ⟨h3, hf⟩ := op_if hf
    refine ma_1 C h rfl h3 d_Md_here_22 ?_
    refine lv_goto (tgt := 27) hx hb d_Md_here_23 (by decide) ?_
    obtain rfl := op_i1 hf
    exact K1 ls (lv_sub hl [] rfl) s.heap [] h
theorem hd_Md_must : y_Md_must.cls ≠ "java/lang/invoke/MethodHandle" ∧ y_Md_must.cls ≠ "java/lang/invoke/VarHandle" ∧ (parseMethodDescriptor y_Md_must.desc).map (fun d => d.parameters.length) = some 1 := by decide +kernel
theorem d_Md_must_0 : decode b_Md_must 0 = .ok (.aload_n 0, 1) := by decide +kernel
theorem d_Md_must_1 : decode b_Md_must 1 = .ok (.aload_n 0, 1) := by decide +kernel
theorem d_Md_must_2 : decode b_Md_must 2 = .ok (.getfield 58, 3) := by decide +kernel
theorem d_Md_must_5 : decode b_Md_must 5 = .ok (.ifCond .ne 11, 3) := by decide +kernel
theorem d_Md_must_8 : decode b_Md_must 8 = .ok (.aload_n 0, 1) := by decide +kernel
theorem d_Md_must_9 : decode b_Md_must 9 = .ok (.invokevirtual 62, 3) := by decide +kernel
theorem d_Md_must_12 : decode b_Md_must 12 = .ok (.iload_n 1, 1) := by decide +kernel
theorem d_Md_must_13 : decode b_Md_must 13 = .ok (.if_icmp .eq 7, 3) := by decide +kernel
theorem d_Md_must_16 : decode b_Md_must 16 = .ok (.iconst 1, 1) := by decide +kernel
theorem d_Md_must_17 : decode b_Md_must 17 = .ok (.goto 4, 3) := by decide +kernel
theorem d_Md_must_20 : decode b_Md_must 20 = .ok (.iconst 0, 1) := by decide +kernel
theorem d_Md_must_21 : decode b_Md_must 21 = .ok (.putfield 58, 3) := by decide +kernel
theorem d_Md_must_24 : decode b_Md_must 24 = .ok (.aload_n 0, 1) := by decide +kernel
theorem d_Md_must_25 : decode b_Md_must 25 = .ok (.dup, 1) := by decide +kernel
theorem d_Md_must_26 : decode b_Md_must 26 = .ok (.getfield 52, 3) := by decide +kernel
theorem d_Md_must_29 : decode b_Md_must 29 = .ok (.aload_n 0, 1) := by decide +kernel
theorem d_Md_must_30 : decode b_Md_must 30 = .ok (.getfield 58, 3) := by decide +kernel
theorem d_Md_must_33 : decode b_Md_must 33 = .ok (.ifCond .eq 7, 3) := by decide +kernel
theorem d_Md_must_36 : decode b_Md_must 36 = .ok (.iconst 0, 1) := by decide +kernel
theorem d_Md_must_37 : decode b_Md_must 37 = .ok (.goto 4, 3) := by decide +kernel
theorem d_Md_must_40 : decode b_Md_must 40 = .ok (.iconst 1, 1) := by decide +kernel
theorem d_Md_must_41 : decode b_Md_must 41 = .ok (.iadd, 1) := by decide +kernel
theorem d_Md_must_42 : decode b_Md_must 42 = .ok (.putfield 52, 3) := by decide +kernel
theorem d_Md_must_45 : decode b_Md_must 45 = .ok (.return_, 1) := by decide +kernel
def p_Md_must (n : Nat) (v1 : Int32) (I : Nat → Int32) (R : Nat → Nat → Int32) : Option (MU) := (if (I 7) = 0 then (p_Md_here n I R).bind fun x4 => (if x4 = v1 then some 0 else some 1) else some 1 : Option (Int32)).bind fun x2 => if isZ x2 then (if ((upd I 7 x2) 7) = 0 then some 1 else some 0 : Option (Int32)).bind fun x7 => some ((upd (upd I 7 x2) 5 (((upd I 7 x2) 5) + x7)), R) else none
set_option maxHeartbeats 4000000 in
theorem c_Md_must (l : Launch) (n : Nat) (v1 : Int32) (I : Nat → Int32) (R : Nat → Nat → Int32)  : MMv l y_Md_must b_Md_must 2 (rL 6) (fun ad adK => [.int v1]) I R (p_Md_must n v1 I R) := by
  refine en_mv (by decide) rfl (fun _ _ => Nat.le_of_ble_eq_true rfl) ?_
  intro z hf p e s m args below meth c dC dI ad cI cZ A adK adV ls C hA h hr hlk hl
  have hl : lv_has ls 2 [(0, .ref (ad 0)), (1, .int v1)] := hl
  unfold p_Md_must at hf
  obtain ⟨hx, hb, hml, hown, hT, -⟩ := id C
  refine lv_aload_n hx hb d_Md_must_0 rfl (lv_at hl 0 rfl) ?_
  refine lv_aload_n hx hb d_Md_must_1 rfl (lv_at hl 0 rfl) ?_
  refine mg_7 C h d_Md_must_2 ?_
  obtain ⟨x2, he, hf⟩ := op_bind hf
  have K1 : ∀ (ls : Array Slot), lv_has ls 2 [(0, .ref (ad 0))] → ∀ (H : Heap) (locs : List Loc), mH A s.heap dC dI ad cI cZ I R H locs → W p l e (rL 6) s m args below meth c H locs 0 0 (mQv dC dI ad cI cZ A below args s z) (F0 m 21 ls [.int x2, .ref (ad 0)]) := by
    intro ls hl H locs h
    obtain ⟨h5, hf⟩ := op_if hf
    refine mp_7 C h h5 d_Md_must_21 (fun H locs h => ?_)
    refine lv_aload_n hx hb d_Md_must_24 rfl (lv_at hl 0 rfl) ?_
    refine lv_dup hx hb d_Md_must_25 rfl ?_
    refine mg_5 C h d_Md_must_26 ?_
    refine lv_aload_n hx hb d_Md_must_29 rfl (lv_at hl 0 rfl) ?_
    refine mg_7 C h d_Md_must_30 ?_
    obtain ⟨x7, he, hf⟩ := op_bind hf
    have K6 : ∀ (ls : Array Slot), lv_has ls 2 [] → ∀ (H : Heap) (locs : List Loc), mH A s.heap dC dI ad cI cZ (upd I 7 x2) R H locs → W p l e (rL 6) s m args below meth c H locs 0 0 (mQv dC dI ad cI cZ A below args s z) (F0 m 41 ls [.int x7, .int ((upd I 7 x2) 5), .ref (ad 0)]) := by
      intro ls hl H locs h
      refine lv_iadd hx hb d_Md_must_41 ?_
      refine mp_5 C h d_Md_must_42 (fun H locs h => ?_)
      exact rt_mv C h hr hlk hf d_Md_must_45
    have hf := he
    refine lv_if_eq (tgt := 40) hx hb d_Md_must_33 (by decide) (fun hc => ?_) (fun hc => ?_)
    · have hf := op_t hc hf
      refine lv_iconst (v := 1) hx hb d_Md_must_40 (by decide) ?_
      obtain rfl := op_i1 hf
      exact K6 ls (lv_sub hl [] rfl) H locs h
    · have hf := op_f hc hf
      refine lv_iconst (v := 0) hx hb d_Md_must_36 (by decide) ?_
      refine lv_goto (tgt := 41) hx hb d_Md_must_37 (by decide) ?_
      obtain rfl := op_i1 hf
      exact K6 ls (lv_sub hl [] rfl) H locs h
  have hf := he
  refine lv_if_ne (tgt := 16) hx hb d_Md_must_5 (by decide) (fun hc => ?_) (fun hc => ?_)
  · have hf := op_f hc hf
    refine lv_iconst (v := 1) hx hb d_Md_must_16 (by decide) ?_
    refine lv_goto (tgt := 21) hx hb d_Md_must_17 (by decide) ?_
    obtain rfl := op_i1 hf
    exact K1 ls (lv_sub hl [0] rfl) s.heap [] h
  · have hf := op_t hc hf
    refine lv_aload_n hx hb d_Md_must_8 rfl (lv_at hl 0 rfl) ?_
    obtain ⟨x4, hc3, hf⟩ := op_bind hf
    refine kc_r (rest := [.ref (ad 0)]) C h hA (c_Md_here l n I R) hc3 (cbW 0 hT cd_Md_here rfl rfl ini_Md ml_Md_62 hd_Md_here ⟨Nat.le_of_ble_eq_true rfl, Nat.le_of_ble_eq_true rfl⟩) im_Md_here sp_Md_here rfl hl.1 rfl (Nat.le_of_ble_eq_true rfl) d_Md_must_9 ⟨Nat.zero_le _, Nat.zero_le _⟩ (fun H locs h => ?_)
    refine lv_iload_n hx hb d_Md_must_12 rfl (lv_at hl 1 rfl) ?_
    refine lv_icmp_eq (tgt := 20) hx hb d_Md_must_13 (by decide) (fun hc => ?_) (fun hc => ?_)
    · have hf := op_t hc hf
      refine lv_iconst (v := 0) hx hb d_Md_must_20 (by decide) ?_
      obtain rfl := op_i1 hf
      exact K1 ls (lv_sub hl [0] rfl) H locs h
    · have hf := op_f hc hf
      refine lv_iconst (v := 1) hx hb d_Md_must_16 (by decide) ?_
      refine lv_goto (tgt := 21) hx hb d_Md_must_17 (by decide) ?_
      obtain rfl := op_i1 hf
      exact K1 ls (lv_sub hl [0] rfl) H locs h
end
section
theorem hd_Md_emits : y_Md_emits.cls ≠ "java/lang/invoke/MethodHandle" ∧ y_Md_emits.cls ≠ "java/lang/invoke/VarHandle" ∧ (parseMethodDescriptor y_Md_emits.desc).map (fun d => d.parameters.length) = some 1 := by decide +kernel
theorem d_Md_emits_0 : decode b_Md_emits 0 = .ok (.aload_n 0, 1) := by decide +kernel
theorem d_Md_emits_1 : decode b_Md_emits 1 = .ok (.getfield 58, 3) := by decide +kernel
theorem d_Md_emits_4 : decode b_Md_emits 4 = .ok (.ifCond .ne 52, 3) := by decide +kernel
theorem d_Md_emits_7 : decode b_Md_emits 7 = .ok (.aload_n 0, 1) := by decide +kernel
theorem d_Md_emits_8 : decode b_Md_emits 8 = .ok (.getfield 9, 3) := by decide +kernel
theorem d_Md_emits_11 : decode b_Md_emits 11 = .ok (.sipush 190, 3) := by decide +kernel
theorem d_Md_emits_14 : decode b_Md_emits 14 = .ok (.sipush 140, 3) := by decide +kernel
theorem d_Md_emits_17 : decode b_Md_emits 17 = .ok (.aload_n 0, 1) := by decide +kernel
theorem d_Md_emits_18 : decode b_Md_emits 18 = .ok (.getfield 78, 3) := by decide +kernel
theorem d_Md_emits_21 : decode b_Md_emits 21 = .ok (.imul, 1) := by decide +kernel
theorem d_Md_emits_22 : decode b_Md_emits 22 = .ok (.iadd, 1) := by decide +kernel
theorem d_Md_emits_23 : decode b_Md_emits 23 = .ok (.aload_n 0, 1) := by decide +kernel
theorem d_Md_emits_24 : decode b_Md_emits 24 = .ok (.getfield 9, 3) := by decide +kernel
theorem d_Md_emits_27 : decode b_Md_emits 27 = .ok (.sipush 185, 3) := by decide +kernel
theorem d_Md_emits_30 : decode b_Md_emits 30 = .ok (.aload_n 0, 1) := by decide +kernel
theorem d_Md_emits_31 : decode b_Md_emits 31 = .ok (.getfield 78, 3) := by decide +kernel
theorem d_Md_emits_34 : decode b_Md_emits 34 = .ok (.iadd, 1) := by decide +kernel
theorem d_Md_emits_35 : decode b_Md_emits 35 = .ok (.iaload, 1) := by decide +kernel
theorem d_Md_emits_36 : decode b_Md_emits 36 = .ok (.iadd, 1) := by decide +kernel
theorem d_Md_emits_37 : decode b_Md_emits 37 = .ok (.iload_n 1, 1) := by decide +kernel
theorem d_Md_emits_38 : decode b_Md_emits 38 = .ok (.iastore, 1) := by decide +kernel
theorem d_Md_emits_39 : decode b_Md_emits 39 = .ok (.aload_n 0, 1) := by decide +kernel
theorem d_Md_emits_40 : decode b_Md_emits 40 = .ok (.getfield 9, 3) := by decide +kernel
theorem d_Md_emits_43 : decode b_Md_emits 43 = .ok (.sipush 185, 3) := by decide +kernel
theorem d_Md_emits_46 : decode b_Md_emits 46 = .ok (.aload_n 0, 1) := by decide +kernel
theorem d_Md_emits_47 : decode b_Md_emits 47 = .ok (.getfield 78, 3) := by decide +kernel
theorem d_Md_emits_50 : decode b_Md_emits 50 = .ok (.iadd, 1) := by decide +kernel
theorem d_Md_emits_51 : decode b_Md_emits 51 = .ok (.dup2, 1) := by decide +kernel
theorem d_Md_emits_52 : decode b_Md_emits 52 = .ok (.iaload, 1) := by decide +kernel
theorem d_Md_emits_53 : decode b_Md_emits 53 = .ok (.iconst 1, 1) := by decide +kernel
theorem d_Md_emits_54 : decode b_Md_emits 54 = .ok (.iadd, 1) := by decide +kernel
theorem d_Md_emits_55 : decode b_Md_emits 55 = .ok (.iastore, 1) := by decide +kernel
theorem d_Md_emits_56 : decode b_Md_emits 56 = .ok (.return_, 1) := by decide +kernel
def p_Md_emits (n : Nat) (v1 : Int32) (I : Nat → Int32) (R : Nat → Nat → Int32) : Option (MU) := (if (I 7) = 0 then if ix (185 + (I 4)) 890 then if ix (((190 + (140 * (I 4))) + (R 1 (185 + (I 4)).toNatClampNeg))) 890 then if ix (185 + (I 4)) 890 then if ix (185 + (I 4)) 890 then some (I, (upR (upR R 1 (((190 + (140 * (I 4))) + (R 1 (185 + (I 4)).toNatClampNeg))).toNatClampNeg v1) 1 (185 + (I 4)).toNatClampNeg (((((upR R 1 (((190 + (140 * (I 4))) + (R 1 (185 + (I 4)).toNatClampNeg))).toNatClampNeg v1)) 1 (185 + (I 4)).toNatClampNeg) + 1)))) else none else none else none else none else some (I, R))
set_option maxHeartbeats 4000000 in
theorem c_Md_emits (l : Launch) (n : Nat) (v1 : Int32) (I : Nat → Int32) (R : Nat → Nat → Int32)  : MMv l y_Md_emits b_Md_emits 2 (rL 5) (fun ad adK => [.int v1]) I R (p_Md_emits n v1 I R) := by
  refine en_mv (by decide) rfl (fun _ _ => Nat.le_of_ble_eq_true rfl) ?_
  intro z hf p e s m args below meth c dC dI ad cI cZ A adK adV ls C hA h hr hlk hl
  have hl : lv_has ls 2 [(0, .ref (ad 0)), (1, .int v1)] := hl
  unfold p_Md_emits at hf
  obtain ⟨hx, hb, hml, hown, hT, -⟩ := id C
  refine lv_aload_n hx hb d_Md_emits_0 rfl (lv_at hl 0 rfl) ?_
  refine mg_7 C h d_Md_emits_1 ?_
  refine lv_if_ne (tgt := 56) hx hb d_Md_emits_4 (by decide) (fun hc => ?_) (fun hc => ?_)
  · have hf := op_f hc hf
    exact rt_mv C h hr hlk hf d_Md_emits_56
  · have hf := op_t hc hf
    refine lv_aload_n hx hb d_Md_emits_7 rfl (lv_at hl 0 rfl) ?_
    refine mg_1 C h d_Md_emits_8 ?_
    refine lv_sipush (v := 190) hx hb d_Md_emits_11 (by decide) ?_
    refine lv_sipush (v := 140) hx hb d_Md_emits_14 (by decide) ?_
    refine lv_aload_n hx hb d_Md_emits_17 rfl (lv_at hl 0 rfl) ?_
    refine mg_4 C h d_Md_emits_18 ?_
    refine lv_imul hx hb d_Md_emits_21 ?_
    refine lv_iadd hx hb d_Md_emits_22 ?_
    refine lv_aload_n hx hb d_Md_emits_23 rfl (lv_at hl 0 rfl) ?_
    refine mg_1 C h d_Md_emits_24 ?_
    refine lv_sipush (v := 185) hx hb d_Md_emits_27 (by decide) ?_
    refine lv_aload_n hx hb d_Md_emits_30 rfl (lv_at hl 0 rfl) ?_
    refine mg_4 C h d_Md_emits_31 ?_
    refine lv_iadd hx hb d_Md_emits_34 ?_
    obtain ⟨h1, hf⟩ := op_if hf
    refine ma_1 C h rfl h1 d_Md_emits_35 ?_
    refine lv_iadd hx hb d_Md_emits_36 ?_
    refine lv_iload_n hx hb d_Md_emits_37 rfl (lv_at hl 1 rfl) ?_
    obtain ⟨h2, hf⟩ := op_if hf
    refine ms_1 C h rfl h2 d_Md_emits_38 (fun H locs h => ?_)
    refine lv_aload_n hx hb d_Md_emits_39 rfl (lv_at hl 0 rfl) ?_
    refine mg_1 C h d_Md_emits_40 ?_
    refine lv_sipush (v := 185) hx hb d_Md_emits_43 (by decide) ?_
    refine lv_aload_n hx hb d_Md_emits_46 rfl (lv_at hl 0 rfl) ?_
    refine mg_4 C h d_Md_emits_47 ?_
    refine lv_iadd hx hb d_Md_emits_50 ?_
    refine lv_dup2_11 hx hb d_Md_emits_51 rfl rfl ?_
    obtain ⟨h3, hf⟩ := op_if hf
    refine ma_1 C h rfl h3 d_Md_emits_52 ?_
    refine lv_iconst (v := 1) hx hb d_Md_emits_53 (by decide) ?_
    refine lv_iadd hx hb d_Md_emits_54 ?_
    obtain ⟨h4, hf⟩ := op_if hf
    refine ms_1 C h rfl h4 d_Md_emits_55 (fun H locs h => ?_)
    exact rt_mv C h hr hlk hf d_Md_emits_56
theorem hd_Md_tellsOf : y_Md_tellsOf.cls ≠ "java/lang/invoke/MethodHandle" ∧ y_Md_tellsOf.cls ≠ "java/lang/invoke/VarHandle" ∧ (parseMethodDescriptor y_Md_tellsOf.desc).map (fun d => d.parameters.length) = some 2 := by decide +kernel
theorem d_Md_tellsOf_0 : decode b_Md_tellsOf 0 = .ok (.aload_n 0, 1) := by decide +kernel
theorem d_Md_tellsOf_1 : decode b_Md_tellsOf 1 = .ok (.getfield 9, 3) := by decide +kernel
theorem d_Md_tellsOf_4 : decode b_Md_tellsOf 4 = .ok (.iconst 5, 1) := by decide +kernel
theorem d_Md_tellsOf_5 : decode b_Md_tellsOf 5 = .ok (.iaload, 1) := by decide +kernel
theorem d_Md_tellsOf_6 : decode b_Md_tellsOf 6 = .ok (.iconst (-1), 1) := by decide +kernel
theorem d_Md_tellsOf_7 : decode b_Md_tellsOf 7 = .ok (.if_icmp .ne 7, 3) := by decide +kernel
theorem d_Md_tellsOf_10 : decode b_Md_tellsOf 10 = .ok (.iload_n 2, 1) := by decide +kernel
theorem d_Md_tellsOf_11 : decode b_Md_tellsOf 11 = .ok (.goto 16, 3) := by decide +kernel
theorem d_Md_tellsOf_14 : decode b_Md_tellsOf 14 = .ok (.aload_n 0, 1) := by decide +kernel
theorem d_Md_tellsOf_15 : decode b_Md_tellsOf 15 = .ok (.getfield 9, 3) := by decide +kernel
theorem d_Md_tellsOf_18 : decode b_Md_tellsOf 18 = .ok (.iload_n 1, 1) := by decide +kernel
theorem d_Md_tellsOf_19 : decode b_Md_tellsOf 19 = .ok (.aload_n 0, 1) := by decide +kernel
theorem d_Md_tellsOf_20 : decode b_Md_tellsOf 20 = .ok (.getfield 9, 3) := by decide +kernel
theorem d_Md_tellsOf_23 : decode b_Md_tellsOf 23 = .ok (.iconst 5, 1) := by decide +kernel
theorem d_Md_tellsOf_24 : decode b_Md_tellsOf 24 = .ok (.iaload, 1) := by decide +kernel
theorem d_Md_tellsOf_25 : decode b_Md_tellsOf 25 = .ok (.iadd, 1) := by decide +kernel
theorem d_Md_tellsOf_26 : decode b_Md_tellsOf 26 = .ok (.iaload, 1) := by decide +kernel
theorem d_Md_tellsOf_27 : decode b_Md_tellsOf 27 = .ok (.ireturn, 1) := by decide +kernel
def p_Md_tellsOf (n : Nat) (v1 : Int32) (v2 : Int32) (I : Nat → Int32) (R : Nat → Nat → Int32) : Option (Int32) := (if (R 1 5) = (-1) then some v2 else if ix (v1 + (R 1 5)) 890 then some (R 1 (v1 + (R 1 5)).toNatClampNeg) else none : Option (Int32)).bind fun x2 => some x2
set_option maxHeartbeats 4000000 in
theorem c_Md_tellsOf (l : Launch) (n : Nat) (v1 : Int32) (v2 : Int32) (I : Nat → Int32) (R : Nat → Nat → Int32)  : MMi l y_Md_tellsOf b_Md_tellsOf 3 .int (rL 5) (fun ad adK => [.int v1, .int v2]) I R ((p_Md_tellsOf n v1 v2 I R).map fun r => (r, I, R)) := by
  refine en_mi (by decide) rfl (fun _ _ => Nat.le_of_ble_eq_true rfl) ?_
  intro z hz p e s m args below meth c dC dI ad cI cZ A adK adV ls C hA h hr hlk hl
  have hl : lv_has ls 3 [(0, .ref (ad 0)), (1, .int v1), (2, .int v2)] := hl
  obtain ⟨z, hf, rfl⟩ := op_map hz
  unfold p_Md_tellsOf at hf
  obtain ⟨hx, hb, hml, hown, hT, -⟩ := id C
  refine lv_aload_n hx hb d_Md_tellsOf_0 rfl (lv_at hl 0 rfl) ?_
  refine mg_1 C h d_Md_tellsOf_1 ?_
  refine lv_iconst (v := 5) hx hb d_Md_tellsOf_4 (by decide) ?_
  refine ma_1 C h (j := 5) (by decide) (show ix 5 890 by decide) d_Md_tellsOf_5 ?_
  refine lv_iconst (v := (-1)) hx hb d_Md_tellsOf_6 (by decide) ?_
  obtain ⟨x2, he, hf⟩ := op_bind hf
  have K1 : ∀ (ls : Array Slot), lv_has ls 3 [] → ∀ (H : Heap) (locs : List Loc), mH A s.heap dC dI ad cI cZ I R H locs → W p l e (rL 5) s m args below meth c H locs 0 0 (mQi dC dI ad cI cZ A below args s (z, I, R)) (F0 m 27 ls [.int x2]) := by
    intro ls hl H locs h
    exact rt_mr C h hr hlk hf rfl d_Md_tellsOf_27
  have hf := he
  refine lv_icmp_ne (tgt := 14) hx hb d_Md_tellsOf_7 (by decide) (fun hc => ?_) (fun hc => ?_)
  · have hf := op_f hc hf
    refine lv_aload_n hx hb d_Md_tellsOf_14 rfl (lv_at hl 0 rfl) ?_
    refine mg_1 C h d_Md_tellsOf_15 ?_
    refine lv_iload_n hx hb d_Md_tellsOf_18 rfl (lv_at hl 1 rfl) ?_
    refine lv_aload_n hx hb d_Md_tellsOf_19 rfl (lv_at hl 0 rfl) ?_
    refine mg_1 C h d_Md_tellsOf_20 ?_
    refine lv_iconst (v := 5) hx hb d_Md_tellsOf_23 (by decide) ?_
    refine ma_1 C h (j := 5) (by decide) (show ix 5 890 by decide) d_Md_tellsOf_24 ?_
    refine lv_iadd hx hb d_Md_tellsOf_25 ?_
    obtain ⟨h3, hf⟩ := op_if hf
    refine ma_1 C h rfl h3 d_Md_tellsOf_26 ?_
    obtain rfl := op_i1 hf
    exact K1 ls (lv_sub hl [] rfl) s.heap [] h
  · have hf := op_t hc hf
    refine lv_iload_n hx hb d_Md_tellsOf_10 rfl (lv_at hl 2 rfl) ?_
    refine lv_goto (tgt := 27) hx hb d_Md_tellsOf_11 (by decide) ?_
    obtain rfl := op_i1 hf
    exact K1 ls (lv_sub hl [] rfl) s.heap [] h
theorem hd_Md_areHere : y_Md_areHere.cls ≠ "java/lang/invoke/MethodHandle" ∧ y_Md_areHere.cls ≠ "java/lang/invoke/VarHandle" ∧ (parseMethodDescriptor y_Md_areHere.desc).map (fun d => d.parameters.length) = some 3 := by decide +kernel
theorem d_Md_areHere_0 : decode b_Md_areHere 0 = .ok (.iload_n 2, 1) := by decide +kernel
theorem d_Md_areHere_1 : decode b_Md_areHere 1 = .ok (.iconst 1, 1) := by decide +kernel
theorem d_Md_areHere_2 : decode b_Md_areHere 2 = .ok (.if_icmp .ne 18, 3) := by decide +kernel
theorem d_Md_areHere_5 : decode b_Md_areHere 5 = .ok (.iload_n 0, 1) := by decide +kernel
theorem d_Md_areHere_6 : decode b_Md_areHere 6 = .ok (.iload_n 1, 1) := by decide +kernel
theorem d_Md_areHere_7 : decode b_Md_areHere 7 = .ok (.iand, 1) := by decide +kernel
theorem d_Md_areHere_8 : decode b_Md_areHere 8 = .ok (.iload_n 0, 1) := by decide +kernel
theorem d_Md_areHere_9 : decode b_Md_areHere 9 = .ok (.if_icmp .ne 7, 3) := by decide +kernel
theorem d_Md_areHere_12 : decode b_Md_areHere 12 = .ok (.iconst 1, 1) := by decide +kernel
theorem d_Md_areHere_13 : decode b_Md_areHere 13 = .ok (.goto 18, 3) := by decide +kernel
theorem d_Md_areHere_16 : decode b_Md_areHere 16 = .ok (.iconst 0, 1) := by decide +kernel
theorem d_Md_areHere_17 : decode b_Md_areHere 17 = .ok (.goto 14, 3) := by decide +kernel
theorem d_Md_areHere_20 : decode b_Md_areHere 20 = .ok (.iload_n 0, 1) := by decide +kernel
theorem d_Md_areHere_21 : decode b_Md_areHere 21 = .ok (.iload_n 1, 1) := by decide +kernel
theorem d_Md_areHere_22 : decode b_Md_areHere 22 = .ok (.iand, 1) := by decide +kernel
theorem d_Md_areHere_23 : decode b_Md_areHere 23 = .ok (.ifCond .ne 7, 3) := by decide +kernel
theorem d_Md_areHere_26 : decode b_Md_areHere 26 = .ok (.iconst 1, 1) := by decide +kernel
theorem d_Md_areHere_27 : decode b_Md_areHere 27 = .ok (.goto 4, 3) := by decide +kernel
theorem d_Md_areHere_30 : decode b_Md_areHere 30 = .ok (.iconst 0, 1) := by decide +kernel
theorem d_Md_areHere_31 : decode b_Md_areHere 31 = .ok (.ireturn, 1) := by decide +kernel
def p_Md_areHere (n : Nat) (v0 : Int32) (v1 : Int32) (v2 : Int32)  : Option (Int32) := (if v2 = 1 then (if (v0 &&& v1) = v0 then some 1 else some 0) else (if (v0 &&& v1) = 0 then some 1 else some 0) : Option (Int32)).bind fun x2 => if isZ x2 then some x2 else none
set_option maxHeartbeats 4000000 in
theorem c_Md_areHere (l : Launch) (n : Nat) (v0 : Int32) (v1 : Int32) (v2 : Int32)   : MSi l y_Md_areHere b_Md_areHere 3 .boolean (rL 5) [.int v0, .int v1, .int v2] (p_Md_areHere n v0 v1 v2 ) := by
  refine en_si (by decide) (Nat.le_of_ble_eq_true rfl) ?_
  intro z hf p e s m args below meth c ls hx hb hml hown hT hr hlk hl
  have hl : lv_has ls 3 [(0, .int v0), (1, .int v1), (2, .int v2)] := hl
  unfold p_Md_areHere at hf
  refine lv_iload_n hx hb d_Md_areHere_0 rfl (lv_at hl 2 rfl) ?_
  refine lv_iconst (v := 1) hx hb d_Md_areHere_1 (by decide) ?_
  obtain ⟨x2, he, hf⟩ := op_bind hf
  have K1 : ∀ (ls : Array Slot), lv_has ls 3 [] → W p l e (rL 5) s m args below meth c s.heap [] 0 0 (MQ below (fun _ st oc t => oc = .returned (some (.int z)) ∧ t.heap = st.heap) args s 0 0 (fun _ => False)) (F0 m 31 ls [.int x2]) := by
    intro ls hl
    obtain ⟨h3, hf⟩ := op_if hf
    obtain rfl := op_i1 hf
    exact rt_si hx hb hr hlk (isZ_nar h3) d_Md_areHere_31
  have hf := he
  refine lv_icmp_ne (tgt := 20) hx hb d_Md_areHere_2 (by decide) (fun hc => ?_) (fun hc => ?_)
  · have hf := op_f hc hf
    refine lv_iload_n hx hb d_Md_areHere_20 rfl (lv_at hl 0 rfl) ?_
    refine lv_iload_n hx hb d_Md_areHere_21 rfl (lv_at hl 1 rfl) ?_
    refine lv_iand hx hb d_Md_areHere_22 ?_
    refine lv_if_ne (tgt := 30) hx hb d_Md_areHere_23 (by decide) (fun hc => ?_) (fun hc => ?_)
    · have hf := op_f hc hf
      refine lv_iconst (v := 0) hx hb d_Md_areHere_30 (by decide) ?_
      obtain rfl := op_i1 hf
      exact K1 ls (lv_sub hl [] rfl)
    · have hf := op_t hc hf
      refine lv_iconst (v := 1) hx hb d_Md_areHere_26 (by decide) ?_
      refine lv_goto (tgt := 31) hx hb d_Md_areHere_27 (by decide) ?_
      obtain rfl := op_i1 hf
      exact K1 ls (lv_sub hl [] rfl)
  · have hf := op_t hc hf
    refine lv_iload_n hx hb d_Md_areHere_5 rfl (lv_at hl 0 rfl) ?_
    refine lv_iload_n hx hb d_Md_areHere_6 rfl (lv_at hl 1 rfl) ?_
    refine lv_iand hx hb d_Md_areHere_7 ?_
    refine lv_iload_n hx hb d_Md_areHere_8 rfl (lv_at hl 0 rfl) ?_
    refine lv_icmp_ne (tgt := 16) hx hb d_Md_areHere_9 (by decide) (fun hc => ?_) (fun hc => ?_)
    · have hf := op_f hc hf
      refine lv_iconst (v := 0) hx hb d_Md_areHere_16 (by decide) ?_
      refine lv_goto (tgt := 31) hx hb d_Md_areHere_17 (by decide) ?_
      obtain rfl := op_i1 hf
      exact K1 ls (lv_sub hl [] rfl)
    · have hf := op_t hc hf
      refine lv_iconst (v := 1) hx hb d_Md_areHere_12 (by decide) ?_
      refine lv_goto (tgt := 31) hx hb d_Md_areHere_13 (by decide) ?_
      obtain rfl := op_i1 hf
      exact K1 ls (lv_sub hl [] rfl)
theorem hd_Md_now : y_Md_now.cls ≠ "java/lang/invoke/MethodHandle" ∧ y_Md_now.cls ≠ "java/lang/invoke/VarHandle" ∧ (parseMethodDescriptor y_Md_now.desc).map (fun d => d.parameters.length) = some 0 := by decide +kernel
theorem d_Md_now_0 : decode b_Md_now 0 = .ok (.aload_n 0, 1) := by decide +kernel
theorem d_Md_now_1 : decode b_Md_now 1 = .ok (.getfield 9, 3) := by decide +kernel
theorem d_Md_now_4 : decode b_Md_now 4 = .ok (.bipush 9, 2) := by decide +kernel
theorem d_Md_now_6 : decode b_Md_now 6 = .ok (.iaload, 1) := by decide +kernel
theorem d_Md_now_7 : decode b_Md_now 7 = .ok (.bipush 64, 2) := by decide +kernel
theorem d_Md_now_9 : decode b_Md_now 9 = .ok (.aload_n 0, 1) := by decide +kernel
theorem d_Md_now_10 : decode b_Md_now 10 = .ok (.getfield 9, 3) := by decide +kernel
theorem d_Md_now_13 : decode b_Md_now 13 = .ok (.bipush 8, 2) := by decide +kernel
theorem d_Md_now_15 : decode b_Md_now 15 = .ok (.iaload, 1) := by decide +kernel
theorem d_Md_now_16 : decode b_Md_now 16 = .ok (.imul, 1) := by decide +kernel
theorem d_Md_now_17 : decode b_Md_now 17 = .ok (.iadd, 1) := by decide +kernel
theorem d_Md_now_18 : decode b_Md_now 18 = .ok (.ireturn, 1) := by decide +kernel
def p_Md_now (n : Nat)  (I : Nat → Int32) (R : Nat → Nat → Int32) : Option (Int32) := some (((R 1 9) + (64 * (R 1 8))))
set_option maxHeartbeats 4000000 in
theorem c_Md_now (l : Launch) (n : Nat)  (I : Nat → Int32) (R : Nat → Nat → Int32)  : MMi l y_Md_now b_Md_now 1 .int (rL 5) (fun ad adK => []) I R ((p_Md_now n I R).map fun r => (r, I, R)) := by
  refine en_mi (by decide) rfl (fun _ _ => Nat.le_of_ble_eq_true rfl) ?_
  intro z hz p e s m args below meth c dC dI ad cI cZ A adK adV ls C hA h hr hlk hl
  have hl : lv_has ls 1 [(0, .ref (ad 0))] := hl
  obtain ⟨z, hf, rfl⟩ := op_map hz
  unfold p_Md_now at hf
  obtain ⟨hx, hb, hml, hown, hT, -⟩ := id C
  refine lv_aload_n hx hb d_Md_now_0 rfl (lv_at hl 0 rfl) ?_
  refine mg_1 C h d_Md_now_1 ?_
  refine lv_bipush (v := 9) hx hb d_Md_now_4 (by decide) ?_
  refine ma_1 C h (j := 9) (by decide) (show ix 9 890 by decide) d_Md_now_6 ?_
  refine lv_bipush (v := 64) hx hb d_Md_now_7 (by decide) ?_
  refine lv_aload_n hx hb d_Md_now_9 rfl (lv_at hl 0 rfl) ?_
  refine mg_1 C h d_Md_now_10 ?_
  refine lv_bipush (v := 8) hx hb d_Md_now_13 (by decide) ?_
  refine ma_1 C h (j := 8) (by decide) (show ix 8 890 by decide) d_Md_now_15 ?_
  refine lv_imul hx hb d_Md_now_16 ?_
  refine lv_iadd hx hb d_Md_now_17 ?_
  exact rt_mr C h hr hlk hf rfl d_Md_now_18
theorem hd_Md_leastOf : y_Md_leastOf.cls ≠ "java/lang/invoke/MethodHandle" ∧ y_Md_leastOf.cls ≠ "java/lang/invoke/VarHandle" ∧ (parseMethodDescriptor y_Md_leastOf.desc).map (fun d => d.parameters.length) = some 2 := by decide +kernel
theorem d_Md_leastOf_0 : decode b_Md_leastOf 0 = .ok (.ldc 176, 2) := by decide +kernel
theorem d_Md_leastOf_2 : decode b_Md_leastOf 2 = .ok (.istore_n 3, 1) := by decide +kernel
theorem d_Md_leastOf_3 : decode b_Md_leastOf 3 = .ok (.iconst 0, 1) := by decide +kernel
theorem d_Md_leastOf_4 : decode b_Md_leastOf 4 = .ok (.istore 4, 2) := by decide +kernel
theorem d_Md_leastOf_6 : decode b_Md_leastOf 6 = .ok (.iload 4, 2) := by decide +kernel
theorem d_Md_leastOf_8 : decode b_Md_leastOf 8 = .ok (.sipush 128, 3) := by decide +kernel
theorem d_Md_leastOf_11 : decode b_Md_leastOf 11 = .ok (.if_icmp .ge 37, 3) := by decide +kernel
theorem d_Md_leastOf_14 : decode b_Md_leastOf 14 = .ok (.iload 4, 2) := by decide +kernel
theorem d_Md_leastOf_16 : decode b_Md_leastOf 16 = .ok (.bipush 64, 2) := by decide +kernel
theorem d_Md_leastOf_18 : decode b_Md_leastOf 18 = .ok (.irem, 1) := by decide +kernel
theorem d_Md_leastOf_19 : decode b_Md_leastOf 19 = .ok (.iload_n 1, 1) := by decide +kernel
theorem d_Md_leastOf_20 : decode b_Md_leastOf 20 = .ok (.iand, 1) := by decide +kernel
theorem d_Md_leastOf_21 : decode b_Md_leastOf 21 = .ok (.iload_n 1, 1) := by decide +kernel
theorem d_Md_leastOf_22 : decode b_Md_leastOf 22 = .ok (.if_icmp .ne 18, 3) := by decide +kernel
theorem d_Md_leastOf_25 : decode b_Md_leastOf 25 = .ok (.aload_n 2, 1) := by decide +kernel
theorem d_Md_leastOf_26 : decode b_Md_leastOf 26 = .ok (.iload 4, 2) := by decide +kernel
theorem d_Md_leastOf_28 : decode b_Md_leastOf 28 = .ok (.iaload, 1) := by decide +kernel
theorem d_Md_leastOf_29 : decode b_Md_leastOf 29 = .ok (.iload_n 3, 1) := by decide +kernel
theorem d_Md_leastOf_30 : decode b_Md_leastOf 30 = .ok (.if_icmp .ge 10, 3) := by decide +kernel
theorem d_Md_leastOf_33 : decode b_Md_leastOf 33 = .ok (.aload_n 2, 1) := by decide +kernel
theorem d_Md_leastOf_34 : decode b_Md_leastOf 34 = .ok (.iload 4, 2) := by decide +kernel
theorem d_Md_leastOf_36 : decode b_Md_leastOf 36 = .ok (.iaload, 1) := by decide +kernel
theorem d_Md_leastOf_37 : decode b_Md_leastOf 37 = .ok (.goto 4, 3) := by decide +kernel
theorem d_Md_leastOf_40 : decode b_Md_leastOf 40 = .ok (.iload_n 3, 1) := by decide +kernel
theorem d_Md_leastOf_41 : decode b_Md_leastOf 41 = .ok (.istore_n 3, 1) := by decide +kernel
theorem d_Md_leastOf_42 : decode b_Md_leastOf 42 = .ok (.iinc 4 1, 3) := by decide +kernel
theorem d_Md_leastOf_45 : decode b_Md_leastOf 45 = .ok (.goto (-39), 3) := by decide +kernel
theorem d_Md_leastOf_48 : decode b_Md_leastOf 48 = .ok (.iload_n 3, 1) := by decide +kernel
theorem d_Md_leastOf_49 : decode b_Md_leastOf 49 = .ok (.ireturn, 1) := by decide +kernel
def l_Md_leastOf_ad14_6 (n : Nat)  (v1 : Int32) (I : Nat → Int32) (R : Nat → Nat → Int32) : Nat → Int32 → Int32 → Option (Int32)
  | 0, _, _ => none
  | k + 1, v3, v4 => (if 128 ≤ v4 then some v3 else (if ((v4 - v4 / 64 * 64) &&& v1) = v1 then if ix v4 128 then (if v3 ≤ (R 14 v4.toNatClampNeg) then some v3 else if ix v4 128 then some (R 14 v4.toNatClampNeg) else none) else none else some v3 : Option (Int32)).bind fun x2 => l_Md_leastOf_ad14_6 n v1 I R k x2 (v4 + 1))
set_option maxHeartbeats 4000000 in
theorem wl_Md_leastOf_ad14_6 {Q : State → Prop}  {p : Program} {l : Launch} {e : Env} {s : State} {m : MethodId} {args : Array Value} {below : List Frame} {meth : Method} {c : Code} {dC : Nat → ClassId} {dI : Nat → Nat → Nat} {ad : Nat → Nat} {cI cZ : ClassId} {A : Nat → Prop} {adK adV : Nat → Nat} (C : mC p s m args c b_Md_leastOf 5 dC dI cI cZ A adK adV) (hA : ∀ q, s.heap.size ≤ q → A q) (hr : meth.sig.returnType = some .int) (hlk : meth.locks = false) (n : Nat)  (v1 : Int32) (I : Nat → Int32) (R : Nat → Nat → Int32) : ∀ (k : Nat) (v3 : Int32) (v4 : Int32) (r0 : Int32), l_Md_leastOf_ad14_6 n v1 I R k v3 v4 = some r0 → (∀ (ls : Array Slot), lv_has ls 5 [(3, .int r0)] → ∀ (H : Heap) (locs : List Loc), mH A s.heap dC dI ad cI cZ I R H locs → W p l e (rL 5) s m args below meth c H locs 0 0 Q (F0 m 48 ls [])) → ∀ (ls : Array Slot), lv_has ls 5 [(1, .int v1), (2, .ref (ad 14)), (3, .int v3), (4, .int v4)] → ∀ (H : Heap) (locs : List Loc), mH A s.heap dC dI ad cI cZ I R H locs → W p l e (rL 5) s m args below meth c H locs 0 0 Q (F0 m 6 ls []) := by
  obtain ⟨hx, hb, hml, hown, hT, -⟩ := id C
  intro k
  induction k with
  | zero => intro v3 v4 r0 hf; exact absurd hf (by unfold l_Md_leastOf_ad14_6; exact fun h9 => by cases h9)
  | succ k ih =>
    intro v3 v4 r0 hf K ls hl H locs h
    unfold l_Md_leastOf_ad14_6 at hf
    refine lv_iload hx hb d_Md_leastOf_6 (lv_at hl 3 rfl) ?_
    refine lv_sipush (v := 128) hx hb d_Md_leastOf_8 (by decide) ?_
    refine lv_icmp_ge (tgt := 48) hx hb d_Md_leastOf_11 (by decide) (fun hc => ?_) (fun hc => ?_)
    · have hf := op_t hc hf
      obtain rfl := op_i1 hf
      exact K ls (lv_sub hl [2] rfl) H locs h
    · have hf := op_f hc hf
      refine lv_iload hx hb d_Md_leastOf_14 (lv_at hl 3 rfl) ?_
      refine lv_bipush (v := 64) hx hb d_Md_leastOf_16 (by decide) ?_
      refine lv_irem hx hb d_Md_leastOf_18 (by decide) ?_
      refine lv_iload_n hx hb d_Md_leastOf_19 rfl (lv_at hl 0 rfl) ?_
      refine lv_iand hx hb d_Md_leastOf_20 ?_
      refine lv_iload_n hx hb d_Md_leastOf_21 rfl (lv_at hl 0 rfl) ?_
      obtain ⟨x2, he, hf⟩ := op_bind hf
      have K1 : ∀ (ls : Array Slot), lv_has ls 5 [(1, .int v1), (2, .ref (ad 14)), (4, .int v4)] → ∀ (H : Heap) (locs : List Loc), mH A s.heap dC dI ad cI cZ I R H locs → W p l e (rL 5) s m args below meth c H locs 0 0 Q (F0 m 41 ls [.int x2]) := by
        intro ls hl H locs h
        refine lv_istore_n (lv' := [(3, .int x2), (1, .int v1), (2, .ref (ad 14)), (4, .int v4)]) hx hb d_Md_leastOf_41 rfl hl (by decide) rfl (fun ls hl => ?_)
        refine lv_iinc (v := (v4 + 1)) (lv' := [(4, .int (v4 + 1)), (3, .int x2), (1, .int v1), (2, .ref (ad 14))]) hx hb d_Md_leastOf_42 hl (k := 3) rfl rfl (by decide) rfl (fun ls hl => ?_)
        refine lv_goto (tgt := 6) hx hb d_Md_leastOf_45 (by decide) ?_
        exact ih x2 (v4 + 1) _ hf K ls (lv_sub hl [2, 3, 1, 0] rfl) H locs h
      have hf := he
      refine lv_icmp_ne (tgt := 40) hx hb d_Md_leastOf_22 (by decide) (fun hc => ?_) (fun hc => ?_)
      · have hf := op_f hc hf
        refine lv_iload_n hx hb d_Md_leastOf_40 rfl (lv_at hl 2 rfl) ?_
        obtain rfl := op_i1 hf
        exact K1 ls (lv_sub hl [0, 1, 3] rfl) H locs h
      · have hf := op_t hc hf
        refine lv_aload_n hx hb d_Md_leastOf_25 rfl (lv_at hl 1 rfl) ?_
        refine lv_iload hx hb d_Md_leastOf_26 (lv_at hl 3 rfl) ?_
        obtain ⟨h3, hf⟩ := op_if hf
        refine ma_14 C h rfl h3 d_Md_leastOf_28 ?_
        refine lv_iload_n hx hb d_Md_leastOf_29 rfl (lv_at hl 2 rfl) ?_
        refine lv_icmp_ge (tgt := 40) hx hb d_Md_leastOf_30 (by decide) (fun hc => ?_) (fun hc => ?_)
        · have hf := op_t hc hf
          refine lv_iload_n hx hb d_Md_leastOf_40 rfl (lv_at hl 2 rfl) ?_
          obtain rfl := op_i1 hf
          exact K1 ls (lv_sub hl [0, 1, 3] rfl) H locs h
        · have hf := op_f hc hf
          refine lv_aload_n hx hb d_Md_leastOf_33 rfl (lv_at hl 1 rfl) ?_
          refine lv_iload hx hb d_Md_leastOf_34 (lv_at hl 3 rfl) ?_
          obtain ⟨h4, hf⟩ := op_if hf
          refine ma_14 C h rfl h4 d_Md_leastOf_36 ?_
          refine lv_goto (tgt := 41) hx hb d_Md_leastOf_37 (by decide) ?_
          obtain rfl := op_i1 hf
          exact K1 ls (lv_sub hl [0, 1, 3] rfl) H locs h
def p_Md_leastOf_ad14 (n : Nat) (v1 : Int32) (I : Nat → Int32) (R : Nat → Nat → Int32) : Option (Int32) := (l_Md_leastOf_ad14_6 n v1 I R n 1000000 0).bind fun y5 => some y5
set_option maxHeartbeats 4000000 in
theorem c_Md_leastOf_ad14 (l : Launch) (n : Nat) (v1 : Int32) (I : Nat → Int32) (R : Nat → Nat → Int32)  : MMi l y_Md_leastOf b_Md_leastOf 5 .int (rL 5) (fun ad adK => [.int v1, .ref (ad 14)]) I R ((p_Md_leastOf_ad14 n v1 I R).map fun r => (r, I, R)) := by
  refine en_mi (by decide) rfl (fun _ _ => Nat.le_of_ble_eq_true rfl) ?_
  intro z hz p e s m args below meth c dC dI ad cI cZ A adK adV ls C hA h hr hlk hl
  have hl : lv_has ls 5 [(0, .ref (ad 0)), (1, .int v1), (2, .ref (ad 14))] := hl
  obtain ⟨z, hf, rfl⟩ := op_map hz
  unfold p_Md_leastOf_ad14 at hf
  obtain ⟨hx, hb, hml, hown, hT, -⟩ := id C
  refine lv_ldc (v := 1000000) hx hb hown (hT _ ko_Md_176) d_Md_leastOf_0 ?_
  refine lv_istore_n (lv' := [(3, .int 1000000), (0, .ref (ad 0)), (1, .int v1), (2, .ref (ad 14))]) hx hb d_Md_leastOf_2 rfl hl (by decide) rfl (fun ls hl => ?_)
  refine lv_iconst (v := 0) hx hb d_Md_leastOf_3 (by decide) ?_
  refine lv_istore (lv' := [(4, .int 0), (3, .int 1000000), (0, .ref (ad 0)), (1, .int v1), (2, .ref (ad 14))]) hx hb d_Md_leastOf_4 hl (by decide) rfl (fun ls hl => ?_)
  obtain ⟨y5, he, hf⟩ := op_bind hf
  refine wl_Md_leastOf_ad14_6 C hA hr hlk n v1 I R n 1000000 0 _ he (fun ls hl H locs h => ?_) ls (lv_sub hl [3, 4, 1, 0] rfl) s.heap [] h
  refine lv_iload_n hx hb d_Md_leastOf_48 rfl (lv_at hl 0 rfl) ?_
  exact rt_mr C h hr hlk hf rfl d_Md_leastOf_49
def l_Md_leastOf_ad15_6 (n : Nat)  (v1 : Int32) (I : Nat → Int32) (R : Nat → Nat → Int32) : Nat → Int32 → Int32 → Option (Int32)
  | 0, _, _ => none
  | k + 1, v3, v4 => (if 128 ≤ v4 then some v3 else (if ((v4 - v4 / 64 * 64) &&& v1) = v1 then if ix v4 128 then (if v3 ≤ (R 15 v4.toNatClampNeg) then some v3 else if ix v4 128 then some (R 15 v4.toNatClampNeg) else none) else none else some v3 : Option (Int32)).bind fun x2 => l_Md_leastOf_ad15_6 n v1 I R k x2 (v4 + 1))
set_option maxHeartbeats 4000000 in
theorem wl_Md_leastOf_ad15_6 {Q : State → Prop}  {p : Program} {l : Launch} {e : Env} {s : State} {m : MethodId} {args : Array Value} {below : List Frame} {meth : Method} {c : Code} {dC : Nat → ClassId} {dI : Nat → Nat → Nat} {ad : Nat → Nat} {cI cZ : ClassId} {A : Nat → Prop} {adK adV : Nat → Nat} (C : mC p s m args c b_Md_leastOf 5 dC dI cI cZ A adK adV) (hA : ∀ q, s.heap.size ≤ q → A q) (hr : meth.sig.returnType = some .int) (hlk : meth.locks = false) (n : Nat)  (v1 : Int32) (I : Nat → Int32) (R : Nat → Nat → Int32) : ∀ (k : Nat) (v3 : Int32) (v4 : Int32) (r0 : Int32), l_Md_leastOf_ad15_6 n v1 I R k v3 v4 = some r0 → (∀ (ls : Array Slot), lv_has ls 5 [(3, .int r0)] → ∀ (H : Heap) (locs : List Loc), mH A s.heap dC dI ad cI cZ I R H locs → W p l e (rL 5) s m args below meth c H locs 0 0 Q (F0 m 48 ls [])) → ∀ (ls : Array Slot), lv_has ls 5 [(1, .int v1), (2, .ref (ad 15)), (3, .int v3), (4, .int v4)] → ∀ (H : Heap) (locs : List Loc), mH A s.heap dC dI ad cI cZ I R H locs → W p l e (rL 5) s m args below meth c H locs 0 0 Q (F0 m 6 ls []) := by
  obtain ⟨hx, hb, hml, hown, hT, -⟩ := id C
  intro k
  induction k with
  | zero => intro v3 v4 r0 hf; exact absurd hf (by unfold l_Md_leastOf_ad15_6; exact fun h9 => by cases h9)
  | succ k ih =>
    intro v3 v4 r0 hf K ls hl H locs h
    unfold l_Md_leastOf_ad15_6 at hf
    refine lv_iload hx hb d_Md_leastOf_6 (lv_at hl 3 rfl) ?_
    refine lv_sipush (v := 128) hx hb d_Md_leastOf_8 (by decide) ?_
    refine lv_icmp_ge (tgt := 48) hx hb d_Md_leastOf_11 (by decide) (fun hc => ?_) (fun hc => ?_)
    · have hf := op_t hc hf
      obtain rfl := op_i1 hf
      exact K ls (lv_sub hl [2] rfl) H locs h
    · have hf := op_f hc hf
      refine lv_iload hx hb d_Md_leastOf_14 (lv_at hl 3 rfl) ?_
      refine lv_bipush (v := 64) hx hb d_Md_leastOf_16 (by decide) ?_
      refine lv_irem hx hb d_Md_leastOf_18 (by decide) ?_
      refine lv_iload_n hx hb d_Md_leastOf_19 rfl (lv_at hl 0 rfl) ?_
      refine lv_iand hx hb d_Md_leastOf_20 ?_
      refine lv_iload_n hx hb d_Md_leastOf_21 rfl (lv_at hl 0 rfl) ?_
      obtain ⟨x2, he, hf⟩ := op_bind hf
      have K1 : ∀ (ls : Array Slot), lv_has ls 5 [(1, .int v1), (2, .ref (ad 15)), (4, .int v4)] → ∀ (H : Heap) (locs : List Loc), mH A s.heap dC dI ad cI cZ I R H locs → W p l e (rL 5) s m args below meth c H locs 0 0 Q (F0 m 41 ls [.int x2]) := by
        intro ls hl H locs h
        refine lv_istore_n (lv' := [(3, .int x2), (1, .int v1), (2, .ref (ad 15)), (4, .int v4)]) hx hb d_Md_leastOf_41 rfl hl (by decide) rfl (fun ls hl => ?_)
        refine lv_iinc (v := (v4 + 1)) (lv' := [(4, .int (v4 + 1)), (3, .int x2), (1, .int v1), (2, .ref (ad 15))]) hx hb d_Md_leastOf_42 hl (k := 3) rfl rfl (by decide) rfl (fun ls hl => ?_)
        refine lv_goto (tgt := 6) hx hb d_Md_leastOf_45 (by decide) ?_
        exact ih x2 (v4 + 1) _ hf K ls (lv_sub hl [2, 3, 1, 0] rfl) H locs h
      have hf := he
      refine lv_icmp_ne (tgt := 40) hx hb d_Md_leastOf_22 (by decide) (fun hc => ?_) (fun hc => ?_)
      · have hf := op_f hc hf
        refine lv_iload_n hx hb d_Md_leastOf_40 rfl (lv_at hl 2 rfl) ?_
        obtain rfl := op_i1 hf
        exact K1 ls (lv_sub hl [0, 1, 3] rfl) H locs h
      · have hf := op_t hc hf
        refine lv_aload_n hx hb d_Md_leastOf_25 rfl (lv_at hl 1 rfl) ?_
        refine lv_iload hx hb d_Md_leastOf_26 (lv_at hl 3 rfl) ?_
        obtain ⟨h3, hf⟩ := op_if hf
        refine ma_15 C h rfl h3 d_Md_leastOf_28 ?_
        refine lv_iload_n hx hb d_Md_leastOf_29 rfl (lv_at hl 2 rfl) ?_
        refine lv_icmp_ge (tgt := 40) hx hb d_Md_leastOf_30 (by decide) (fun hc => ?_) (fun hc => ?_)
        · have hf := op_t hc hf
          refine lv_iload_n hx hb d_Md_leastOf_40 rfl (lv_at hl 2 rfl) ?_
          obtain rfl := op_i1 hf
          exact K1 ls (lv_sub hl [0, 1, 3] rfl) H locs h
        · have hf := op_f hc hf
          refine lv_aload_n hx hb d_Md_leastOf_33 rfl (lv_at hl 1 rfl) ?_
          refine lv_iload hx hb d_Md_leastOf_34 (lv_at hl 3 rfl) ?_
          obtain ⟨h4, hf⟩ := op_if hf
          refine ma_15 C h rfl h4 d_Md_leastOf_36 ?_
          refine lv_goto (tgt := 41) hx hb d_Md_leastOf_37 (by decide) ?_
          obtain rfl := op_i1 hf
          exact K1 ls (lv_sub hl [0, 1, 3] rfl) H locs h
def p_Md_leastOf_ad15 (n : Nat) (v1 : Int32) (I : Nat → Int32) (R : Nat → Nat → Int32) : Option (Int32) := (l_Md_leastOf_ad15_6 n v1 I R n 1000000 0).bind fun y5 => some y5
set_option maxHeartbeats 4000000 in
theorem c_Md_leastOf_ad15 (l : Launch) (n : Nat) (v1 : Int32) (I : Nat → Int32) (R : Nat → Nat → Int32)  : MMi l y_Md_leastOf b_Md_leastOf 5 .int (rL 5) (fun ad adK => [.int v1, .ref (ad 15)]) I R ((p_Md_leastOf_ad15 n v1 I R).map fun r => (r, I, R)) := by
  refine en_mi (by decide) rfl (fun _ _ => Nat.le_of_ble_eq_true rfl) ?_
  intro z hz p e s m args below meth c dC dI ad cI cZ A adK adV ls C hA h hr hlk hl
  have hl : lv_has ls 5 [(0, .ref (ad 0)), (1, .int v1), (2, .ref (ad 15))] := hl
  obtain ⟨z, hf, rfl⟩ := op_map hz
  unfold p_Md_leastOf_ad15 at hf
  obtain ⟨hx, hb, hml, hown, hT, -⟩ := id C
  refine lv_ldc (v := 1000000) hx hb hown (hT _ ko_Md_176) d_Md_leastOf_0 ?_
  refine lv_istore_n (lv' := [(3, .int 1000000), (0, .ref (ad 0)), (1, .int v1), (2, .ref (ad 15))]) hx hb d_Md_leastOf_2 rfl hl (by decide) rfl (fun ls hl => ?_)
  refine lv_iconst (v := 0) hx hb d_Md_leastOf_3 (by decide) ?_
  refine lv_istore (lv' := [(4, .int 0), (3, .int 1000000), (0, .ref (ad 0)), (1, .int v1), (2, .ref (ad 15))]) hx hb d_Md_leastOf_4 hl (by decide) rfl (fun ls hl => ?_)
  obtain ⟨y5, he, hf⟩ := op_bind hf
  refine wl_Md_leastOf_ad15_6 C hA hr hlk n v1 I R n 1000000 0 _ he (fun ls hl H locs h => ?_) ls (lv_sub hl [3, 4, 1, 0] rfl) s.heap [] h
  refine lv_iload_n hx hb d_Md_leastOf_48 rfl (lv_at hl 0 rfl) ?_
  exact rt_mr C h hr hlk hf rfl d_Md_leastOf_49
theorem hd_Md_orNone : y_Md_orNone.cls ≠ "java/lang/invoke/MethodHandle" ∧ y_Md_orNone.cls ≠ "java/lang/invoke/VarHandle" ∧ (parseMethodDescriptor y_Md_orNone.desc).map (fun d => d.parameters.length) = some 1 := by decide +kernel
theorem d_Md_orNone_0 : decode b_Md_orNone 0 = .ok (.iload_n 0, 1) := by decide +kernel
theorem d_Md_orNone_1 : decode b_Md_orNone 1 = .ok (.ldc 176, 2) := by decide +kernel
theorem d_Md_orNone_3 : decode b_Md_orNone 3 = .ok (.if_icmp .ne 8, 3) := by decide +kernel
theorem d_Md_orNone_6 : decode b_Md_orNone 6 = .ok (.bipush (-5), 2) := by decide +kernel
theorem d_Md_orNone_8 : decode b_Md_orNone 8 = .ok (.goto 4, 3) := by decide +kernel
theorem d_Md_orNone_11 : decode b_Md_orNone 11 = .ok (.iload_n 0, 1) := by decide +kernel
theorem d_Md_orNone_12 : decode b_Md_orNone 12 = .ok (.ireturn, 1) := by decide +kernel
def p_Md_orNone (n : Nat) (v0 : Int32)  : Option (Int32) := (if v0 = 1000000 then some (-5) else some v0 : Option (Int32)).bind fun x2 => some x2
set_option maxHeartbeats 4000000 in
theorem c_Md_orNone (l : Launch) (n : Nat) (v0 : Int32)   : MSi l y_Md_orNone b_Md_orNone 1 .int (rL 5) [.int v0] (p_Md_orNone n v0 ) := by
  refine en_si (by decide) (Nat.le_of_ble_eq_true rfl) ?_
  intro z hf p e s m args below meth c ls hx hb hml hown hT hr hlk hl
  have hl : lv_has ls 1 [(0, .int v0)] := hl
  unfold p_Md_orNone at hf
  refine lv_iload_n hx hb d_Md_orNone_0 rfl (lv_at hl 0 rfl) ?_
  refine lv_ldc (v := 1000000) hx hb hown (hT _ ko_Md_176) d_Md_orNone_1 ?_
  obtain ⟨x2, he, hf⟩ := op_bind hf
  have K1 : ∀ (ls : Array Slot), lv_has ls 1 [] → W p l e (rL 5) s m args below meth c s.heap [] 0 0 (MQ below (fun _ st oc t => oc = .returned (some (.int z)) ∧ t.heap = st.heap) args s 0 0 (fun _ => False)) (F0 m 12 ls [.int x2]) := by
    intro ls hl
    obtain rfl := op_i1 hf
    exact rt_si hx hb hr hlk rfl d_Md_orNone_12
  have hf := he
  refine lv_icmp_ne (tgt := 11) hx hb d_Md_orNone_3 (by decide) (fun hc => ?_) (fun hc => ?_)
  · have hf := op_f hc hf
    refine lv_iload_n hx hb d_Md_orNone_11 rfl (lv_at hl 0 rfl) ?_
    obtain rfl := op_i1 hf
    exact K1 ls (lv_sub hl [] rfl)
  · have hf := op_t hc hf
    refine lv_bipush (v := (-5)) hx hb d_Md_orNone_6 (by decide) ?_
    refine lv_goto (tgt := 12) hx hb d_Md_orNone_8 (by decide) ?_
    obtain rfl := op_i1 hf
    exact K1 ls (lv_sub hl [] rfl)
theorem hd_Md_isAhead : y_Md_isAhead.cls ≠ "java/lang/invoke/MethodHandle" ∧ y_Md_isAhead.cls ≠ "java/lang/invoke/VarHandle" ∧ (parseMethodDescriptor y_Md_isAhead.desc).map (fun d => d.parameters.length) = some 2 := by decide +kernel
theorem d_Md_isAhead_0 : decode b_Md_isAhead 0 = .ok (.aload_n 0, 1) := by decide +kernel
theorem d_Md_isAhead_1 : decode b_Md_isAhead 1 = .ok (.getfield 9, 3) := by decide +kernel
theorem d_Md_isAhead_4 : decode b_Md_isAhead 4 = .ok (.bipush 22, 2) := by decide +kernel
theorem d_Md_isAhead_6 : decode b_Md_isAhead 6 = .ok (.iload_n 1, 1) := by decide +kernel
theorem d_Md_isAhead_7 : decode b_Md_isAhead 7 = .ok (.iadd, 1) := by decide +kernel
theorem d_Md_isAhead_8 : decode b_Md_isAhead 8 = .ok (.iaload, 1) := by decide +kernel
theorem d_Md_isAhead_9 : decode b_Md_isAhead 9 = .ok (.aload_n 0, 1) := by decide +kernel
theorem d_Md_isAhead_10 : decode b_Md_isAhead 10 = .ok (.getfield 9, 3) := by decide +kernel
theorem d_Md_isAhead_13 : decode b_Md_isAhead 13 = .ok (.bipush 22, 2) := by decide +kernel
theorem d_Md_isAhead_15 : decode b_Md_isAhead 15 = .ok (.iload_n 2, 1) := by decide +kernel
theorem d_Md_isAhead_16 : decode b_Md_isAhead 16 = .ok (.iadd, 1) := by decide +kernel
theorem d_Md_isAhead_17 : decode b_Md_isAhead 17 = .ok (.iaload, 1) := by decide +kernel
theorem d_Md_isAhead_18 : decode b_Md_isAhead 18 = .ok (.if_icmp .lt 29, 3) := by decide +kernel
theorem d_Md_isAhead_21 : decode b_Md_isAhead 21 = .ok (.aload_n 0, 1) := by decide +kernel
theorem d_Md_isAhead_22 : decode b_Md_isAhead 22 = .ok (.getfield 9, 3) := by decide +kernel
theorem d_Md_isAhead_25 : decode b_Md_isAhead 25 = .ok (.bipush 22, 2) := by decide +kernel
theorem d_Md_isAhead_27 : decode b_Md_isAhead 27 = .ok (.iload_n 1, 1) := by decide +kernel
theorem d_Md_isAhead_28 : decode b_Md_isAhead 28 = .ok (.iadd, 1) := by decide +kernel
theorem d_Md_isAhead_29 : decode b_Md_isAhead 29 = .ok (.iaload, 1) := by decide +kernel
theorem d_Md_isAhead_30 : decode b_Md_isAhead 30 = .ok (.aload_n 0, 1) := by decide +kernel
theorem d_Md_isAhead_31 : decode b_Md_isAhead 31 = .ok (.getfield 9, 3) := by decide +kernel
theorem d_Md_isAhead_34 : decode b_Md_isAhead 34 = .ok (.bipush 22, 2) := by decide +kernel
theorem d_Md_isAhead_36 : decode b_Md_isAhead 36 = .ok (.iload_n 2, 1) := by decide +kernel
theorem d_Md_isAhead_37 : decode b_Md_isAhead 37 = .ok (.iadd, 1) := by decide +kernel
theorem d_Md_isAhead_38 : decode b_Md_isAhead 38 = .ok (.iaload, 1) := by decide +kernel
theorem d_Md_isAhead_39 : decode b_Md_isAhead 39 = .ok (.if_icmp .ne 12, 3) := by decide +kernel
theorem d_Md_isAhead_42 : decode b_Md_isAhead 42 = .ok (.iload_n 1, 1) := by decide +kernel
theorem d_Md_isAhead_43 : decode b_Md_isAhead 43 = .ok (.iload_n 2, 1) := by decide +kernel
theorem d_Md_isAhead_44 : decode b_Md_isAhead 44 = .ok (.if_icmp .ge 7, 3) := by decide +kernel
theorem d_Md_isAhead_47 : decode b_Md_isAhead 47 = .ok (.iconst 1, 1) := by decide +kernel
theorem d_Md_isAhead_48 : decode b_Md_isAhead 48 = .ok (.goto 4, 3) := by decide +kernel
theorem d_Md_isAhead_51 : decode b_Md_isAhead 51 = .ok (.iconst 0, 1) := by decide +kernel
theorem d_Md_isAhead_52 : decode b_Md_isAhead 52 = .ok (.ireturn, 1) := by decide +kernel
def p_Md_isAhead (n : Nat) (v1 : Int32) (v2 : Int32) (I : Nat → Int32) (R : Nat → Nat → Int32) : Option (Int32) := if ix (22 + v1) 890 then if ix (22 + v2) 890 then (if (R 1 (22 + v1).toNatClampNeg) < (R 1 (22 + v2).toNatClampNeg) then some 1 else if ix (22 + v1) 890 then if ix (22 + v2) 890 then (if (R 1 (22 + v1).toNatClampNeg) = (R 1 (22 + v2).toNatClampNeg) then (if v2 ≤ v1 then some 0 else some 1) else some 0) else none else none : Option (Int32)).bind fun x4 => if isZ x4 then some x4 else none else none else none
set_option maxHeartbeats 4000000 in
theorem c_Md_isAhead (l : Launch) (n : Nat) (v1 : Int32) (v2 : Int32) (I : Nat → Int32) (R : Nat → Nat → Int32)  : MMi l y_Md_isAhead b_Md_isAhead 3 .boolean (rL 5) (fun ad adK => [.int v1, .int v2]) I R ((p_Md_isAhead n v1 v2 I R).map fun r => (r, I, R)) := by
  refine en_mi (by decide) rfl (fun _ _ => Nat.le_of_ble_eq_true rfl) ?_
  intro z hz p e s m args below meth c dC dI ad cI cZ A adK adV ls C hA h hr hlk hl
  have hl : lv_has ls 3 [(0, .ref (ad 0)), (1, .int v1), (2, .int v2)] := hl
  obtain ⟨z, hf, rfl⟩ := op_map hz
  unfold p_Md_isAhead at hf
  obtain ⟨hx, hb, hml, hown, hT, -⟩ := id C
  refine lv_aload_n hx hb d_Md_isAhead_0 rfl (lv_at hl 0 rfl) ?_
  refine mg_1 C h d_Md_isAhead_1 ?_
  refine lv_bipush (v := 22) hx hb d_Md_isAhead_4 (by decide) ?_
  refine lv_iload_n hx hb d_Md_isAhead_6 rfl (lv_at hl 1 rfl) ?_
  refine lv_iadd hx hb d_Md_isAhead_7 ?_
  obtain ⟨h1, hf⟩ := op_if hf
  refine ma_1 C h rfl h1 d_Md_isAhead_8 ?_
  refine lv_aload_n hx hb d_Md_isAhead_9 rfl (lv_at hl 0 rfl) ?_
  refine mg_1 C h d_Md_isAhead_10 ?_
  refine lv_bipush (v := 22) hx hb d_Md_isAhead_13 (by decide) ?_
  refine lv_iload_n hx hb d_Md_isAhead_15 rfl (lv_at hl 2 rfl) ?_
  refine lv_iadd hx hb d_Md_isAhead_16 ?_
  obtain ⟨h2, hf⟩ := op_if hf
  refine ma_1 C h rfl h2 d_Md_isAhead_17 ?_
  obtain ⟨x4, he, hf⟩ := op_bind hf
  have K3 : ∀ (ls : Array Slot), lv_has ls 3 [] → ∀ (H : Heap) (locs : List Loc), mH A s.heap dC dI ad cI cZ I R H locs → W p l e (rL 5) s m args below meth c H locs 0 0 (mQi dC dI ad cI cZ A below args s (z, I, R)) (F0 m 52 ls [.int x4]) := by
    intro ls hl H locs h
    obtain ⟨h7, hf⟩ := op_if hf
    exact rt_mr C h hr hlk hf (isZ_nar h7) d_Md_isAhead_52
  have hf := he
  refine lv_icmp_lt (tgt := 47) hx hb d_Md_isAhead_18 (by decide) (fun hc => ?_) (fun hc => ?_)
  · have hf := op_t hc hf
    refine lv_iconst (v := 1) hx hb d_Md_isAhead_47 (by decide) ?_
    refine lv_goto (tgt := 52) hx hb d_Md_isAhead_48 (by decide) ?_
    obtain rfl := op_i1 hf
    exact K3 ls (lv_sub hl [] rfl) s.heap [] h
  · have hf := op_f hc hf
    refine lv_aload_n hx hb d_Md_isAhead_21 rfl (lv_at hl 0 rfl) ?_
    refine mg_1 C h d_Md_isAhead_22 ?_
    refine lv_bipush (v := 22) hx hb d_Md_isAhead_25 (by decide) ?_
    refine lv_iload_n hx hb d_Md_isAhead_27 rfl (lv_at hl 1 rfl) ?_
    refine lv_iadd hx hb d_Md_isAhead_28 ?_
    obtain ⟨h5, hf⟩ := op_if hf
    refine ma_1 C h rfl h5 d_Md_isAhead_29 ?_
    refine lv_aload_n hx hb d_Md_isAhead_30 rfl (lv_at hl 0 rfl) ?_
    refine mg_1 C h d_Md_isAhead_31 ?_
    refine lv_bipush (v := 22) hx hb d_Md_isAhead_34 (by decide) ?_
    refine lv_iload_n hx hb d_Md_isAhead_36 rfl (lv_at hl 2 rfl) ?_
    refine lv_iadd hx hb d_Md_isAhead_37 ?_
    obtain ⟨h6, hf⟩ := op_if hf
    refine ma_1 C h rfl h6 d_Md_isAhead_38 ?_
    refine lv_icmp_ne (tgt := 51) hx hb d_Md_isAhead_39 (by decide) (fun hc => ?_) (fun hc => ?_)
    · have hf := op_f hc hf
      refine lv_iconst (v := 0) hx hb d_Md_isAhead_51 (by decide) ?_
      obtain rfl := op_i1 hf
      exact K3 ls (lv_sub hl [] rfl) s.heap [] h
    · have hf := op_t hc hf
      refine lv_iload_n hx hb d_Md_isAhead_42 rfl (lv_at hl 1 rfl) ?_
      refine lv_iload_n hx hb d_Md_isAhead_43 rfl (lv_at hl 2 rfl) ?_
      refine lv_icmp_ge (tgt := 51) hx hb d_Md_isAhead_44 (by decide) (fun hc => ?_) (fun hc => ?_)
      · have hf := op_t hc hf
        refine lv_iconst (v := 0) hx hb d_Md_isAhead_51 (by decide) ?_
        obtain rfl := op_i1 hf
        exact K3 ls (lv_sub hl [] rfl) s.heap [] h
      · have hf := op_f hc hf
        refine lv_iconst (v := 1) hx hb d_Md_isAhead_47 (by decide) ?_
        refine lv_goto (tgt := 52) hx hb d_Md_isAhead_48 (by decide) ?_
        obtain rfl := op_i1 hf
        exact K3 ls (lv_sub hl [] rfl) s.heap [] h
theorem hd_Md_leastTwo : y_Md_leastTwo.cls ≠ "java/lang/invoke/MethodHandle" ∧ y_Md_leastTwo.cls ≠ "java/lang/invoke/VarHandle" ∧ (parseMethodDescriptor y_Md_leastTwo.desc).map (fun d => d.parameters.length) = some 1 := by decide +kernel
theorem d_Md_leastTwo_0 : decode b_Md_leastTwo 0 = .ok (.iload_n 1, 1) := by decide +kernel
theorem d_Md_leastTwo_1 : decode b_Md_leastTwo 1 = .ok (.iload_n 1, 1) := by decide +kernel
theorem d_Md_leastTwo_2 : decode b_Md_leastTwo 2 = .ok (.ineg, 1) := by decide +kernel
theorem d_Md_leastTwo_3 : decode b_Md_leastTwo 3 = .ok (.iand, 1) := by decide +kernel
theorem d_Md_leastTwo_4 : decode b_Md_leastTwo 4 = .ok (.istore_n 2, 1) := by decide +kernel
theorem d_Md_leastTwo_5 : decode b_Md_leastTwo 5 = .ok (.iload_n 1, 1) := by decide +kernel
theorem d_Md_leastTwo_6 : decode b_Md_leastTwo 6 = .ok (.iload_n 2, 1) := by decide +kernel
theorem d_Md_leastTwo_7 : decode b_Md_leastTwo 7 = .ok (.iconst (-1), 1) := by decide +kernel
theorem d_Md_leastTwo_8 : decode b_Md_leastTwo 8 = .ok (.ixor, 1) := by decide +kernel
theorem d_Md_leastTwo_9 : decode b_Md_leastTwo 9 = .ok (.iand, 1) := by decide +kernel
theorem d_Md_leastTwo_10 : decode b_Md_leastTwo 10 = .ok (.istore_n 3, 1) := by decide +kernel
theorem d_Md_leastTwo_11 : decode b_Md_leastTwo 11 = .ok (.iload_n 2, 1) := by decide +kernel
theorem d_Md_leastTwo_12 : decode b_Md_leastTwo 12 = .ok (.iload_n 3, 1) := by decide +kernel
theorem d_Md_leastTwo_13 : decode b_Md_leastTwo 13 = .ok (.iload_n 3, 1) := by decide +kernel
theorem d_Md_leastTwo_14 : decode b_Md_leastTwo 14 = .ok (.ineg, 1) := by decide +kernel
theorem d_Md_leastTwo_15 : decode b_Md_leastTwo 15 = .ok (.iand, 1) := by decide +kernel
theorem d_Md_leastTwo_16 : decode b_Md_leastTwo 16 = .ok (.ior, 1) := by decide +kernel
theorem d_Md_leastTwo_17 : decode b_Md_leastTwo 17 = .ok (.ireturn, 1) := by decide +kernel
def p_Md_leastTwo (n : Nat) (v1 : Int32) (I : Nat → Int32) (R : Nat → Nat → Int32) : Option (Int32) := some (((v1 &&& (-v1)) ||| ((v1 &&& ((v1 &&& (-v1)) ^^^ (-1))) &&& (-(v1 &&& ((v1 &&& (-v1)) ^^^ (-1)))))))
set_option maxHeartbeats 4000000 in
theorem c_Md_leastTwo (l : Launch) (n : Nat) (v1 : Int32) (I : Nat → Int32) (R : Nat → Nat → Int32)  : MMi l y_Md_leastTwo b_Md_leastTwo 4 .int (rL 5) (fun ad adK => [.int v1]) I R ((p_Md_leastTwo n v1 I R).map fun r => (r, I, R)) := by
  refine en_mi (by decide) rfl (fun _ _ => Nat.le_of_ble_eq_true rfl) ?_
  intro z hz p e s m args below meth c dC dI ad cI cZ A adK adV ls C hA h hr hlk hl
  have hl : lv_has ls 4 [(0, .ref (ad 0)), (1, .int v1)] := hl
  obtain ⟨z, hf, rfl⟩ := op_map hz
  unfold p_Md_leastTwo at hf
  obtain ⟨hx, hb, hml, hown, hT, -⟩ := id C
  refine lv_iload_n hx hb d_Md_leastTwo_0 rfl (lv_at hl 1 rfl) ?_
  refine lv_iload_n hx hb d_Md_leastTwo_1 rfl (lv_at hl 1 rfl) ?_
  refine lv_ineg hx hb d_Md_leastTwo_2 ?_
  refine lv_iand hx hb d_Md_leastTwo_3 ?_
  refine lv_istore_n (lv' := [(2, .int (v1 &&& (-v1))), (0, .ref (ad 0)), (1, .int v1)]) hx hb d_Md_leastTwo_4 rfl hl (by decide) rfl (fun ls hl => ?_)
  refine lv_iload_n hx hb d_Md_leastTwo_5 rfl (lv_at hl 2 rfl) ?_
  refine lv_iload_n hx hb d_Md_leastTwo_6 rfl (lv_at hl 0 rfl) ?_
  refine lv_iconst (v := (-1)) hx hb d_Md_leastTwo_7 (by decide) ?_
  refine lv_ixor hx hb d_Md_leastTwo_8 ?_
  refine lv_iand hx hb d_Md_leastTwo_9 ?_
  refine lv_istore_n (lv' := [(3, .int (v1 &&& ((v1 &&& (-v1)) ^^^ (-1)))), (2, .int (v1 &&& (-v1))), (0, .ref (ad 0)), (1, .int v1)]) hx hb d_Md_leastTwo_10 rfl hl (by decide) rfl (fun ls hl => ?_)
  refine lv_iload_n hx hb d_Md_leastTwo_11 rfl (lv_at hl 1 rfl) ?_
  refine lv_iload_n hx hb d_Md_leastTwo_12 rfl (lv_at hl 0 rfl) ?_
  refine lv_iload_n hx hb d_Md_leastTwo_13 rfl (lv_at hl 0 rfl) ?_
  refine lv_ineg hx hb d_Md_leastTwo_14 ?_
  refine lv_iand hx hb d_Md_leastTwo_15 ?_
  refine lv_ior hx hb d_Md_leastTwo_16 ?_
  exact rt_mr C h hr hlk hf rfl d_Md_leastTwo_17
theorem hd_Md_mostOf : y_Md_mostOf.cls ≠ "java/lang/invoke/MethodHandle" ∧ y_Md_mostOf.cls ≠ "java/lang/invoke/VarHandle" ∧ (parseMethodDescriptor y_Md_mostOf.desc).map (fun d => d.parameters.length) = some 1 := by decide +kernel
theorem d_Md_mostOf_0 : decode b_Md_mostOf 0 = .ok (.bipush 99, 2) := by decide +kernel
theorem d_Md_mostOf_2 : decode b_Md_mostOf 2 = .ok (.istore_n 2, 1) := by decide +kernel
theorem d_Md_mostOf_3 : decode b_Md_mostOf 3 = .ok (.iconst 0, 1) := by decide +kernel
theorem d_Md_mostOf_4 : decode b_Md_mostOf 4 = .ok (.istore_n 3, 1) := by decide +kernel
theorem d_Md_mostOf_5 : decode b_Md_mostOf 5 = .ok (.iload_n 3, 1) := by decide +kernel
theorem d_Md_mostOf_6 : decode b_Md_mostOf 6 = .ok (.aload_n 0, 1) := by decide +kernel
theorem d_Md_mostOf_7 : decode b_Md_mostOf 7 = .ok (.getfield 9, 3) := by decide +kernel
theorem d_Md_mostOf_10 : decode b_Md_mostOf 10 = .ok (.iconst 2, 1) := by decide +kernel
theorem d_Md_mostOf_11 : decode b_Md_mostOf 11 = .ok (.iaload, 1) := by decide +kernel
theorem d_Md_mostOf_12 : decode b_Md_mostOf 12 = .ok (.if_icmp .ge 53, 3) := by decide +kernel
theorem d_Md_mostOf_15 : decode b_Md_mostOf 15 = .ok (.aload_n 0, 1) := by decide +kernel
theorem d_Md_mostOf_16 : decode b_Md_mostOf 16 = .ok (.getfield 9, 3) := by decide +kernel
theorem d_Md_mostOf_19 : decode b_Md_mostOf 19 = .ok (.bipush 34, 2) := by decide +kernel
theorem d_Md_mostOf_21 : decode b_Md_mostOf 21 = .ok (.iload_n 3, 1) := by decide +kernel
theorem d_Md_mostOf_22 : decode b_Md_mostOf 22 = .ok (.iadd, 1) := by decide +kernel
theorem d_Md_mostOf_23 : decode b_Md_mostOf 23 = .ok (.iaload, 1) := by decide +kernel
theorem d_Md_mostOf_24 : decode b_Md_mostOf 24 = .ok (.iload_n 1, 1) := by decide +kernel
theorem d_Md_mostOf_25 : decode b_Md_mostOf 25 = .ok (.ishr, 1) := by decide +kernel
theorem d_Md_mostOf_26 : decode b_Md_mostOf 26 = .ok (.iconst 1, 1) := by decide +kernel
theorem d_Md_mostOf_27 : decode b_Md_mostOf 27 = .ok (.iand, 1) := by decide +kernel
theorem d_Md_mostOf_28 : decode b_Md_mostOf 28 = .ok (.iconst 1, 1) := by decide +kernel
theorem d_Md_mostOf_29 : decode b_Md_mostOf 29 = .ok (.if_icmp .ne 28, 3) := by decide +kernel
theorem d_Md_mostOf_32 : decode b_Md_mostOf 32 = .ok (.aload_n 0, 1) := by decide +kernel
theorem d_Md_mostOf_33 : decode b_Md_mostOf 33 = .ok (.getfield 9, 3) := by decide +kernel
theorem d_Md_mostOf_36 : decode b_Md_mostOf 36 = .ok (.bipush 46, 2) := by decide +kernel
theorem d_Md_mostOf_38 : decode b_Md_mostOf 38 = .ok (.iload_n 3, 1) := by decide +kernel
theorem d_Md_mostOf_39 : decode b_Md_mostOf 39 = .ok (.iadd, 1) := by decide +kernel
theorem d_Md_mostOf_40 : decode b_Md_mostOf 40 = .ok (.iaload, 1) := by decide +kernel
theorem d_Md_mostOf_41 : decode b_Md_mostOf 41 = .ok (.iload_n 2, 1) := by decide +kernel
theorem d_Md_mostOf_42 : decode b_Md_mostOf 42 = .ok (.if_icmp .ge 15, 3) := by decide +kernel
theorem d_Md_mostOf_45 : decode b_Md_mostOf 45 = .ok (.aload_n 0, 1) := by decide +kernel
theorem d_Md_mostOf_46 : decode b_Md_mostOf 46 = .ok (.getfield 9, 3) := by decide +kernel
theorem d_Md_mostOf_49 : decode b_Md_mostOf 49 = .ok (.bipush 46, 2) := by decide +kernel
theorem d_Md_mostOf_51 : decode b_Md_mostOf 51 = .ok (.iload_n 3, 1) := by decide +kernel
theorem d_Md_mostOf_52 : decode b_Md_mostOf 52 = .ok (.iadd, 1) := by decide +kernel
theorem d_Md_mostOf_53 : decode b_Md_mostOf 53 = .ok (.iaload, 1) := by decide +kernel
theorem d_Md_mostOf_54 : decode b_Md_mostOf 54 = .ok (.goto 4, 3) := by decide +kernel
theorem d_Md_mostOf_57 : decode b_Md_mostOf 57 = .ok (.iload_n 2, 1) := by decide +kernel
theorem d_Md_mostOf_58 : decode b_Md_mostOf 58 = .ok (.istore_n 2, 1) := by decide +kernel
theorem d_Md_mostOf_59 : decode b_Md_mostOf 59 = .ok (.iinc 3 1, 3) := by decide +kernel
theorem d_Md_mostOf_62 : decode b_Md_mostOf 62 = .ok (.goto (-57), 3) := by decide +kernel
theorem d_Md_mostOf_65 : decode b_Md_mostOf 65 = .ok (.iload_n 2, 1) := by decide +kernel
theorem d_Md_mostOf_66 : decode b_Md_mostOf 66 = .ok (.ireturn, 1) := by decide +kernel
def l_Md_mostOf_5 (n : Nat)  (v1 : Int32) (I : Nat → Int32) (R : Nat → Nat → Int32) : Nat → Int32 → Int32 → Option (Int32)
  | 0, _, _ => none
  | k + 1, v2, v3 => (if (R 1 2) ≤ v3 then some v2 else if ix (34 + v3) 890 then (if (((R 1 (34 + v3).toNatClampNeg) >>> (v1 &&& 31)) &&& 1) = 1 then if ix (46 + v3) 890 then (if v2 ≤ (R 1 (46 + v3).toNatClampNeg) then some v2 else if ix (46 + v3) 890 then some (R 1 (46 + v3).toNatClampNeg) else none) else none else some v2 : Option (Int32)).bind fun x3 => l_Md_mostOf_5 n v1 I R k x3 (v3 + 1) else none)
set_option maxHeartbeats 4000000 in
theorem wl_Md_mostOf_5 {Q : State → Prop}  {p : Program} {l : Launch} {e : Env} {s : State} {m : MethodId} {args : Array Value} {below : List Frame} {meth : Method} {c : Code} {dC : Nat → ClassId} {dI : Nat → Nat → Nat} {ad : Nat → Nat} {cI cZ : ClassId} {A : Nat → Prop} {adK adV : Nat → Nat} (C : mC p s m args c b_Md_mostOf 4 dC dI cI cZ A adK adV) (hA : ∀ q, s.heap.size ≤ q → A q) (hr : meth.sig.returnType = some .int) (hlk : meth.locks = false) (n : Nat)  (v1 : Int32) (I : Nat → Int32) (R : Nat → Nat → Int32) : ∀ (k : Nat) (v2 : Int32) (v3 : Int32) (r0 : Int32), l_Md_mostOf_5 n v1 I R k v2 v3 = some r0 → (∀ (ls : Array Slot), lv_has ls 4 [(2, .int r0)] → ∀ (H : Heap) (locs : List Loc), mH A s.heap dC dI ad cI cZ I R H locs → W p l e (rL 5) s m args below meth c H locs 0 0 Q (F0 m 65 ls [])) → ∀ (ls : Array Slot), lv_has ls 4 [(0, .ref (ad 0)), (1, .int v1), (2, .int v2), (3, .int v3)] → ∀ (H : Heap) (locs : List Loc), mH A s.heap dC dI ad cI cZ I R H locs → W p l e (rL 5) s m args below meth c H locs 0 0 Q (F0 m 5 ls []) := by
  obtain ⟨hx, hb, hml, hown, hT, -⟩ := id C
  intro k
  induction k with
  | zero => intro v2 v3 r0 hf; exact absurd hf (by unfold l_Md_mostOf_5; exact fun h9 => by cases h9)
  | succ k ih =>
    intro v2 v3 r0 hf K ls hl H locs h
    unfold l_Md_mostOf_5 at hf
    refine lv_iload_n hx hb d_Md_mostOf_5 rfl (lv_at hl 3 rfl) ?_
    refine lv_aload_n hx hb d_Md_mostOf_6 rfl (lv_at hl 0 rfl) ?_
    refine mg_1 C h d_Md_mostOf_7 ?_
    refine lv_iconst (v := 2) hx hb d_Md_mostOf_10 (by decide) ?_
    refine ma_1 C h (j := 2) (by decide) (show ix 2 890 by decide) d_Md_mostOf_11 ?_
    refine lv_icmp_ge (tgt := 65) hx hb d_Md_mostOf_12 (by decide) (fun hc => ?_) (fun hc => ?_)
    · have hf := op_t hc hf
      obtain rfl := op_i1 hf
      exact K ls (lv_sub hl [2] rfl) H locs h
    · have hf := op_f hc hf
      refine lv_aload_n hx hb d_Md_mostOf_15 rfl (lv_at hl 0 rfl) ?_
      refine mg_1 C h d_Md_mostOf_16 ?_
      refine lv_bipush (v := 34) hx hb d_Md_mostOf_19 (by decide) ?_
      refine lv_iload_n hx hb d_Md_mostOf_21 rfl (lv_at hl 3 rfl) ?_
      refine lv_iadd hx hb d_Md_mostOf_22 ?_
      obtain ⟨h1, hf⟩ := op_if hf
      refine ma_1 C h rfl h1 d_Md_mostOf_23 ?_
      refine lv_iload_n hx hb d_Md_mostOf_24 rfl (lv_at hl 1 rfl) ?_
      refine lv_ishr hx hb d_Md_mostOf_25 ?_
      refine lv_iconst (v := 1) hx hb d_Md_mostOf_26 (by decide) ?_
      refine lv_iand hx hb d_Md_mostOf_27 ?_
      refine lv_iconst (v := 1) hx hb d_Md_mostOf_28 (by decide) ?_
      obtain ⟨x3, he, hf⟩ := op_bind hf
      have K2 : ∀ (ls : Array Slot), lv_has ls 4 [(0, .ref (ad 0)), (1, .int v1), (3, .int v3)] → ∀ (H : Heap) (locs : List Loc), mH A s.heap dC dI ad cI cZ I R H locs → W p l e (rL 5) s m args below meth c H locs 0 0 Q (F0 m 58 ls [.int x3]) := by
        intro ls hl H locs h
        refine lv_istore_n (lv' := [(2, .int x3), (0, .ref (ad 0)), (1, .int v1), (3, .int v3)]) hx hb d_Md_mostOf_58 rfl hl (by decide) rfl (fun ls hl => ?_)
        refine lv_iinc (v := (v3 + 1)) (lv' := [(3, .int (v3 + 1)), (2, .int x3), (0, .ref (ad 0)), (1, .int v1)]) hx hb d_Md_mostOf_59 hl (k := 3) rfl rfl (by decide) rfl (fun ls hl => ?_)
        refine lv_goto (tgt := 5) hx hb d_Md_mostOf_62 (by decide) ?_
        exact ih x3 (v3 + 1) _ hf K ls (lv_sub hl [2, 3, 1, 0] rfl) H locs h
      have hf := he
      refine lv_icmp_ne (tgt := 57) hx hb d_Md_mostOf_29 (by decide) (fun hc => ?_) (fun hc => ?_)
      · have hf := op_f hc hf
        refine lv_iload_n hx hb d_Md_mostOf_57 rfl (lv_at hl 2 rfl) ?_
        obtain rfl := op_i1 hf
        exact K2 ls (lv_sub hl [0, 1, 3] rfl) H locs h
      · have hf := op_t hc hf
        refine lv_aload_n hx hb d_Md_mostOf_32 rfl (lv_at hl 0 rfl) ?_
        refine mg_1 C h d_Md_mostOf_33 ?_
        refine lv_bipush (v := 46) hx hb d_Md_mostOf_36 (by decide) ?_
        refine lv_iload_n hx hb d_Md_mostOf_38 rfl (lv_at hl 3 rfl) ?_
        refine lv_iadd hx hb d_Md_mostOf_39 ?_
        obtain ⟨h4, hf⟩ := op_if hf
        refine ma_1 C h rfl h4 d_Md_mostOf_40 ?_
        refine lv_iload_n hx hb d_Md_mostOf_41 rfl (lv_at hl 2 rfl) ?_
        refine lv_icmp_ge (tgt := 57) hx hb d_Md_mostOf_42 (by decide) (fun hc => ?_) (fun hc => ?_)
        · have hf := op_t hc hf
          refine lv_iload_n hx hb d_Md_mostOf_57 rfl (lv_at hl 2 rfl) ?_
          obtain rfl := op_i1 hf
          exact K2 ls (lv_sub hl [0, 1, 3] rfl) H locs h
        · have hf := op_f hc hf
          refine lv_aload_n hx hb d_Md_mostOf_45 rfl (lv_at hl 0 rfl) ?_
          refine mg_1 C h d_Md_mostOf_46 ?_
          refine lv_bipush (v := 46) hx hb d_Md_mostOf_49 (by decide) ?_
          refine lv_iload_n hx hb d_Md_mostOf_51 rfl (lv_at hl 3 rfl) ?_
          refine lv_iadd hx hb d_Md_mostOf_52 ?_
          obtain ⟨h5, hf⟩ := op_if hf
          refine ma_1 C h rfl h5 d_Md_mostOf_53 ?_
          refine lv_goto (tgt := 58) hx hb d_Md_mostOf_54 (by decide) ?_
          obtain rfl := op_i1 hf
          exact K2 ls (lv_sub hl [0, 1, 3] rfl) H locs h
def p_Md_mostOf (n : Nat) (v1 : Int32) (I : Nat → Int32) (R : Nat → Nat → Int32) : Option (Int32) := (l_Md_mostOf_5 n v1 I R n 99 0).bind fun y6 => some y6
set_option maxHeartbeats 4000000 in
theorem c_Md_mostOf (l : Launch) (n : Nat) (v1 : Int32) (I : Nat → Int32) (R : Nat → Nat → Int32)  : MMi l y_Md_mostOf b_Md_mostOf 4 .int (rL 5) (fun ad adK => [.int v1]) I R ((p_Md_mostOf n v1 I R).map fun r => (r, I, R)) := by
  refine en_mi (by decide) rfl (fun _ _ => Nat.le_of_ble_eq_true rfl) ?_
  intro z hz p e s m args below meth c dC dI ad cI cZ A adK adV ls C hA h hr hlk hl
  have hl : lv_has ls 4 [(0, .ref (ad 0)), (1, .int v1)] := hl
  obtain ⟨z, hf, rfl⟩ := op_map hz
  unfold p_Md_mostOf at hf
  obtain ⟨hx, hb, hml, hown, hT, -⟩ := id C
  refine lv_bipush (v := 99) hx hb d_Md_mostOf_0 (by decide) ?_
  refine lv_istore_n (lv' := [(2, .int 99), (0, .ref (ad 0)), (1, .int v1)]) hx hb d_Md_mostOf_2 rfl hl (by decide) rfl (fun ls hl => ?_)
  refine lv_iconst (v := 0) hx hb d_Md_mostOf_3 (by decide) ?_
  refine lv_istore_n (lv' := [(3, .int 0), (2, .int 99), (0, .ref (ad 0)), (1, .int v1)]) hx hb d_Md_mostOf_4 rfl hl (by decide) rfl (fun ls hl => ?_)
  obtain ⟨y6, he, hf⟩ := op_bind hf
  refine wl_Md_mostOf_5 C hA hr hlk n v1 I R n 99 0 _ he (fun ls hl H locs h => ?_) ls (lv_sub hl [2, 3, 1, 0] rfl) s.heap [] h
  refine lv_iload_n hx hb d_Md_mostOf_65 rfl (lv_at hl 0 rfl) ?_
  exact rt_mr C h hr hlk hf rfl d_Md_mostOf_66
theorem hd_Md_lowest : y_Md_lowest.cls ≠ "java/lang/invoke/MethodHandle" ∧ y_Md_lowest.cls ≠ "java/lang/invoke/VarHandle" ∧ (parseMethodDescriptor y_Md_lowest.desc).map (fun d => d.parameters.length) = some 3 := by decide +kernel
theorem d_Md_lowest_0 : decode b_Md_lowest 0 = .ok (.lload_n 0, 1) := by decide +kernel
theorem d_Md_lowest_1 : decode b_Md_lowest 1 = .ok (.lstore 5, 2) := by decide +kernel
theorem d_Md_lowest_3 : decode b_Md_lowest 3 = .ok (.lload_n 2, 1) := by decide +kernel
theorem d_Md_lowest_4 : decode b_Md_lowest 4 = .ok (.lstore 7, 2) := by decide +kernel
theorem d_Md_lowest_6 : decode b_Md_lowest 6 = .ok (.lload 7, 2) := by decide +kernel
theorem d_Md_lowest_8 : decode b_Md_lowest 8 = .ok (.lconst 0, 1) := by decide +kernel
theorem d_Md_lowest_9 : decode b_Md_lowest 9 = .ok (.lcmp, 1) := by decide +kernel
theorem d_Md_lowest_10 : decode b_Md_lowest 10 = .ok (.ifCond .eq 21, 3) := by decide +kernel
theorem d_Md_lowest_13 : decode b_Md_lowest 13 = .ok (.lload 5, 2) := by decide +kernel
theorem d_Md_lowest_15 : decode b_Md_lowest 15 = .ok (.lload 7, 2) := by decide +kernel
theorem d_Md_lowest_17 : decode b_Md_lowest 17 = .ok (.lrem, 1) := by decide +kernel
theorem d_Md_lowest_18 : decode b_Md_lowest 18 = .ok (.lstore 9, 2) := by decide +kernel
theorem d_Md_lowest_20 : decode b_Md_lowest 20 = .ok (.lload 7, 2) := by decide +kernel
theorem d_Md_lowest_22 : decode b_Md_lowest 22 = .ok (.lstore 5, 2) := by decide +kernel
theorem d_Md_lowest_24 : decode b_Md_lowest 24 = .ok (.lload 9, 2) := by decide +kernel
theorem d_Md_lowest_26 : decode b_Md_lowest 26 = .ok (.lstore 7, 2) := by decide +kernel
theorem d_Md_lowest_28 : decode b_Md_lowest 28 = .ok (.goto (-22), 3) := by decide +kernel
theorem d_Md_lowest_31 : decode b_Md_lowest 31 = .ok (.iload 4, 2) := by decide +kernel
theorem d_Md_lowest_33 : decode b_Md_lowest 33 = .ok (.ifCond .ne 7, 3) := by decide +kernel
theorem d_Md_lowest_36 : decode b_Md_lowest 36 = .ok (.lload_n 0, 1) := by decide +kernel
theorem d_Md_lowest_37 : decode b_Md_lowest 37 = .ok (.goto 4, 3) := by decide +kernel
theorem d_Md_lowest_40 : decode b_Md_lowest 40 = .ok (.lload_n 2, 1) := by decide +kernel
theorem d_Md_lowest_41 : decode b_Md_lowest 41 = .ok (.lload 5, 2) := by decide +kernel
theorem d_Md_lowest_43 : decode b_Md_lowest 43 = .ok (.ldiv, 1) := by decide +kernel
theorem d_Md_lowest_44 : decode b_Md_lowest 44 = .ok (.lreturn, 1) := by decide +kernel
def l_Md_lowest_6 (n : Nat)  (v0 : Int64) (v2 : Int64) (v4 : Int32)  : Nat → Int64 → Int64 → Option (Int64)
  | 0, _, _ => none
  | k + 1, v5, v7 => (if (lg_cmp v7 0) = 0 then some v5 else if ¬ v7 = 0 then l_Md_lowest_6 n v0 v2 v4 k v7 (v5 - v5 / v7 * v7) else none)
set_option maxHeartbeats 4000000 in
theorem wl_Md_lowest_6 {Q : State → Prop}  {p : Program} {l : Launch} {e : Env} {s : State} {m : MethodId} {args : Array Value} {below : List Frame} {meth : Method} {c : Code} (hx : p.tables.exec = Jvm.exec) (hb : c.code = b_Md_lowest) (hml : c.maxLocals = 11) (hown : s.vm.findClass "LanternBridgeModel" = some m.cls) (hT : ∀ w ∈ WT, w.before args s = true) (hr : meth.sig.returnType = some .long) (hlk : meth.locks = false) (n : Nat)  (v0 : Int64) (v2 : Int64) (v4 : Int32)  : ∀ (k : Nat) (v5 : Int64) (v7 : Int64) (r0 : Int64), l_Md_lowest_6 n v0 v2 v4 k v5 v7 = some r0 → (∀ (ls : Array Slot), lv_has ls 11 [(0, .long v0), (2, .long v2), (4, .int v4), (5, .long r0)] → W p l e (rL 5) s m args below meth c s.heap [] 0 0 Q (F0 m 31 ls [])) → ∀ (ls : Array Slot), lv_has ls 11 [(0, .long v0), (2, .long v2), (4, .int v4), (5, .long v5), (7, .long v7)] → W p l e (rL 5) s m args below meth c s.heap [] 0 0 Q (F0 m 6 ls []) := by
  intro k
  induction k with
  | zero => intro v5 v7 r0 hf; exact absurd hf (by unfold l_Md_lowest_6; exact fun h9 => by cases h9)
  | succ k ih =>
    intro v5 v7 r0 hf K ls hl
    unfold l_Md_lowest_6 at hf
    refine lv_lload hx hb d_Md_lowest_6 (lv_at hl 4 rfl) ?_
    refine lv_lconst (v := 0) hx hb d_Md_lowest_8 (by decide) ?_
    refine W.lcmp hx hb d_Md_lowest_9 ?_
    refine lv_if_eq (tgt := 31) hx hb d_Md_lowest_10 (by decide) (fun hc => ?_) (fun hc => ?_)
    · have hf := op_t hc hf
      obtain rfl := op_i1 hf
      exact K ls (lv_sub hl [0, 1, 2, 3] rfl)
    · have hf := op_f hc hf
      refine lv_lload hx hb d_Md_lowest_13 (lv_at hl 3 rfl) ?_
      refine lv_lload hx hb d_Md_lowest_15 (lv_at hl 4 rfl) ?_
      obtain ⟨h1, hf⟩ := op_if hf
      refine lv_lrem hx hb d_Md_lowest_17 h1 ?_
      refine lv_lstore (lv' := [(9, .long (v5 - v5 / v7 * v7)), (0, .long v0), (2, .long v2), (4, .int v4), (5, .long v5), (7, .long v7)]) hx hb d_Md_lowest_18 hl (by decide) rfl (fun ls hl => ?_)
      refine lv_lload hx hb d_Md_lowest_20 (lv_at hl 5 rfl) ?_
      refine lv_lstore (lv' := [(5, .long v7), (9, .long (v5 - v5 / v7 * v7)), (0, .long v0), (2, .long v2), (4, .int v4), (7, .long v7)]) hx hb d_Md_lowest_22 hl (by decide) rfl (fun ls hl => ?_)
      refine lv_lload hx hb d_Md_lowest_24 (lv_at hl 1 rfl) ?_
      refine lv_lstore (lv' := [(7, .long (v5 - v5 / v7 * v7)), (5, .long v7), (9, .long (v5 - v5 / v7 * v7)), (0, .long v0), (2, .long v2), (4, .int v4)]) hx hb d_Md_lowest_26 hl (by decide) rfl (fun ls hl => ?_)
      refine lv_goto (tgt := 6) hx hb d_Md_lowest_28 (by decide) ?_
      exact ih v7 (v5 - v5 / v7 * v7) _ hf K ls (lv_sub hl [3, 4, 5, 1, 0] rfl)
def p_Md_lowest (n : Nat) (v0 : Int64) (v2 : Int64) (v4 : Int32)  : Option (Int64) := (l_Md_lowest_6 n v0 v2 v4 n v0 v2).bind fun y2 => (if v4 = 0 then some v0 else some v2 : Option (Int64)).bind fun x4 => if ¬ y2 = 0 then some (x4 / y2) else none
set_option maxHeartbeats 4000000 in
theorem c_Md_lowest (l : Launch) (n : Nat) (v0 : Int64) (v2 : Int64) (v4 : Int32)   : MSl l y_Md_lowest b_Md_lowest 11 (rL 5) [.long v0, .long v2, .int v4] (p_Md_lowest n v0 v2 v4 ) := by
  refine en_sl (by decide) (Nat.le_of_ble_eq_true rfl) ?_
  intro z hf p e s m args below meth c ls hx hb hml hown hT hr hlk hl
  have hl : lv_has ls 11 [(0, .long v0), (2, .long v2), (4, .int v4)] := hl
  unfold p_Md_lowest at hf
  refine lv_lload_n hx hb d_Md_lowest_0 rfl (lv_at hl 0 rfl) ?_
  refine lv_lstore (lv' := [(5, .long v0), (0, .long v0), (2, .long v2), (4, .int v4)]) hx hb d_Md_lowest_1 hl (by decide) rfl (fun ls hl => ?_)
  refine lv_lload_n hx hb d_Md_lowest_3 rfl (lv_at hl 2 rfl) ?_
  refine lv_lstore (lv' := [(7, .long v2), (5, .long v0), (0, .long v0), (2, .long v2), (4, .int v4)]) hx hb d_Md_lowest_4 hl (by decide) rfl (fun ls hl => ?_)
  obtain ⟨y2, he, hf⟩ := op_bind hf
  refine wl_Md_lowest_6 hx hb hml hown hT hr hlk n v0 v2 v4 n v0 v2 _ he (fun ls hl => ?_) ls (lv_sub hl [2, 3, 4, 1, 0] rfl)
  refine lv_iload hx hb d_Md_lowest_31 (lv_at hl 2 rfl) ?_
  obtain ⟨x4, he, hf⟩ := op_bind hf
  have K3 : ∀ (ls : Array Slot), lv_has ls 11 [(5, .long y2)] → W p l e (rL 5) s m args below meth c s.heap [] 0 0 (MQ below (fun _ st oc t => oc = .returned (some (.long z)) ∧ t.heap = st.heap) args s 0 0 (fun _ => False)) (F0 m 41 ls [.long x4]) := by
    intro ls hl
    refine lv_lload hx hb d_Md_lowest_41 (lv_at hl 0 rfl) ?_
    obtain ⟨h5, hf⟩ := op_if hf
    refine lv_ldiv hx hb d_Md_lowest_43 h5 ?_
    obtain rfl := op_i1 hf
    exact rt_sl hx hb hr hlk d_Md_lowest_44
  have hf := he
  refine lv_if_ne (tgt := 40) hx hb d_Md_lowest_33 (by decide) (fun hc => ?_) (fun hc => ?_)
  · have hf := op_f hc hf
    refine lv_lload_n hx hb d_Md_lowest_40 rfl (lv_at hl 1 rfl) ?_
    obtain rfl := op_i1 hf
    exact K3 ls (lv_sub hl [3] rfl)
  · have hf := op_t hc hf
    refine lv_lload_n hx hb d_Md_lowest_36 rfl (lv_at hl 0 rfl) ?_
    refine lv_goto (tgt := 41) hx hb d_Md_lowest_37 (by decide) ?_
    obtain rfl := op_i1 hf
    exact K3 ls (lv_sub hl [3] rfl)
theorem hd_Md_ranBody : y_Md_ranBody.cls ≠ "java/lang/invoke/MethodHandle" ∧ y_Md_ranBody.cls ≠ "java/lang/invoke/VarHandle" ∧ (parseMethodDescriptor y_Md_ranBody.desc).map (fun d => d.parameters.length) = some 1 := by decide +kernel
theorem d_Md_ranBody_0 : decode b_Md_ranBody 0 = .ok (.aload_n 0, 1) := by decide +kernel
theorem d_Md_ranBody_1 : decode b_Md_ranBody 1 = .ok (.getfield 244, 3) := by decide +kernel
theorem d_Md_ranBody_4 : decode b_Md_ranBody 4 = .ok (.bipush 20, 2) := by decide +kernel
theorem d_Md_ranBody_6 : decode b_Md_ranBody 6 = .ok (.if_icmp .ge 13, 3) := by decide +kernel
theorem d_Md_ranBody_9 : decode b_Md_ranBody 9 = .ok (.aload_n 0, 1) := by decide +kernel
theorem d_Md_ranBody_10 : decode b_Md_ranBody 10 = .ok (.getfield 37, 3) := by decide +kernel
theorem d_Md_ranBody_13 : decode b_Md_ranBody 13 = .ok (.aload_n 0, 1) := by decide +kernel
theorem d_Md_ranBody_14 : decode b_Md_ranBody 14 = .ok (.getfield 244, 3) := by decide +kernel
theorem d_Md_ranBody_17 : decode b_Md_ranBody 17 = .ok (.iload_n 1, 1) := by decide +kernel
theorem d_Md_ranBody_18 : decode b_Md_ranBody 18 = .ok (.iastore, 1) := by decide +kernel
theorem d_Md_ranBody_19 : decode b_Md_ranBody 19 = .ok (.aload_n 0, 1) := by decide +kernel
theorem d_Md_ranBody_20 : decode b_Md_ranBody 20 = .ok (.dup, 1) := by decide +kernel
theorem d_Md_ranBody_21 : decode b_Md_ranBody 21 = .ok (.getfield 244, 3) := by decide +kernel
theorem d_Md_ranBody_24 : decode b_Md_ranBody 24 = .ok (.iconst 1, 1) := by decide +kernel
theorem d_Md_ranBody_25 : decode b_Md_ranBody 25 = .ok (.iadd, 1) := by decide +kernel
theorem d_Md_ranBody_26 : decode b_Md_ranBody 26 = .ok (.putfield 244, 3) := by decide +kernel
theorem d_Md_ranBody_29 : decode b_Md_ranBody 29 = .ok (.return_, 1) := by decide +kernel
def p_Md_ranBody (n : Nat) (v1 : Int32) (I : Nat → Int32) (R : Nat → Nat → Int32) : Option (MU) := (if 20 ≤ (I 20) then some (I, R) else if ix (I 20) 20 then some (I, (upR R 19 (I 20).toNatClampNeg v1)) else none : Option ((Nat → Int32) × (Nat → Nat → Int32))).bind fun (I2, R3) => some ((upd I2 20 ((I2 20) + 1)), R3)
set_option maxHeartbeats 4000000 in
theorem c_Md_ranBody (l : Launch) (n : Nat) (v1 : Int32) (I : Nat → Int32) (R : Nat → Nat → Int32)  : MMv l y_Md_ranBody b_Md_ranBody 2 (rL 5) (fun ad adK => [.int v1]) I R (p_Md_ranBody n v1 I R) := by
  refine en_mv (by decide) rfl (fun _ _ => Nat.le_of_ble_eq_true rfl) ?_
  intro z hf p e s m args below meth c dC dI ad cI cZ A adK adV ls C hA h hr hlk hl
  have hl : lv_has ls 2 [(0, .ref (ad 0)), (1, .int v1)] := hl
  unfold p_Md_ranBody at hf
  obtain ⟨hx, hb, hml, hown, hT, -⟩ := id C
  refine lv_aload_n hx hb d_Md_ranBody_0 rfl (lv_at hl 0 rfl) ?_
  refine mg_20 C h d_Md_ranBody_1 ?_
  refine lv_bipush (v := 20) hx hb d_Md_ranBody_4 (by decide) ?_
  obtain ⟨⟨I2, R3⟩, he, hf⟩ := op_bind hf
  try dsimp only at hf
  have K1 : ∀ (ls : Array Slot), lv_has ls 2 [(0, .ref (ad 0))] → ∀ (H : Heap) (locs : List Loc), mH A s.heap dC dI ad cI cZ I2 R3 H locs → W p l e (rL 5) s m args below meth c H locs 0 0 (mQv dC dI ad cI cZ A below args s z) (F0 m 19 ls []) := by
    intro ls hl H locs h
    refine lv_aload_n hx hb d_Md_ranBody_19 rfl (lv_at hl 0 rfl) ?_
    refine lv_dup hx hb d_Md_ranBody_20 rfl ?_
    refine mg_20 C h d_Md_ranBody_21 ?_
    refine lv_iconst (v := 1) hx hb d_Md_ranBody_24 (by decide) ?_
    refine lv_iadd hx hb d_Md_ranBody_25 ?_
    refine mp_20 C h d_Md_ranBody_26 (fun H locs h => ?_)
    exact rt_mv C h hr hlk hf d_Md_ranBody_29
  have hf := he
  refine lv_icmp_ge (tgt := 19) hx hb d_Md_ranBody_6 (by decide) (fun hc => ?_) (fun hc => ?_)
  · have hf := op_t hc hf
    obtain ⟨rfl, rfl⟩ := op_i2 hf
    exact K1 ls (lv_sub hl [0] rfl) s.heap [] h
  · have hf := op_f hc hf
    refine lv_aload_n hx hb d_Md_ranBody_9 rfl (lv_at hl 0 rfl) ?_
    refine mg_19 C h d_Md_ranBody_10 ?_
    refine lv_aload_n hx hb d_Md_ranBody_13 rfl (lv_at hl 0 rfl) ?_
    refine mg_20 C h d_Md_ranBody_14 ?_
    refine lv_iload_n hx hb d_Md_ranBody_17 rfl (lv_at hl 1 rfl) ?_
    obtain ⟨h4, hf⟩ := op_if hf
    refine ms_19 C h rfl h4 d_Md_ranBody_18 (fun H locs h => ?_)
    obtain ⟨rfl, rfl⟩ := op_i2 hf
    exact K1 ls (lv_sub hl [0] rfl) H locs h
theorem hd_Md_isUnder : y_Md_isUnder.cls ≠ "java/lang/invoke/MethodHandle" ∧ y_Md_isUnder.cls ≠ "java/lang/invoke/VarHandle" ∧ (parseMethodDescriptor y_Md_isUnder.desc).map (fun d => d.parameters.length) = some 2 := by decide +kernel
theorem d_Md_isUnder_0 : decode b_Md_isUnder 0 = .ok (.iload_n 1, 1) := by decide +kernel
theorem d_Md_isUnder_1 : decode b_Md_isUnder 1 = .ok (.ifCond .eq 24, 3) := by decide +kernel
theorem d_Md_isUnder_4 : decode b_Md_isUnder 4 = .ok (.iload_n 1, 1) := by decide +kernel
theorem d_Md_isUnder_5 : decode b_Md_isUnder 5 = .ok (.iload_n 0, 1) := by decide +kernel
theorem d_Md_isUnder_6 : decode b_Md_isUnder 6 = .ok (.if_icmp .eq 19, 3) := by decide +kernel
theorem d_Md_isUnder_9 : decode b_Md_isUnder 9 = .ok (.iload_n 1, 1) := by decide +kernel
theorem d_Md_isUnder_10 : decode b_Md_isUnder 10 = .ok (.ifCond .le 19, 3) := by decide +kernel
theorem d_Md_isUnder_13 : decode b_Md_isUnder 13 = .ok (.iload_n 1, 1) := by decide +kernel
theorem d_Md_isUnder_14 : decode b_Md_isUnder 14 = .ok (.iconst 4, 1) := by decide +kernel
theorem d_Md_isUnder_15 : decode b_Md_isUnder 15 = .ok (.if_icmp .ge 14, 3) := by decide +kernel
theorem d_Md_isUnder_18 : decode b_Md_isUnder 18 = .ok (.iload_n 0, 1) := by decide +kernel
theorem d_Md_isUnder_19 : decode b_Md_isUnder 19 = .ok (.iload_n 1, 1) := by decide +kernel
theorem d_Md_isUnder_20 : decode b_Md_isUnder 20 = .ok (.iconst 3, 1) := by decide +kernel
theorem d_Md_isUnder_21 : decode b_Md_isUnder 21 = .ok (.iadd, 1) := by decide +kernel
theorem d_Md_isUnder_22 : decode b_Md_isUnder 22 = .ok (.if_icmp .ne 7, 3) := by decide +kernel
theorem d_Md_isUnder_25 : decode b_Md_isUnder 25 = .ok (.iconst 1, 1) := by decide +kernel
theorem d_Md_isUnder_26 : decode b_Md_isUnder 26 = .ok (.goto 4, 3) := by decide +kernel
theorem d_Md_isUnder_29 : decode b_Md_isUnder 29 = .ok (.iconst 0, 1) := by decide +kernel
theorem d_Md_isUnder_30 : decode b_Md_isUnder 30 = .ok (.ireturn, 1) := by decide +kernel
def p_Md_isUnder (n : Nat) (v0 : Int32) (v1 : Int32)  : Option (Int32) := (if v1 = 0 then some 1 else (if v1 = v0 then some 1 else (if v1 ≤ 0 then some 0 else (if 4 ≤ v1 then some 0 else (if v0 = (v1 + 3) then some 1 else some 0)))) : Option (Int32)).bind fun x2 => if isZ x2 then some x2 else none
set_option maxHeartbeats 4000000 in
theorem c_Md_isUnder (l : Launch) (n : Nat) (v0 : Int32) (v1 : Int32)   : MSi l y_Md_isUnder b_Md_isUnder 2 .boolean (rL 5) [.int v0, .int v1] (p_Md_isUnder n v0 v1 ) := by
  refine en_si (by decide) (Nat.le_of_ble_eq_true rfl) ?_
  intro z hf p e s m args below meth c ls hx hb hml hown hT hr hlk hl
  have hl : lv_has ls 2 [(0, .int v0), (1, .int v1)] := hl
  unfold p_Md_isUnder at hf
  refine lv_iload_n hx hb d_Md_isUnder_0 rfl (lv_at hl 1 rfl) ?_
  obtain ⟨x2, he, hf⟩ := op_bind hf
  have K1 : ∀ (ls : Array Slot), lv_has ls 2 [] → W p l e (rL 5) s m args below meth c s.heap [] 0 0 (MQ below (fun _ st oc t => oc = .returned (some (.int z)) ∧ t.heap = st.heap) args s 0 0 (fun _ => False)) (F0 m 30 ls [.int x2]) := by
    intro ls hl
    obtain ⟨h3, hf⟩ := op_if hf
    obtain rfl := op_i1 hf
    exact rt_si hx hb hr hlk (isZ_nar h3) d_Md_isUnder_30
  have hf := he
  refine lv_if_eq (tgt := 25) hx hb d_Md_isUnder_1 (by decide) (fun hc => ?_) (fun hc => ?_)
  · have hf := op_t hc hf
    refine lv_iconst (v := 1) hx hb d_Md_isUnder_25 (by decide) ?_
    refine lv_goto (tgt := 30) hx hb d_Md_isUnder_26 (by decide) ?_
    obtain rfl := op_i1 hf
    exact K1 ls (lv_sub hl [] rfl)
  · have hf := op_f hc hf
    refine lv_iload_n hx hb d_Md_isUnder_4 rfl (lv_at hl 1 rfl) ?_
    refine lv_iload_n hx hb d_Md_isUnder_5 rfl (lv_at hl 0 rfl) ?_
    refine lv_icmp_eq (tgt := 25) hx hb d_Md_isUnder_6 (by decide) (fun hc => ?_) (fun hc => ?_)
    · have hf := op_t hc hf
      refine lv_iconst (v := 1) hx hb d_Md_isUnder_25 (by decide) ?_
      refine lv_goto (tgt := 30) hx hb d_Md_isUnder_26 (by decide) ?_
      obtain rfl := op_i1 hf
      exact K1 ls (lv_sub hl [] rfl)
    · have hf := op_f hc hf
      refine lv_iload_n hx hb d_Md_isUnder_9 rfl (lv_at hl 1 rfl) ?_
      refine lv_if_le (tgt := 29) hx hb d_Md_isUnder_10 (by decide) (fun hc => ?_) (fun hc => ?_)
      · have hf := op_t hc hf
        refine lv_iconst (v := 0) hx hb d_Md_isUnder_29 (by decide) ?_
        obtain rfl := op_i1 hf
        exact K1 ls (lv_sub hl [] rfl)
      · have hf := op_f hc hf
        refine lv_iload_n hx hb d_Md_isUnder_13 rfl (lv_at hl 1 rfl) ?_
        refine lv_iconst (v := 4) hx hb d_Md_isUnder_14 (by decide) ?_
        refine lv_icmp_ge (tgt := 29) hx hb d_Md_isUnder_15 (by decide) (fun hc => ?_) (fun hc => ?_)
        · have hf := op_t hc hf
          refine lv_iconst (v := 0) hx hb d_Md_isUnder_29 (by decide) ?_
          obtain rfl := op_i1 hf
          exact K1 ls (lv_sub hl [] rfl)
        · have hf := op_f hc hf
          refine lv_iload_n hx hb d_Md_isUnder_18 rfl (lv_at hl 0 rfl) ?_
          refine lv_iload_n hx hb d_Md_isUnder_19 rfl (lv_at hl 1 rfl) ?_
          refine lv_iconst (v := 3) hx hb d_Md_isUnder_20 (by decide) ?_
          refine lv_iadd hx hb d_Md_isUnder_21 ?_
          refine lv_icmp_ne (tgt := 29) hx hb d_Md_isUnder_22 (by decide) (fun hc => ?_) (fun hc => ?_)
          · have hf := op_f hc hf
            refine lv_iconst (v := 0) hx hb d_Md_isUnder_29 (by decide) ?_
            obtain rfl := op_i1 hf
            exact K1 ls (lv_sub hl [] rfl)
          · have hf := op_t hc hf
            refine lv_iconst (v := 1) hx hb d_Md_isUnder_25 (by decide) ?_
            refine lv_goto (tgt := 30) hx hb d_Md_isUnder_26 (by decide) ?_
            obtain rfl := op_i1 hf
            exact K1 ls (lv_sub hl [] rfl)
theorem hd_Md_image : y_Md_image.cls ≠ "java/lang/invoke/MethodHandle" ∧ y_Md_image.cls ≠ "java/lang/invoke/VarHandle" ∧ (parseMethodDescriptor y_Md_image.desc).map (fun d => d.parameters.length) = some 0 := by decide +kernel
theorem d_Md_image_0 : decode b_Md_image 0 = .ok (.iconst 0, 1) := by decide +kernel
theorem d_Md_image_1 : decode b_Md_image 1 = .ok (.istore_n 1, 1) := by decide +kernel
theorem d_Md_image_2 : decode b_Md_image 2 = .ok (.iload_n 1, 1) := by decide +kernel
theorem d_Md_image_3 : decode b_Md_image 3 = .ok (.sipush 890, 3) := by decide +kernel
theorem d_Md_image_6 : decode b_Md_image 6 = .ok (.if_icmp .ge 21, 3) := by decide +kernel
theorem d_Md_image_9 : decode b_Md_image 9 = .ok (.aload_n 0, 1) := by decide +kernel
theorem d_Md_image_10 : decode b_Md_image 10 = .ok (.getfield 15, 3) := by decide +kernel
theorem d_Md_image_13 : decode b_Md_image 13 = .ok (.iload_n 1, 1) := by decide +kernel
theorem d_Md_image_14 : decode b_Md_image 14 = .ok (.aload_n 0, 1) := by decide +kernel
theorem d_Md_image_15 : decode b_Md_image 15 = .ok (.getfield 9, 3) := by decide +kernel
theorem d_Md_image_18 : decode b_Md_image 18 = .ok (.iload_n 1, 1) := by decide +kernel
theorem d_Md_image_19 : decode b_Md_image 19 = .ok (.iaload, 1) := by decide +kernel
theorem d_Md_image_20 : decode b_Md_image 20 = .ok (.iastore, 1) := by decide +kernel
theorem d_Md_image_21 : decode b_Md_image 21 = .ok (.iinc 1 1, 3) := by decide +kernel
theorem d_Md_image_24 : decode b_Md_image 24 = .ok (.goto (-22), 3) := by decide +kernel
theorem d_Md_image_27 : decode b_Md_image 27 = .ok (.aload_n 0, 1) := by decide +kernel
theorem d_Md_image_28 : decode b_Md_image 28 = .ok (.iconst 1, 1) := by decide +kernel
theorem d_Md_image_29 : decode b_Md_image 29 = .ok (.putfield 280, 3) := by decide +kernel
theorem d_Md_image_32 : decode b_Md_image 32 = .ok (.aload_n 0, 1) := by decide +kernel
theorem d_Md_image_33 : decode b_Md_image 33 = .ok (.getfield 9, 3) := by decide +kernel
theorem d_Md_image_36 : decode b_Md_image 36 = .ok (.iconst 0, 1) := by decide +kernel
theorem d_Md_image_37 : decode b_Md_image 37 = .ok (.iaload, 1) := by decide +kernel
theorem d_Md_image_38 : decode b_Md_image 38 = .ok (.ireturn, 1) := by decide +kernel
def l_Md_image_2 (n : Nat)    : Nat → Int32 → (Nat → Int32) → (Nat → Nat → Int32) → Option ((Nat → Int32) × (Nat → Nat → Int32))
  | 0, _, _, _ => none
  | k + 1, v1, I, R => (if 890 ≤ v1 then some (I, R) else if ix v1 890 then if ix v1 890 then l_Md_image_2 n k (v1 + 1) I (upR R 2 v1.toNatClampNeg (R 1 v1.toNatClampNeg)) else none else none)
set_option maxHeartbeats 4000000 in
theorem wl_Md_image_2 {Q : State → Prop}  {p : Program} {l : Launch} {e : Env} {s : State} {m : MethodId} {args : Array Value} {below : List Frame} {meth : Method} {c : Code} {dC : Nat → ClassId} {dI : Nat → Nat → Nat} {ad : Nat → Nat} {cI cZ : ClassId} {A : Nat → Prop} {adK adV : Nat → Nat} (C : mC p s m args c b_Md_image 2 dC dI cI cZ A adK adV) (hA : ∀ q, s.heap.size ≤ q → A q) (hr : meth.sig.returnType = some .int) (hlk : meth.locks = false) (n : Nat)    : ∀ (k : Nat) (v1 : Int32) (I : Nat → Int32) (R : Nat → Nat → Int32) (r0 : Nat → Int32) (r1 : Nat → Nat → Int32), l_Md_image_2 n k v1 I R = some (r0, r1) → (∀ (ls : Array Slot), lv_has ls 2 [(0, .ref (ad 0))] → ∀ (H : Heap) (locs : List Loc), mH A s.heap dC dI ad cI cZ r0 r1 H locs → W p l e (rL 5) s m args below meth c H locs 0 0 Q (F0 m 27 ls [])) → ∀ (ls : Array Slot), lv_has ls 2 [(0, .ref (ad 0)), (1, .int v1)] → ∀ (H : Heap) (locs : List Loc), mH A s.heap dC dI ad cI cZ I R H locs → W p l e (rL 5) s m args below meth c H locs 0 0 Q (F0 m 2 ls []) := by
  obtain ⟨hx, hb, hml, hown, hT, -⟩ := id C
  intro k
  induction k with
  | zero => intro v1 I R r0 r1 hf; exact absurd hf (by unfold l_Md_image_2; exact fun h9 => by cases h9)
  | succ k ih =>
    intro v1 I R r0 r1 hf K ls hl H locs h
    unfold l_Md_image_2 at hf
    refine lv_iload_n hx hb d_Md_image_2 rfl (lv_at hl 1 rfl) ?_
    refine lv_sipush (v := 890) hx hb d_Md_image_3 (by decide) ?_
    refine lv_icmp_ge (tgt := 27) hx hb d_Md_image_6 (by decide) (fun hc => ?_) (fun hc => ?_)
    · have hf := op_t hc hf
      obtain ⟨rfl, rfl⟩ := op_i2 hf
      exact K ls (lv_sub hl [0] rfl) H locs h
    · have hf := op_f hc hf
      refine lv_aload_n hx hb d_Md_image_9 rfl (lv_at hl 0 rfl) ?_
      refine mg_2 C h d_Md_image_10 ?_
      refine lv_iload_n hx hb d_Md_image_13 rfl (lv_at hl 1 rfl) ?_
      refine lv_aload_n hx hb d_Md_image_14 rfl (lv_at hl 0 rfl) ?_
      refine mg_1 C h d_Md_image_15 ?_
      refine lv_iload_n hx hb d_Md_image_18 rfl (lv_at hl 1 rfl) ?_
      obtain ⟨h1, hf⟩ := op_if hf
      refine ma_1 C h rfl h1 d_Md_image_19 ?_
      obtain ⟨h2, hf⟩ := op_if hf
      refine ms_2 C h rfl h2 d_Md_image_20 (fun H locs h => ?_)
      refine lv_iinc (v := (v1 + 1)) (lv' := [(1, .int (v1 + 1)), (0, .ref (ad 0))]) hx hb d_Md_image_21 hl (k := 1) rfl rfl (by decide) rfl (fun ls hl => ?_)
      refine lv_goto (tgt := 2) hx hb d_Md_image_24 (by decide) ?_
      exact ih (v1 + 1) I (upR R 2 v1.toNatClampNeg (R 1 v1.toNatClampNeg)) _ _ hf K ls (lv_sub hl [1, 0] rfl) H locs h
def p_Md_image (n : Nat)  (I : Nat → Int32) (R : Nat → Nat → Int32) : Option (Int32 × MU) := (l_Md_image_2 n n 0 I R).bind fun (I3, R4) => some ((R4 1 0), (upd I3 3 1), R4)
set_option maxHeartbeats 4000000 in
theorem c_Md_image (l : Launch) (n : Nat)  (I : Nat → Int32) (R : Nat → Nat → Int32)  : MMi l y_Md_image b_Md_image 2 .int (rL 5) (fun ad adK => []) I R (p_Md_image n I R) := by
  refine en_mi (by decide) rfl (fun _ _ => Nat.le_of_ble_eq_true rfl) ?_
  intro z hf p e s m args below meth c dC dI ad cI cZ A adK adV ls C hA h hr hlk hl
  have hl : lv_has ls 2 [(0, .ref (ad 0))] := hl
  unfold p_Md_image at hf
  obtain ⟨hx, hb, hml, hown, hT, -⟩ := id C
  refine lv_iconst (v := 0) hx hb d_Md_image_0 (by decide) ?_
  refine lv_istore_n (lv' := [(1, .int 0), (0, .ref (ad 0))]) hx hb d_Md_image_1 rfl hl (by decide) rfl (fun ls hl => ?_)
  obtain ⟨⟨I3, R4⟩, he, hf⟩ := op_bind hf
  try dsimp only at hf
  refine wl_Md_image_2 C hA hr hlk n  n 0 I R _ _ he (fun ls hl H locs h => ?_) ls (lv_sub hl [1, 0] rfl) s.heap [] h
  refine lv_aload_n hx hb d_Md_image_27 rfl (lv_at hl 0 rfl) ?_
  refine lv_iconst (v := 1) hx hb d_Md_image_28 (by decide) ?_
  refine mp_3 C h (by decide) d_Md_image_29 (fun H locs h => ?_)
  refine lv_aload_n hx hb d_Md_image_32 rfl (lv_at hl 0 rfl) ?_
  refine mg_1 C h d_Md_image_33 ?_
  refine lv_iconst (v := 0) hx hb d_Md_image_36 (by decide) ?_
  refine ma_1 C h (j := 0) (by decide) (show ix 0 890 by decide) d_Md_image_37 ?_
  exact rt_mi C h hr hlk hf rfl d_Md_image_38
theorem hd_Md_undo : y_Md_undo.cls ≠ "java/lang/invoke/MethodHandle" ∧ y_Md_undo.cls ≠ "java/lang/invoke/VarHandle" ∧ (parseMethodDescriptor y_Md_undo.desc).map (fun d => d.parameters.length) = some 0 := by decide +kernel
theorem d_Md_undo_0 : decode b_Md_undo 0 = .ok (.aload_n 0, 1) := by decide +kernel
theorem d_Md_undo_1 : decode b_Md_undo 1 = .ok (.getfield 280, 3) := by decide +kernel
theorem d_Md_undo_4 : decode b_Md_undo 4 = .ok (.ifCond .ne 6, 3) := by decide +kernel
theorem d_Md_undo_7 : decode b_Md_undo 7 = .ok (.bipush (-3), 2) := by decide +kernel
theorem d_Md_undo_9 : decode b_Md_undo 9 = .ok (.ireturn, 1) := by decide +kernel
theorem d_Md_undo_10 : decode b_Md_undo 10 = .ok (.iconst 0, 1) := by decide +kernel
theorem d_Md_undo_11 : decode b_Md_undo 11 = .ok (.istore_n 1, 1) := by decide +kernel
theorem d_Md_undo_12 : decode b_Md_undo 12 = .ok (.iload_n 1, 1) := by decide +kernel
theorem d_Md_undo_13 : decode b_Md_undo 13 = .ok (.sipush 890, 3) := by decide +kernel
theorem d_Md_undo_16 : decode b_Md_undo 16 = .ok (.if_icmp .ge 21, 3) := by decide +kernel
theorem d_Md_undo_19 : decode b_Md_undo 19 = .ok (.aload_n 0, 1) := by decide +kernel
theorem d_Md_undo_20 : decode b_Md_undo 20 = .ok (.getfield 9, 3) := by decide +kernel
theorem d_Md_undo_23 : decode b_Md_undo 23 = .ok (.iload_n 1, 1) := by decide +kernel
theorem d_Md_undo_24 : decode b_Md_undo 24 = .ok (.aload_n 0, 1) := by decide +kernel
theorem d_Md_undo_25 : decode b_Md_undo 25 = .ok (.getfield 15, 3) := by decide +kernel
theorem d_Md_undo_28 : decode b_Md_undo 28 = .ok (.iload_n 1, 1) := by decide +kernel
theorem d_Md_undo_29 : decode b_Md_undo 29 = .ok (.iaload, 1) := by decide +kernel
theorem d_Md_undo_30 : decode b_Md_undo 30 = .ok (.iastore, 1) := by decide +kernel
theorem d_Md_undo_31 : decode b_Md_undo 31 = .ok (.iinc 1 1, 3) := by decide +kernel
theorem d_Md_undo_34 : decode b_Md_undo 34 = .ok (.goto (-22), 3) := by decide +kernel
theorem d_Md_undo_37 : decode b_Md_undo 37 = .ok (.aload_n 0, 1) := by decide +kernel
theorem d_Md_undo_38 : decode b_Md_undo 38 = .ok (.getfield 9, 3) := by decide +kernel
theorem d_Md_undo_41 : decode b_Md_undo 41 = .ok (.iconst 0, 1) := by decide +kernel
theorem d_Md_undo_42 : decode b_Md_undo 42 = .ok (.iaload, 1) := by decide +kernel
theorem d_Md_undo_43 : decode b_Md_undo 43 = .ok (.ireturn, 1) := by decide +kernel
def l_Md_undo_12 (n : Nat)    : Nat → Int32 → (Nat → Int32) → (Nat → Nat → Int32) → Option ((Nat → Int32) × (Nat → Nat → Int32))
  | 0, _, _, _ => none
  | k + 1, v1, I, R => (if 890 ≤ v1 then some (I, R) else if ix v1 890 then if ix v1 890 then l_Md_undo_12 n k (v1 + 1) I (upR R 1 v1.toNatClampNeg (R 2 v1.toNatClampNeg)) else none else none)
set_option maxHeartbeats 4000000 in
theorem wl_Md_undo_12 {Q : State → Prop}  {p : Program} {l : Launch} {e : Env} {s : State} {m : MethodId} {args : Array Value} {below : List Frame} {meth : Method} {c : Code} {dC : Nat → ClassId} {dI : Nat → Nat → Nat} {ad : Nat → Nat} {cI cZ : ClassId} {A : Nat → Prop} {adK adV : Nat → Nat} (C : mC p s m args c b_Md_undo 2 dC dI cI cZ A adK adV) (hA : ∀ q, s.heap.size ≤ q → A q) (hr : meth.sig.returnType = some .int) (hlk : meth.locks = false) (n : Nat)    : ∀ (k : Nat) (v1 : Int32) (I : Nat → Int32) (R : Nat → Nat → Int32) (r0 : Nat → Int32) (r1 : Nat → Nat → Int32), l_Md_undo_12 n k v1 I R = some (r0, r1) → (∀ (ls : Array Slot), lv_has ls 2 [(0, .ref (ad 0))] → ∀ (H : Heap) (locs : List Loc), mH A s.heap dC dI ad cI cZ r0 r1 H locs → W p l e (rL 5) s m args below meth c H locs 0 0 Q (F0 m 37 ls [])) → ∀ (ls : Array Slot), lv_has ls 2 [(0, .ref (ad 0)), (1, .int v1)] → ∀ (H : Heap) (locs : List Loc), mH A s.heap dC dI ad cI cZ I R H locs → W p l e (rL 5) s m args below meth c H locs 0 0 Q (F0 m 12 ls []) := by
  obtain ⟨hx, hb, hml, hown, hT, -⟩ := id C
  intro k
  induction k with
  | zero => intro v1 I R r0 r1 hf; exact absurd hf (by unfold l_Md_undo_12; exact fun h9 => by cases h9)
  | succ k ih =>
    intro v1 I R r0 r1 hf K ls hl H locs h
    unfold l_Md_undo_12 at hf
    refine lv_iload_n hx hb d_Md_undo_12 rfl (lv_at hl 1 rfl) ?_
    refine lv_sipush (v := 890) hx hb d_Md_undo_13 (by decide) ?_
    refine lv_icmp_ge (tgt := 37) hx hb d_Md_undo_16 (by decide) (fun hc => ?_) (fun hc => ?_)
    · have hf := op_t hc hf
      obtain ⟨rfl, rfl⟩ := op_i2 hf
      exact K ls (lv_sub hl [0] rfl) H locs h
    · have hf := op_f hc hf
      refine lv_aload_n hx hb d_Md_undo_19 rfl (lv_at hl 0 rfl) ?_
      refine mg_1 C h d_Md_undo_20 ?_
      refine lv_iload_n hx hb d_Md_undo_23 rfl (lv_at hl 1 rfl) ?_
      refine lv_aload_n hx hb d_Md_undo_24 rfl (lv_at hl 0 rfl) ?_
      refine mg_2 C h d_Md_undo_25 ?_
      refine lv_iload_n hx hb d_Md_undo_28 rfl (lv_at hl 1 rfl) ?_
      obtain ⟨h1, hf⟩ := op_if hf
      refine ma_2 C h rfl h1 d_Md_undo_29 ?_
      obtain ⟨h2, hf⟩ := op_if hf
      refine ms_1 C h rfl h2 d_Md_undo_30 (fun H locs h => ?_)
      refine lv_iinc (v := (v1 + 1)) (lv' := [(1, .int (v1 + 1)), (0, .ref (ad 0))]) hx hb d_Md_undo_31 hl (k := 1) rfl rfl (by decide) rfl (fun ls hl => ?_)
      refine lv_goto (tgt := 12) hx hb d_Md_undo_34 (by decide) ?_
      exact ih (v1 + 1) I (upR R 1 v1.toNatClampNeg (R 2 v1.toNatClampNeg)) _ _ hf K ls (lv_sub hl [1, 0] rfl) H locs h
def p_Md_undo (n : Nat)  (I : Nat → Int32) (R : Nat → Nat → Int32) : Option (Int32 × MU) := (if (I 3) = 0 then some ((-3), I, R) else (l_Md_undo_12 n n 0 I R).bind fun (I3, R4) => some ((R4 1 0), I3, R4))
set_option maxHeartbeats 4000000 in
theorem c_Md_undo (l : Launch) (n : Nat)  (I : Nat → Int32) (R : Nat → Nat → Int32)  : MMi l y_Md_undo b_Md_undo 2 .int (rL 5) (fun ad adK => []) I R (p_Md_undo n I R) := by
  refine en_mi (by decide) rfl (fun _ _ => Nat.le_of_ble_eq_true rfl) ?_
  intro z hf p e s m args below meth c dC dI ad cI cZ A adK adV ls C hA h hr hlk hl
  have hl : lv_has ls 2 [(0, .ref (ad 0))] := hl
  unfold p_Md_undo at hf
  obtain ⟨hx, hb, hml, hown, hT, -⟩ := id C
  refine lv_aload_n hx hb d_Md_undo_0 rfl (lv_at hl 0 rfl) ?_
  refine mg_3 C h d_Md_undo_1 ?_
  refine lv_if_ne (tgt := 10) hx hb d_Md_undo_4 (by decide) (fun hc => ?_) (fun hc => ?_)
  · have hf := op_f hc hf
    refine lv_iconst (v := 0) hx hb d_Md_undo_10 (by decide) ?_
    refine lv_istore_n (lv' := [(1, .int 0), (0, .ref (ad 0))]) hx hb d_Md_undo_11 rfl hl (by decide) rfl (fun ls hl => ?_)
    obtain ⟨⟨I3, R4⟩, he, hf⟩ := op_bind hf
    try dsimp only at hf
    refine wl_Md_undo_12 C hA hr hlk n  n 0 I R _ _ he (fun ls hl H locs h => ?_) ls (lv_sub hl [1, 0] rfl) s.heap [] h
    refine lv_aload_n hx hb d_Md_undo_37 rfl (lv_at hl 0 rfl) ?_
    refine mg_1 C h d_Md_undo_38 ?_
    refine lv_iconst (v := 0) hx hb d_Md_undo_41 (by decide) ?_
    refine ma_1 C h (j := 0) (by decide) (show ix 0 890 by decide) d_Md_undo_42 ?_
    exact rt_mi C h hr hlk hf rfl d_Md_undo_43
  · have hf := op_t hc hf
    refine lv_bipush (v := (-3)) hx hb d_Md_undo_7 (by decide) ?_
    exact rt_mi C h hr hlk hf rfl d_Md_undo_9
theorem hd_Md_count : y_Md_count.cls ≠ "java/lang/invoke/MethodHandle" ∧ y_Md_count.cls ≠ "java/lang/invoke/VarHandle" ∧ (parseMethodDescriptor y_Md_count.desc).map (fun d => d.parameters.length) = some 1 := by decide +kernel
theorem d_Md_count_0 : decode b_Md_count 0 = .ok (.iload_n 1, 1) := by decide +kernel
theorem d_Md_count_1 : decode b_Md_count 1 = .ok (.tableswitch 79 0 5 #[39, 46, 53, 60, 67, 74], 39) := by decide +kernel
theorem d_Md_count_40 : decode b_Md_count 40 = .ok (.aload_n 0, 1) := by decide +kernel
theorem d_Md_count_41 : decode b_Md_count 41 = .ok (.getfield 9, 3) := by decide +kernel
theorem d_Md_count_44 : decode b_Md_count 44 = .ok (.iconst 0, 1) := by decide +kernel
theorem d_Md_count_45 : decode b_Md_count 45 = .ok (.iaload, 1) := by decide +kernel
theorem d_Md_count_46 : decode b_Md_count 46 = .ok (.ireturn, 1) := by decide +kernel
theorem d_Md_count_47 : decode b_Md_count 47 = .ok (.aload_n 0, 1) := by decide +kernel
theorem d_Md_count_48 : decode b_Md_count 48 = .ok (.getfield 9, 3) := by decide +kernel
theorem d_Md_count_51 : decode b_Md_count 51 = .ok (.iconst 1, 1) := by decide +kernel
theorem d_Md_count_52 : decode b_Md_count 52 = .ok (.iaload, 1) := by decide +kernel
theorem d_Md_count_53 : decode b_Md_count 53 = .ok (.ireturn, 1) := by decide +kernel
theorem d_Md_count_54 : decode b_Md_count 54 = .ok (.aload_n 0, 1) := by decide +kernel
theorem d_Md_count_55 : decode b_Md_count 55 = .ok (.getfield 9, 3) := by decide +kernel
theorem d_Md_count_58 : decode b_Md_count 58 = .ok (.iconst 2, 1) := by decide +kernel
theorem d_Md_count_59 : decode b_Md_count 59 = .ok (.iaload, 1) := by decide +kernel
theorem d_Md_count_60 : decode b_Md_count 60 = .ok (.ireturn, 1) := by decide +kernel
theorem d_Md_count_61 : decode b_Md_count 61 = .ok (.aload_n 0, 1) := by decide +kernel
theorem d_Md_count_62 : decode b_Md_count 62 = .ok (.getfield 9, 3) := by decide +kernel
theorem d_Md_count_65 : decode b_Md_count 65 = .ok (.iconst 3, 1) := by decide +kernel
theorem d_Md_count_66 : decode b_Md_count 66 = .ok (.iaload, 1) := by decide +kernel
theorem d_Md_count_67 : decode b_Md_count 67 = .ok (.ireturn, 1) := by decide +kernel
theorem d_Md_count_68 : decode b_Md_count 68 = .ok (.aload_n 0, 1) := by decide +kernel
theorem d_Md_count_69 : decode b_Md_count 69 = .ok (.getfield 9, 3) := by decide +kernel
theorem d_Md_count_72 : decode b_Md_count 72 = .ok (.iconst 4, 1) := by decide +kernel
theorem d_Md_count_73 : decode b_Md_count 73 = .ok (.iaload, 1) := by decide +kernel
theorem d_Md_count_74 : decode b_Md_count 74 = .ok (.ireturn, 1) := by decide +kernel
theorem d_Md_count_75 : decode b_Md_count 75 = .ok (.aload_n 0, 1) := by decide +kernel
theorem d_Md_count_76 : decode b_Md_count 76 = .ok (.getfield 244, 3) := by decide +kernel
theorem d_Md_count_79 : decode b_Md_count 79 = .ok (.ireturn, 1) := by decide +kernel
theorem d_Md_count_80 : decode b_Md_count 80 = .ok (.iconst (-1), 1) := by decide +kernel
theorem d_Md_count_81 : decode b_Md_count 81 = .ok (.ireturn, 1) := by decide +kernel
def p_Md_count (n : Nat) (v1 : Int32) (I : Nat → Int32) (R : Nat → Nat → Int32) : Option (Int32) := (if v1 = 0 then some (R 1 0) else if v1 = 1 then some (R 1 1) else if v1 = 2 then some (R 1 2) else if v1 = 3 then some (R 1 3) else if v1 = 4 then some (R 1 4) else if v1 = 5 then some (I 20) else some (-1))
set_option maxHeartbeats 4000000 in
theorem c_Md_count (l : Launch) (n : Nat) (v1 : Int32) (I : Nat → Int32) (R : Nat → Nat → Int32)  : MMi l y_Md_count b_Md_count 2 .int (rL 5) (fun ad adK => [.int v1]) I R ((p_Md_count n v1 I R).map fun r => (r, I, R)) := by
  refine en_mi (by decide) rfl (fun _ _ => Nat.le_of_ble_eq_true rfl) ?_
  intro z hz p e s m args below meth c dC dI ad cI cZ A adK adV ls C hA h hr hlk hl
  have hl : lv_has ls 2 [(0, .ref (ad 0)), (1, .int v1)] := hl
  obtain ⟨z, hf, rfl⟩ := op_map hz
  unfold p_Md_count at hf
  obtain ⟨hx, hb, hml, hown, hT, -⟩ := id C
  refine lv_iload_n hx hb d_Md_count_0 rfl (lv_at hl 1 rfl) ?_
  by_cases hs0 : v1 = 0
  · have hf := op_t hs0 hf
    refine lv_tableIn (tgt := 40) (off := 39) hx hb d_Md_count_1 (by rw [hs0]; decide) (by rw [hs0]; decide) (by rw [hs0]; decide) (by decide) ?_
    refine lv_aload_n hx hb d_Md_count_40 rfl (lv_at hl 0 rfl) ?_
    refine mg_1 C h d_Md_count_41 ?_
    refine lv_iconst (v := 0) hx hb d_Md_count_44 (by decide) ?_
    refine ma_1 C h (j := 0) (by decide) (show ix 0 890 by decide) d_Md_count_45 ?_
    exact rt_mr C h hr hlk hf rfl d_Md_count_46
  · have hf := op_f hs0 hf
    by_cases hs1 : v1 = 1
    · have hf := op_t hs1 hf
      refine lv_tableIn (tgt := 47) (off := 46) hx hb d_Md_count_1 (by rw [hs1]; decide) (by rw [hs1]; decide) (by rw [hs1]; decide) (by decide) ?_
      refine lv_aload_n hx hb d_Md_count_47 rfl (lv_at hl 0 rfl) ?_
      refine mg_1 C h d_Md_count_48 ?_
      refine lv_iconst (v := 1) hx hb d_Md_count_51 (by decide) ?_
      refine ma_1 C h (j := 1) (by decide) (show ix 1 890 by decide) d_Md_count_52 ?_
      exact rt_mr C h hr hlk hf rfl d_Md_count_53
    · have hf := op_f hs1 hf
      by_cases hs2 : v1 = 2
      · have hf := op_t hs2 hf
        refine lv_tableIn (tgt := 54) (off := 53) hx hb d_Md_count_1 (by rw [hs2]; decide) (by rw [hs2]; decide) (by rw [hs2]; decide) (by decide) ?_
        refine lv_aload_n hx hb d_Md_count_54 rfl (lv_at hl 0 rfl) ?_
        refine mg_1 C h d_Md_count_55 ?_
        refine lv_iconst (v := 2) hx hb d_Md_count_58 (by decide) ?_
        refine ma_1 C h (j := 2) (by decide) (show ix 2 890 by decide) d_Md_count_59 ?_
        exact rt_mr C h hr hlk hf rfl d_Md_count_60
      · have hf := op_f hs2 hf
        by_cases hs3 : v1 = 3
        · have hf := op_t hs3 hf
          refine lv_tableIn (tgt := 61) (off := 60) hx hb d_Md_count_1 (by rw [hs3]; decide) (by rw [hs3]; decide) (by rw [hs3]; decide) (by decide) ?_
          refine lv_aload_n hx hb d_Md_count_61 rfl (lv_at hl 0 rfl) ?_
          refine mg_1 C h d_Md_count_62 ?_
          refine lv_iconst (v := 3) hx hb d_Md_count_65 (by decide) ?_
          refine ma_1 C h (j := 3) (by decide) (show ix 3 890 by decide) d_Md_count_66 ?_
          exact rt_mr C h hr hlk hf rfl d_Md_count_67
        · have hf := op_f hs3 hf
          by_cases hs4 : v1 = 4
          · have hf := op_t hs4 hf
            refine lv_tableIn (tgt := 68) (off := 67) hx hb d_Md_count_1 (by rw [hs4]; decide) (by rw [hs4]; decide) (by rw [hs4]; decide) (by decide) ?_
            refine lv_aload_n hx hb d_Md_count_68 rfl (lv_at hl 0 rfl) ?_
            refine mg_1 C h d_Md_count_69 ?_
            refine lv_iconst (v := 4) hx hb d_Md_count_72 (by decide) ?_
            refine ma_1 C h (j := 4) (by decide) (show ix 4 890 by decide) d_Md_count_73 ?_
            exact rt_mr C h hr hlk hf rfl d_Md_count_74
          · have hf := op_f hs4 hf
            by_cases hs5 : v1 = 5
            · have hf := op_t hs5 hf
              refine lv_tableIn (tgt := 75) (off := 74) hx hb d_Md_count_1 (by rw [hs5]; decide) (by rw [hs5]; decide) (by rw [hs5]; decide) (by decide) ?_
              refine lv_aload_n hx hb d_Md_count_75 rfl (lv_at hl 0 rfl) ?_
              refine mg_20 C h d_Md_count_76 ?_
              exact rt_mr C h hr hlk hf rfl d_Md_count_79
            · have hf := op_f hs5 hf
              have et0 := tn_ne (v := 0) (by decide) hs0
              have et1 := tn_ne (v := 1) (by decide) hs1
              have et2 := tn_ne (v := 2) (by decide) hs2
              have et3 := tn_ne (v := 3) (by decide) hs3
              have et4 := tn_ne (v := 4) (by decide) hs4
              have et5 := tn_ne (v := 5) (by decide) hs5
              refine lv_tableOut (tgt := 80) hx hb d_Md_count_1 (by omega) (by decide) ?_
              refine lv_iconst (v := (-1)) hx hb d_Md_count_80 (by decide) ?_
              exact rt_mr C h hr hlk hf rfl d_Md_count_81
theorem hd_Md_figures : y_Md_figures.cls ≠ "java/lang/invoke/MethodHandle" ∧ y_Md_figures.cls ≠ "java/lang/invoke/VarHandle" ∧ (parseMethodDescriptor y_Md_figures.desc).map (fun d => d.parameters.length) = some 0 := by decide +kernel
theorem d_Md_figures_0 : decode b_Md_figures 0 = .ok (.aload_n 0, 1) := by decide +kernel
theorem d_Md_figures_1 : decode b_Md_figures 1 = .ok (.aload_n 0, 1) := by decide +kernel
theorem d_Md_figures_2 : decode b_Md_figures 2 = .ok (.getfield 58, 3) := by decide +kernel
theorem d_Md_figures_5 : decode b_Md_figures 5 = .ok (.ifCond .ne 17, 3) := by decide +kernel
theorem d_Md_figures_8 : decode b_Md_figures 8 = .ok (.aload_n 0, 1) := by decide +kernel
theorem d_Md_figures_9 : decode b_Md_figures 9 = .ok (.invokevirtual 62, 3) := by decide +kernel
theorem d_Md_figures_12 : decode b_Md_figures 12 = .ok (.bipush 48, 2) := by decide +kernel
theorem d_Md_figures_14 : decode b_Md_figures 14 = .ok (.bipush 57, 2) := by decide +kernel
theorem d_Md_figures_16 : decode b_Md_figures 16 = .ok (.invokestatic 44, 3) := by decide +kernel
theorem d_Md_figures_19 : decode b_Md_figures 19 = .ok (.ifCond .ne 7, 3) := by decide +kernel
theorem d_Md_figures_22 : decode b_Md_figures 22 = .ok (.iconst 1, 1) := by decide +kernel
theorem d_Md_figures_23 : decode b_Md_figures 23 = .ok (.goto 4, 3) := by decide +kernel
theorem d_Md_figures_26 : decode b_Md_figures 26 = .ok (.iconst 0, 1) := by decide +kernel
theorem d_Md_figures_27 : decode b_Md_figures 27 = .ok (.putfield 58, 3) := by decide +kernel
theorem d_Md_figures_30 : decode b_Md_figures 30 = .ok (.iconst 0, 1) := by decide +kernel
theorem d_Md_figures_31 : decode b_Md_figures 31 = .ok (.istore_n 1, 1) := by decide +kernel
theorem d_Md_figures_32 : decode b_Md_figures 32 = .ok (.iconst 0, 1) := by decide +kernel
theorem d_Md_figures_33 : decode b_Md_figures 33 = .ok (.istore_n 2, 1) := by decide +kernel
theorem d_Md_figures_34 : decode b_Md_figures 34 = .ok (.iload_n 2, 1) := by decide +kernel
theorem d_Md_figures_35 : decode b_Md_figures 35 = .ok (.iconst 2, 1) := by decide +kernel
theorem d_Md_figures_36 : decode b_Md_figures 36 = .ok (.if_icmp .ge 61, 3) := by decide +kernel
theorem d_Md_figures_39 : decode b_Md_figures 39 = .ok (.aload_n 0, 1) := by decide +kernel
theorem d_Md_figures_40 : decode b_Md_figures 40 = .ok (.getfield 58, 3) := by decide +kernel
theorem d_Md_figures_43 : decode b_Md_figures 43 = .ok (.ifCond .ne 54, 3) := by decide +kernel
theorem d_Md_figures_46 : decode b_Md_figures 46 = .ok (.aload_n 0, 1) := by decide +kernel
theorem d_Md_figures_47 : decode b_Md_figures 47 = .ok (.invokevirtual 62, 3) := by decide +kernel
theorem d_Md_figures_50 : decode b_Md_figures 50 = .ok (.bipush 48, 2) := by decide +kernel
theorem d_Md_figures_52 : decode b_Md_figures 52 = .ok (.bipush 57, 2) := by decide +kernel
theorem d_Md_figures_54 : decode b_Md_figures 54 = .ok (.invokestatic 44, 3) := by decide +kernel
theorem d_Md_figures_57 : decode b_Md_figures 57 = .ok (.ifCond .eq 40, 3) := by decide +kernel
theorem d_Md_figures_60 : decode b_Md_figures 60 = .ok (.iload_n 2, 1) := by decide +kernel
theorem d_Md_figures_61 : decode b_Md_figures 61 = .ok (.ifCond .eq 7, 3) := by decide +kernel
theorem d_Md_figures_64 : decode b_Md_figures 64 = .ok (.iload_n 1, 1) := by decide +kernel
theorem d_Md_figures_65 : decode b_Md_figures 65 = .ok (.ifCond .le 32, 3) := by decide +kernel
theorem d_Md_figures_68 : decode b_Md_figures 68 = .ok (.bipush 10, 2) := by decide +kernel
theorem d_Md_figures_70 : decode b_Md_figures 70 = .ok (.iload_n 1, 1) := by decide +kernel
theorem d_Md_figures_71 : decode b_Md_figures 71 = .ok (.imul, 1) := by decide +kernel
theorem d_Md_figures_72 : decode b_Md_figures 72 = .ok (.aload_n 0, 1) := by decide +kernel
theorem d_Md_figures_73 : decode b_Md_figures 73 = .ok (.invokevirtual 62, 3) := by decide +kernel
theorem d_Md_figures_76 : decode b_Md_figures 76 = .ok (.iadd, 1) := by decide +kernel
theorem d_Md_figures_77 : decode b_Md_figures 77 = .ok (.bipush 48, 2) := by decide +kernel
theorem d_Md_figures_79 : decode b_Md_figures 79 = .ok (.isub, 1) := by decide +kernel
theorem d_Md_figures_80 : decode b_Md_figures 80 = .ok (.istore_n 1, 1) := by decide +kernel
theorem d_Md_figures_81 : decode b_Md_figures 81 = .ok (.aload_n 0, 1) := by decide +kernel
theorem d_Md_figures_82 : decode b_Md_figures 82 = .ok (.dup, 1) := by decide +kernel
theorem d_Md_figures_83 : decode b_Md_figures 83 = .ok (.getfield 52, 3) := by decide +kernel
theorem d_Md_figures_86 : decode b_Md_figures 86 = .ok (.iconst 1, 1) := by decide +kernel
theorem d_Md_figures_87 : decode b_Md_figures 87 = .ok (.iadd, 1) := by decide +kernel
theorem d_Md_figures_88 : decode b_Md_figures 88 = .ok (.putfield 52, 3) := by decide +kernel
theorem d_Md_figures_91 : decode b_Md_figures 91 = .ok (.iinc 2 1, 3) := by decide +kernel
theorem d_Md_figures_94 : decode b_Md_figures 94 = .ok (.goto (-60), 3) := by decide +kernel
theorem d_Md_figures_97 : decode b_Md_figures 97 = .ok (.iload_n 1, 1) := by decide +kernel
theorem d_Md_figures_98 : decode b_Md_figures 98 = .ok (.ireturn, 1) := by decide +kernel
def l_Md_figures_34 (n : Nat)    : Nat → Int32 → Int32 → (Nat → Int32) → (Nat → Nat → Int32) → Option (Int32 × (Nat → Int32) × (Nat → Nat → Int32))
  | 0, _, _, _, _ => none
  | k + 1, v1, v2, I, R => (if 2 ≤ v2 then some (v1, I, R) else (if (I 7) = 0 then (p_Md_here n I R).bind fun x9 => (p_Md_in n x9 48 57).bind fun x11 => (if x11 = 0 then some (v1, I, R) else (if v2 = 0 then (p_Md_here n I R).bind fun x13 => l_Md_figures_34 n k (((10 * v1) + x13) - 48) (v2 + 1) (upd I 5 ((I 5) + 1)) R else (if v1 ≤ 0 then some (v1, I, R) else (p_Md_here n I R).bind fun x15 => l_Md_figures_34 n k (((10 * v1) + x15) - 48) (v2 + 1) (upd I 5 ((I 5) + 1)) R))) else some (v1, I, R)))
set_option maxHeartbeats 4000000 in
theorem wl_Md_figures_34 {Q : State → Prop}  {p : Program} {l : Launch} {e : Env} {s : State} {m : MethodId} {args : Array Value} {below : List Frame} {meth : Method} {c : Code} {dC : Nat → ClassId} {dI : Nat → Nat → Nat} {ad : Nat → Nat} {cI cZ : ClassId} {A : Nat → Prop} {adK adV : Nat → Nat} (C : mC p s m args c b_Md_figures 3 dC dI cI cZ A adK adV) (hA : ∀ q, s.heap.size ≤ q → A q) (hr : meth.sig.returnType = some .int) (hlk : meth.locks = false) (n : Nat)    : ∀ (k : Nat) (v1 : Int32) (v2 : Int32) (I : Nat → Int32) (R : Nat → Nat → Int32) (r0 : Int32) (r1 : Nat → Int32) (r2 : Nat → Nat → Int32), l_Md_figures_34 n k v1 v2 I R = some (r0, r1, r2) → (∀ (ls : Array Slot), lv_has ls 3 [(1, .int r0)] → ∀ (H : Heap) (locs : List Loc), mH A s.heap dC dI ad cI cZ r1 r2 H locs → W p l e (rL 6) s m args below meth c H locs 0 0 Q (F0 m 97 ls [])) → ∀ (ls : Array Slot), lv_has ls 3 [(0, .ref (ad 0)), (1, .int v1), (2, .int v2)] → ∀ (H : Heap) (locs : List Loc), mH A s.heap dC dI ad cI cZ I R H locs → W p l e (rL 6) s m args below meth c H locs 0 0 Q (F0 m 34 ls []) := by
  obtain ⟨hx, hb, hml, hown, hT, -⟩ := id C
  intro k
  induction k with
  | zero => intro v1 v2 I R r0 r1 r2 hf; exact absurd hf (by unfold l_Md_figures_34; exact fun h9 => by cases h9)
  | succ k ih =>
    intro v1 v2 I R r0 r1 r2 hf K ls hl H locs h
    unfold l_Md_figures_34 at hf
    refine lv_iload_n hx hb d_Md_figures_34 rfl (lv_at hl 2 rfl) ?_
    refine lv_iconst (v := 2) hx hb d_Md_figures_35 (by decide) ?_
    refine lv_icmp_ge (tgt := 97) hx hb d_Md_figures_36 (by decide) (fun hc => ?_) (fun hc => ?_)
    · have hf := op_t hc hf
      obtain ⟨rfl, rfl, rfl⟩ := op_i3 hf
      exact K ls (lv_sub hl [1] rfl) H locs h
    · have hf := op_f hc hf
      refine lv_aload_n hx hb d_Md_figures_39 rfl (lv_at hl 0 rfl) ?_
      refine mg_7 C h d_Md_figures_40 ?_
      refine lv_if_ne (tgt := 97) hx hb d_Md_figures_43 (by decide) (fun hc => ?_) (fun hc => ?_)
      · have hf := op_f hc hf
        obtain ⟨rfl, rfl, rfl⟩ := op_i3 hf
        exact K ls (lv_sub hl [1] rfl) H locs h
      · have hf := op_t hc hf
        refine lv_aload_n hx hb d_Md_figures_46 rfl (lv_at hl 0 rfl) ?_
        obtain ⟨x9, hc8, hf⟩ := op_bind hf
        refine kc_r (rest := []) C h hA (c_Md_here l n I R) hc8 (cbW 0 hT cd_Md_here rfl rfl ini_Md ml_Md_62 hd_Md_here ⟨Nat.le_of_ble_eq_true rfl, Nat.le_of_ble_eq_true rfl⟩) im_Md_here sp_Md_here rfl hl.1 rfl (Nat.le_of_ble_eq_true rfl) d_Md_figures_47 ⟨Nat.zero_le _, Nat.zero_le _⟩ (fun H locs h => ?_)
        refine lv_bipush (v := 48) hx hb d_Md_figures_50 (by decide) ?_
        refine lv_bipush (v := 57) hx hb d_Md_figures_52 (by decide) ?_
        obtain ⟨x11, hc10, hf⟩ := op_bind hf
        refine ks_i (rest := []) hx hb hml hown hT (c_Md_in l n x9 48 57 _ hc10) (cbW 3 hT cd_Md_in rfl rfl ini_Md ml_Md_44 hd_Md_in ⟨Nat.le_of_ble_eq_true rfl, Nat.le_of_ble_eq_true rfl⟩) sm_Md_in rfl hl.1 rfl (Nat.le_of_ble_eq_true rfl) d_Md_figures_54 ⟨Nat.zero_le _, Nat.zero_le _⟩ ?_
        refine lv_if_eq (tgt := 97) hx hb d_Md_figures_57 (by decide) (fun hc => ?_) (fun hc => ?_)
        · have hf := op_t hc hf
          obtain ⟨rfl, rfl, rfl⟩ := op_i3 hf
          exact K ls (lv_sub hl [1] rfl) H locs h
        · have hf := op_f hc hf
          refine lv_iload_n hx hb d_Md_figures_60 rfl (lv_at hl 2 rfl) ?_
          refine lv_if_eq (tgt := 68) hx hb d_Md_figures_61 (by decide) (fun hc => ?_) (fun hc => ?_)
          · have hf := op_t hc hf
            refine lv_bipush (v := 10) hx hb d_Md_figures_68 (by decide) ?_
            refine lv_iload_n hx hb d_Md_figures_70 rfl (lv_at hl 1 rfl) ?_
            refine lv_imul hx hb d_Md_figures_71 ?_
            refine lv_aload_n hx hb d_Md_figures_72 rfl (lv_at hl 0 rfl) ?_
            obtain ⟨x13, hc12, hf⟩ := op_bind hf
            refine kc_r (rest := [.int (10 * v1)]) C h hA (c_Md_here l n I R) hc12 (cbW 0 hT cd_Md_here rfl rfl ini_Md ml_Md_62 hd_Md_here ⟨Nat.le_of_ble_eq_true rfl, Nat.le_of_ble_eq_true rfl⟩) im_Md_here sp_Md_here rfl hl.1 rfl (Nat.le_of_ble_eq_true rfl) d_Md_figures_73 ⟨Nat.zero_le _, Nat.zero_le _⟩ (fun H locs h => ?_)
            refine lv_iadd hx hb d_Md_figures_76 ?_
            refine lv_bipush (v := 48) hx hb d_Md_figures_77 (by decide) ?_
            refine lv_isub hx hb d_Md_figures_79 ?_
            refine lv_istore_n (lv' := [(1, .int (((10 * v1) + x13) - 48)), (0, .ref (ad 0)), (2, .int v2)]) hx hb d_Md_figures_80 rfl hl (by decide) rfl (fun ls hl => ?_)
            refine lv_aload_n hx hb d_Md_figures_81 rfl (lv_at hl 1 rfl) ?_
            refine lv_dup hx hb d_Md_figures_82 rfl ?_
            refine mg_5 C h d_Md_figures_83 ?_
            refine lv_iconst (v := 1) hx hb d_Md_figures_86 (by decide) ?_
            refine lv_iadd hx hb d_Md_figures_87 ?_
            refine mp_5 C h d_Md_figures_88 (fun H locs h => ?_)
            refine lv_iinc (v := (v2 + 1)) (lv' := [(2, .int (v2 + 1)), (1, .int (((10 * v1) + x13) - 48)), (0, .ref (ad 0))]) hx hb d_Md_figures_91 hl (k := 2) rfl rfl (by decide) rfl (fun ls hl => ?_)
            refine lv_goto (tgt := 34) hx hb d_Md_figures_94 (by decide) ?_
            exact ih (((10 * v1) + x13) - 48) (v2 + 1) (upd I 5 ((I 5) + 1)) R _ _ _ hf K ls (lv_sub hl [2, 1, 0] rfl) H locs h
          · have hf := op_f hc hf
            refine lv_iload_n hx hb d_Md_figures_64 rfl (lv_at hl 1 rfl) ?_
            refine lv_if_le (tgt := 97) hx hb d_Md_figures_65 (by decide) (fun hc => ?_) (fun hc => ?_)
            · have hf := op_t hc hf
              obtain ⟨rfl, rfl, rfl⟩ := op_i3 hf
              exact K ls (lv_sub hl [1] rfl) H locs h
            · have hf := op_f hc hf
              refine lv_bipush (v := 10) hx hb d_Md_figures_68 (by decide) ?_
              refine lv_iload_n hx hb d_Md_figures_70 rfl (lv_at hl 1 rfl) ?_
              refine lv_imul hx hb d_Md_figures_71 ?_
              refine lv_aload_n hx hb d_Md_figures_72 rfl (lv_at hl 0 rfl) ?_
              obtain ⟨x15, hc14, hf⟩ := op_bind hf
              refine kc_r (rest := [.int (10 * v1)]) C h hA (c_Md_here l n I R) hc14 (cbW 0 hT cd_Md_here rfl rfl ini_Md ml_Md_62 hd_Md_here ⟨Nat.le_of_ble_eq_true rfl, Nat.le_of_ble_eq_true rfl⟩) im_Md_here sp_Md_here rfl hl.1 rfl (Nat.le_of_ble_eq_true rfl) d_Md_figures_73 ⟨Nat.zero_le _, Nat.zero_le _⟩ (fun H locs h => ?_)
              refine lv_iadd hx hb d_Md_figures_76 ?_
              refine lv_bipush (v := 48) hx hb d_Md_figures_77 (by decide) ?_
              refine lv_isub hx hb d_Md_figures_79 ?_
              refine lv_istore_n (lv' := [(1, .int (((10 * v1) + x15) - 48)), (0, .ref (ad 0)), (2, .int v2)]) hx hb d_Md_figures_80 rfl hl (by decide) rfl (fun ls hl => ?_)
              refine lv_aload_n hx hb d_Md_figures_81 rfl (lv_at hl 1 rfl) ?_
              refine lv_dup hx hb d_Md_figures_82 rfl ?_
              refine mg_5 C h d_Md_figures_83 ?_
              refine lv_iconst (v := 1) hx hb d_Md_figures_86 (by decide) ?_
              refine lv_iadd hx hb d_Md_figures_87 ?_
              refine mp_5 C h d_Md_figures_88 (fun H locs h => ?_)
              refine lv_iinc (v := (v2 + 1)) (lv' := [(2, .int (v2 + 1)), (1, .int (((10 * v1) + x15) - 48)), (0, .ref (ad 0))]) hx hb d_Md_figures_91 hl (k := 2) rfl rfl (by decide) rfl (fun ls hl => ?_)
              refine lv_goto (tgt := 34) hx hb d_Md_figures_94 (by decide) ?_
              exact ih (((10 * v1) + x15) - 48) (v2 + 1) (upd I 5 ((I 5) + 1)) R _ _ _ hf K ls (lv_sub hl [2, 1, 0] rfl) H locs h
def p_Md_figures (n : Nat)  (I : Nat → Int32) (R : Nat → Nat → Int32) : Option (Int32 × MU) := (if (I 7) = 0 then (p_Md_here n I R).bind fun x4 => (p_Md_in n x4 48 57).bind fun x6 => (if x6 = 0 then some 1 else some 0) else some 1 : Option (Int32)).bind fun x2 => if isZ x2 then (l_Md_figures_34 n n 0 0 (upd I 7 x2) R).bind fun (y16, I17, R18) => some (y16, I17, R18) else none
set_option maxHeartbeats 4000000 in
theorem c_Md_figures (l : Launch) (n : Nat)  (I : Nat → Int32) (R : Nat → Nat → Int32)  : MMi l y_Md_figures b_Md_figures 3 .int (rL 6) (fun ad adK => []) I R (p_Md_figures n I R) := by
  refine en_mi (by decide) rfl (fun _ _ => Nat.le_of_ble_eq_true rfl) ?_
  intro z hf p e s m args below meth c dC dI ad cI cZ A adK adV ls C hA h hr hlk hl
  have hl : lv_has ls 3 [(0, .ref (ad 0))] := hl
  unfold p_Md_figures at hf
  obtain ⟨hx, hb, hml, hown, hT, -⟩ := id C
  refine lv_aload_n hx hb d_Md_figures_0 rfl (lv_at hl 0 rfl) ?_
  refine lv_aload_n hx hb d_Md_figures_1 rfl (lv_at hl 0 rfl) ?_
  refine mg_7 C h d_Md_figures_2 ?_
  obtain ⟨x2, he, hf⟩ := op_bind hf
  have K1 : ∀ (ls : Array Slot), lv_has ls 3 [(0, .ref (ad 0))] → ∀ (H : Heap) (locs : List Loc), mH A s.heap dC dI ad cI cZ I R H locs → W p l e (rL 6) s m args below meth c H locs 0 0 (mQi dC dI ad cI cZ A below args s z) (F0 m 27 ls [.int x2, .ref (ad 0)]) := by
    intro ls hl H locs h
    obtain ⟨h7, hf⟩ := op_if hf
    refine mp_7 C h h7 d_Md_figures_27 (fun H locs h => ?_)
    refine lv_iconst (v := 0) hx hb d_Md_figures_30 (by decide) ?_
    refine lv_istore_n (lv' := [(1, .int 0), (0, .ref (ad 0))]) hx hb d_Md_figures_31 rfl hl (by decide) rfl (fun ls hl => ?_)
    refine lv_iconst (v := 0) hx hb d_Md_figures_32 (by decide) ?_
    refine lv_istore_n (lv' := [(2, .int 0), (1, .int 0), (0, .ref (ad 0))]) hx hb d_Md_figures_33 rfl hl (by decide) rfl (fun ls hl => ?_)
    obtain ⟨⟨y16, I17, R18⟩, he, hf⟩ := op_bind hf
    try dsimp only at hf
    refine wl_Md_figures_34 C hA hr hlk n  n 0 0 (upd I 7 x2) R _ _ _ he (fun ls hl H locs h => ?_) ls (lv_sub hl [2, 1, 0] rfl) H locs h
    refine lv_iload_n hx hb d_Md_figures_97 rfl (lv_at hl 0 rfl) ?_
    exact rt_mi C h hr hlk hf rfl d_Md_figures_98
  have hf := he
  refine lv_if_ne (tgt := 22) hx hb d_Md_figures_5 (by decide) (fun hc => ?_) (fun hc => ?_)
  · have hf := op_f hc hf
    refine lv_iconst (v := 1) hx hb d_Md_figures_22 (by decide) ?_
    refine lv_goto (tgt := 27) hx hb d_Md_figures_23 (by decide) ?_
    obtain rfl := op_i1 hf
    exact K1 ls (lv_sub hl [0] rfl) s.heap [] h
  · have hf := op_t hc hf
    refine lv_aload_n hx hb d_Md_figures_8 rfl (lv_at hl 0 rfl) ?_
    obtain ⟨x4, hc3, hf⟩ := op_bind hf
    refine kc_r (rest := [.ref (ad 0)]) C h hA (c_Md_here l n I R) hc3 (cbW 0 hT cd_Md_here rfl rfl ini_Md ml_Md_62 hd_Md_here ⟨Nat.le_of_ble_eq_true rfl, Nat.le_of_ble_eq_true rfl⟩) im_Md_here sp_Md_here rfl hl.1 rfl (Nat.le_of_ble_eq_true rfl) d_Md_figures_9 ⟨Nat.zero_le _, Nat.zero_le _⟩ (fun H locs h => ?_)
    refine lv_bipush (v := 48) hx hb d_Md_figures_12 (by decide) ?_
    refine lv_bipush (v := 57) hx hb d_Md_figures_14 (by decide) ?_
    obtain ⟨x6, hc5, hf⟩ := op_bind hf
    refine ks_i (rest := [.ref (ad 0)]) hx hb hml hown hT (c_Md_in l n x4 48 57 _ hc5) (cbW 3 hT cd_Md_in rfl rfl ini_Md ml_Md_44 hd_Md_in ⟨Nat.le_of_ble_eq_true rfl, Nat.le_of_ble_eq_true rfl⟩) sm_Md_in rfl hl.1 rfl (Nat.le_of_ble_eq_true rfl) d_Md_figures_16 ⟨Nat.zero_le _, Nat.zero_le _⟩ ?_
    refine lv_if_ne (tgt := 26) hx hb d_Md_figures_19 (by decide) (fun hc => ?_) (fun hc => ?_)
    · have hf := op_f hc hf
      refine lv_iconst (v := 0) hx hb d_Md_figures_26 (by decide) ?_
      obtain rfl := op_i1 hf
      exact K1 ls (lv_sub hl [0] rfl) H locs h
    · have hf := op_t hc hf
      refine lv_iconst (v := 1) hx hb d_Md_figures_22 (by decide) ?_
      refine lv_goto (tgt := 27) hx hb d_Md_figures_23 (by decide) ?_
      obtain rfl := op_i1 hf
      exact K1 ls (lv_sub hl [0] rfl) H locs h
theorem hd_Md_person : y_Md_person.cls ≠ "java/lang/invoke/MethodHandle" ∧ y_Md_person.cls ≠ "java/lang/invoke/VarHandle" ∧ (parseMethodDescriptor y_Md_person.desc).map (fun d => d.parameters.length) = some 4 := by decide +kernel
theorem d_Md_person_0 : decode b_Md_person 0 = .ok (.iload_n 1, 1) := by decide +kernel
theorem d_Md_person_1 : decode b_Md_person 1 = .ok (.iconst 0, 1) := by decide +kernel
theorem d_Md_person_2 : decode b_Md_person 2 = .ok (.bipush 6, 2) := by decide +kernel
theorem d_Md_person_4 : decode b_Md_person 4 = .ok (.invokestatic 44, 3) := by decide +kernel
theorem d_Md_person_7 : decode b_Md_person 7 = .ok (.ifCond .ne 5, 3) := by decide +kernel
theorem d_Md_person_10 : decode b_Md_person 10 = .ok (.iconst (-1), 1) := by decide +kernel
theorem d_Md_person_11 : decode b_Md_person 11 = .ok (.ireturn, 1) := by decide +kernel
theorem d_Md_person_12 : decode b_Md_person 12 = .ok (.iload_n 2, 1) := by decide +kernel
theorem d_Md_person_13 : decode b_Md_person 13 = .ok (.iconst 0, 1) := by decide +kernel
theorem d_Md_person_14 : decode b_Md_person 14 = .ok (.bipush 9, 2) := by decide +kernel
theorem d_Md_person_16 : decode b_Md_person 16 = .ok (.invokestatic 44, 3) := by decide +kernel
theorem d_Md_person_19 : decode b_Md_person 19 = .ok (.ifCond .eq 24, 3) := by decide +kernel
theorem d_Md_person_22 : decode b_Md_person 22 = .ok (.iload_n 3, 1) := by decide +kernel
theorem d_Md_person_23 : decode b_Md_person 23 = .ok (.iconst 1, 1) := by decide +kernel
theorem d_Md_person_24 : decode b_Md_person 24 = .ok (.bipush 30, 2) := by decide +kernel
theorem d_Md_person_26 : decode b_Md_person 26 = .ok (.invokestatic 44, 3) := by decide +kernel
theorem d_Md_person_29 : decode b_Md_person 29 = .ok (.ifCond .eq 14, 3) := by decide +kernel
theorem d_Md_person_32 : decode b_Md_person 32 = .ok (.iload 4, 2) := by decide +kernel
theorem d_Md_person_34 : decode b_Md_person 34 = .ok (.iconst 0, 1) := by decide +kernel
theorem d_Md_person_35 : decode b_Md_person 35 = .ok (.bipush 9, 2) := by decide +kernel
theorem d_Md_person_37 : decode b_Md_person 37 = .ok (.invokestatic 44, 3) := by decide +kernel
theorem d_Md_person_40 : decode b_Md_person 40 = .ok (.ifCond .ne 6, 3) := by decide +kernel
theorem d_Md_person_43 : decode b_Md_person 43 = .ok (.bipush (-2), 2) := by decide +kernel
theorem d_Md_person_45 : decode b_Md_person 45 = .ok (.ireturn, 1) := by decide +kernel
theorem d_Md_person_46 : decode b_Md_person 46 = .ok (.aload_n 0, 1) := by decide +kernel
theorem d_Md_person_47 : decode b_Md_person 47 = .ok (.getfield 9, 3) := by decide +kernel
theorem d_Md_person_50 : decode b_Md_person 50 = .ok (.iconst 0, 1) := by decide +kernel
theorem d_Md_person_51 : decode b_Md_person 51 = .ok (.iaload, 1) := by decide +kernel
theorem d_Md_person_52 : decode b_Md_person 52 = .ok (.bipush 6, 2) := by decide +kernel
theorem d_Md_person_54 : decode b_Md_person 54 = .ok (.if_icmp .ne 6, 3) := by decide +kernel
theorem d_Md_person_57 : decode b_Md_person 57 = .ok (.bipush (-4), 2) := by decide +kernel
theorem d_Md_person_59 : decode b_Md_person 59 = .ok (.ireturn, 1) := by decide +kernel
theorem d_Md_person_60 : decode b_Md_person 60 = .ok (.aload_n 0, 1) := by decide +kernel
theorem d_Md_person_61 : decode b_Md_person 61 = .ok (.getfield 9, 3) := by decide +kernel
theorem d_Md_person_64 : decode b_Md_person 64 = .ok (.iconst 0, 1) := by decide +kernel
theorem d_Md_person_65 : decode b_Md_person 65 = .ok (.iaload, 1) := by decide +kernel
theorem d_Md_person_66 : decode b_Md_person 66 = .ok (.istore 5, 2) := by decide +kernel
theorem d_Md_person_68 : decode b_Md_person 68 = .ok (.aload_n 0, 1) := by decide +kernel
theorem d_Md_person_69 : decode b_Md_person 69 = .ok (.getfield 9, 3) := by decide +kernel
theorem d_Md_person_72 : decode b_Md_person 72 = .ok (.bipush 10, 2) := by decide +kernel
theorem d_Md_person_74 : decode b_Md_person 74 = .ok (.iload 5, 2) := by decide +kernel
theorem d_Md_person_76 : decode b_Md_person 76 = .ok (.iadd, 1) := by decide +kernel
theorem d_Md_person_77 : decode b_Md_person 77 = .ok (.iload_n 1, 1) := by decide +kernel
theorem d_Md_person_78 : decode b_Md_person 78 = .ok (.iastore, 1) := by decide +kernel
theorem d_Md_person_79 : decode b_Md_person 79 = .ok (.aload_n 0, 1) := by decide +kernel
theorem d_Md_person_80 : decode b_Md_person 80 = .ok (.getfield 9, 3) := by decide +kernel
theorem d_Md_person_83 : decode b_Md_person 83 = .ok (.bipush 16, 2) := by decide +kernel
theorem d_Md_person_85 : decode b_Md_person 85 = .ok (.iload 5, 2) := by decide +kernel
theorem d_Md_person_87 : decode b_Md_person 87 = .ok (.iadd, 1) := by decide +kernel
theorem d_Md_person_88 : decode b_Md_person 88 = .ok (.iload_n 2, 1) := by decide +kernel
theorem d_Md_person_89 : decode b_Md_person 89 = .ok (.iastore, 1) := by decide +kernel
theorem d_Md_person_90 : decode b_Md_person 90 = .ok (.aload_n 0, 1) := by decide +kernel
theorem d_Md_person_91 : decode b_Md_person 91 = .ok (.getfield 9, 3) := by decide +kernel
theorem d_Md_person_94 : decode b_Md_person 94 = .ok (.bipush 22, 2) := by decide +kernel
theorem d_Md_person_96 : decode b_Md_person 96 = .ok (.iload 5, 2) := by decide +kernel
theorem d_Md_person_98 : decode b_Md_person 98 = .ok (.iadd, 1) := by decide +kernel
theorem d_Md_person_99 : decode b_Md_person 99 = .ok (.iload_n 3, 1) := by decide +kernel
theorem d_Md_person_100 : decode b_Md_person 100 = .ok (.iastore, 1) := by decide +kernel
theorem d_Md_person_101 : decode b_Md_person 101 = .ok (.aload_n 0, 1) := by decide +kernel
theorem d_Md_person_102 : decode b_Md_person 102 = .ok (.getfield 9, 3) := by decide +kernel
theorem d_Md_person_105 : decode b_Md_person 105 = .ok (.bipush 28, 2) := by decide +kernel
theorem d_Md_person_107 : decode b_Md_person 107 = .ok (.iload 5, 2) := by decide +kernel
theorem d_Md_person_109 : decode b_Md_person 109 = .ok (.iadd, 1) := by decide +kernel
theorem d_Md_person_110 : decode b_Md_person 110 = .ok (.iload 4, 2) := by decide +kernel
theorem d_Md_person_112 : decode b_Md_person 112 = .ok (.iastore, 1) := by decide +kernel
theorem d_Md_person_113 : decode b_Md_person 113 = .ok (.aload_n 0, 1) := by decide +kernel
theorem d_Md_person_114 : decode b_Md_person 114 = .ok (.getfield 9, 3) := by decide +kernel
theorem d_Md_person_117 : decode b_Md_person 117 = .ok (.iconst 0, 1) := by decide +kernel
theorem d_Md_person_118 : decode b_Md_person 118 = .ok (.dup2, 1) := by decide +kernel
theorem d_Md_person_119 : decode b_Md_person 119 = .ok (.iaload, 1) := by decide +kernel
theorem d_Md_person_120 : decode b_Md_person 120 = .ok (.iconst 1, 1) := by decide +kernel
theorem d_Md_person_121 : decode b_Md_person 121 = .ok (.iadd, 1) := by decide +kernel
theorem d_Md_person_122 : decode b_Md_person 122 = .ok (.iastore, 1) := by decide +kernel
theorem d_Md_person_123 : decode b_Md_person 123 = .ok (.iload 5, 2) := by decide +kernel
theorem d_Md_person_125 : decode b_Md_person 125 = .ok (.ireturn, 1) := by decide +kernel
def p_Md_person (n : Nat) (v1 : Int32) (v2 : Int32) (v3 : Int32) (v4 : Int32) (I : Nat → Int32) (R : Nat → Nat → Int32) : Option (Int32 × MU) := (p_Md_in n v1 0 6).bind fun x2 => (if x2 = 0 then some ((-1), I, R) else (p_Md_in n v2 0 9).bind fun x4 => (if x4 = 0 then some ((-2), I, R) else (p_Md_in n v3 1 30).bind fun x6 => (if x6 = 0 then some ((-2), I, R) else (p_Md_in n v4 0 9).bind fun x8 => (if x8 = 0 then some ((-2), I, R) else (if (R 1 0) = 6 then some ((-4), I, R) else if ix (10 + (R 1 0)) 890 then if ix (16 + (R 1 0)) 890 then if ix (22 + (R 1 0)) 890 then if ix (28 + (R 1 0)) 890 then some ((R 1 0), I, (upR (upR (upR (upR (upR R 1 (10 + (R 1 0)).toNatClampNeg v1) 1 (16 + (R 1 0)).toNatClampNeg v2) 1 (22 + (R 1 0)).toNatClampNeg v3) 1 (28 + (R 1 0)).toNatClampNeg v4) 1 0 (((((upR (upR (upR (upR R 1 (10 + (R 1 0)).toNatClampNeg v1) 1 (16 + (R 1 0)).toNatClampNeg v2) 1 (22 + (R 1 0)).toNatClampNeg v3) 1 (28 + (R 1 0)).toNatClampNeg v4)) 1 0) + 1)))) else none else none else none else none)))))
set_option maxHeartbeats 4000000 in
theorem c_Md_person (l : Launch) (n : Nat) (v1 : Int32) (v2 : Int32) (v3 : Int32) (v4 : Int32) (I : Nat → Int32) (R : Nat → Nat → Int32)  : MMi l y_Md_person b_Md_person 6 .int (rL 6) (fun ad adK => [.int v1, .int v2, .int v3, .int v4]) I R (p_Md_person n v1 v2 v3 v4 I R) := by
  refine en_mi (by decide) rfl (fun _ _ => Nat.le_of_ble_eq_true rfl) ?_
  intro z hf p e s m args below meth c dC dI ad cI cZ A adK adV ls C hA h hr hlk hl
  have hl : lv_has ls 6 [(0, .ref (ad 0)), (1, .int v1), (2, .int v2), (3, .int v3), (4, .int v4)] := hl
  unfold p_Md_person at hf
  obtain ⟨hx, hb, hml, hown, hT, -⟩ := id C
  refine lv_iload_n hx hb d_Md_person_0 rfl (lv_at hl 1 rfl) ?_
  refine lv_iconst (v := 0) hx hb d_Md_person_1 (by decide) ?_
  refine lv_bipush (v := 6) hx hb d_Md_person_2 (by decide) ?_
  obtain ⟨x2, hc1, hf⟩ := op_bind hf
  refine ks_i (rest := []) hx hb hml hown hT (c_Md_in l n v1 0 6 _ hc1) (cbW 3 hT cd_Md_in rfl rfl ini_Md ml_Md_44 hd_Md_in ⟨Nat.le_of_ble_eq_true rfl, Nat.le_of_ble_eq_true rfl⟩) sm_Md_in rfl hl.1 rfl (Nat.le_of_ble_eq_true rfl) d_Md_person_4 ⟨Nat.zero_le _, Nat.zero_le _⟩ ?_
  refine lv_if_ne (tgt := 12) hx hb d_Md_person_7 (by decide) (fun hc => ?_) (fun hc => ?_)
  · have hf := op_f hc hf
    refine lv_iload_n hx hb d_Md_person_12 rfl (lv_at hl 2 rfl) ?_
    refine lv_iconst (v := 0) hx hb d_Md_person_13 (by decide) ?_
    refine lv_bipush (v := 9) hx hb d_Md_person_14 (by decide) ?_
    obtain ⟨x4, hc3, hf⟩ := op_bind hf
    refine ks_i (rest := []) hx hb hml hown hT (c_Md_in l n v2 0 9 _ hc3) (cbW 3 hT cd_Md_in rfl rfl ini_Md ml_Md_44 hd_Md_in ⟨Nat.le_of_ble_eq_true rfl, Nat.le_of_ble_eq_true rfl⟩) sm_Md_in rfl hl.1 rfl (Nat.le_of_ble_eq_true rfl) d_Md_person_16 ⟨Nat.zero_le _, Nat.zero_le _⟩ ?_
    refine lv_if_eq (tgt := 43) hx hb d_Md_person_19 (by decide) (fun hc => ?_) (fun hc => ?_)
    · have hf := op_t hc hf
      refine lv_bipush (v := (-2)) hx hb d_Md_person_43 (by decide) ?_
      exact rt_mi C h hr hlk hf rfl d_Md_person_45
    · have hf := op_f hc hf
      refine lv_iload_n hx hb d_Md_person_22 rfl (lv_at hl 3 rfl) ?_
      refine lv_iconst (v := 1) hx hb d_Md_person_23 (by decide) ?_
      refine lv_bipush (v := 30) hx hb d_Md_person_24 (by decide) ?_
      obtain ⟨x6, hc5, hf⟩ := op_bind hf
      refine ks_i (rest := []) hx hb hml hown hT (c_Md_in l n v3 1 30 _ hc5) (cbW 3 hT cd_Md_in rfl rfl ini_Md ml_Md_44 hd_Md_in ⟨Nat.le_of_ble_eq_true rfl, Nat.le_of_ble_eq_true rfl⟩) sm_Md_in rfl hl.1 rfl (Nat.le_of_ble_eq_true rfl) d_Md_person_26 ⟨Nat.zero_le _, Nat.zero_le _⟩ ?_
      refine lv_if_eq (tgt := 43) hx hb d_Md_person_29 (by decide) (fun hc => ?_) (fun hc => ?_)
      · have hf := op_t hc hf
        refine lv_bipush (v := (-2)) hx hb d_Md_person_43 (by decide) ?_
        exact rt_mi C h hr hlk hf rfl d_Md_person_45
      · have hf := op_f hc hf
        refine lv_iload hx hb d_Md_person_32 (lv_at hl 4 rfl) ?_
        refine lv_iconst (v := 0) hx hb d_Md_person_34 (by decide) ?_
        refine lv_bipush (v := 9) hx hb d_Md_person_35 (by decide) ?_
        obtain ⟨x8, hc7, hf⟩ := op_bind hf
        refine ks_i (rest := []) hx hb hml hown hT (c_Md_in l n v4 0 9 _ hc7) (cbW 3 hT cd_Md_in rfl rfl ini_Md ml_Md_44 hd_Md_in ⟨Nat.le_of_ble_eq_true rfl, Nat.le_of_ble_eq_true rfl⟩) sm_Md_in rfl hl.1 rfl (Nat.le_of_ble_eq_true rfl) d_Md_person_37 ⟨Nat.zero_le _, Nat.zero_le _⟩ ?_
        refine lv_if_ne (tgt := 46) hx hb d_Md_person_40 (by decide) (fun hc => ?_) (fun hc => ?_)
        · have hf := op_f hc hf
          refine lv_aload_n hx hb d_Md_person_46 rfl (lv_at hl 0 rfl) ?_
          refine mg_1 C h d_Md_person_47 ?_
          refine lv_iconst (v := 0) hx hb d_Md_person_50 (by decide) ?_
          refine ma_1 C h (j := 0) (by decide) (show ix 0 890 by decide) d_Md_person_51 ?_
          refine lv_bipush (v := 6) hx hb d_Md_person_52 (by decide) ?_
          refine lv_icmp_ne (tgt := 60) hx hb d_Md_person_54 (by decide) (fun hc => ?_) (fun hc => ?_)
          · have hf := op_f hc hf
            refine lv_aload_n hx hb d_Md_person_60 rfl (lv_at hl 0 rfl) ?_
            refine mg_1 C h d_Md_person_61 ?_
            refine lv_iconst (v := 0) hx hb d_Md_person_64 (by decide) ?_
            refine ma_1 C h (j := 0) (by decide) (show ix 0 890 by decide) d_Md_person_65 ?_
            refine lv_istore (lv' := [(5, .int (R 1 0)), (0, .ref (ad 0)), (1, .int v1), (2, .int v2), (3, .int v3), (4, .int v4)]) hx hb d_Md_person_66 hl (by decide) rfl (fun ls hl => ?_)
            refine lv_aload_n hx hb d_Md_person_68 rfl (lv_at hl 1 rfl) ?_
            refine mg_1 C h d_Md_person_69 ?_
            refine lv_bipush (v := 10) hx hb d_Md_person_72 (by decide) ?_
            refine lv_iload hx hb d_Md_person_74 (lv_at hl 0 rfl) ?_
            refine lv_iadd hx hb d_Md_person_76 ?_
            refine lv_iload_n hx hb d_Md_person_77 rfl (lv_at hl 2 rfl) ?_
            obtain ⟨h9, hf⟩ := op_if hf
            refine ms_1 C h rfl h9 d_Md_person_78 (fun H locs h => ?_)
            refine lv_aload_n hx hb d_Md_person_79 rfl (lv_at hl 1 rfl) ?_
            refine mg_1 C h d_Md_person_80 ?_
            refine lv_bipush (v := 16) hx hb d_Md_person_83 (by decide) ?_
            refine lv_iload hx hb d_Md_person_85 (lv_at hl 0 rfl) ?_
            refine lv_iadd hx hb d_Md_person_87 ?_
            refine lv_iload_n hx hb d_Md_person_88 rfl (lv_at hl 3 rfl) ?_
            obtain ⟨h10, hf⟩ := op_if hf
            refine ms_1 C h rfl h10 d_Md_person_89 (fun H locs h => ?_)
            refine lv_aload_n hx hb d_Md_person_90 rfl (lv_at hl 1 rfl) ?_
            refine mg_1 C h d_Md_person_91 ?_
            refine lv_bipush (v := 22) hx hb d_Md_person_94 (by decide) ?_
            refine lv_iload hx hb d_Md_person_96 (lv_at hl 0 rfl) ?_
            refine lv_iadd hx hb d_Md_person_98 ?_
            refine lv_iload_n hx hb d_Md_person_99 rfl (lv_at hl 4 rfl) ?_
            obtain ⟨h11, hf⟩ := op_if hf
            refine ms_1 C h rfl h11 d_Md_person_100 (fun H locs h => ?_)
            refine lv_aload_n hx hb d_Md_person_101 rfl (lv_at hl 1 rfl) ?_
            refine mg_1 C h d_Md_person_102 ?_
            refine lv_bipush (v := 28) hx hb d_Md_person_105 (by decide) ?_
            refine lv_iload hx hb d_Md_person_107 (lv_at hl 0 rfl) ?_
            refine lv_iadd hx hb d_Md_person_109 ?_
            refine lv_iload hx hb d_Md_person_110 (lv_at hl 5 rfl) ?_
            obtain ⟨h12, hf⟩ := op_if hf
            refine ms_1 C h rfl h12 d_Md_person_112 (fun H locs h => ?_)
            refine lv_aload_n hx hb d_Md_person_113 rfl (lv_at hl 1 rfl) ?_
            refine mg_1 C h d_Md_person_114 ?_
            refine lv_iconst (v := 0) hx hb d_Md_person_117 (by decide) ?_
            refine lv_dup2_11 hx hb d_Md_person_118 rfl rfl ?_
            refine ma_1 C h (j := 0) (by decide) (show ix 0 890 by decide) d_Md_person_119 ?_
            refine lv_iconst (v := 1) hx hb d_Md_person_120 (by decide) ?_
            refine lv_iadd hx hb d_Md_person_121 ?_
            refine ms_1 C h (j := 0) (by decide) (show ix 0 890 by decide) d_Md_person_122 (fun H locs h => ?_)
            refine lv_iload hx hb d_Md_person_123 (lv_at hl 0 rfl) ?_
            exact rt_mi C h hr hlk hf rfl d_Md_person_125
          · have hf := op_t hc hf
            refine lv_bipush (v := (-4)) hx hb d_Md_person_57 (by decide) ?_
            exact rt_mi C h hr hlk hf rfl d_Md_person_59
        · have hf := op_t hc hf
          refine lv_bipush (v := (-2)) hx hb d_Md_person_43 (by decide) ?_
          exact rt_mi C h hr hlk hf rfl d_Md_person_45
  · have hf := op_t hc hf
    refine lv_iconst (v := (-1)) hx hb d_Md_person_10 (by decide) ?_
    exact rt_mi C h hr hlk hf rfl d_Md_person_11
theorem hd_Md_told : y_Md_told.cls ≠ "java/lang/invoke/MethodHandle" ∧ y_Md_told.cls ≠ "java/lang/invoke/VarHandle" ∧ (parseMethodDescriptor y_Md_told.desc).map (fun d => d.parameters.length) = some 1 := by decide +kernel
theorem d_Md_told_0 : decode b_Md_told 0 = .ok (.iload_n 1, 1) := by decide +kernel
theorem d_Md_told_1 : decode b_Md_told 1 = .ok (.tableswitch 103 0 6 #[43, 52, 62, 71, 79, 87, 95], 43) := by decide +kernel
theorem d_Md_told_44 : decode b_Md_told 44 = .ok (.aload_n 0, 1) := by decide +kernel
theorem d_Md_told_45 : decode b_Md_told 45 = .ok (.sipush 170, 3) := by decide +kernel
theorem d_Md_told_48 : decode b_Md_told 48 = .ok (.iconst 2, 1) := by decide +kernel
theorem d_Md_told_49 : decode b_Md_told 49 = .ok (.invokevirtual 135, 3) := by decide +kernel
theorem d_Md_told_52 : decode b_Md_told 52 = .ok (.ireturn, 1) := by decide +kernel
theorem d_Md_told_53 : decode b_Md_told 53 = .ok (.aload_n 0, 1) := by decide +kernel
theorem d_Md_told_54 : decode b_Md_told 54 = .ok (.sipush 175, 3) := by decide +kernel
theorem d_Md_told_57 : decode b_Md_told 57 = .ok (.bipush 99, 2) := by decide +kernel
theorem d_Md_told_59 : decode b_Md_told 59 = .ok (.invokevirtual 135, 3) := by decide +kernel
theorem d_Md_told_62 : decode b_Md_told 62 = .ok (.ireturn, 1) := by decide +kernel
theorem d_Md_told_63 : decode b_Md_told 63 = .ok (.aload_n 0, 1) := by decide +kernel
theorem d_Md_told_64 : decode b_Md_told 64 = .ok (.sipush 180, 3) := by decide +kernel
theorem d_Md_told_67 : decode b_Md_told 67 = .ok (.iconst 0, 1) := by decide +kernel
theorem d_Md_told_68 : decode b_Md_told 68 = .ok (.invokevirtual 135, 3) := by decide +kernel
theorem d_Md_told_71 : decode b_Md_told 71 = .ok (.ireturn, 1) := by decide +kernel
theorem d_Md_told_72 : decode b_Md_told 72 = .ok (.aload_n 0, 1) := by decide +kernel
theorem d_Md_told_73 : decode b_Md_told 73 = .ok (.getfield 9, 3) := by decide +kernel
theorem d_Md_told_76 : decode b_Md_told 76 = .ok (.bipush 6, 2) := by decide +kernel
theorem d_Md_told_78 : decode b_Md_told 78 = .ok (.iaload, 1) := by decide +kernel
theorem d_Md_told_79 : decode b_Md_told 79 = .ok (.ireturn, 1) := by decide +kernel
theorem d_Md_told_80 : decode b_Md_told 80 = .ok (.aload_n 0, 1) := by decide +kernel
theorem d_Md_told_81 : decode b_Md_told 81 = .ok (.getfield 9, 3) := by decide +kernel
theorem d_Md_told_84 : decode b_Md_told 84 = .ok (.bipush 7, 2) := by decide +kernel
theorem d_Md_told_86 : decode b_Md_told 86 = .ok (.iaload, 1) := by decide +kernel
theorem d_Md_told_87 : decode b_Md_told 87 = .ok (.ireturn, 1) := by decide +kernel
theorem d_Md_told_88 : decode b_Md_told 88 = .ok (.aload_n 0, 1) := by decide +kernel
theorem d_Md_told_89 : decode b_Md_told 89 = .ok (.getfield 9, 3) := by decide +kernel
theorem d_Md_told_92 : decode b_Md_told 92 = .ok (.bipush 8, 2) := by decide +kernel
theorem d_Md_told_94 : decode b_Md_told 94 = .ok (.iaload, 1) := by decide +kernel
theorem d_Md_told_95 : decode b_Md_told 95 = .ok (.ireturn, 1) := by decide +kernel
theorem d_Md_told_96 : decode b_Md_told 96 = .ok (.aload_n 0, 1) := by decide +kernel
theorem d_Md_told_97 : decode b_Md_told 97 = .ok (.getfield 9, 3) := by decide +kernel
theorem d_Md_told_100 : decode b_Md_told 100 = .ok (.bipush 9, 2) := by decide +kernel
theorem d_Md_told_102 : decode b_Md_told 102 = .ok (.iaload, 1) := by decide +kernel
theorem d_Md_told_103 : decode b_Md_told 103 = .ok (.ireturn, 1) := by decide +kernel
theorem d_Md_told_104 : decode b_Md_told 104 = .ok (.iconst (-1), 1) := by decide +kernel
theorem d_Md_told_105 : decode b_Md_told 105 = .ok (.ireturn, 1) := by decide +kernel
def p_Md_told (n : Nat) (v1 : Int32) (I : Nat → Int32) (R : Nat → Nat → Int32) : Option (Int32) := (if v1 = 0 then (p_Md_tellsOf n 170 2 I R).bind fun x2 => some x2 else if v1 = 1 then (p_Md_tellsOf n 175 99 I R).bind fun x4 => some x4 else if v1 = 2 then (p_Md_tellsOf n 180 0 I R).bind fun x6 => some x6 else if v1 = 3 then some (R 1 6) else if v1 = 4 then some (R 1 7) else if v1 = 5 then some (R 1 8) else if v1 = 6 then some (R 1 9) else some (-1))
set_option maxHeartbeats 4000000 in
theorem c_Md_told (l : Launch) (n : Nat) (v1 : Int32) (I : Nat → Int32) (R : Nat → Nat → Int32)  : MMi l y_Md_told b_Md_told 2 .int (rL 6) (fun ad adK => [.int v1]) I R ((p_Md_told n v1 I R).map fun r => (r, I, R)) := by
  refine en_mi (by decide) rfl (fun _ _ => Nat.le_of_ble_eq_true rfl) ?_
  intro z hz p e s m args below meth c dC dI ad cI cZ A adK adV ls C hA h hr hlk hl
  have hl : lv_has ls 2 [(0, .ref (ad 0)), (1, .int v1)] := hl
  obtain ⟨z, hf, rfl⟩ := op_map hz
  unfold p_Md_told at hf
  obtain ⟨hx, hb, hml, hown, hT, -⟩ := id C
  refine lv_iload_n hx hb d_Md_told_0 rfl (lv_at hl 1 rfl) ?_
  by_cases hs0 : v1 = 0
  · have hf := op_t hs0 hf
    refine lv_tableIn (tgt := 44) (off := 43) hx hb d_Md_told_1 (by rw [hs0]; decide) (by rw [hs0]; decide) (by rw [hs0]; decide) (by decide) ?_
    refine lv_aload_n hx hb d_Md_told_44 rfl (lv_at hl 0 rfl) ?_
    refine lv_sipush (v := 170) hx hb d_Md_told_45 (by decide) ?_
    refine lv_iconst (v := 2) hx hb d_Md_told_48 (by decide) ?_
    obtain ⟨x2, hc1, hf⟩ := op_bind hf
    refine kc_r (rest := []) C h hA (c_Md_tellsOf l n 170 2 I R) hc1 (cbW 2 hT cd_Md_tellsOf rfl rfl ini_Md ml_Md_135 hd_Md_tellsOf ⟨Nat.le_of_ble_eq_true rfl, Nat.le_of_ble_eq_true rfl⟩) im_Md_tellsOf sp_Md_tellsOf rfl hl.1 rfl (Nat.le_of_ble_eq_true rfl) d_Md_told_49 ⟨Nat.zero_le _, Nat.zero_le _⟩ (fun H locs h => ?_)
    exact rt_mr C h hr hlk hf rfl d_Md_told_52
  · have hf := op_f hs0 hf
    by_cases hs1 : v1 = 1
    · have hf := op_t hs1 hf
      refine lv_tableIn (tgt := 53) (off := 52) hx hb d_Md_told_1 (by rw [hs1]; decide) (by rw [hs1]; decide) (by rw [hs1]; decide) (by decide) ?_
      refine lv_aload_n hx hb d_Md_told_53 rfl (lv_at hl 0 rfl) ?_
      refine lv_sipush (v := 175) hx hb d_Md_told_54 (by decide) ?_
      refine lv_bipush (v := 99) hx hb d_Md_told_57 (by decide) ?_
      obtain ⟨x4, hc3, hf⟩ := op_bind hf
      refine kc_r (rest := []) C h hA (c_Md_tellsOf l n 175 99 I R) hc3 (cbW 2 hT cd_Md_tellsOf rfl rfl ini_Md ml_Md_135 hd_Md_tellsOf ⟨Nat.le_of_ble_eq_true rfl, Nat.le_of_ble_eq_true rfl⟩) im_Md_tellsOf sp_Md_tellsOf rfl hl.1 rfl (Nat.le_of_ble_eq_true rfl) d_Md_told_59 ⟨Nat.zero_le _, Nat.zero_le _⟩ (fun H locs h => ?_)
      exact rt_mr C h hr hlk hf rfl d_Md_told_62
    · have hf := op_f hs1 hf
      by_cases hs2 : v1 = 2
      · have hf := op_t hs2 hf
        refine lv_tableIn (tgt := 63) (off := 62) hx hb d_Md_told_1 (by rw [hs2]; decide) (by rw [hs2]; decide) (by rw [hs2]; decide) (by decide) ?_
        refine lv_aload_n hx hb d_Md_told_63 rfl (lv_at hl 0 rfl) ?_
        refine lv_sipush (v := 180) hx hb d_Md_told_64 (by decide) ?_
        refine lv_iconst (v := 0) hx hb d_Md_told_67 (by decide) ?_
        obtain ⟨x6, hc5, hf⟩ := op_bind hf
        refine kc_r (rest := []) C h hA (c_Md_tellsOf l n 180 0 I R) hc5 (cbW 2 hT cd_Md_tellsOf rfl rfl ini_Md ml_Md_135 hd_Md_tellsOf ⟨Nat.le_of_ble_eq_true rfl, Nat.le_of_ble_eq_true rfl⟩) im_Md_tellsOf sp_Md_tellsOf rfl hl.1 rfl (Nat.le_of_ble_eq_true rfl) d_Md_told_68 ⟨Nat.zero_le _, Nat.zero_le _⟩ (fun H locs h => ?_)
        exact rt_mr C h hr hlk hf rfl d_Md_told_71
      · have hf := op_f hs2 hf
        by_cases hs3 : v1 = 3
        · have hf := op_t hs3 hf
          refine lv_tableIn (tgt := 72) (off := 71) hx hb d_Md_told_1 (by rw [hs3]; decide) (by rw [hs3]; decide) (by rw [hs3]; decide) (by decide) ?_
          refine lv_aload_n hx hb d_Md_told_72 rfl (lv_at hl 0 rfl) ?_
          refine mg_1 C h d_Md_told_73 ?_
          refine lv_bipush (v := 6) hx hb d_Md_told_76 (by decide) ?_
          refine ma_1 C h (j := 6) (by decide) (show ix 6 890 by decide) d_Md_told_78 ?_
          exact rt_mr C h hr hlk hf rfl d_Md_told_79
        · have hf := op_f hs3 hf
          by_cases hs4 : v1 = 4
          · have hf := op_t hs4 hf
            refine lv_tableIn (tgt := 80) (off := 79) hx hb d_Md_told_1 (by rw [hs4]; decide) (by rw [hs4]; decide) (by rw [hs4]; decide) (by decide) ?_
            refine lv_aload_n hx hb d_Md_told_80 rfl (lv_at hl 0 rfl) ?_
            refine mg_1 C h d_Md_told_81 ?_
            refine lv_bipush (v := 7) hx hb d_Md_told_84 (by decide) ?_
            refine ma_1 C h (j := 7) (by decide) (show ix 7 890 by decide) d_Md_told_86 ?_
            exact rt_mr C h hr hlk hf rfl d_Md_told_87
          · have hf := op_f hs4 hf
            by_cases hs5 : v1 = 5
            · have hf := op_t hs5 hf
              refine lv_tableIn (tgt := 88) (off := 87) hx hb d_Md_told_1 (by rw [hs5]; decide) (by rw [hs5]; decide) (by rw [hs5]; decide) (by decide) ?_
              refine lv_aload_n hx hb d_Md_told_88 rfl (lv_at hl 0 rfl) ?_
              refine mg_1 C h d_Md_told_89 ?_
              refine lv_bipush (v := 8) hx hb d_Md_told_92 (by decide) ?_
              refine ma_1 C h (j := 8) (by decide) (show ix 8 890 by decide) d_Md_told_94 ?_
              exact rt_mr C h hr hlk hf rfl d_Md_told_95
            · have hf := op_f hs5 hf
              by_cases hs6 : v1 = 6
              · have hf := op_t hs6 hf
                refine lv_tableIn (tgt := 96) (off := 95) hx hb d_Md_told_1 (by rw [hs6]; decide) (by rw [hs6]; decide) (by rw [hs6]; decide) (by decide) ?_
                refine lv_aload_n hx hb d_Md_told_96 rfl (lv_at hl 0 rfl) ?_
                refine mg_1 C h d_Md_told_97 ?_
                refine lv_bipush (v := 9) hx hb d_Md_told_100 (by decide) ?_
                refine ma_1 C h (j := 9) (by decide) (show ix 9 890 by decide) d_Md_told_102 ?_
                exact rt_mr C h hr hlk hf rfl d_Md_told_103
              · have hf := op_f hs6 hf
                have et0 := tn_ne (v := 0) (by decide) hs0
                have et1 := tn_ne (v := 1) (by decide) hs1
                have et2 := tn_ne (v := 2) (by decide) hs2
                have et3 := tn_ne (v := 3) (by decide) hs3
                have et4 := tn_ne (v := 4) (by decide) hs4
                have et5 := tn_ne (v := 5) (by decide) hs5
                have et6 := tn_ne (v := 6) (by decide) hs6
                refine lv_tableOut (tgt := 104) hx hb d_Md_told_1 (by omega) (by decide) ?_
                refine lv_iconst (v := (-1)) hx hb d_Md_told_104 (by decide) ?_
                exact rt_mr C h hr hlk hf rfl d_Md_told_105
end
section
theorem rL_ok {d d' k : Nat} (h : d < d') (hk : k ≤ 21) : (rL d).frames + 1 ≤ (rL d').frames ∧ 8 + (k + 11) + (rL d).locals ≤ (rL d').locals := by simp only [rL]; omega
theorem rL_c {c d k j : Nat} (hd : 10 ≤ d) (hc : c ≤ 10) (hk : k ≤ 21) : (rL c).frames + 1 ≤ (rL (d + (j + 1))).frames ∧ 8 + (k + 11) + (rL c).locals ≤ (rL (d + (j + 1))).locals := by simp only [rL]; omega
theorem hd_Md_factor : y_Md_factor.cls ≠ "java/lang/invoke/MethodHandle" ∧ y_Md_factor.cls ≠ "java/lang/invoke/VarHandle" ∧ (parseMethodDescriptor y_Md_factor.desc).map (fun d => d.parameters.length) = some 0 := by decide +kernel
theorem hd_Md_spells : y_Md_spells.cls ≠ "java/lang/invoke/MethodHandle" ∧ y_Md_spells.cls ≠ "java/lang/invoke/VarHandle" ∧ (parseMethodDescriptor y_Md_spells.desc).map (fun d => d.parameters.length) = some 1 := by decide +kernel
theorem d_Md_spells_0 : decode b_Md_spells 0 = .ok (.iconst 0, 1) := by decide +kernel
theorem d_Md_spells_1 : decode b_Md_spells 1 = .ok (.istore_n 2, 1) := by decide +kernel
theorem d_Md_spells_2 : decode b_Md_spells 2 = .ok (.iload_n 2, 1) := by decide +kernel
theorem d_Md_spells_3 : decode b_Md_spells 3 = .ok (.aload_n 1, 1) := by decide +kernel
theorem d_Md_spells_4 : decode b_Md_spells 4 = .ok (.invokevirtual 65, 3) := by decide +kernel
theorem d_Md_spells_7 : decode b_Md_spells 7 = .ok (.if_icmp .ge 18, 3) := by decide +kernel
theorem d_Md_spells_10 : decode b_Md_spells 10 = .ok (.aload_n 0, 1) := by decide +kernel
theorem d_Md_spells_11 : decode b_Md_spells 11 = .ok (.aload_n 1, 1) := by decide +kernel
theorem d_Md_spells_12 : decode b_Md_spells 12 = .ok (.iload_n 2, 1) := by decide +kernel
theorem d_Md_spells_13 : decode b_Md_spells 13 = .ok (.invokevirtual 70, 3) := by decide +kernel
theorem d_Md_spells_16 : decode b_Md_spells 16 = .ok (.invokevirtual 74, 3) := by decide +kernel
theorem d_Md_spells_19 : decode b_Md_spells 19 = .ok (.iinc 2 1, 3) := by decide +kernel
theorem d_Md_spells_22 : decode b_Md_spells 22 = .ok (.goto (-20), 3) := by decide +kernel
theorem d_Md_spells_25 : decode b_Md_spells 25 = .ok (.return_, 1) := by decide +kernel
def l_Md_spells_2 (n : Nat) (v1 : Nat)   : Nat → Int32 → (Nat → Int32) → (Nat → Nat → Int32) → Option ((Nat → Int32) × (Nat → Nat → Int32))
  | 0, _, _, _ => none
  | k + 1, v2, I, R => (p_String_length n v1).bind fun x2 => (if x2 ≤ v2 then some (I, R) else (p_String_charAt n v1 v2).bind fun x4 => (p_Md_must n x4 I R).bind fun (I6, R7) => l_Md_spells_2 n v1 k (v2 + 1) I6 R7)
set_option maxHeartbeats 4000000 in
theorem wl_Md_spells_2 {Q : State → Prop}  {p : Program} {l : Launch} {e : Env} {s : State} {m : MethodId} {args : Array Value} {below : List Frame} {meth : Method} {c : Code} {dC : Nat → ClassId} {dI : Nat → Nat → Nat} {ad : Nat → Nat} {cI cZ : ClassId} {A : Nat → Prop} {adK adV : Nat → Nat} (C : mC p s m args c b_Md_spells 3 dC dI cI cZ A adK adV) (hA : ∀ q, s.heap.size ≤ q → A q) (hr : meth.sig.returnType = none) (hlk : meth.locks = false) (n : Nat) (v1 : Nat) (hv1 : v1 < 12)   : ∀ (k : Nat) (v2 : Int32) (I : Nat → Int32) (R : Nat → Nat → Int32) (r0 : Nat → Int32) (r1 : Nat → Nat → Int32), l_Md_spells_2 n v1 k v2 I R = some (r0, r1) → (∀ (ls : Array Slot), lv_has ls 3 [] → ∀ (H : Heap) (locs : List Loc), mH A s.heap dC dI ad cI cZ r0 r1 H locs → W p l e (rL 7) s m args below meth c H locs 0 0 Q (F0 m 25 ls [])) → ∀ (ls : Array Slot), lv_has ls 3 [(0, .ref (ad 0)), (1, .ref (adK v1)), (2, .int v2)] → ∀ (H : Heap) (locs : List Loc), mH A s.heap dC dI ad cI cZ I R H locs → W p l e (rL 7) s m args below meth c H locs 0 0 Q (F0 m 2 ls []) := by
  obtain ⟨hx, hb, hml, hown, hT, -⟩ := id C
  intro k
  induction k with
  | zero => intro v2 I R r0 r1 hf; exact absurd hf (by unfold l_Md_spells_2; exact fun h9 => by cases h9)
  | succ k ih =>
    intro v2 I R r0 r1 hf K ls hl H locs h
    unfold l_Md_spells_2 at hf
    refine lv_iload_n hx hb d_Md_spells_2 rfl (lv_at hl 2 rfl) ?_
    refine lv_aload_n hx hb d_Md_spells_3 rfl (lv_at hl 1 rfl) ?_
    obtain ⟨x2, hc1, hf⟩ := op_bind hf
    refine kt_v (i := v1) (rest := [.int v2]) hx hb hml hown hT (mT C h) hv1 (c_String_length l n adK adV v1 hv1 _ hc1) (cbW 0 hT cd_String_length rfl rfl ini_String ml_Md_65 hd_String_length ⟨Nat.le_of_ble_eq_true rfl, Nat.le_of_ble_eq_true rfl⟩) im_String_length se_String_String_length__String_length rfl hl.1 rfl (Nat.le_of_ble_eq_true rfl) d_Md_spells_4 ⟨Nat.zero_le _, Nat.zero_le _⟩ ?_
    refine lv_icmp_ge (tgt := 25) hx hb d_Md_spells_7 (by decide) (fun hc => ?_) (fun hc => ?_)
    · have hf := op_t hc hf
      obtain ⟨rfl, rfl⟩ := op_i2 hf
      exact K ls (lv_sub hl [] rfl) H locs h
    · have hf := op_f hc hf
      refine lv_aload_n hx hb d_Md_spells_10 rfl (lv_at hl 0 rfl) ?_
      refine lv_aload_n hx hb d_Md_spells_11 rfl (lv_at hl 1 rfl) ?_
      refine lv_iload_n hx hb d_Md_spells_12 rfl (lv_at hl 2 rfl) ?_
      obtain ⟨x4, hc3, hf⟩ := op_bind hf
      refine kt_v (i := v1) (rest := [.ref (ad 0)]) hx hb hml hown hT (mT C h) hv1 (c_String_charAt l n adK adV v1 v2 hv1 _ hc3) (cbW 1 hT cd_String_charAt rfl rfl ini_String ml_Md_70 hd_String_charAt ⟨Nat.le_of_ble_eq_true rfl, Nat.le_of_ble_eq_true rfl⟩) im_String_charAt se_String_String_charAt__String_charAt rfl hl.1 rfl (Nat.le_of_ble_eq_true rfl) d_Md_spells_13 ⟨Nat.zero_le _, Nat.zero_le _⟩ ?_
      obtain ⟨⟨I6, R7⟩, hc5, hf⟩ := op_bind hf
      try dsimp only at hf
      refine kc_v (rest := []) C h hA (c_Md_must l n x4 I R) hc5 (cbW 1 hT cd_Md_must rfl rfl ini_Md ml_Md_74 hd_Md_must ⟨Nat.le_of_ble_eq_true rfl, Nat.le_of_ble_eq_true rfl⟩) im_Md_must sp_Md_must rfl hl.1 rfl (Nat.le_of_ble_eq_true rfl) d_Md_spells_16 ⟨Nat.zero_le _, Nat.zero_le _⟩ (fun H locs h => ?_)
      refine lv_iinc (v := (v2 + 1)) (lv' := [(2, .int (v2 + 1)), (0, .ref (ad 0)), (1, .ref (adK v1))]) hx hb d_Md_spells_19 hl (k := 2) rfl rfl (by decide) rfl (fun ls hl => ?_)
      refine lv_goto (tgt := 2) hx hb d_Md_spells_22 (by decide) ?_
      exact ih (v2 + 1) I6 R7 _ _ hf K ls (lv_sub hl [1, 2, 0] rfl) H locs h
def p_Md_spells (n : Nat) (v1 : Nat) (I : Nat → Int32) (R : Nat → Nat → Int32) : Option (MU) := (l_Md_spells_2 n v1 n 0 I R).bind fun (I8, R9) => some (I8, R9)
set_option maxHeartbeats 4000000 in
theorem c_Md_spells (l : Launch) (n : Nat) (v1 : Nat) (I : Nat → Int32) (R : Nat → Nat → Int32) (hv1 : v1 < 12) : MMv l y_Md_spells b_Md_spells 3 (rL 7) (fun ad adK => [.ref (adK v1)]) I R (p_Md_spells n v1 I R) := by
  refine en_mv (by decide) rfl (fun _ _ => Nat.le_of_ble_eq_true rfl) ?_
  intro z hf p e s m args below meth c dC dI ad cI cZ A adK adV ls C hA h hr hlk hl
  have hl : lv_has ls 3 [(0, .ref (ad 0)), (1, .ref (adK v1))] := hl
  unfold p_Md_spells at hf
  obtain ⟨hx, hb, hml, hown, hT, -⟩ := id C
  refine lv_iconst (v := 0) hx hb d_Md_spells_0 (by decide) ?_
  refine lv_istore_n (lv' := [(2, .int 0), (0, .ref (ad 0)), (1, .ref (adK v1))]) hx hb d_Md_spells_1 rfl hl (by decide) rfl (fun ls hl => ?_)
  obtain ⟨⟨I8, R9⟩, he, hf⟩ := op_bind hf
  try dsimp only at hf
  refine wl_Md_spells_2 C hA hr hlk n v1 hv1 n 0 I R _ _ he (fun ls hl H locs h => ?_) ls (lv_sub hl [1, 2, 0] rfl) s.heap [] h
  exact rt_mv C h hr hlk hf d_Md_spells_25
theorem hd_Md_among : y_Md_among.cls ≠ "java/lang/invoke/MethodHandle" ∧ y_Md_among.cls ≠ "java/lang/invoke/VarHandle" ∧ (parseMethodDescriptor y_Md_among.desc).map (fun d => d.parameters.length) = some 1 := by decide +kernel
theorem d_Md_among_0 : decode b_Md_among 0 = .ok (.iconst 0, 1) := by decide +kernel
theorem d_Md_among_1 : decode b_Md_among 1 = .ok (.istore_n 2, 1) := by decide +kernel
theorem d_Md_among_2 : decode b_Md_among 2 = .ok (.iload_n 2, 1) := by decide +kernel
theorem d_Md_among_3 : decode b_Md_among 3 = .ok (.aload_n 1, 1) := by decide +kernel
theorem d_Md_among_4 : decode b_Md_among 4 = .ok (.invokevirtual 65, 3) := by decide +kernel
theorem d_Md_among_7 : decode b_Md_among 7 = .ok (.if_icmp .ge 33, 3) := by decide +kernel
theorem d_Md_among_10 : decode b_Md_among 10 = .ok (.aload_n 0, 1) := by decide +kernel
theorem d_Md_among_11 : decode b_Md_among 11 = .ok (.invokevirtual 62, 3) := by decide +kernel
theorem d_Md_among_14 : decode b_Md_among 14 = .ok (.aload_n 1, 1) := by decide +kernel
theorem d_Md_among_15 : decode b_Md_among 15 = .ok (.iload_n 2, 1) := by decide +kernel
theorem d_Md_among_16 : decode b_Md_among 16 = .ok (.invokevirtual 70, 3) := by decide +kernel
theorem d_Md_among_19 : decode b_Md_among 19 = .ok (.if_icmp .ne 15, 3) := by decide +kernel
theorem d_Md_among_22 : decode b_Md_among 22 = .ok (.aload_n 0, 1) := by decide +kernel
theorem d_Md_among_23 : decode b_Md_among 23 = .ok (.dup, 1) := by decide +kernel
theorem d_Md_among_24 : decode b_Md_among 24 = .ok (.getfield 52, 3) := by decide +kernel
theorem d_Md_among_27 : decode b_Md_among 27 = .ok (.iconst 1, 1) := by decide +kernel
theorem d_Md_among_28 : decode b_Md_among 28 = .ok (.iadd, 1) := by decide +kernel
theorem d_Md_among_29 : decode b_Md_among 29 = .ok (.putfield 52, 3) := by decide +kernel
theorem d_Md_among_32 : decode b_Md_among 32 = .ok (.iload_n 2, 1) := by decide +kernel
theorem d_Md_among_33 : decode b_Md_among 33 = .ok (.ireturn, 1) := by decide +kernel
theorem d_Md_among_34 : decode b_Md_among 34 = .ok (.iinc 2 1, 3) := by decide +kernel
theorem d_Md_among_37 : decode b_Md_among 37 = .ok (.goto (-35), 3) := by decide +kernel
theorem d_Md_among_40 : decode b_Md_among 40 = .ok (.iconst (-1), 1) := by decide +kernel
theorem d_Md_among_41 : decode b_Md_among 41 = .ok (.ireturn, 1) := by decide +kernel
def l_Md_among_2 (n : Nat) (v1 : Nat)  (I : Nat → Int32) (R : Nat → Nat → Int32) : Nat → Int32 → Option (Int32 × MU)
  | 0, _ => none
  | k + 1, v2 => (p_String_length n v1).bind fun x2 => (if x2 ≤ v2 then some ((-1), I, R) else (p_Md_here n I R).bind fun x4 => (p_String_charAt n v1 v2).bind fun x6 => (if x4 = x6 then some (v2, (upd I 5 ((I 5) + 1)), R) else l_Md_among_2 n v1 I R k (v2 + 1)))
set_option maxHeartbeats 4000000 in
theorem wl_Md_among_2  {p : Program} {l : Launch} {e : Env} {s : State} {m : MethodId} {args : Array Value} {below : List Frame} {meth : Method} {c : Code} {dC : Nat → ClassId} {dI : Nat → Nat → Nat} {ad : Nat → Nat} {cI cZ : ClassId} {A : Nat → Prop} {adK adV : Nat → Nat} (C : mC p s m args c b_Md_among 3 dC dI cI cZ A adK adV) (hA : ∀ q, s.heap.size ≤ q → A q) (hr : meth.sig.returnType = some .int) (hlk : meth.locks = false) (n : Nat) (v1 : Nat) (hv1 : v1 < 12)  (I : Nat → Int32) (R : Nat → Nat → Int32) : ∀ (k : Nat) (v2 : Int32) (z : Int32 × MU), l_Md_among_2 n v1 I R k v2 = some z → ∀ (ls : Array Slot), lv_has ls 3 [(0, .ref (ad 0)), (1, .ref (adK v1)), (2, .int v2)] → ∀ (H : Heap) (locs : List Loc), mH A s.heap dC dI ad cI cZ I R H locs → W p l e (rL 6) s m args below meth c H locs 0 0 (mQi dC dI ad cI cZ A below args s z) (F0 m 2 ls []) := by
  obtain ⟨hx, hb, hml, hown, hT, -⟩ := id C
  intro k
  induction k with
  | zero => intro v2 z hf; exact absurd hf (by unfold l_Md_among_2; exact fun h9 => by cases h9)
  | succ k ih =>
    intro v2 z hf ls hl H locs h
    unfold l_Md_among_2 at hf
    refine lv_iload_n hx hb d_Md_among_2 rfl (lv_at hl 2 rfl) ?_
    refine lv_aload_n hx hb d_Md_among_3 rfl (lv_at hl 1 rfl) ?_
    obtain ⟨x2, hc1, hf⟩ := op_bind hf
    refine kt_v (i := v1) (rest := [.int v2]) hx hb hml hown hT (mT C h) hv1 (c_String_length l n adK adV v1 hv1 _ hc1) (cbW 0 hT cd_String_length rfl rfl ini_String ml_Md_65 hd_String_length ⟨Nat.le_of_ble_eq_true rfl, Nat.le_of_ble_eq_true rfl⟩) im_String_length se_String_String_length__String_length rfl hl.1 rfl (Nat.le_of_ble_eq_true rfl) d_Md_among_4 ⟨Nat.zero_le _, Nat.zero_le _⟩ ?_
    refine lv_icmp_ge (tgt := 40) hx hb d_Md_among_7 (by decide) (fun hc => ?_) (fun hc => ?_)
    · have hf := op_t hc hf
      refine lv_iconst (v := (-1)) hx hb d_Md_among_40 (by decide) ?_
      exact rt_mi C h hr hlk hf rfl d_Md_among_41
    · have hf := op_f hc hf
      refine lv_aload_n hx hb d_Md_among_10 rfl (lv_at hl 0 rfl) ?_
      obtain ⟨x4, hc3, hf⟩ := op_bind hf
      refine kc_r (rest := []) C h hA (c_Md_here l n I R) hc3 (cbW 0 hT cd_Md_here rfl rfl ini_Md ml_Md_62 hd_Md_here ⟨Nat.le_of_ble_eq_true rfl, Nat.le_of_ble_eq_true rfl⟩) im_Md_here sp_Md_here rfl hl.1 rfl (Nat.le_of_ble_eq_true rfl) d_Md_among_11 ⟨Nat.zero_le _, Nat.zero_le _⟩ (fun H locs h => ?_)
      refine lv_aload_n hx hb d_Md_among_14 rfl (lv_at hl 1 rfl) ?_
      refine lv_iload_n hx hb d_Md_among_15 rfl (lv_at hl 2 rfl) ?_
      obtain ⟨x6, hc5, hf⟩ := op_bind hf
      refine kt_v (i := v1) (rest := [.int x4]) hx hb hml hown hT (mT C h) hv1 (c_String_charAt l n adK adV v1 v2 hv1 _ hc5) (cbW 1 hT cd_String_charAt rfl rfl ini_String ml_Md_70 hd_String_charAt ⟨Nat.le_of_ble_eq_true rfl, Nat.le_of_ble_eq_true rfl⟩) im_String_charAt se_String_String_charAt__String_charAt rfl hl.1 rfl (Nat.le_of_ble_eq_true rfl) d_Md_among_16 ⟨Nat.zero_le _, Nat.zero_le _⟩ ?_
      refine lv_icmp_ne (tgt := 34) hx hb d_Md_among_19 (by decide) (fun hc => ?_) (fun hc => ?_)
      · have hf := op_f hc hf
        refine lv_iinc (v := (v2 + 1)) (lv' := [(2, .int (v2 + 1)), (0, .ref (ad 0)), (1, .ref (adK v1))]) hx hb d_Md_among_34 hl (k := 2) rfl rfl (by decide) rfl (fun ls hl => ?_)
        refine lv_goto (tgt := 2) hx hb d_Md_among_37 (by decide) ?_
        exact ih (v2 + 1) _ hf ls (lv_sub hl [1, 2, 0] rfl) H locs h
      · have hf := op_t hc hf
        refine lv_aload_n hx hb d_Md_among_22 rfl (lv_at hl 0 rfl) ?_
        refine lv_dup hx hb d_Md_among_23 rfl ?_
        refine mg_5 C h d_Md_among_24 ?_
        refine lv_iconst (v := 1) hx hb d_Md_among_27 (by decide) ?_
        refine lv_iadd hx hb d_Md_among_28 ?_
        refine mp_5 C h d_Md_among_29 (fun H locs h => ?_)
        refine lv_iload_n hx hb d_Md_among_32 rfl (lv_at hl 2 rfl) ?_
        exact rt_mi C h hr hlk hf rfl d_Md_among_33
def p_Md_among (n : Nat) (v1 : Nat) (I : Nat → Int32) (R : Nat → Nat → Int32) : Option (Int32 × MU) := l_Md_among_2 n v1 I R n 0
set_option maxHeartbeats 4000000 in
theorem c_Md_among (l : Launch) (n : Nat) (v1 : Nat) (I : Nat → Int32) (R : Nat → Nat → Int32) (hv1 : v1 < 12) : MMi l y_Md_among b_Md_among 3 .int (rL 6) (fun ad adK => [.ref (adK v1)]) I R (p_Md_among n v1 I R) := by
  refine en_mi (by decide) rfl (fun _ _ => Nat.le_of_ble_eq_true rfl) ?_
  intro z hf p e s m args below meth c dC dI ad cI cZ A adK adV ls C hA h hr hlk hl
  have hl : lv_has ls 3 [(0, .ref (ad 0)), (1, .ref (adK v1))] := hl
  unfold p_Md_among at hf
  obtain ⟨hx, hb, hml, hown, hT, -⟩ := id C
  refine lv_iconst (v := 0) hx hb d_Md_among_0 (by decide) ?_
  refine lv_istore_n (lv' := [(2, .int 0), (0, .ref (ad 0)), (1, .ref (adK v1))]) hx hb d_Md_among_1 rfl hl (by decide) rfl (fun ls hl => ?_)
  exact wl_Md_among_2 C hA hr hlk n v1 hv1 I R n 0 _ hf ls (lv_sub hl [1, 2, 0] rfl) s.heap [] h
theorem hd_Md_tellsHere : y_Md_tellsHere.cls ≠ "java/lang/invoke/MethodHandle" ∧ y_Md_tellsHere.cls ≠ "java/lang/invoke/VarHandle" ∧ (parseMethodDescriptor y_Md_tellsHere.desc).map (fun d => d.parameters.length) = some 2 := by decide +kernel
theorem d_Md_tellsHere_0 : decode b_Md_tellsHere 0 = .ok (.aload_n 0, 1) := by decide +kernel
theorem d_Md_tellsHere_1 : decode b_Md_tellsHere 1 = .ok (.aload_n 2, 1) := by decide +kernel
theorem d_Md_tellsHere_2 : decode b_Md_tellsHere 2 = .ok (.invokevirtual 107, 3) := by decide +kernel
theorem d_Md_tellsHere_5 : decode b_Md_tellsHere 5 = .ok (.aload_n 0, 1) := by decide +kernel
theorem d_Md_tellsHere_6 : decode b_Md_tellsHere 6 = .ok (.invokevirtual 101, 3) := by decide +kernel
theorem d_Md_tellsHere_9 : decode b_Md_tellsHere 9 = .ok (.istore_n 3, 1) := by decide +kernel
theorem d_Md_tellsHere_10 : decode b_Md_tellsHere 10 = .ok (.aload_n 0, 1) := by decide +kernel
theorem d_Md_tellsHere_11 : decode b_Md_tellsHere 11 = .ok (.getfield 58, 3) := by decide +kernel
theorem d_Md_tellsHere_14 : decode b_Md_tellsHere 14 = .ok (.ifCond .ne 15, 3) := by decide +kernel
theorem d_Md_tellsHere_17 : decode b_Md_tellsHere 17 = .ok (.aload_n 0, 1) := by decide +kernel
theorem d_Md_tellsHere_18 : decode b_Md_tellsHere 18 = .ok (.getfield 9, 3) := by decide +kernel
theorem d_Md_tellsHere_21 : decode b_Md_tellsHere 21 = .ok (.iload_n 1, 1) := by decide +kernel
theorem d_Md_tellsHere_22 : decode b_Md_tellsHere 22 = .ok (.aload_n 0, 1) := by decide +kernel
theorem d_Md_tellsHere_23 : decode b_Md_tellsHere 23 = .ok (.getfield 78, 3) := by decide +kernel
theorem d_Md_tellsHere_26 : decode b_Md_tellsHere 26 = .ok (.iadd, 1) := by decide +kernel
theorem d_Md_tellsHere_27 : decode b_Md_tellsHere 27 = .ok (.iload_n 3, 1) := by decide +kernel
theorem d_Md_tellsHere_28 : decode b_Md_tellsHere 28 = .ok (.iastore, 1) := by decide +kernel
theorem d_Md_tellsHere_29 : decode b_Md_tellsHere 29 = .ok (.return_, 1) := by decide +kernel
def p_Md_tellsHere (n : Nat) (v1 : Int32) (v2 : Nat) (I : Nat → Int32) (R : Nat → Nat → Int32) : Option (MU) := (p_Md_spells n v2 I R).bind fun (I2, R3) => (p_Md_figures n I2 R3).bind fun (x7, I5, R6) => (if (I5 7) = 0 then if ix (v1 + (I5 4)) 890 then some (I5, (upR R6 1 (v1 + (I5 4)).toNatClampNeg x7)) else none else some (I5, R6))
set_option maxHeartbeats 4000000 in
theorem c_Md_tellsHere (l : Launch) (n : Nat) (v1 : Int32) (v2 : Nat) (I : Nat → Int32) (R : Nat → Nat → Int32) (hv2 : v2 < 12) : MMv l y_Md_tellsHere b_Md_tellsHere 4 (rL 8) (fun ad adK => [.int v1, .ref (adK v2)]) I R (p_Md_tellsHere n v1 v2 I R) := by
  refine en_mv (by decide) rfl (fun _ _ => Nat.le_of_ble_eq_true rfl) ?_
  intro z hf p e s m args below meth c dC dI ad cI cZ A adK adV ls C hA h hr hlk hl
  have hl : lv_has ls 4 [(0, .ref (ad 0)), (1, .int v1), (2, .ref (adK v2))] := hl
  unfold p_Md_tellsHere at hf
  obtain ⟨hx, hb, hml, hown, hT, -⟩ := id C
  refine lv_aload_n hx hb d_Md_tellsHere_0 rfl (lv_at hl 0 rfl) ?_
  refine lv_aload_n hx hb d_Md_tellsHere_1 rfl (lv_at hl 2 rfl) ?_
  obtain ⟨⟨I2, R3⟩, hc1, hf⟩ := op_bind hf
  try dsimp only at hf
  refine kc_v (rest := []) C h hA (c_Md_spells l n v2 I R hv2) hc1 (cbW 1 hT cd_Md_spells rfl rfl ini_Md ml_Md_107 hd_Md_spells ⟨Nat.le_of_ble_eq_true rfl, Nat.le_of_ble_eq_true rfl⟩) im_Md_spells sp_Md_spells rfl hl.1 rfl (Nat.le_of_ble_eq_true rfl) d_Md_tellsHere_2 ⟨Nat.zero_le _, Nat.zero_le _⟩ (fun H locs h => ?_)
  refine lv_aload_n hx hb d_Md_tellsHere_5 rfl (lv_at hl 0 rfl) ?_
  obtain ⟨⟨x7, I5, R6⟩, hc4, hf⟩ := op_bind hf
  try dsimp only at hf
  refine kc_i (rest := []) C h hA (c_Md_figures l n I2 R3) hc4 (cbW 0 hT cd_Md_figures rfl rfl ini_Md ml_Md_101 hd_Md_figures ⟨Nat.le_of_ble_eq_true rfl, Nat.le_of_ble_eq_true rfl⟩) im_Md_figures sp_Md_figures rfl hl.1 rfl (Nat.le_of_ble_eq_true rfl) d_Md_tellsHere_6 ⟨Nat.zero_le _, Nat.zero_le _⟩ (fun H locs h => ?_)
  refine lv_istore_n (lv' := [(3, .int x7), (0, .ref (ad 0)), (1, .int v1), (2, .ref (adK v2))]) hx hb d_Md_tellsHere_9 rfl hl (by decide) rfl (fun ls hl => ?_)
  refine lv_aload_n hx hb d_Md_tellsHere_10 rfl (lv_at hl 1 rfl) ?_
  refine mg_7 C h d_Md_tellsHere_11 ?_
  refine lv_if_ne (tgt := 29) hx hb d_Md_tellsHere_14 (by decide) (fun hc => ?_) (fun hc => ?_)
  · have hf := op_f hc hf
    exact rt_mv C h hr hlk hf d_Md_tellsHere_29
  · have hf := op_t hc hf
    refine lv_aload_n hx hb d_Md_tellsHere_17 rfl (lv_at hl 1 rfl) ?_
    refine mg_1 C h d_Md_tellsHere_18 ?_
    refine lv_iload_n hx hb d_Md_tellsHere_21 rfl (lv_at hl 2 rfl) ?_
    refine lv_aload_n hx hb d_Md_tellsHere_22 rfl (lv_at hl 1 rfl) ?_
    refine mg_4 C h d_Md_tellsHere_23 ?_
    refine lv_iadd hx hb d_Md_tellsHere_26 ?_
    refine lv_iload_n hx hb d_Md_tellsHere_27 rfl (lv_at hl 0 rfl) ?_
    obtain ⟨h8, hf⟩ := op_if hf
    refine ms_1 C h rfl h8 d_Md_tellsHere_28 (fun H locs h => ?_)
    exact rt_mv C h hr hlk hf d_Md_tellsHere_29
theorem hd_Md_every : y_Md_every.cls ≠ "java/lang/invoke/MethodHandle" ∧ y_Md_every.cls ≠ "java/lang/invoke/VarHandle" ∧ (parseMethodDescriptor y_Md_every.desc).map (fun d => d.parameters.length) = some 0 := by decide +kernel
theorem d_Md_every_0 : decode b_Md_every 0 = .ok (.aload_n 0, 1) := by decide +kernel
theorem d_Md_every_1 : decode b_Md_every 1 = .ok (.invokevirtual 84, 3) := by decide +kernel
theorem d_Md_every_4 : decode b_Md_every 4 = .ok (.aload_n 0, 1) := by decide +kernel
theorem d_Md_every_5 : decode b_Md_every 5 = .ok (.getfield 58, 3) := by decide +kernel
theorem d_Md_every_8 : decode b_Md_every 8 = .ok (.ifCond .ne 35, 3) := by decide +kernel
theorem d_Md_every_11 : decode b_Md_every 11 = .ok (.aload_n 0, 1) := by decide +kernel
theorem d_Md_every_12 : decode b_Md_every 12 = .ok (.invokevirtual 62, 3) := by decide +kernel
theorem d_Md_every_15 : decode b_Md_every 15 = .ok (.bipush 38, 2) := by decide +kernel
theorem d_Md_every_17 : decode b_Md_every 17 = .ok (.if_icmp .ne 26, 3) := by decide +kernel
theorem d_Md_every_20 : decode b_Md_every 20 = .ok (.aload_n 0, 1) := by decide +kernel
theorem d_Md_every_21 : decode b_Md_every 21 = .ok (.dup, 1) := by decide +kernel
theorem d_Md_every_22 : decode b_Md_every 22 = .ok (.getfield 52, 3) := by decide +kernel
theorem d_Md_every_25 : decode b_Md_every 25 = .ok (.iconst 1, 1) := by decide +kernel
theorem d_Md_every_26 : decode b_Md_every 26 = .ok (.iadd, 1) := by decide +kernel
theorem d_Md_every_27 : decode b_Md_every 27 = .ok (.putfield 52, 3) := by decide +kernel
theorem d_Md_every_30 : decode b_Md_every 30 = .ok (.aload_n 0, 1) := by decide +kernel
theorem d_Md_every_31 : decode b_Md_every 31 = .ok (.invokevirtual 84, 3) := by decide +kernel
theorem d_Md_every_34 : decode b_Md_every 34 = .ok (.aload_n 0, 1) := by decide +kernel
theorem d_Md_every_35 : decode b_Md_every 35 = .ok (.bipush (-2), 2) := by decide +kernel
theorem d_Md_every_37 : decode b_Md_every 37 = .ok (.invokevirtual 87, 3) := by decide +kernel
theorem d_Md_every_40 : decode b_Md_every 40 = .ok (.goto (-36), 3) := by decide +kernel
theorem d_Md_every_43 : decode b_Md_every 43 = .ok (.return_, 1) := by decide +kernel
def l_Md_every_4 (n : Nat) (fac : (Nat → Int32) → (Nat → Nat → Int32) → Option MU)    : Nat → (Nat → Int32) → (Nat → Nat → Int32) → Option ((Nat → Int32) × (Nat → Nat → Int32))
  | 0, _, _ => none
  | k + 1, I, R => (if (I 7) = 0 then (p_Md_here n I R).bind fun x5 => (if x5 = 38 then (fac (upd I 5 ((I 5) + 1)) R).bind fun (I7, R8) => (p_Md_emits n (-2) I7 R8).bind fun (I10, R11) => l_Md_every_4 n fac k I10 R11 else some (I, R)) else some (I, R))
set_option maxHeartbeats 4000000 in
theorem wl_Md_every_4 {Q : State → Prop}  {p : Program} {l : Launch} {e : Env} {s : State} {m : MethodId} {args : Array Value} {below : List Frame} {meth : Method} {c : Code} {dC : Nat → ClassId} {dI : Nat → Nat → Nat} {ad : Nat → Nat} {cI cZ : ClassId} {A : Nat → Prop} {adK adV : Nat → Nat} (C : mC p s m args c b_Md_every 1 dC dI cI cZ A adK adV) (hA : ∀ q, s.heap.size ≤ q → A q) (hr : meth.sig.returnType = none) (hlk : meth.locks = false) (n : Nat) (fac : (Nat → Int32) → (Nat → Nat → Int32) → Option MU) (d : Nat) (hd : 10 ≤ d) (hfac : ∀ (I : Nat → Int32) (R : Nat → Nat → Int32), MMv l y_Md_factor b_Md_factor 5 (rL d) (fun ad adK => []) I R (fac I R))    : ∀ (k : Nat)  (I : Nat → Int32) (R : Nat → Nat → Int32) (r0 : Nat → Int32) (r1 : Nat → Nat → Int32), l_Md_every_4 n fac k I R = some (r0, r1) → (∀ (ls : Array Slot), lv_has ls 1 [] → ∀ (H : Heap) (locs : List Loc), mH A s.heap dC dI ad cI cZ r0 r1 H locs → W p l e (rL (d + 1)) s m args below meth c H locs 0 0 Q (F0 m 43 ls [])) → ∀ (ls : Array Slot), lv_has ls 1 [(0, .ref (ad 0))] → ∀ (H : Heap) (locs : List Loc), mH A s.heap dC dI ad cI cZ I R H locs → W p l e (rL (d + 1)) s m args below meth c H locs 0 0 Q (F0 m 4 ls []) := by
  obtain ⟨hx, hb, hml, hown, hT, -⟩ := id C
  intro k
  induction k with
  | zero => intro I R r0 r1 hf; exact absurd hf (by unfold l_Md_every_4; exact fun h9 => by cases h9)
  | succ k ih =>
    intro I R r0 r1 hf K ls hl H locs h
    unfold l_Md_every_4 at hf
    refine lv_aload_n hx hb d_Md_every_4 rfl (lv_at hl 0 rfl) ?_
    refine mg_7 C h d_Md_every_5 ?_
    refine lv_if_ne (tgt := 43) hx hb d_Md_every_8 (by decide) (fun hc => ?_) (fun hc => ?_)
    · have hf := op_f hc hf
      obtain ⟨rfl, rfl⟩ := op_i2 hf
      exact K ls (lv_sub hl [] rfl) H locs h
    · have hf := op_t hc hf
      refine lv_aload_n hx hb d_Md_every_11 rfl (lv_at hl 0 rfl) ?_
      obtain ⟨x5, hc4, hf⟩ := op_bind hf
      refine kc_r (rest := []) C h hA (c_Md_here l n I R) hc4 (cbW 0 hT cd_Md_here rfl rfl ini_Md ml_Md_62 hd_Md_here (rL_c hd (by decide) (by decide))) im_Md_here sp_Md_here rfl hl.1 rfl (Nat.le_of_ble_eq_true rfl) d_Md_every_12 ⟨Nat.zero_le _, Nat.zero_le _⟩ (fun H locs h => ?_)
      refine lv_bipush (v := 38) hx hb d_Md_every_15 (by decide) ?_
      refine lv_icmp_ne (tgt := 43) hx hb d_Md_every_17 (by decide) (fun hc => ?_) (fun hc => ?_)
      · have hf := op_f hc hf
        obtain ⟨rfl, rfl⟩ := op_i2 hf
        exact K ls (lv_sub hl [] rfl) H locs h
      · have hf := op_t hc hf
        refine lv_aload_n hx hb d_Md_every_20 rfl (lv_at hl 0 rfl) ?_
        refine lv_dup hx hb d_Md_every_21 rfl ?_
        refine mg_5 C h d_Md_every_22 ?_
        refine lv_iconst (v := 1) hx hb d_Md_every_25 (by decide) ?_
        refine lv_iadd hx hb d_Md_every_26 ?_
        refine mp_5 C h d_Md_every_27 (fun H locs h => ?_)
        refine lv_aload_n hx hb d_Md_every_30 rfl (lv_at hl 0 rfl) ?_
        obtain ⟨⟨I7, R8⟩, hc6, hf⟩ := op_bind hf
        try dsimp only at hf
        refine kc_v (rest := []) C h hA (hfac (upd I 5 ((I 5) + 1)) R) hc6 (cbW 0 hT cd_Md_factor rfl rfl ini_Md ml_Md_84 hd_Md_factor (rL_ok (by omega) (by decide))) im_Md_factor sp_Md_factor rfl hl.1 rfl (Nat.le_of_ble_eq_true rfl) d_Md_every_31 ⟨Nat.zero_le _, Nat.zero_le _⟩ (fun H locs h => ?_)
        refine lv_aload_n hx hb d_Md_every_34 rfl (lv_at hl 0 rfl) ?_
        refine lv_bipush (v := (-2)) hx hb d_Md_every_35 (by decide) ?_
        obtain ⟨⟨I10, R11⟩, hc9, hf⟩ := op_bind hf
        try dsimp only at hf
        refine kc_v (rest := []) C h hA (c_Md_emits l n (-2) I7 R8) hc9 (cbW 1 hT cd_Md_emits rfl rfl ini_Md ml_Md_87 hd_Md_emits (rL_c hd (by decide) (by decide))) im_Md_emits sp_Md_emits rfl hl.1 rfl (Nat.le_of_ble_eq_true rfl) d_Md_every_37 ⟨Nat.zero_le _, Nat.zero_le _⟩ (fun H locs h => ?_)
        refine lv_goto (tgt := 4) hx hb d_Md_every_40 (by decide) ?_
        exact ih I10 R11 _ _ hf K ls (lv_sub hl [0] rfl) H locs h
def p_Md_every (n : Nat) (fac : (Nat → Int32) → (Nat → Nat → Int32) → Option MU)  (I : Nat → Int32) (R : Nat → Nat → Int32) : Option (MU) := (fac I R).bind fun (I2, R3) => (l_Md_every_4 n fac n I2 R3).bind fun (I12, R13) => some (I12, R13)
set_option maxHeartbeats 4000000 in
theorem c_Md_every (l : Launch) (n : Nat) (fac : (Nat → Int32) → (Nat → Nat → Int32) → Option MU) (d : Nat) (hd : 10 ≤ d) (hfac : ∀ (I : Nat → Int32) (R : Nat → Nat → Int32), MMv l y_Md_factor b_Md_factor 5 (rL d) (fun ad adK => []) I R (fac I R))  (I : Nat → Int32) (R : Nat → Nat → Int32)  : MMv l y_Md_every b_Md_every 1 (rL (d + 1)) (fun ad adK => []) I R (p_Md_every n fac I R) := by
  refine en_mv (by decide) rfl (fun _ _ => Nat.le_of_ble_eq_true rfl) ?_
  intro z hf p e s m args below meth c dC dI ad cI cZ A adK adV ls C hA h hr hlk hl
  have hl : lv_has ls 1 [(0, .ref (ad 0))] := hl
  unfold p_Md_every at hf
  obtain ⟨hx, hb, hml, hown, hT, -⟩ := id C
  refine lv_aload_n hx hb d_Md_every_0 rfl (lv_at hl 0 rfl) ?_
  obtain ⟨⟨I2, R3⟩, hc1, hf⟩ := op_bind hf
  try dsimp only at hf
  refine kc_v (rest := []) C h hA (hfac I R) hc1 (cbW 0 hT cd_Md_factor rfl rfl ini_Md ml_Md_84 hd_Md_factor (rL_ok (by omega) (by decide))) im_Md_factor sp_Md_factor rfl hl.1 rfl (Nat.le_of_ble_eq_true rfl) d_Md_every_1 ⟨Nat.zero_le _, Nat.zero_le _⟩ (fun H locs h => ?_)
  obtain ⟨⟨I12, R13⟩, he, hf⟩ := op_bind hf
  try dsimp only at hf
  refine wl_Md_every_4 C hA hr hlk n fac d hd hfac n I2 R3 _ _ he (fun ls hl H locs h => ?_) ls (lv_sub hl [0] rfl) H locs h
  exact rt_mv C h hr hlk hf d_Md_every_43
theorem hd_Md_some : y_Md_some.cls ≠ "java/lang/invoke/MethodHandle" ∧ y_Md_some.cls ≠ "java/lang/invoke/VarHandle" ∧ (parseMethodDescriptor y_Md_some.desc).map (fun d => d.parameters.length) = some 0 := by decide +kernel
theorem d_Md_some_0 : decode b_Md_some 0 = .ok (.aload_n 0, 1) := by decide +kernel
theorem d_Md_some_1 : decode b_Md_some 1 = .ok (.invokevirtual 104, 3) := by decide +kernel
theorem d_Md_some_4 : decode b_Md_some 4 = .ok (.aload_n 0, 1) := by decide +kernel
theorem d_Md_some_5 : decode b_Md_some 5 = .ok (.getfield 58, 3) := by decide +kernel
theorem d_Md_some_8 : decode b_Md_some 8 = .ok (.ifCond .ne 35, 3) := by decide +kernel
theorem d_Md_some_11 : decode b_Md_some 11 = .ok (.aload_n 0, 1) := by decide +kernel
theorem d_Md_some_12 : decode b_Md_some 12 = .ok (.invokevirtual 62, 3) := by decide +kernel
theorem d_Md_some_15 : decode b_Md_some 15 = .ok (.bipush 124, 2) := by decide +kernel
theorem d_Md_some_17 : decode b_Md_some 17 = .ok (.if_icmp .ne 26, 3) := by decide +kernel
theorem d_Md_some_20 : decode b_Md_some 20 = .ok (.aload_n 0, 1) := by decide +kernel
theorem d_Md_some_21 : decode b_Md_some 21 = .ok (.dup, 1) := by decide +kernel
theorem d_Md_some_22 : decode b_Md_some 22 = .ok (.getfield 52, 3) := by decide +kernel
theorem d_Md_some_25 : decode b_Md_some 25 = .ok (.iconst 1, 1) := by decide +kernel
theorem d_Md_some_26 : decode b_Md_some 26 = .ok (.iadd, 1) := by decide +kernel
theorem d_Md_some_27 : decode b_Md_some 27 = .ok (.putfield 52, 3) := by decide +kernel
theorem d_Md_some_30 : decode b_Md_some 30 = .ok (.aload_n 0, 1) := by decide +kernel
theorem d_Md_some_31 : decode b_Md_some 31 = .ok (.invokevirtual 104, 3) := by decide +kernel
theorem d_Md_some_34 : decode b_Md_some 34 = .ok (.aload_n 0, 1) := by decide +kernel
theorem d_Md_some_35 : decode b_Md_some 35 = .ok (.bipush (-3), 2) := by decide +kernel
theorem d_Md_some_37 : decode b_Md_some 37 = .ok (.invokevirtual 87, 3) := by decide +kernel
theorem d_Md_some_40 : decode b_Md_some 40 = .ok (.goto (-36), 3) := by decide +kernel
theorem d_Md_some_43 : decode b_Md_some 43 = .ok (.return_, 1) := by decide +kernel
def l_Md_some_4 (n : Nat) (fac : (Nat → Int32) → (Nat → Nat → Int32) → Option MU)    : Nat → (Nat → Int32) → (Nat → Nat → Int32) → Option ((Nat → Int32) × (Nat → Nat → Int32))
  | 0, _, _ => none
  | k + 1, I, R => (if (I 7) = 0 then (p_Md_here n I R).bind fun x5 => (if x5 = 124 then (p_Md_every n fac (upd I 5 ((I 5) + 1)) R).bind fun (I7, R8) => (p_Md_emits n (-3) I7 R8).bind fun (I10, R11) => l_Md_some_4 n fac k I10 R11 else some (I, R)) else some (I, R))
set_option maxHeartbeats 4000000 in
theorem wl_Md_some_4 {Q : State → Prop}  {p : Program} {l : Launch} {e : Env} {s : State} {m : MethodId} {args : Array Value} {below : List Frame} {meth : Method} {c : Code} {dC : Nat → ClassId} {dI : Nat → Nat → Nat} {ad : Nat → Nat} {cI cZ : ClassId} {A : Nat → Prop} {adK adV : Nat → Nat} (C : mC p s m args c b_Md_some 1 dC dI cI cZ A adK adV) (hA : ∀ q, s.heap.size ≤ q → A q) (hr : meth.sig.returnType = none) (hlk : meth.locks = false) (n : Nat) (fac : (Nat → Int32) → (Nat → Nat → Int32) → Option MU) (d : Nat) (hd : 10 ≤ d) (hfac : ∀ (I : Nat → Int32) (R : Nat → Nat → Int32), MMv l y_Md_factor b_Md_factor 5 (rL d) (fun ad adK => []) I R (fac I R))    : ∀ (k : Nat)  (I : Nat → Int32) (R : Nat → Nat → Int32) (r0 : Nat → Int32) (r1 : Nat → Nat → Int32), l_Md_some_4 n fac k I R = some (r0, r1) → (∀ (ls : Array Slot), lv_has ls 1 [] → ∀ (H : Heap) (locs : List Loc), mH A s.heap dC dI ad cI cZ r0 r1 H locs → W p l e (rL (d + 2)) s m args below meth c H locs 0 0 Q (F0 m 43 ls [])) → ∀ (ls : Array Slot), lv_has ls 1 [(0, .ref (ad 0))] → ∀ (H : Heap) (locs : List Loc), mH A s.heap dC dI ad cI cZ I R H locs → W p l e (rL (d + 2)) s m args below meth c H locs 0 0 Q (F0 m 4 ls []) := by
  obtain ⟨hx, hb, hml, hown, hT, -⟩ := id C
  intro k
  induction k with
  | zero => intro I R r0 r1 hf; exact absurd hf (by unfold l_Md_some_4; exact fun h9 => by cases h9)
  | succ k ih =>
    intro I R r0 r1 hf K ls hl H locs h
    unfold l_Md_some_4 at hf
    refine lv_aload_n hx hb d_Md_some_4 rfl (lv_at hl 0 rfl) ?_
    refine mg_7 C h d_Md_some_5 ?_
    refine lv_if_ne (tgt := 43) hx hb d_Md_some_8 (by decide) (fun hc => ?_) (fun hc => ?_)
    · have hf := op_f hc hf
      obtain ⟨rfl, rfl⟩ := op_i2 hf
      exact K ls (lv_sub hl [] rfl) H locs h
    · have hf := op_t hc hf
      refine lv_aload_n hx hb d_Md_some_11 rfl (lv_at hl 0 rfl) ?_
      obtain ⟨x5, hc4, hf⟩ := op_bind hf
      refine kc_r (rest := []) C h hA (c_Md_here l n I R) hc4 (cbW 0 hT cd_Md_here rfl rfl ini_Md ml_Md_62 hd_Md_here (rL_c hd (by decide) (by decide))) im_Md_here sp_Md_here rfl hl.1 rfl (Nat.le_of_ble_eq_true rfl) d_Md_some_12 ⟨Nat.zero_le _, Nat.zero_le _⟩ (fun H locs h => ?_)
      refine lv_bipush (v := 124) hx hb d_Md_some_15 (by decide) ?_
      refine lv_icmp_ne (tgt := 43) hx hb d_Md_some_17 (by decide) (fun hc => ?_) (fun hc => ?_)
      · have hf := op_f hc hf
        obtain ⟨rfl, rfl⟩ := op_i2 hf
        exact K ls (lv_sub hl [] rfl) H locs h
      · have hf := op_t hc hf
        refine lv_aload_n hx hb d_Md_some_20 rfl (lv_at hl 0 rfl) ?_
        refine lv_dup hx hb d_Md_some_21 rfl ?_
        refine mg_5 C h d_Md_some_22 ?_
        refine lv_iconst (v := 1) hx hb d_Md_some_25 (by decide) ?_
        refine lv_iadd hx hb d_Md_some_26 ?_
        refine mp_5 C h d_Md_some_27 (fun H locs h => ?_)
        refine lv_aload_n hx hb d_Md_some_30 rfl (lv_at hl 0 rfl) ?_
        obtain ⟨⟨I7, R8⟩, hc6, hf⟩ := op_bind hf
        try dsimp only at hf
        refine kc_v (rest := []) C h hA (c_Md_every l n fac d hd hfac (upd I 5 ((I 5) + 1)) R) hc6 (cbW 0 hT cd_Md_every rfl rfl ini_Md ml_Md_104 hd_Md_every (rL_ok (by omega) (by decide))) im_Md_every sp_Md_every rfl hl.1 rfl (Nat.le_of_ble_eq_true rfl) d_Md_some_31 ⟨Nat.zero_le _, Nat.zero_le _⟩ (fun H locs h => ?_)
        refine lv_aload_n hx hb d_Md_some_34 rfl (lv_at hl 0 rfl) ?_
        refine lv_bipush (v := (-3)) hx hb d_Md_some_35 (by decide) ?_
        obtain ⟨⟨I10, R11⟩, hc9, hf⟩ := op_bind hf
        try dsimp only at hf
        refine kc_v (rest := []) C h hA (c_Md_emits l n (-3) I7 R8) hc9 (cbW 1 hT cd_Md_emits rfl rfl ini_Md ml_Md_87 hd_Md_emits (rL_c hd (by decide) (by decide))) im_Md_emits sp_Md_emits rfl hl.1 rfl (Nat.le_of_ble_eq_true rfl) d_Md_some_37 ⟨Nat.zero_le _, Nat.zero_le _⟩ (fun H locs h => ?_)
        refine lv_goto (tgt := 4) hx hb d_Md_some_40 (by decide) ?_
        exact ih I10 R11 _ _ hf K ls (lv_sub hl [0] rfl) H locs h
def p_Md_some (n : Nat) (fac : (Nat → Int32) → (Nat → Nat → Int32) → Option MU)  (I : Nat → Int32) (R : Nat → Nat → Int32) : Option (MU) := (p_Md_every n fac I R).bind fun (I2, R3) => (l_Md_some_4 n fac n I2 R3).bind fun (I12, R13) => some (I12, R13)
set_option maxHeartbeats 4000000 in
theorem c_Md_some (l : Launch) (n : Nat) (fac : (Nat → Int32) → (Nat → Nat → Int32) → Option MU) (d : Nat) (hd : 10 ≤ d) (hfac : ∀ (I : Nat → Int32) (R : Nat → Nat → Int32), MMv l y_Md_factor b_Md_factor 5 (rL d) (fun ad adK => []) I R (fac I R))  (I : Nat → Int32) (R : Nat → Nat → Int32)  : MMv l y_Md_some b_Md_some 1 (rL (d + 2)) (fun ad adK => []) I R (p_Md_some n fac I R) := by
  refine en_mv (by decide) rfl (fun _ _ => Nat.le_of_ble_eq_true rfl) ?_
  intro z hf p e s m args below meth c dC dI ad cI cZ A adK adV ls C hA h hr hlk hl
  have hl : lv_has ls 1 [(0, .ref (ad 0))] := hl
  unfold p_Md_some at hf
  obtain ⟨hx, hb, hml, hown, hT, -⟩ := id C
  refine lv_aload_n hx hb d_Md_some_0 rfl (lv_at hl 0 rfl) ?_
  obtain ⟨⟨I2, R3⟩, hc1, hf⟩ := op_bind hf
  try dsimp only at hf
  refine kc_v (rest := []) C h hA (c_Md_every l n fac d hd hfac I R) hc1 (cbW 0 hT cd_Md_every rfl rfl ini_Md ml_Md_104 hd_Md_every (rL_ok (by omega) (by decide))) im_Md_every sp_Md_every rfl hl.1 rfl (Nat.le_of_ble_eq_true rfl) d_Md_some_1 ⟨Nat.zero_le _, Nat.zero_le _⟩ (fun H locs h => ?_)
  obtain ⟨⟨I12, R13⟩, he, hf⟩ := op_bind hf
  try dsimp only at hf
  refine wl_Md_some_4 C hA hr hlk n fac d hd hfac n I2 R3 _ _ he (fun ls hl H locs h => ?_) ls (lv_sub hl [0] rfl) H locs h
  exact rt_mv C h hr hlk hf d_Md_some_43
theorem d_Md_factor_0 : decode b_Md_factor 0 = .ok (.aload_n 0, 1) := by decide +kernel
theorem d_Md_factor_1 : decode b_Md_factor 1 = .ok (.getfield 58, 3) := by decide +kernel
theorem d_Md_factor_4 : decode b_Md_factor 4 = .ok (.ifCond .eq 4, 3) := by decide +kernel
theorem d_Md_factor_7 : decode b_Md_factor 7 = .ok (.return_, 1) := by decide +kernel
theorem d_Md_factor_8 : decode b_Md_factor 8 = .ok (.aload_n 0, 1) := by decide +kernel
theorem d_Md_factor_9 : decode b_Md_factor 9 = .ok (.invokevirtual 62, 3) := by decide +kernel
theorem d_Md_factor_12 : decode b_Md_factor 12 = .ok (.istore_n 1, 1) := by decide +kernel
theorem d_Md_factor_13 : decode b_Md_factor 13 = .ok (.iload_n 1, 1) := by decide +kernel
theorem d_Md_factor_14 : decode b_Md_factor 14 = .ok (.bipush 33, 2) := by decide +kernel
theorem d_Md_factor_16 : decode b_Md_factor 16 = .ok (.if_icmp .eq 9, 3) := by decide +kernel
theorem d_Md_factor_19 : decode b_Md_factor 19 = .ok (.iload_n 1, 1) := by decide +kernel
theorem d_Md_factor_20 : decode b_Md_factor 20 = .ok (.bipush 40, 2) := by decide +kernel
theorem d_Md_factor_22 : decode b_Md_factor 22 = .ok (.if_icmp .ne 90, 3) := by decide +kernel
theorem d_Md_factor_25 : decode b_Md_factor 25 = .ok (.aload_n 0, 1) := by decide +kernel
theorem d_Md_factor_26 : decode b_Md_factor 26 = .ok (.aload_n 0, 1) := by decide +kernel
theorem d_Md_factor_27 : decode b_Md_factor 27 = .ok (.getfield 81, 3) := by decide +kernel
theorem d_Md_factor_30 : decode b_Md_factor 30 = .ok (.iconst 5, 1) := by decide +kernel
theorem d_Md_factor_31 : decode b_Md_factor 31 = .ok (.if_icmp .ne 7, 3) := by decide +kernel
theorem d_Md_factor_34 : decode b_Md_factor 34 = .ok (.iconst 1, 1) := by decide +kernel
theorem d_Md_factor_35 : decode b_Md_factor 35 = .ok (.goto 4, 3) := by decide +kernel
theorem d_Md_factor_38 : decode b_Md_factor 38 = .ok (.iconst 0, 1) := by decide +kernel
theorem d_Md_factor_39 : decode b_Md_factor 39 = .ok (.putfield 58, 3) := by decide +kernel
theorem d_Md_factor_42 : decode b_Md_factor 42 = .ok (.aload_n 0, 1) := by decide +kernel
theorem d_Md_factor_43 : decode b_Md_factor 43 = .ok (.dup, 1) := by decide +kernel
theorem d_Md_factor_44 : decode b_Md_factor 44 = .ok (.getfield 81, 3) := by decide +kernel
theorem d_Md_factor_47 : decode b_Md_factor 47 = .ok (.iconst 1, 1) := by decide +kernel
theorem d_Md_factor_48 : decode b_Md_factor 48 = .ok (.iadd, 1) := by decide +kernel
theorem d_Md_factor_49 : decode b_Md_factor 49 = .ok (.putfield 81, 3) := by decide +kernel
theorem d_Md_factor_52 : decode b_Md_factor 52 = .ok (.aload_n 0, 1) := by decide +kernel
theorem d_Md_factor_53 : decode b_Md_factor 53 = .ok (.dup, 1) := by decide +kernel
theorem d_Md_factor_54 : decode b_Md_factor 54 = .ok (.getfield 52, 3) := by decide +kernel
theorem d_Md_factor_57 : decode b_Md_factor 57 = .ok (.aload_n 0, 1) := by decide +kernel
theorem d_Md_factor_58 : decode b_Md_factor 58 = .ok (.getfield 58, 3) := by decide +kernel
theorem d_Md_factor_61 : decode b_Md_factor 61 = .ok (.ifCond .eq 7, 3) := by decide +kernel
theorem d_Md_factor_64 : decode b_Md_factor 64 = .ok (.iconst 0, 1) := by decide +kernel
theorem d_Md_factor_65 : decode b_Md_factor 65 = .ok (.goto 4, 3) := by decide +kernel
theorem d_Md_factor_68 : decode b_Md_factor 68 = .ok (.iconst 1, 1) := by decide +kernel
theorem d_Md_factor_69 : decode b_Md_factor 69 = .ok (.iadd, 1) := by decide +kernel
theorem d_Md_factor_70 : decode b_Md_factor 70 = .ok (.putfield 52, 3) := by decide +kernel
theorem d_Md_factor_73 : decode b_Md_factor 73 = .ok (.iload_n 1, 1) := by decide +kernel
theorem d_Md_factor_74 : decode b_Md_factor 74 = .ok (.bipush 33, 2) := by decide +kernel
theorem d_Md_factor_76 : decode b_Md_factor 76 = .ok (.if_icmp .ne 15, 3) := by decide +kernel
theorem d_Md_factor_79 : decode b_Md_factor 79 = .ok (.aload_n 0, 1) := by decide +kernel
theorem d_Md_factor_80 : decode b_Md_factor 80 = .ok (.invokevirtual 84, 3) := by decide +kernel
theorem d_Md_factor_83 : decode b_Md_factor 83 = .ok (.aload_n 0, 1) := by decide +kernel
theorem d_Md_factor_84 : decode b_Md_factor 84 = .ok (.iconst (-1), 1) := by decide +kernel
theorem d_Md_factor_85 : decode b_Md_factor 85 = .ok (.invokevirtual 87, 3) := by decide +kernel
theorem d_Md_factor_88 : decode b_Md_factor 88 = .ok (.goto 13, 3) := by decide +kernel
theorem d_Md_factor_91 : decode b_Md_factor 91 = .ok (.aload_n 0, 1) := by decide +kernel
theorem d_Md_factor_92 : decode b_Md_factor 92 = .ok (.invokevirtual 90, 3) := by decide +kernel
theorem d_Md_factor_95 : decode b_Md_factor 95 = .ok (.aload_n 0, 1) := by decide +kernel
theorem d_Md_factor_96 : decode b_Md_factor 96 = .ok (.bipush 41, 2) := by decide +kernel
theorem d_Md_factor_98 : decode b_Md_factor 98 = .ok (.invokevirtual 74, 3) := by decide +kernel
theorem d_Md_factor_101 : decode b_Md_factor 101 = .ok (.aload_n 0, 1) := by decide +kernel
theorem d_Md_factor_102 : decode b_Md_factor 102 = .ok (.dup, 1) := by decide +kernel
theorem d_Md_factor_103 : decode b_Md_factor 103 = .ok (.getfield 81, 3) := by decide +kernel
theorem d_Md_factor_106 : decode b_Md_factor 106 = .ok (.iconst 1, 1) := by decide +kernel
theorem d_Md_factor_107 : decode b_Md_factor 107 = .ok (.isub, 1) := by decide +kernel
theorem d_Md_factor_108 : decode b_Md_factor 108 = .ok (.putfield 81, 3) := by decide +kernel
theorem d_Md_factor_111 : decode b_Md_factor 111 = .ok (.return_, 1) := by decide +kernel
theorem d_Md_factor_112 : decode b_Md_factor 112 = .ok (.aload_n 0, 1) := by decide +kernel
theorem d_Md_factor_113 : decode b_Md_factor 113 = .ok (.ldc 93, 2) := by decide +kernel
theorem d_Md_factor_115 : decode b_Md_factor 115 = .ok (.invokevirtual 95, 3) := by decide +kernel
theorem d_Md_factor_118 : decode b_Md_factor 118 = .ok (.istore_n 2, 1) := by decide +kernel
theorem d_Md_factor_119 : decode b_Md_factor 119 = .ok (.aload_n 0, 1) := by decide +kernel
theorem d_Md_factor_120 : decode b_Md_factor 120 = .ok (.iload_n 2, 1) := by decide +kernel
theorem d_Md_factor_121 : decode b_Md_factor 121 = .ok (.iconst (-1), 1) := by decide +kernel
theorem d_Md_factor_122 : decode b_Md_factor 122 = .ok (.if_icmp .ne 7, 3) := by decide +kernel
theorem d_Md_factor_125 : decode b_Md_factor 125 = .ok (.iconst 1, 1) := by decide +kernel
theorem d_Md_factor_126 : decode b_Md_factor 126 = .ok (.goto 4, 3) := by decide +kernel
theorem d_Md_factor_129 : decode b_Md_factor 129 = .ok (.iconst 0, 1) := by decide +kernel
theorem d_Md_factor_130 : decode b_Md_factor 130 = .ok (.putfield 58, 3) := by decide +kernel
theorem d_Md_factor_133 : decode b_Md_factor 133 = .ok (.aload_n 0, 1) := by decide +kernel
theorem d_Md_factor_134 : decode b_Md_factor 134 = .ok (.getfield 58, 3) := by decide +kernel
theorem d_Md_factor_137 : decode b_Md_factor 137 = .ok (.ifCond .eq 7, 3) := by decide +kernel
theorem d_Md_factor_140 : decode b_Md_factor 140 = .ok (.iconst 0, 1) := by decide +kernel
theorem d_Md_factor_141 : decode b_Md_factor 141 = .ok (.goto 9, 3) := by decide +kernel
theorem d_Md_factor_144 : decode b_Md_factor 144 = .ok (.aload_n 0, 1) := by decide +kernel
theorem d_Md_factor_145 : decode b_Md_factor 145 = .ok (.ldc 99, 2) := by decide +kernel
theorem d_Md_factor_147 : decode b_Md_factor 147 = .ok (.invokevirtual 95, 3) := by decide +kernel
theorem d_Md_factor_150 : decode b_Md_factor 150 = .ok (.istore_n 3, 1) := by decide +kernel
theorem d_Md_factor_151 : decode b_Md_factor 151 = .ok (.aload_n 0, 1) := by decide +kernel
theorem d_Md_factor_152 : decode b_Md_factor 152 = .ok (.aload_n 0, 1) := by decide +kernel
theorem d_Md_factor_153 : decode b_Md_factor 153 = .ok (.getfield 58, 3) := by decide +kernel
theorem d_Md_factor_156 : decode b_Md_factor 156 = .ok (.ifCond .ne 8, 3) := by decide +kernel
theorem d_Md_factor_159 : decode b_Md_factor 159 = .ok (.iload_n 3, 1) := by decide +kernel
theorem d_Md_factor_160 : decode b_Md_factor 160 = .ok (.iconst (-1), 1) := by decide +kernel
theorem d_Md_factor_161 : decode b_Md_factor 161 = .ok (.if_icmp .ne 7, 3) := by decide +kernel
theorem d_Md_factor_164 : decode b_Md_factor 164 = .ok (.iconst 1, 1) := by decide +kernel
theorem d_Md_factor_165 : decode b_Md_factor 165 = .ok (.goto 4, 3) := by decide +kernel
theorem d_Md_factor_168 : decode b_Md_factor 168 = .ok (.iconst 0, 1) := by decide +kernel
theorem d_Md_factor_169 : decode b_Md_factor 169 = .ok (.putfield 58, 3) := by decide +kernel
theorem d_Md_factor_172 : decode b_Md_factor 172 = .ok (.aload_n 0, 1) := by decide +kernel
theorem d_Md_factor_173 : decode b_Md_factor 173 = .ok (.invokevirtual 101, 3) := by decide +kernel
theorem d_Md_factor_176 : decode b_Md_factor 176 = .ok (.istore 4, 2) := by decide +kernel
theorem d_Md_factor_178 : decode b_Md_factor 178 = .ok (.aload_n 0, 1) := by decide +kernel
theorem d_Md_factor_179 : decode b_Md_factor 179 = .ok (.iload_n 2, 1) := by decide +kernel
theorem d_Md_factor_180 : decode b_Md_factor 180 = .ok (.bipush 8, 2) := by decide +kernel
theorem d_Md_factor_182 : decode b_Md_factor 182 = .ok (.iload_n 3, 1) := by decide +kernel
theorem d_Md_factor_183 : decode b_Md_factor 183 = .ok (.imul, 1) := by decide +kernel
theorem d_Md_factor_184 : decode b_Md_factor 184 = .ok (.iadd, 1) := by decide +kernel
theorem d_Md_factor_185 : decode b_Md_factor 185 = .ok (.bipush 32, 2) := by decide +kernel
theorem d_Md_factor_187 : decode b_Md_factor 187 = .ok (.iload 4, 2) := by decide +kernel
theorem d_Md_factor_189 : decode b_Md_factor 189 = .ok (.imul, 1) := by decide +kernel
theorem d_Md_factor_190 : decode b_Md_factor 190 = .ok (.iadd, 1) := by decide +kernel
theorem d_Md_factor_191 : decode b_Md_factor 191 = .ok (.invokevirtual 87, 3) := by decide +kernel
theorem d_Md_factor_194 : decode b_Md_factor 194 = .ok (.return_, 1) := by decide +kernel
def p_Md_factorB (n : Nat) (fac : (Nat → Int32) → (Nat → Nat → Int32) → Option MU)  (I : Nat → Int32) (R : Nat → Nat → Int32) : Option (MU) := (if (I 7) = 0 then (p_Md_here n I R).bind fun x2 => (if x2 = 33 then (if (I 8) = 5 then some 1 else some 0 : Option (Int32)).bind fun x4 => if isZ x4 then (if (((upd (upd I 7 x4) 8 (((upd I 7 x4) 8) + 1))) 7) = 0 then some 1 else some 0 : Option (Int32)).bind fun x7 => (if x2 = 33 then (fac ((upd (upd (upd I 7 x4) 8 (((upd I 7 x4) 8) + 1)) 5 (((((upd (upd I 7 x4) 8 (((upd I 7 x4) 8) + 1))) 5) + x7)))) R).bind fun (I18, R19) => (p_Md_emits n (-1) I18 R19).bind fun (I21, R22) => some (I21, R22) else (p_Md_some n fac ((upd (upd (upd I 7 x4) 8 (((upd I 7 x4) 8) + 1)) 5 (((((upd (upd I 7 x4) 8 (((upd I 7 x4) 8) + 1))) 5) + x7)))) R).bind fun (I12, R13) => (p_Md_must n 41 I12 R13).bind fun (I15, R16) => some (I15, R16) : Option ((Nat → Int32) × (Nat → Nat → Int32))).bind fun (I9, R10) => some ((upd I9 8 ((I9 8) - 1)), R10) else none else (if x2 = 40 then (if (I 8) = 5 then some 1 else some 0 : Option (Int32)).bind fun x49 => if isZ x49 then (if (((upd (upd I 7 x49) 8 (((upd I 7 x49) 8) + 1))) 7) = 0 then some 1 else some 0 : Option (Int32)).bind fun x52 => (if x2 = 33 then (fac ((upd (upd (upd I 7 x49) 8 (((upd I 7 x49) 8) + 1)) 5 (((((upd (upd I 7 x49) 8 (((upd I 7 x49) 8) + 1))) 5) + x52)))) R).bind fun (I63, R64) => (p_Md_emits n (-1) I63 R64).bind fun (I66, R67) => some (I66, R67) else (p_Md_some n fac ((upd (upd (upd I 7 x49) 8 (((upd I 7 x49) 8) + 1)) 5 (((((upd (upd I 7 x49) 8 (((upd I 7 x49) 8) + 1))) 5) + x52)))) R).bind fun (I57, R58) => (p_Md_must n 41 I57 R58).bind fun (I60, R61) => some (I60, R61) : Option ((Nat → Int32) × (Nat → Nat → Int32))).bind fun (I54, R55) => some ((upd I54 8 ((I54 8) - 1)), R55) else none else (p_Md_among n 5 I R).bind fun (x26, I24, R25) => (if x26 = (-1) then some 1 else some 0 : Option (Int32)).bind fun x28 => if isZ x28 then (if ((upd I24 7 x28) 7) = 0 then (p_Md_among n 6 (upd I24 7 x28) R25).bind fun (x37, I35, R36) => some (x37, I35, R36) else some (0, (upd I24 7 x28), R25) : Option (Int32 × (Nat → Int32) × (Nat → Nat → Int32))).bind fun (x31, I32, R33) => (if (I32 7) = 0 then (if x31 = (-1) then some 1 else some 0) else some 1 : Option (Int32)).bind fun x39 => if isZ x39 then (p_Md_figures n (upd I32 7 x39) R33).bind fun (x44, I42, R43) => (p_Md_emits n (((x26 + (8 * x31)) + (32 * x44))) I42 R43).bind fun (I46, R47) => some (I46, R47) else none else none)) else some (I, R))
set_option maxHeartbeats 4000000 in
theorem c_Md_factorB (l : Launch) (n : Nat) (fac : (Nat → Int32) → (Nat → Nat → Int32) → Option MU) (d : Nat) (hd : 10 ≤ d) (hfac : ∀ (I : Nat → Int32) (R : Nat → Nat → Int32), MMv l y_Md_factor b_Md_factor 5 (rL d) (fun ad adK => []) I R (fac I R))  (I : Nat → Int32) (R : Nat → Nat → Int32)  : MMv l y_Md_factor b_Md_factor 5 (rL (d + 3)) (fun ad adK => []) I R (p_Md_factorB n fac I R) := by
  refine en_mv (by decide) rfl (fun _ _ => Nat.le_of_ble_eq_true rfl) ?_
  intro z hf p e s m args below meth c dC dI ad cI cZ A adK adV ls C hA h hr hlk hl
  have hl : lv_has ls 5 [(0, .ref (ad 0))] := hl
  unfold p_Md_factorB at hf
  obtain ⟨hx, hb, hml, hown, hT, -⟩ := id C
  refine lv_aload_n hx hb d_Md_factor_0 rfl (lv_at hl 0 rfl) ?_
  refine mg_7 C h d_Md_factor_1 ?_
  refine lv_if_eq (tgt := 8) hx hb d_Md_factor_4 (by decide) (fun hc => ?_) (fun hc => ?_)
  · have hf := op_t hc hf
    refine lv_aload_n hx hb d_Md_factor_8 rfl (lv_at hl 0 rfl) ?_
    obtain ⟨x2, hc1, hf⟩ := op_bind hf
    refine kc_r (rest := []) C h hA (c_Md_here l n I R) hc1 (cbW 0 hT cd_Md_here rfl rfl ini_Md ml_Md_62 hd_Md_here (rL_c hd (by decide) (by decide))) im_Md_here sp_Md_here rfl hl.1 rfl (Nat.le_of_ble_eq_true rfl) d_Md_factor_9 ⟨Nat.zero_le _, Nat.zero_le _⟩ (fun H locs h => ?_)
    refine lv_istore_n (lv' := [(1, .int x2), (0, .ref (ad 0))]) hx hb d_Md_factor_12 rfl hl (by decide) rfl (fun ls hl => ?_)
    refine lv_iload_n hx hb d_Md_factor_13 rfl (lv_at hl 0 rfl) ?_
    refine lv_bipush (v := 33) hx hb d_Md_factor_14 (by decide) ?_
    refine lv_icmp_eq (tgt := 25) hx hb d_Md_factor_16 (by decide) (fun hc => ?_) (fun hc => ?_)
    · have hf := op_t hc hf
      refine lv_aload_n hx hb d_Md_factor_25 rfl (lv_at hl 1 rfl) ?_
      refine lv_aload_n hx hb d_Md_factor_26 rfl (lv_at hl 1 rfl) ?_
      refine mg_8 C h d_Md_factor_27 ?_
      refine lv_iconst (v := 5) hx hb d_Md_factor_30 (by decide) ?_
      obtain ⟨x4, he, hf⟩ := op_bind hf
      have K3 : ∀ (ls : Array Slot), lv_has ls 5 [(0, .ref (ad 0)), (1, .int x2)] → ∀ (H : Heap) (locs : List Loc), mH A s.heap dC dI ad cI cZ I R H locs → W p l e (rL (d + 3)) s m args below meth c H locs 0 0 (mQv dC dI ad cI cZ A below args s z) (F0 m 39 ls [.int x4, .ref (ad 0)]) := by
        intro ls hl H locs h
        obtain ⟨h5, hf⟩ := op_if hf
        refine mp_7 C h h5 d_Md_factor_39 (fun H locs h => ?_)
        refine lv_aload_n hx hb d_Md_factor_42 rfl (lv_at hl 0 rfl) ?_
        refine lv_dup hx hb d_Md_factor_43 rfl ?_
        refine mg_8 C h d_Md_factor_44 ?_
        refine lv_iconst (v := 1) hx hb d_Md_factor_47 (by decide) ?_
        refine lv_iadd hx hb d_Md_factor_48 ?_
        refine mp_8 C h d_Md_factor_49 (fun H locs h => ?_)
        refine lv_aload_n hx hb d_Md_factor_52 rfl (lv_at hl 0 rfl) ?_
        refine lv_dup hx hb d_Md_factor_53 rfl ?_
        refine mg_5 C h d_Md_factor_54 ?_
        refine lv_aload_n hx hb d_Md_factor_57 rfl (lv_at hl 0 rfl) ?_
        refine mg_7 C h d_Md_factor_58 ?_
        obtain ⟨x7, he, hf⟩ := op_bind hf
        have K6 : ∀ (ls : Array Slot), lv_has ls 5 [(0, .ref (ad 0)), (1, .int x2)] → ∀ (H : Heap) (locs : List Loc), mH A s.heap dC dI ad cI cZ (upd (upd I 7 x4) 8 (((upd I 7 x4) 8) + 1)) R H locs → W p l e (rL (d + 3)) s m args below meth c H locs 0 0 (mQv dC dI ad cI cZ A below args s z) (F0 m 69 ls [.int x7, .int (((upd (upd I 7 x4) 8 (((upd I 7 x4) 8) + 1))) 5), .ref (ad 0)]) := by
          intro ls hl H locs h
          refine lv_iadd hx hb d_Md_factor_69 ?_
          refine mp_5 C h d_Md_factor_70 (fun H locs h => ?_)
          refine lv_iload_n hx hb d_Md_factor_73 rfl (lv_at hl 1 rfl) ?_
          refine lv_bipush (v := 33) hx hb d_Md_factor_74 (by decide) ?_
          obtain ⟨⟨I9, R10⟩, he, hf⟩ := op_bind hf
          try dsimp only at hf
          have K8 : ∀ (ls : Array Slot), lv_has ls 5 [(0, .ref (ad 0))] → ∀ (H : Heap) (locs : List Loc), mH A s.heap dC dI ad cI cZ I9 R10 H locs → W p l e (rL (d + 3)) s m args below meth c H locs 0 0 (mQv dC dI ad cI cZ A below args s z) (F0 m 101 ls []) := by
            intro ls hl H locs h
            refine lv_aload_n hx hb d_Md_factor_101 rfl (lv_at hl 0 rfl) ?_
            refine lv_dup hx hb d_Md_factor_102 rfl ?_
            refine mg_8 C h d_Md_factor_103 ?_
            refine lv_iconst (v := 1) hx hb d_Md_factor_106 (by decide) ?_
            refine lv_isub hx hb d_Md_factor_107 ?_
            refine mp_8 C h d_Md_factor_108 (fun H locs h => ?_)
            exact rt_mv C h hr hlk hf d_Md_factor_111
          have hf := he
          refine lv_icmp_ne (tgt := 91) hx hb d_Md_factor_76 (by decide) (fun hc => ?_) (fun hc => ?_)
          · have hf := op_f hc hf
            refine lv_aload_n hx hb d_Md_factor_91 rfl (lv_at hl 0 rfl) ?_
            obtain ⟨⟨I12, R13⟩, hc11, hf⟩ := op_bind hf
            try dsimp only at hf
            refine kc_v (rest := []) C h hA (c_Md_some l n fac d hd hfac ((upd (upd (upd I 7 x4) 8 (((upd I 7 x4) 8) + 1)) 5 (((((upd (upd I 7 x4) 8 (((upd I 7 x4) 8) + 1))) 5) + x7)))) R) hc11 (cbW 0 hT cd_Md_some rfl rfl ini_Md ml_Md_90 hd_Md_some (rL_ok (by omega) (by decide))) im_Md_some sp_Md_some rfl hl.1 rfl (Nat.le_of_ble_eq_true rfl) d_Md_factor_92 ⟨Nat.zero_le _, Nat.zero_le _⟩ (fun H locs h => ?_)
            refine lv_aload_n hx hb d_Md_factor_95 rfl (lv_at hl 0 rfl) ?_
            refine lv_bipush (v := 41) hx hb d_Md_factor_96 (by decide) ?_
            obtain ⟨⟨I15, R16⟩, hc14, hf⟩ := op_bind hf
            try dsimp only at hf
            refine kc_v (rest := []) C h hA (c_Md_must l n 41 I12 R13) hc14 (cbW 1 hT cd_Md_must rfl rfl ini_Md ml_Md_74 hd_Md_must (rL_c hd (by decide) (by decide))) im_Md_must sp_Md_must rfl hl.1 rfl (Nat.le_of_ble_eq_true rfl) d_Md_factor_98 ⟨Nat.zero_le _, Nat.zero_le _⟩ (fun H locs h => ?_)
            obtain ⟨rfl, rfl⟩ := op_i2 hf
            exact K8 ls (lv_sub hl [0] rfl) H locs h
          · have hf := op_t hc hf
            refine lv_aload_n hx hb d_Md_factor_79 rfl (lv_at hl 0 rfl) ?_
            obtain ⟨⟨I18, R19⟩, hc17, hf⟩ := op_bind hf
            try dsimp only at hf
            refine kc_v (rest := []) C h hA (hfac ((upd (upd (upd I 7 x4) 8 (((upd I 7 x4) 8) + 1)) 5 (((((upd (upd I 7 x4) 8 (((upd I 7 x4) 8) + 1))) 5) + x7)))) R) hc17 (cbW 0 hT cd_Md_factor rfl rfl ini_Md ml_Md_84 hd_Md_factor (rL_ok (by omega) (by decide))) im_Md_factor sp_Md_factor rfl hl.1 rfl (Nat.le_of_ble_eq_true rfl) d_Md_factor_80 ⟨Nat.zero_le _, Nat.zero_le _⟩ (fun H locs h => ?_)
            refine lv_aload_n hx hb d_Md_factor_83 rfl (lv_at hl 0 rfl) ?_
            refine lv_iconst (v := (-1)) hx hb d_Md_factor_84 (by decide) ?_
            obtain ⟨⟨I21, R22⟩, hc20, hf⟩ := op_bind hf
            try dsimp only at hf
            refine kc_v (rest := []) C h hA (c_Md_emits l n (-1) I18 R19) hc20 (cbW 1 hT cd_Md_emits rfl rfl ini_Md ml_Md_87 hd_Md_emits (rL_c hd (by decide) (by decide))) im_Md_emits sp_Md_emits rfl hl.1 rfl (Nat.le_of_ble_eq_true rfl) d_Md_factor_85 ⟨Nat.zero_le _, Nat.zero_le _⟩ (fun H locs h => ?_)
            refine lv_goto (tgt := 101) hx hb d_Md_factor_88 (by decide) ?_
            obtain ⟨rfl, rfl⟩ := op_i2 hf
            exact K8 ls (lv_sub hl [0] rfl) H locs h
        have hf := he
        refine lv_if_eq (tgt := 68) hx hb d_Md_factor_61 (by decide) (fun hc => ?_) (fun hc => ?_)
        · have hf := op_t hc hf
          refine lv_iconst (v := 1) hx hb d_Md_factor_68 (by decide) ?_
          obtain rfl := op_i1 hf
          exact K6 ls (lv_sub hl [0, 1] rfl) H locs h
        · have hf := op_f hc hf
          refine lv_iconst (v := 0) hx hb d_Md_factor_64 (by decide) ?_
          refine lv_goto (tgt := 69) hx hb d_Md_factor_65 (by decide) ?_
          obtain rfl := op_i1 hf
          exact K6 ls (lv_sub hl [0, 1] rfl) H locs h
      have hf := he
      refine lv_icmp_ne (tgt := 38) hx hb d_Md_factor_31 (by decide) (fun hc => ?_) (fun hc => ?_)
      · have hf := op_f hc hf
        refine lv_iconst (v := 0) hx hb d_Md_factor_38 (by decide) ?_
        obtain rfl := op_i1 hf
        exact K3 ls (lv_sub hl [1, 0] rfl) H locs h
      · have hf := op_t hc hf
        refine lv_iconst (v := 1) hx hb d_Md_factor_34 (by decide) ?_
        refine lv_goto (tgt := 39) hx hb d_Md_factor_35 (by decide) ?_
        obtain rfl := op_i1 hf
        exact K3 ls (lv_sub hl [1, 0] rfl) H locs h
    · have hf := op_f hc hf
      refine lv_iload_n hx hb d_Md_factor_19 rfl (lv_at hl 0 rfl) ?_
      refine lv_bipush (v := 40) hx hb d_Md_factor_20 (by decide) ?_
      refine lv_icmp_ne (tgt := 112) hx hb d_Md_factor_22 (by decide) (fun hc => ?_) (fun hc => ?_)
      · have hf := op_f hc hf
        refine lv_aload_n hx hb d_Md_factor_112 rfl (lv_at hl 1 rfl) ?_
        refine va_ldcS hx hb hown (C.2.2.2.2.2.2.2 _ (List.mem_of_getElem? (i := 8) rfl)) d_Md_factor_113 ?_
        obtain ⟨⟨x26, I24, R25⟩, hc23, hf⟩ := op_bind hf
        try dsimp only at hf
        refine kc_i (rest := []) C h hA (c_Md_among l n 5 I R (by decide)) hc23 (cbW 1 hT cd_Md_among rfl rfl ini_Md ml_Md_95 hd_Md_among (rL_c hd (by decide) (by decide))) im_Md_among sp_Md_among rfl hl.1 rfl (Nat.le_of_ble_eq_true rfl) d_Md_factor_115 ⟨Nat.zero_le _, Nat.zero_le _⟩ (fun H locs h => ?_)
        refine lv_istore_n (lv' := [(2, .int x26), (1, .int x2), (0, .ref (ad 0))]) hx hb d_Md_factor_118 rfl hl (by decide) rfl (fun ls hl => ?_)
        refine lv_aload_n hx hb d_Md_factor_119 rfl (lv_at hl 2 rfl) ?_
        refine lv_iload_n hx hb d_Md_factor_120 rfl (lv_at hl 0 rfl) ?_
        refine lv_iconst (v := (-1)) hx hb d_Md_factor_121 (by decide) ?_
        obtain ⟨x28, he, hf⟩ := op_bind hf
        have K27 : ∀ (ls : Array Slot), lv_has ls 5 [(0, .ref (ad 0)), (2, .int x26)] → ∀ (H : Heap) (locs : List Loc), mH A s.heap dC dI ad cI cZ I24 R25 H locs → W p l e (rL (d + 3)) s m args below meth c H locs 0 0 (mQv dC dI ad cI cZ A below args s z) (F0 m 130 ls [.int x28, .ref (ad 0)]) := by
          intro ls hl H locs h
          obtain ⟨h29, hf⟩ := op_if hf
          refine mp_7 C h h29 d_Md_factor_130 (fun H locs h => ?_)
          refine lv_aload_n hx hb d_Md_factor_133 rfl (lv_at hl 0 rfl) ?_
          refine mg_7 C h d_Md_factor_134 ?_
          obtain ⟨⟨x31, I32, R33⟩, he, hf⟩ := op_bind hf
          try dsimp only at hf
          have K30 : ∀ (ls : Array Slot), lv_has ls 5 [(0, .ref (ad 0)), (2, .int x26)] → ∀ (H : Heap) (locs : List Loc), mH A s.heap dC dI ad cI cZ I32 R33 H locs → W p l e (rL (d + 3)) s m args below meth c H locs 0 0 (mQv dC dI ad cI cZ A below args s z) (F0 m 150 ls [.int x31]) := by
            intro ls hl H locs h
            refine lv_istore_n (lv' := [(3, .int x31), (0, .ref (ad 0)), (2, .int x26)]) hx hb d_Md_factor_150 rfl hl (by decide) rfl (fun ls hl => ?_)
            refine lv_aload_n hx hb d_Md_factor_151 rfl (lv_at hl 1 rfl) ?_
            refine lv_aload_n hx hb d_Md_factor_152 rfl (lv_at hl 1 rfl) ?_
            refine mg_7 C h d_Md_factor_153 ?_
            obtain ⟨x39, he, hf⟩ := op_bind hf
            have K38 : ∀ (ls : Array Slot), lv_has ls 5 [(0, .ref (ad 0)), (2, .int x26), (3, .int x31)] → ∀ (H : Heap) (locs : List Loc), mH A s.heap dC dI ad cI cZ I32 R33 H locs → W p l e (rL (d + 3)) s m args below meth c H locs 0 0 (mQv dC dI ad cI cZ A below args s z) (F0 m 169 ls [.int x39, .ref (ad 0)]) := by
              intro ls hl H locs h
              obtain ⟨h40, hf⟩ := op_if hf
              refine mp_7 C h h40 d_Md_factor_169 (fun H locs h => ?_)
              refine lv_aload_n hx hb d_Md_factor_172 rfl (lv_at hl 0 rfl) ?_
              obtain ⟨⟨x44, I42, R43⟩, hc41, hf⟩ := op_bind hf
              try dsimp only at hf
              refine kc_i (rest := []) C h hA (c_Md_figures l n (upd I32 7 x39) R33) hc41 (cbW 0 hT cd_Md_figures rfl rfl ini_Md ml_Md_101 hd_Md_figures (rL_c hd (by decide) (by decide))) im_Md_figures sp_Md_figures rfl hl.1 rfl (Nat.le_of_ble_eq_true rfl) d_Md_factor_173 ⟨Nat.zero_le _, Nat.zero_le _⟩ (fun H locs h => ?_)
              refine lv_istore (lv' := [(4, .int x44), (0, .ref (ad 0)), (2, .int x26), (3, .int x31)]) hx hb d_Md_factor_176 hl (by decide) rfl (fun ls hl => ?_)
              refine lv_aload_n hx hb d_Md_factor_178 rfl (lv_at hl 1 rfl) ?_
              refine lv_iload_n hx hb d_Md_factor_179 rfl (lv_at hl 2 rfl) ?_
              refine lv_bipush (v := 8) hx hb d_Md_factor_180 (by decide) ?_
              refine lv_iload_n hx hb d_Md_factor_182 rfl (lv_at hl 3 rfl) ?_
              refine lv_imul hx hb d_Md_factor_183 ?_
              refine lv_iadd hx hb d_Md_factor_184 ?_
              refine lv_bipush (v := 32) hx hb d_Md_factor_185 (by decide) ?_
              refine lv_iload hx hb d_Md_factor_187 (lv_at hl 0 rfl) ?_
              refine lv_imul hx hb d_Md_factor_189 ?_
              refine lv_iadd hx hb d_Md_factor_190 ?_
              obtain ⟨⟨I46, R47⟩, hc45, hf⟩ := op_bind hf
              try dsimp only at hf
              refine kc_v (rest := []) C h hA (c_Md_emits l n (((x26 + (8 * x31)) + (32 * x44))) I42 R43) hc45 (cbW 1 hT cd_Md_emits rfl rfl ini_Md ml_Md_87 hd_Md_emits (rL_c hd (by decide) (by decide))) im_Md_emits sp_Md_emits rfl hl.1 rfl (Nat.le_of_ble_eq_true rfl) d_Md_factor_191 ⟨Nat.zero_le _, Nat.zero_le _⟩ (fun H locs h => ?_)
              exact rt_mv C h hr hlk hf d_Md_factor_194
            have hf := he
            refine lv_if_ne (tgt := 164) hx hb d_Md_factor_156 (by decide) (fun hc => ?_) (fun hc => ?_)
            · have hf := op_f hc hf
              refine lv_iconst (v := 1) hx hb d_Md_factor_164 (by decide) ?_
              refine lv_goto (tgt := 169) hx hb d_Md_factor_165 (by decide) ?_
              obtain rfl := op_i1 hf
              exact K38 ls (lv_sub hl [1, 2, 0] rfl) H locs h
            · have hf := op_t hc hf
              refine lv_iload_n hx hb d_Md_factor_159 rfl (lv_at hl 0 rfl) ?_
              refine lv_iconst (v := (-1)) hx hb d_Md_factor_160 (by decide) ?_
              refine lv_icmp_ne (tgt := 168) hx hb d_Md_factor_161 (by decide) (fun hc => ?_) (fun hc => ?_)
              · have hf := op_f hc hf
                refine lv_iconst (v := 0) hx hb d_Md_factor_168 (by decide) ?_
                obtain rfl := op_i1 hf
                exact K38 ls (lv_sub hl [1, 2, 0] rfl) H locs h
              · have hf := op_t hc hf
                refine lv_iconst (v := 1) hx hb d_Md_factor_164 (by decide) ?_
                refine lv_goto (tgt := 169) hx hb d_Md_factor_165 (by decide) ?_
                obtain rfl := op_i1 hf
                exact K38 ls (lv_sub hl [1, 2, 0] rfl) H locs h
          have hf := he
          refine lv_if_eq (tgt := 144) hx hb d_Md_factor_137 (by decide) (fun hc => ?_) (fun hc => ?_)
          · have hf := op_t hc hf
            refine lv_aload_n hx hb d_Md_factor_144 rfl (lv_at hl 0 rfl) ?_
            refine va_ldcS hx hb hown (C.2.2.2.2.2.2.2 _ (List.mem_of_getElem? (i := 9) rfl)) d_Md_factor_145 ?_
            obtain ⟨⟨x37, I35, R36⟩, hc34, hf⟩ := op_bind hf
            try dsimp only at hf
            refine kc_i (rest := []) C h hA (c_Md_among l n 6 (upd I24 7 x28) R25 (by decide)) hc34 (cbW 1 hT cd_Md_among rfl rfl ini_Md ml_Md_95 hd_Md_among (rL_c hd (by decide) (by decide))) im_Md_among sp_Md_among rfl hl.1 rfl (Nat.le_of_ble_eq_true rfl) d_Md_factor_147 ⟨Nat.zero_le _, Nat.zero_le _⟩ (fun H locs h => ?_)
            obtain ⟨rfl, rfl, rfl⟩ := op_i3 hf
            exact K30 ls (lv_sub hl [0, 1] rfl) H locs h
          · have hf := op_f hc hf
            refine lv_iconst (v := 0) hx hb d_Md_factor_140 (by decide) ?_
            refine lv_goto (tgt := 150) hx hb d_Md_factor_141 (by decide) ?_
            obtain ⟨rfl, rfl, rfl⟩ := op_i3 hf
            exact K30 ls (lv_sub hl [0, 1] rfl) H locs h
        have hf := he
        refine lv_icmp_ne (tgt := 129) hx hb d_Md_factor_122 (by decide) (fun hc => ?_) (fun hc => ?_)
        · have hf := op_f hc hf
          refine lv_iconst (v := 0) hx hb d_Md_factor_129 (by decide) ?_
          obtain rfl := op_i1 hf
          exact K27 ls (lv_sub hl [2, 0] rfl) H locs h
        · have hf := op_t hc hf
          refine lv_iconst (v := 1) hx hb d_Md_factor_125 (by decide) ?_
          refine lv_goto (tgt := 130) hx hb d_Md_factor_126 (by decide) ?_
          obtain rfl := op_i1 hf
          exact K27 ls (lv_sub hl [2, 0] rfl) H locs h
      · have hf := op_t hc hf
        refine lv_aload_n hx hb d_Md_factor_25 rfl (lv_at hl 1 rfl) ?_
        refine lv_aload_n hx hb d_Md_factor_26 rfl (lv_at hl 1 rfl) ?_
        refine mg_8 C h d_Md_factor_27 ?_
        refine lv_iconst (v := 5) hx hb d_Md_factor_30 (by decide) ?_
        obtain ⟨x49, he, hf⟩ := op_bind hf
        have K48 : ∀ (ls : Array Slot), lv_has ls 5 [(0, .ref (ad 0)), (1, .int x2)] → ∀ (H : Heap) (locs : List Loc), mH A s.heap dC dI ad cI cZ I R H locs → W p l e (rL (d + 3)) s m args below meth c H locs 0 0 (mQv dC dI ad cI cZ A below args s z) (F0 m 39 ls [.int x49, .ref (ad 0)]) := by
          intro ls hl H locs h
          obtain ⟨h50, hf⟩ := op_if hf
          refine mp_7 C h h50 d_Md_factor_39 (fun H locs h => ?_)
          refine lv_aload_n hx hb d_Md_factor_42 rfl (lv_at hl 0 rfl) ?_
          refine lv_dup hx hb d_Md_factor_43 rfl ?_
          refine mg_8 C h d_Md_factor_44 ?_
          refine lv_iconst (v := 1) hx hb d_Md_factor_47 (by decide) ?_
          refine lv_iadd hx hb d_Md_factor_48 ?_
          refine mp_8 C h d_Md_factor_49 (fun H locs h => ?_)
          refine lv_aload_n hx hb d_Md_factor_52 rfl (lv_at hl 0 rfl) ?_
          refine lv_dup hx hb d_Md_factor_53 rfl ?_
          refine mg_5 C h d_Md_factor_54 ?_
          refine lv_aload_n hx hb d_Md_factor_57 rfl (lv_at hl 0 rfl) ?_
          refine mg_7 C h d_Md_factor_58 ?_
          obtain ⟨x52, he, hf⟩ := op_bind hf
          have K51 : ∀ (ls : Array Slot), lv_has ls 5 [(0, .ref (ad 0)), (1, .int x2)] → ∀ (H : Heap) (locs : List Loc), mH A s.heap dC dI ad cI cZ (upd (upd I 7 x49) 8 (((upd I 7 x49) 8) + 1)) R H locs → W p l e (rL (d + 3)) s m args below meth c H locs 0 0 (mQv dC dI ad cI cZ A below args s z) (F0 m 69 ls [.int x52, .int (((upd (upd I 7 x49) 8 (((upd I 7 x49) 8) + 1))) 5), .ref (ad 0)]) := by
            intro ls hl H locs h
            refine lv_iadd hx hb d_Md_factor_69 ?_
            refine mp_5 C h d_Md_factor_70 (fun H locs h => ?_)
            refine lv_iload_n hx hb d_Md_factor_73 rfl (lv_at hl 1 rfl) ?_
            refine lv_bipush (v := 33) hx hb d_Md_factor_74 (by decide) ?_
            obtain ⟨⟨I54, R55⟩, he, hf⟩ := op_bind hf
            try dsimp only at hf
            have K53 : ∀ (ls : Array Slot), lv_has ls 5 [(0, .ref (ad 0))] → ∀ (H : Heap) (locs : List Loc), mH A s.heap dC dI ad cI cZ I54 R55 H locs → W p l e (rL (d + 3)) s m args below meth c H locs 0 0 (mQv dC dI ad cI cZ A below args s z) (F0 m 101 ls []) := by
              intro ls hl H locs h
              refine lv_aload_n hx hb d_Md_factor_101 rfl (lv_at hl 0 rfl) ?_
              refine lv_dup hx hb d_Md_factor_102 rfl ?_
              refine mg_8 C h d_Md_factor_103 ?_
              refine lv_iconst (v := 1) hx hb d_Md_factor_106 (by decide) ?_
              refine lv_isub hx hb d_Md_factor_107 ?_
              refine mp_8 C h d_Md_factor_108 (fun H locs h => ?_)
              exact rt_mv C h hr hlk hf d_Md_factor_111
            have hf := he
            refine lv_icmp_ne (tgt := 91) hx hb d_Md_factor_76 (by decide) (fun hc => ?_) (fun hc => ?_)
            · have hf := op_f hc hf
              refine lv_aload_n hx hb d_Md_factor_91 rfl (lv_at hl 0 rfl) ?_
              obtain ⟨⟨I57, R58⟩, hc56, hf⟩ := op_bind hf
              try dsimp only at hf
              refine kc_v (rest := []) C h hA (c_Md_some l n fac d hd hfac ((upd (upd (upd I 7 x49) 8 (((upd I 7 x49) 8) + 1)) 5 (((((upd (upd I 7 x49) 8 (((upd I 7 x49) 8) + 1))) 5) + x52)))) R) hc56 (cbW 0 hT cd_Md_some rfl rfl ini_Md ml_Md_90 hd_Md_some (rL_ok (by omega) (by decide))) im_Md_some sp_Md_some rfl hl.1 rfl (Nat.le_of_ble_eq_true rfl) d_Md_factor_92 ⟨Nat.zero_le _, Nat.zero_le _⟩ (fun H locs h => ?_)
              refine lv_aload_n hx hb d_Md_factor_95 rfl (lv_at hl 0 rfl) ?_
              refine lv_bipush (v := 41) hx hb d_Md_factor_96 (by decide) ?_
              obtain ⟨⟨I60, R61⟩, hc59, hf⟩ := op_bind hf
              try dsimp only at hf
              refine kc_v (rest := []) C h hA (c_Md_must l n 41 I57 R58) hc59 (cbW 1 hT cd_Md_must rfl rfl ini_Md ml_Md_74 hd_Md_must (rL_c hd (by decide) (by decide))) im_Md_must sp_Md_must rfl hl.1 rfl (Nat.le_of_ble_eq_true rfl) d_Md_factor_98 ⟨Nat.zero_le _, Nat.zero_le _⟩ (fun H locs h => ?_)
              obtain ⟨rfl, rfl⟩ := op_i2 hf
              exact K53 ls (lv_sub hl [0] rfl) H locs h
            · have hf := op_t hc hf
              refine lv_aload_n hx hb d_Md_factor_79 rfl (lv_at hl 0 rfl) ?_
              obtain ⟨⟨I63, R64⟩, hc62, hf⟩ := op_bind hf
              try dsimp only at hf
              refine kc_v (rest := []) C h hA (hfac ((upd (upd (upd I 7 x49) 8 (((upd I 7 x49) 8) + 1)) 5 (((((upd (upd I 7 x49) 8 (((upd I 7 x49) 8) + 1))) 5) + x52)))) R) hc62 (cbW 0 hT cd_Md_factor rfl rfl ini_Md ml_Md_84 hd_Md_factor (rL_ok (by omega) (by decide))) im_Md_factor sp_Md_factor rfl hl.1 rfl (Nat.le_of_ble_eq_true rfl) d_Md_factor_80 ⟨Nat.zero_le _, Nat.zero_le _⟩ (fun H locs h => ?_)
              refine lv_aload_n hx hb d_Md_factor_83 rfl (lv_at hl 0 rfl) ?_
              refine lv_iconst (v := (-1)) hx hb d_Md_factor_84 (by decide) ?_
              obtain ⟨⟨I66, R67⟩, hc65, hf⟩ := op_bind hf
              try dsimp only at hf
              refine kc_v (rest := []) C h hA (c_Md_emits l n (-1) I63 R64) hc65 (cbW 1 hT cd_Md_emits rfl rfl ini_Md ml_Md_87 hd_Md_emits (rL_c hd (by decide) (by decide))) im_Md_emits sp_Md_emits rfl hl.1 rfl (Nat.le_of_ble_eq_true rfl) d_Md_factor_85 ⟨Nat.zero_le _, Nat.zero_le _⟩ (fun H locs h => ?_)
              refine lv_goto (tgt := 101) hx hb d_Md_factor_88 (by decide) ?_
              obtain ⟨rfl, rfl⟩ := op_i2 hf
              exact K53 ls (lv_sub hl [0] rfl) H locs h
          have hf := he
          refine lv_if_eq (tgt := 68) hx hb d_Md_factor_61 (by decide) (fun hc => ?_) (fun hc => ?_)
          · have hf := op_t hc hf
            refine lv_iconst (v := 1) hx hb d_Md_factor_68 (by decide) ?_
            obtain rfl := op_i1 hf
            exact K51 ls (lv_sub hl [0, 1] rfl) H locs h
          · have hf := op_f hc hf
            refine lv_iconst (v := 0) hx hb d_Md_factor_64 (by decide) ?_
            refine lv_goto (tgt := 69) hx hb d_Md_factor_65 (by decide) ?_
            obtain rfl := op_i1 hf
            exact K51 ls (lv_sub hl [0, 1] rfl) H locs h
        have hf := he
        refine lv_icmp_ne (tgt := 38) hx hb d_Md_factor_31 (by decide) (fun hc => ?_) (fun hc => ?_)
        · have hf := op_f hc hf
          refine lv_iconst (v := 0) hx hb d_Md_factor_38 (by decide) ?_
          obtain rfl := op_i1 hf
          exact K48 ls (lv_sub hl [1, 0] rfl) H locs h
        · have hf := op_t hc hf
          refine lv_iconst (v := 1) hx hb d_Md_factor_34 (by decide) ?_
          refine lv_goto (tgt := 39) hx hb d_Md_factor_35 (by decide) ?_
          obtain rfl := op_i1 hf
          exact K48 ls (lv_sub hl [1, 0] rfl) H locs h
  · have hf := op_f hc hf
    exact rt_mv C h hr hlk hf d_Md_factor_7
def p_Md_factor (n : Nat) : Nat → (Nat → Int32) → (Nat → Nat → Int32) → Option MU
  | 0 => fun _ _ => none
  | j + 1 => p_Md_factorB n (p_Md_factor n j)
theorem c_Md_factor (l : Launch) (n : Nat) : ∀ (j : Nat) (I : Nat → Int32) (R : Nat → Nat → Int32), MMv l y_Md_factor b_Md_factor 5 (rL (10 + 3 * j)) (fun ad adK => []) I R (p_Md_factor n j I R)
  | 0, I, R => fun z hz => by cases hz
  | j + 1, I, R => c_Md_factorB l n (p_Md_factor n j) (10 + 3 * j) (by omega) (c_Md_factor l n j) I R
def p_Md_someT (n : Nat) (I : Nat → Int32) (R : Nat → Nat → Int32) : Option MU := p_Md_some n (p_Md_factor n 8) I R
theorem c_Md_someT (l : Launch) (n : Nat) (I : Nat → Int32) (R : Nat → Nat → Int32) : MMv l y_Md_some b_Md_some 1 (rL 36) (fun ad adK => []) I R (p_Md_someT n I R) := c_Md_some l n (p_Md_factor n 8) (10 + 3 * 8) (by decide) (c_Md_factor l n 8) I R
end
section
theorem i_vc : Claimed_1_1 ∧ Claimed_1_2 := sorry
end
