-- ===== PART A: goes FIRST, ahead of the names: the tables' words, and 'selects' of the private methods out of them =====
/-- a private method of a class that the tables say can be made, by its rows of tables_1 -/
def lw_okq (q : MethodName × Nat) : Prop := (q.1.cls ≠ "java/lang/invoke/MethodHandle" ∧ q.1.cls ≠ "java/lang/invoke/VarHandle") ∧ Cond.instantiable q.1.cls q.2 ∈ tables_1 ∧ Cond.privateMethod q.1 ∈ tables_1 ∧ Cond.instanceMethod q.1 ∈ tables_1
theorem lw_p0 : lw_okq (⟨"FortyGates$Reader", "readClause", "()Z"⟩, 4) := ⟨⟨by decide +kernel, by decide +kernel⟩, List.mem_of_getElem? (i := 197) (by decide +kernel), List.mem_of_getElem? (i := 406) (by decide +kernel), List.mem_of_getElem? (i := 407) (by decide +kernel)⟩
theorem lw_p1 : lw_okq (⟨"FortyGates$Reader", "sees", "(C)Z"⟩, 4) := ⟨⟨by decide +kernel, by decide +kernel⟩, List.mem_of_getElem? (i := 197) (by decide +kernel), List.mem_of_getElem? (i := 410) (by decide +kernel), List.mem_of_getElem? (i := 411) (by decide +kernel)⟩
theorem lw_p2 : lw_okq (⟨"FortyGates$Reader", "readSetting", "()Z"⟩, 4) := ⟨⟨by decide +kernel, by decide +kernel⟩, List.mem_of_getElem? (i := 197) (by decide +kernel), List.mem_of_getElem? (i := 414) (by decide +kernel), List.mem_of_getElem? (i := 415) (by decide +kernel)⟩
theorem lw_p3 : lw_okq (⟨"FortyGates$Reader", "takeWord", "(Ljava/lang/String;)Z"⟩, 4) := ⟨⟨by decide +kernel, by decide +kernel⟩, List.mem_of_getElem? (i := 197) (by decide +kernel), List.mem_of_getElem? (i := 420) (by decide +kernel), List.mem_of_getElem? (i := 421) (by decide +kernel)⟩
theorem lw_p4 : lw_okq (⟨"FortyGates$Reader", "take", "(C)Z"⟩, 4) := ⟨⟨by decide +kernel, by decide +kernel⟩, List.mem_of_getElem? (i := 197) (by decide +kernel), List.mem_of_getElem? (i := 472) (by decide +kernel), List.mem_of_getElem? (i := 473) (by decide +kernel)⟩
theorem lw_p5 : lw_okq (⟨"FortyGates$Reader", "readNumber", "()I"⟩, 4) := ⟨⟨by decide +kernel, by decide +kernel⟩, List.mem_of_getElem? (i := 197) (by decide +kernel), List.mem_of_getElem? (i := 476) (by decide +kernel), List.mem_of_getElem? (i := 477) (by decide +kernel)⟩
theorem lw_p6 : lw_okq (⟨"FortyGates$Reader", "takeOneOf", "(Ljava/lang/String;)I"⟩, 4) := ⟨⟨by decide +kernel, by decide +kernel⟩, List.mem_of_getElem? (i := 197) (by decide +kernel), List.mem_of_getElem? (i := 481) (by decide +kernel), List.mem_of_getElem? (i := 482) (by decide +kernel)⟩
theorem lw_p7 : lw_okq (⟨"FortyGates$Reader", "readAny", "(I)Z"⟩, 4) := ⟨⟨by decide +kernel, by decide +kernel⟩, List.mem_of_getElem? (i := 197) (by decide +kernel), List.mem_of_getElem? (i := 544) (by decide +kernel), List.mem_of_getElem? (i := 545) (by decide +kernel)⟩
theorem lw_p8 : lw_okq (⟨"FortyGates$Reader", "readPart", "(I)Z"⟩, 4) := ⟨⟨by decide +kernel, by decide +kernel⟩, List.mem_of_getElem? (i := 197) (by decide +kernel), List.mem_of_getElem? (i := 548) (by decide +kernel), List.mem_of_getElem? (i := 549) (by decide +kernel)⟩
theorem lw_p9 : lw_okq (⟨"FortyGates$Reader", "readNot", "(I)Z"⟩, 4) := ⟨⟨by decide +kernel, by decide +kernel⟩, List.mem_of_getElem? (i := 197) (by decide +kernel), List.mem_of_getElem? (i := 552) (by decide +kernel), List.mem_of_getElem? (i := 553) (by decide +kernel)⟩
theorem lw_p10 : lw_okq (⟨"FortyGates$Reader", "readTest", "()Z"⟩, 4) := ⟨⟨by decide +kernel, by decide +kernel⟩, List.mem_of_getElem? (i := 197) (by decide +kernel), List.mem_of_getElem? (i := 560) (by decide +kernel), List.mem_of_getElem? (i := 561) (by decide +kernel)⟩
theorem lw_p11 : lw_okq (⟨"FortyGates", "noGate", "(I)Z"⟩, 10) := ⟨⟨by decide +kernel, by decide +kernel⟩, List.mem_of_getElem? (i := 21) (by decide +kernel), List.mem_of_getElem? (i := 593) (by decide +kernel), List.mem_of_getElem? (i := 594) (by decide +kernel)⟩
theorem lw_p12 : lw_okq (⟨"FortyGates", "noSkier", "(I)Z"⟩, 10) := ⟨⟨by decide +kernel, by decide +kernel⟩, List.mem_of_getElem? (i := 21) (by decide +kernel), List.mem_of_getElem? (i := 620) (by decide +kernel), List.mem_of_getElem? (i := 621) (by decide +kernel)⟩
theorem lw_p13 : lw_okq (⟨"FortyGates", "goByTheLine", "(I)V"⟩, 10) := ⟨⟨by decide +kernel, by decide +kernel⟩, List.mem_of_getElem? (i := 21) (by decide +kernel), List.mem_of_getElem? (i := 632) (by decide +kernel), List.mem_of_getElem? (i := 633) (by decide +kernel)⟩
theorem lw_p14 : lw_okq (⟨"FortyGates$Passage", "sumClauses", "(LFortyGates$Clauses;Z)V"⟩, 17) := ⟨⟨by decide +kernel, by decide +kernel⟩, List.mem_of_getElem? (i := 220) (by decide +kernel), List.mem_of_getElem? (i := 640) (by decide +kernel), List.mem_of_getElem? (i := 641) (by decide +kernel)⟩
theorem lw_p15 : lw_okq (⟨"FortyGates$Passage", "fillGate", "(IIII)V"⟩, 17) := ⟨⟨by decide +kernel, by decide +kernel⟩, List.mem_of_getElem? (i := 220) (by decide +kernel), List.mem_of_getElem? (i := 660) (by decide +kernel), List.mem_of_getElem? (i := 661) (by decide +kernel)⟩
def lw_privs_1 : List (MethodName × Nat) := [(⟨"FortyGates$Reader", "readClause", "()Z"⟩, 4), (⟨"FortyGates$Reader", "sees", "(C)Z"⟩, 4), (⟨"FortyGates$Reader", "readSetting", "()Z"⟩, 4), (⟨"FortyGates$Reader", "takeWord", "(Ljava/lang/String;)Z"⟩, 4), (⟨"FortyGates$Reader", "take", "(C)Z"⟩, 4), (⟨"FortyGates$Reader", "readNumber", "()I"⟩, 4), (⟨"FortyGates$Reader", "takeOneOf", "(Ljava/lang/String;)I"⟩, 4), (⟨"FortyGates$Reader", "readAny", "(I)Z"⟩, 4), (⟨"FortyGates$Reader", "readPart", "(I)Z"⟩, 4), (⟨"FortyGates$Reader", "readNot", "(I)Z"⟩, 4), (⟨"FortyGates$Reader", "readTest", "()Z"⟩, 4), (⟨"FortyGates", "noGate", "(I)Z"⟩, 10), (⟨"FortyGates", "noSkier", "(I)Z"⟩, 10), (⟨"FortyGates", "goByTheLine", "(I)V"⟩, 10), (⟨"FortyGates$Passage", "sumClauses", "(LFortyGates$Clauses;Z)V"⟩, 17), (⟨"FortyGates$Passage", "fillGate", "(IIII)V"⟩, 17)]
theorem lw_r1 : ∀ q ∈ lw_privs_1, lw_okq q := List.forall_mem_cons.mpr ⟨lw_p0, List.forall_mem_cons.mpr ⟨lw_p1, List.forall_mem_cons.mpr ⟨lw_p2, List.forall_mem_cons.mpr ⟨lw_p3, List.forall_mem_cons.mpr ⟨lw_p4, List.forall_mem_cons.mpr ⟨lw_p5, List.forall_mem_cons.mpr ⟨lw_p6, List.forall_mem_cons.mpr ⟨lw_p7, List.forall_mem_cons.mpr ⟨lw_p8, List.forall_mem_cons.mpr ⟨lw_p9, List.forall_mem_cons.mpr ⟨lw_p10, List.forall_mem_cons.mpr ⟨lw_p11, List.forall_mem_cons.mpr ⟨lw_p12, List.forall_mem_cons.mpr ⟨lw_p13, List.forall_mem_cons.mpr ⟨lw_p14, List.forall_mem_cons.mpr ⟨lw_p15, fun _ h => absurd h List.not_mem_nil⟩⟩⟩⟩⟩⟩⟩⟩⟩⟩⟩⟩⟩⟩⟩⟩
theorem lw_p16 : lw_okq (⟨"FortyGates", "bestLine", "(IIZ)I"⟩, 10) := ⟨⟨by decide +kernel, by decide +kernel⟩, List.mem_of_getElem? (i := 21) (by decide +kernel), List.mem_of_getElem? (i := 684) (by decide +kernel), List.mem_of_getElem? (i := 685) (by decide +kernel)⟩
theorem lw_p17 : lw_okq (⟨"FortyGates$Passage", "solveAt", "(IIZ)V"⟩, 17) := ⟨⟨by decide +kernel, by decide +kernel⟩, List.mem_of_getElem? (i := 220) (by decide +kernel), List.mem_of_getElem? (i := 692) (by decide +kernel), List.mem_of_getElem? (i := 693) (by decide +kernel)⟩
theorem lw_p18 : lw_okq (⟨"FortyGates", "surestWithin", "(III)J"⟩, 10) := ⟨⟨by decide +kernel, by decide +kernel⟩, List.mem_of_getElem? (i := 21) (by decide +kernel), List.mem_of_getElem? (i := 732) (by decide +kernel), List.mem_of_getElem? (i := 733) (by decide +kernel)⟩
theorem lw_p19 : lw_okq (⟨"FortyGates", "leastTime", "(LFortyGates$Passage;I)I"⟩, 10) := ⟨⟨by decide +kernel, by decide +kernel⟩, List.mem_of_getElem? (i := 21) (by decide +kernel), List.mem_of_getElem? (i := 736) (by decide +kernel), List.mem_of_getElem? (i := 737) (by decide +kernel)⟩
theorem lw_p20 : lw_okq (⟨"FortyGates$Safest", "reach", "(LFortyGates$Passage;IIIJ)V"⟩, 4) := ⟨⟨by decide +kernel, by decide +kernel⟩, List.mem_of_getElem? (i := 288) (by decide +kernel), List.mem_of_getElem? (i := 745) (by decide +kernel), List.mem_of_getElem? (i := 746) (by decide +kernel)⟩
theorem lw_p21 : lw_okq (⟨"FortyGates$Safest", "passBy", "(LFortyGates$Passage;IIIJ)V"⟩, 4) := ⟨⟨by decide +kernel, by decide +kernel⟩, List.mem_of_getElem? (i := 288) (by decide +kernel), List.mem_of_getElem? (i := 751) (by decide +kernel), List.mem_of_getElem? (i := 752) (by decide +kernel)⟩
theorem lw_p22 : lw_okq (⟨"FortyGates", "goBothByBest", "(II)V"⟩, 10) := ⟨⟨by decide +kernel, by decide +kernel⟩, List.mem_of_getElem? (i := 21) (by decide +kernel), List.mem_of_getElem? (i := 797) (by decide +kernel), List.mem_of_getElem? (i := 798) (by decide +kernel)⟩
theorem lw_p23 : lw_okq (⟨"FortyGates", "aheadIfChanged", "(II)I"⟩, 10) := ⟨⟨by decide +kernel, by decide +kernel⟩, List.mem_of_getElem? (i := 21) (by decide +kernel), List.mem_of_getElem? (i := 813) (by decide +kernel), List.mem_of_getElem? (i := 814) (by decide +kernel)⟩
theorem lw_p24 : lw_okq (⟨"FortyGates", "placeOf", "(I)I"⟩, 10) := ⟨⟨by decide +kernel, by decide +kernel⟩, List.mem_of_getElem? (i := 21) (by decide +kernel), List.mem_of_getElem? (i := 825) (by decide +kernel), List.mem_of_getElem? (i := 826) (by decide +kernel)⟩
theorem lw_p25 : lw_okq (⟨"FortyGates", "linesThatFit", "(I)I"⟩, 10) := ⟨⟨by decide +kernel, by decide +kernel⟩, List.mem_of_getElem? (i := 21) (by decide +kernel), List.mem_of_getElem? (i := 856) (by decide +kernel), List.mem_of_getElem? (i := 857) (by decide +kernel)⟩
theorem lw_p26 : lw_okq (⟨"FortyGates$Matches", "reach", "(LFortyGates$Passage;III)V"⟩, 4) := ⟨⟨by decide +kernel, by decide +kernel⟩, List.mem_of_getElem? (i := 309) (by decide +kernel), List.mem_of_getElem? (i := 864) (by decide +kernel), List.mem_of_getElem? (i := 865) (by decide +kernel)⟩
theorem lw_p27 : lw_okq (⟨"FortyGates$Matches", "passBy", "(LFortyGates$Passage;III)V"⟩, 4) := ⟨⟨by decide +kernel, by decide +kernel⟩, List.mem_of_getElem? (i := 309) (by decide +kernel), List.mem_of_getElem? (i := 868) (by decide +kernel), List.mem_of_getElem? (i := 869) (by decide +kernel)⟩
theorem lw_p28 : lw_okq (⟨"FortyGates$Acts", "perform", "(IIII)I"⟩, 5) := ⟨⟨by decide +kernel, by decide +kernel⟩, List.mem_of_getElem? (i := 329) (by decide +kernel), List.mem_of_getElem? (i := 895) (by decide +kernel), List.mem_of_getElem? (i := 896) (by decide +kernel)⟩
theorem lw_p29 : lw_okq (⟨"FortyGates$Acts", "doBody", "(IIII)I"⟩, 5) := ⟨⟨by decide +kernel, by decide +kernel⟩, List.mem_of_getElem? (i := 329) (by decide +kernel), List.mem_of_getElem? (i := 903) (by decide +kernel), List.mem_of_getElem? (i := 904) (by decide +kernel)⟩
theorem lw_p30 : lw_okq (⟨"FortyGatesModel", "clauseHere", "()V"⟩, 47) := ⟨⟨by decide +kernel, by decide +kernel⟩, List.mem_of_getElem? (i := 951) (by decide +kernel), List.mem_of_getElem? (i := 1109) (by decide +kernel), List.mem_of_getElem? (i := 1110) (by decide +kernel)⟩
theorem lw_p31 : lw_okq (⟨"FortyGatesModel", "here", "()I"⟩, 47) := ⟨⟨by decide +kernel, by decide +kernel⟩, List.mem_of_getElem? (i := 951) (by decide +kernel), List.mem_of_getElem? (i := 1113) (by decide +kernel), List.mem_of_getElem? (i := 1114) (by decide +kernel)⟩
def lw_privs_2 : List (MethodName × Nat) := [(⟨"FortyGates", "bestLine", "(IIZ)I"⟩, 10), (⟨"FortyGates$Passage", "solveAt", "(IIZ)V"⟩, 17), (⟨"FortyGates", "surestWithin", "(III)J"⟩, 10), (⟨"FortyGates", "leastTime", "(LFortyGates$Passage;I)I"⟩, 10), (⟨"FortyGates$Safest", "reach", "(LFortyGates$Passage;IIIJ)V"⟩, 4), (⟨"FortyGates$Safest", "passBy", "(LFortyGates$Passage;IIIJ)V"⟩, 4), (⟨"FortyGates", "goBothByBest", "(II)V"⟩, 10), (⟨"FortyGates", "aheadIfChanged", "(II)I"⟩, 10), (⟨"FortyGates", "placeOf", "(I)I"⟩, 10), (⟨"FortyGates", "linesThatFit", "(I)I"⟩, 10), (⟨"FortyGates$Matches", "reach", "(LFortyGates$Passage;III)V"⟩, 4), (⟨"FortyGates$Matches", "passBy", "(LFortyGates$Passage;III)V"⟩, 4), (⟨"FortyGates$Acts", "perform", "(IIII)I"⟩, 5), (⟨"FortyGates$Acts", "doBody", "(IIII)I"⟩, 5), (⟨"FortyGatesModel", "clauseHere", "()V"⟩, 47), (⟨"FortyGatesModel", "here", "()I"⟩, 47)]
theorem lw_r2 : ∀ q ∈ lw_privs_2, lw_okq q := List.forall_mem_cons.mpr ⟨lw_p16, List.forall_mem_cons.mpr ⟨lw_p17, List.forall_mem_cons.mpr ⟨lw_p18, List.forall_mem_cons.mpr ⟨lw_p19, List.forall_mem_cons.mpr ⟨lw_p20, List.forall_mem_cons.mpr ⟨lw_p21, List.forall_mem_cons.mpr ⟨lw_p22, List.forall_mem_cons.mpr ⟨lw_p23, List.forall_mem_cons.mpr ⟨lw_p24, List.forall_mem_cons.mpr ⟨lw_p25, List.forall_mem_cons.mpr ⟨lw_p26, List.forall_mem_cons.mpr ⟨lw_p27, List.forall_mem_cons.mpr ⟨lw_p28, List.forall_mem_cons.mpr ⟨lw_p29, List.forall_mem_cons.mpr ⟨lw_p30, List.forall_mem_cons.mpr ⟨lw_p31, fun _ h => absurd h List.not_mem_nil⟩⟩⟩⟩⟩⟩⟩⟩⟩⟩⟩⟩⟩⟩⟩⟩
theorem lw_p32 : lw_okq (⟨"FortyGatesModel", "tellsHere", "(ILjava/lang/String;)V"⟩, 47) := ⟨⟨by decide +kernel, by decide +kernel⟩, List.mem_of_getElem? (i := 951) (by decide +kernel), List.mem_of_getElem? (i := 1118) (by decide +kernel), List.mem_of_getElem? (i := 1119) (by decide +kernel)⟩
theorem lw_p33 : lw_okq (⟨"FortyGatesModel", "spells", "(Ljava/lang/String;)V"⟩, 47) := ⟨⟨by decide +kernel, by decide +kernel⟩, List.mem_of_getElem? (i := 951) (by decide +kernel), List.mem_of_getElem? (i := 1122) (by decide +kernel), List.mem_of_getElem? (i := 1123) (by decide +kernel)⟩
theorem lw_p34 : lw_okq (⟨"FortyGatesModel", "must", "(I)V"⟩, 47) := ⟨⟨by decide +kernel, by decide +kernel⟩, List.mem_of_getElem? (i := 951) (by decide +kernel), List.mem_of_getElem? (i := 1128) (by decide +kernel), List.mem_of_getElem? (i := 1129) (by decide +kernel)⟩
theorem lw_p35 : lw_okq (⟨"FortyGatesModel", "figures", "()I"⟩, 47) := ⟨⟨by decide +kernel, by decide +kernel⟩, List.mem_of_getElem? (i := 951) (by decide +kernel), List.mem_of_getElem? (i := 1132) (by decide +kernel), List.mem_of_getElem? (i := 1133) (by decide +kernel)⟩
theorem lw_p36 : lw_okq (⟨"FortyGatesModel", "much", "(ILjava/lang/String;)V"⟩, 47) := ⟨⟨by decide +kernel, by decide +kernel⟩, List.mem_of_getElem? (i := 951) (by decide +kernel), List.mem_of_getElem? (i := 1138) (by decide +kernel), List.mem_of_getElem? (i := 1139) (by decide +kernel)⟩
theorem lw_p37 : lw_okq (⟨"FortyGatesModel", "some", "()V"⟩, 47) := ⟨⟨by decide +kernel, by decide +kernel⟩, List.mem_of_getElem? (i := 951) (by decide +kernel), List.mem_of_getElem? (i := 1142) (by decide +kernel), List.mem_of_getElem? (i := 1143) (by decide +kernel)⟩
theorem lw_p38 : lw_okq (⟨"FortyGatesModel", "every", "()V"⟩, 47) := ⟨⟨by decide +kernel, by decide +kernel⟩, List.mem_of_getElem? (i := 951) (by decide +kernel), List.mem_of_getElem? (i := 1146) (by decide +kernel), List.mem_of_getElem? (i := 1147) (by decide +kernel)⟩
theorem lw_p39 : lw_okq (⟨"FortyGatesModel", "factor", "()V"⟩, 47) := ⟨⟨by decide +kernel, by decide +kernel⟩, List.mem_of_getElem? (i := 951) (by decide +kernel), List.mem_of_getElem? (i := 1150) (by decide +kernel), List.mem_of_getElem? (i := 1151) (by decide +kernel)⟩
theorem lw_p40 : lw_okq (⟨"FortyGatesModel", "emits", "(I)V"⟩, 47) := ⟨⟨by decide +kernel, by decide +kernel⟩, List.mem_of_getElem? (i := 951) (by decide +kernel), List.mem_of_getElem? (i := 1154) (by decide +kernel), List.mem_of_getElem? (i := 1155) (by decide +kernel)⟩
theorem lw_p41 : lw_okq (⟨"FortyGatesModel", "among", "(Ljava/lang/String;)I"⟩, 47) := ⟨⟨by decide +kernel, by decide +kernel⟩, List.mem_of_getElem? (i := 951) (by decide +kernel), List.mem_of_getElem? (i := 1159) (by decide +kernel), List.mem_of_getElem? (i := 1160) (by decide +kernel)⟩
theorem lw_p42 : lw_okq (⟨"FortyGatesModel", "isGate", "(I)Z"⟩, 47) := ⟨⟨by decide +kernel, by decide +kernel⟩, List.mem_of_getElem? (i := 951) (by decide +kernel), List.mem_of_getElem? (i := 1173) (by decide +kernel), List.mem_of_getElem? (i := 1174) (by decide +kernel)⟩
theorem lw_p43 : lw_okq (⟨"FortyGatesModel", "isSkier", "(I)Z"⟩, 47) := ⟨⟨by decide +kernel, by decide +kernel⟩, List.mem_of_getElem? (i := 951) (by decide +kernel), List.mem_of_getElem? (i := 1197) (by decide +kernel), List.mem_of_getElem? (i := 1198) (by decide +kernel)⟩
theorem lw_p44 : lw_okq (⟨"FortyGatesModel", "tellsOf", "(II)I"⟩, 47) := ⟨⟨by decide +kernel, by decide +kernel⟩, List.mem_of_getElem? (i := 951) (by decide +kernel), List.mem_of_getElem? (i := 1205) (by decide +kernel), List.mem_of_getElem? (i := 1206) (by decide +kernel)⟩
theorem lw_p45 : lw_okq (⟨"FortyGatesModel", "runsByPlan", "(I)V"⟩, 47) := ⟨⟨by decide +kernel, by decide +kernel⟩, List.mem_of_getElem? (i := 951) (by decide +kernel), List.mem_of_getElem? (i := 1213) (by decide +kernel), List.mem_of_getElem? (i := 1214) (by decide +kernel)⟩
theorem lw_p46 : lw_okq (⟨"FortyGatesModel", "beginsNow", "(I)V"⟩, 47) := ⟨⟨by decide +kernel, by decide +kernel⟩, List.mem_of_getElem? (i := 951) (by decide +kernel), List.mem_of_getElem? (i := 1217) (by decide +kernel), List.mem_of_getElem? (i := 1218) (by decide +kernel)⟩
theorem lw_p47 : lw_okq (⟨"FortyGatesModel", "asTheyStand", "()V"⟩, 47) := ⟨⟨by decide +kernel, by decide +kernel⟩, List.mem_of_getElem? (i := 951) (by decide +kernel), List.mem_of_getElem? (i := 1221) (by decide +kernel), List.mem_of_getElem? (i := 1222) (by decide +kernel)⟩
def lw_privs_3 : List (MethodName × Nat) := [(⟨"FortyGatesModel", "tellsHere", "(ILjava/lang/String;)V"⟩, 47), (⟨"FortyGatesModel", "spells", "(Ljava/lang/String;)V"⟩, 47), (⟨"FortyGatesModel", "must", "(I)V"⟩, 47), (⟨"FortyGatesModel", "figures", "()I"⟩, 47), (⟨"FortyGatesModel", "much", "(ILjava/lang/String;)V"⟩, 47), (⟨"FortyGatesModel", "some", "()V"⟩, 47), (⟨"FortyGatesModel", "every", "()V"⟩, 47), (⟨"FortyGatesModel", "factor", "()V"⟩, 47), (⟨"FortyGatesModel", "emits", "(I)V"⟩, 47), (⟨"FortyGatesModel", "among", "(Ljava/lang/String;)I"⟩, 47), (⟨"FortyGatesModel", "isGate", "(I)Z"⟩, 47), (⟨"FortyGatesModel", "isSkier", "(I)Z"⟩, 47), (⟨"FortyGatesModel", "tellsOf", "(II)I"⟩, 47), (⟨"FortyGatesModel", "runsByPlan", "(I)V"⟩, 47), (⟨"FortyGatesModel", "beginsNow", "(I)V"⟩, 47), (⟨"FortyGatesModel", "asTheyStand", "()V"⟩, 47)]
theorem lw_r3 : ∀ q ∈ lw_privs_3, lw_okq q := List.forall_mem_cons.mpr ⟨lw_p32, List.forall_mem_cons.mpr ⟨lw_p33, List.forall_mem_cons.mpr ⟨lw_p34, List.forall_mem_cons.mpr ⟨lw_p35, List.forall_mem_cons.mpr ⟨lw_p36, List.forall_mem_cons.mpr ⟨lw_p37, List.forall_mem_cons.mpr ⟨lw_p38, List.forall_mem_cons.mpr ⟨lw_p39, List.forall_mem_cons.mpr ⟨lw_p40, List.forall_mem_cons.mpr ⟨lw_p41, List.forall_mem_cons.mpr ⟨lw_p42, List.forall_mem_cons.mpr ⟨lw_p43, List.forall_mem_cons.mpr ⟨lw_p44, List.forall_mem_cons.mpr ⟨lw_p45, List.forall_mem_cons.mpr ⟨lw_p46, List.forall_mem_cons.mpr ⟨lw_p47, fun _ h => absurd h List.not_mem_nil⟩⟩⟩⟩⟩⟩⟩⟩⟩⟩⟩⟩⟩⟩⟩⟩
theorem lw_p48 : lw_okq (⟨"FortyGatesModel", "begins", "(II)V"⟩, 47) := ⟨⟨by decide +kernel, by decide +kernel⟩, List.mem_of_getElem? (i := 951) (by decide +kernel), List.mem_of_getElem? (i := 1225) (by decide +kernel), List.mem_of_getElem? (i := 1226) (by decide +kernel)⟩
theorem lw_p49 : lw_okq (⟨"FortyGatesModel", "runsAre", "(I)V"⟩, 47) := ⟨⟨by decide +kernel, by decide +kernel⟩, List.mem_of_getElem? (i := 951) (by decide +kernel), List.mem_of_getElem? (i := 1229) (by decide +kernel), List.mem_of_getElem? (i := 1230) (by decide +kernel)⟩
theorem lw_p50 : lw_okq (⟨"FortyGatesModel", "runsBy", "()V"⟩, 47) := ⟨⟨by decide +kernel, by decide +kernel⟩, List.mem_of_getElem? (i := 951) (by decide +kernel), List.mem_of_getElem? (i := 1233) (by decide +kernel), List.mem_of_getElem? (i := 1234) (by decide +kernel)⟩
theorem lw_p51 : lw_okq (⟨"FortyGatesModel", "passes", "(III)V"⟩, 47) := ⟨⟨by decide +kernel, by decide +kernel⟩, List.mem_of_getElem? (i := 951) (by decide +kernel), List.mem_of_getElem? (i := 1237) (by decide +kernel), List.mem_of_getElem? (i := 1238) (by decide +kernel)⟩
theorem lw_p52 : lw_okq (⟨"FortyGatesModel", "looksForPass", "(III)V"⟩, 47) := ⟨⟨by decide +kernel, by decide +kernel⟩, List.mem_of_getElem? (i := 951) (by decide +kernel), List.mem_of_getElem? (i := 1241) (by decide +kernel), List.mem_of_getElem? (i := 1242) (by decide +kernel)⟩
theorem lw_p53 : lw_okq (⟨"FortyGatesModel", "looks", "(IIII)V"⟩, 47) := ⟨⟨by decide +kernel, by decide +kernel⟩, List.mem_of_getElem? (i := 951) (by decide +kernel), List.mem_of_getElem? (i := 1245) (by decide +kernel), List.mem_of_getElem? (i := 1246) (by decide +kernel)⟩
theorem lw_p54 : lw_okq (⟨"FortyGatesModel", "leastNow", "(I)I"⟩, 47) := ⟨⟨by decide +kernel, by decide +kernel⟩, List.mem_of_getElem? (i := 951) (by decide +kernel), List.mem_of_getElem? (i := 1272) (by decide +kernel), List.mem_of_getElem? (i := 1273) (by decide +kernel)⟩
theorem lw_p55 : lw_okq (⟨"FortyGatesModel", "leastBy", "(II)I"⟩, 47) := ⟨⟨by decide +kernel, by decide +kernel⟩, List.mem_of_getElem? (i := 951) (by decide +kernel), List.mem_of_getElem? (i := 1276) (by decide +kernel), List.mem_of_getElem? (i := 1277) (by decide +kernel)⟩
theorem lw_p56 : lw_okq (⟨"FortyGatesModel", "looksForLines", "(III)V"⟩, 47) := ⟨⟨by decide +kernel, by decide +kernel⟩, List.mem_of_getElem? (i := 951) (by decide +kernel), List.mem_of_getElem? (i := 1280) (by decide +kernel), List.mem_of_getElem? (i := 1281) (by decide +kernel)⟩
theorem lw_p57 : lw_okq (⟨"FortyGatesModel", "linesFrom", "(IIIJ)V"⟩, 47) := ⟨⟨by decide +kernel, by decide +kernel⟩, List.mem_of_getElem? (i := 951) (by decide +kernel), List.mem_of_getElem? (i := 1286) (by decide +kernel), List.mem_of_getElem? (i := 1287) (by decide +kernel)⟩
theorem lw_p58 : lw_okq (⟨"FortyGatesModel", "ends", "(IJ)V"⟩, 47) := ⟨⟨by decide +kernel, by decide +kernel⟩, List.mem_of_getElem? (i := 951) (by decide +kernel), List.mem_of_getElem? (i := 1290) (by decide +kernel), List.mem_of_getElem? (i := 1291) (by decide +kernel)⟩
theorem lw_p59 : lw_okq (⟨"FortyGatesModel", "takesLine", "()V"⟩, 47) := ⟨⟨by decide +kernel, by decide +kernel⟩, List.mem_of_getElem? (i := 951) (by decide +kernel), List.mem_of_getElem? (i := 1294) (by decide +kernel), List.mem_of_getElem? (i := 1295) (by decide +kernel)⟩
theorem lw_p60 : lw_okq (⟨"FortyGatesModel", "isAsSeen", "(II)Z"⟩, 47) := ⟨⟨by decide +kernel, by decide +kernel⟩, List.mem_of_getElem? (i := 951) (by decide +kernel), List.mem_of_getElem? (i := 1298) (by decide +kernel), List.mem_of_getElem? (i := 1299) (by decide +kernel)⟩
theorem lw_p61 : lw_okq (⟨"FortyGatesModel", "looksForSurest", "(II)V"⟩, 47) := ⟨⟨by decide +kernel, by decide +kernel⟩, List.mem_of_getElem? (i := 951) (by decide +kernel), List.mem_of_getElem? (i := 1310) (by decide +kernel), List.mem_of_getElem? (i := 1311) (by decide +kernel)⟩
theorem lw_p62 : lw_okq (⟨"FortyGatesModel", "surestPart", "(I)J"⟩, 47) := ⟨⟨by decide +kernel, by decide +kernel⟩, List.mem_of_getElem? (i := 951) (by decide +kernel), List.mem_of_getElem? (i := 1314) (by decide +kernel), List.mem_of_getElem? (i := 1315) (by decide +kernel)⟩
theorem lw_p63 : lw_okq (⟨"FortyGatesModel", "keepsBest", "()V"⟩, 47) := ⟨⟨by decide +kernel, by decide +kernel⟩, List.mem_of_getElem? (i := 951) (by decide +kernel), List.mem_of_getElem? (i := 1334) (by decide +kernel), List.mem_of_getElem? (i := 1335) (by decide +kernel)⟩
def lw_privs_4 : List (MethodName × Nat) := [(⟨"FortyGatesModel", "begins", "(II)V"⟩, 47), (⟨"FortyGatesModel", "runsAre", "(I)V"⟩, 47), (⟨"FortyGatesModel", "runsBy", "()V"⟩, 47), (⟨"FortyGatesModel", "passes", "(III)V"⟩, 47), (⟨"FortyGatesModel", "looksForPass", "(III)V"⟩, 47), (⟨"FortyGatesModel", "looks", "(IIII)V"⟩, 47), (⟨"FortyGatesModel", "leastNow", "(I)I"⟩, 47), (⟨"FortyGatesModel", "leastBy", "(II)I"⟩, 47), (⟨"FortyGatesModel", "looksForLines", "(III)V"⟩, 47), (⟨"FortyGatesModel", "linesFrom", "(IIIJ)V"⟩, 47), (⟨"FortyGatesModel", "ends", "(IJ)V"⟩, 47), (⟨"FortyGatesModel", "takesLine", "()V"⟩, 47), (⟨"FortyGatesModel", "isAsSeen", "(II)Z"⟩, 47), (⟨"FortyGatesModel", "looksForSurest", "(II)V"⟩, 47), (⟨"FortyGatesModel", "surestPart", "(I)J"⟩, 47), (⟨"FortyGatesModel", "keepsBest", "()V"⟩, 47)]
theorem lw_r4 : ∀ q ∈ lw_privs_4, lw_okq q := List.forall_mem_cons.mpr ⟨lw_p48, List.forall_mem_cons.mpr ⟨lw_p49, List.forall_mem_cons.mpr ⟨lw_p50, List.forall_mem_cons.mpr ⟨lw_p51, List.forall_mem_cons.mpr ⟨lw_p52, List.forall_mem_cons.mpr ⟨lw_p53, List.forall_mem_cons.mpr ⟨lw_p54, List.forall_mem_cons.mpr ⟨lw_p55, List.forall_mem_cons.mpr ⟨lw_p56, List.forall_mem_cons.mpr ⟨lw_p57, List.forall_mem_cons.mpr ⟨lw_p58, List.forall_mem_cons.mpr ⟨lw_p59, List.forall_mem_cons.mpr ⟨lw_p60, List.forall_mem_cons.mpr ⟨lw_p61, List.forall_mem_cons.mpr ⟨lw_p62, List.forall_mem_cons.mpr ⟨lw_p63, fun _ h => absurd h List.not_mem_nil⟩⟩⟩⟩⟩⟩⟩⟩⟩⟩⟩⟩⟩⟩⟩⟩
theorem lw_p64 : lw_okq (⟨"FortyGatesModel", "isOther", "()Z"⟩, 47) := ⟨⟨by decide +kernel, by decide +kernel⟩, List.mem_of_getElem? (i := 951) (by decide +kernel), List.mem_of_getElem? (i := 1338) (by decide +kernel), List.mem_of_getElem? (i := 1339) (by decide +kernel)⟩
theorem lw_p65 : lw_okq (⟨"FortyGatesModel", "runsQuickest", "(I)V"⟩, 47) := ⟨⟨by decide +kernel, by decide +kernel⟩, List.mem_of_getElem? (i := 951) (by decide +kernel), List.mem_of_getElem? (i := 1350) (by decide +kernel), List.mem_of_getElem? (i := 1351) (by decide +kernel)⟩
theorem lw_p66 : lw_okq (⟨"FortyGatesModel", "leads", "(II)I"⟩, 47) := ⟨⟨by decide +kernel, by decide +kernel⟩, List.mem_of_getElem? (i := 951) (by decide +kernel), List.mem_of_getElem? (i := 1366) (by decide +kernel), List.mem_of_getElem? (i := 1367) (by decide +kernel)⟩
theorem lw_p67 : lw_okq (⟨"FortyGatesModel", "looksForTimes", "()V"⟩, 47) := ⟨⟨by decide +kernel, by decide +kernel⟩, List.mem_of_getElem? (i := 951) (by decide +kernel), List.mem_of_getElem? (i := 1374) (by decide +kernel), List.mem_of_getElem? (i := 1375) (by decide +kernel)⟩
theorem lw_p68 : lw_okq (⟨"FortyGatesModel", "fitting", "(I)I"⟩, 47) := ⟨⟨by decide +kernel, by decide +kernel⟩, List.mem_of_getElem? (i := 951) (by decide +kernel), List.mem_of_getElem? (i := 1394) (by decide +kernel), List.mem_of_getElem? (i := 1395) (by decide +kernel)⟩
theorem lw_p69 : lw_okq (⟨"FortyGatesModel", "turnsActs", "(I)I"⟩, 47) := ⟨⟨by decide +kernel, by decide +kernel⟩, List.mem_of_getElem? (i := 951) (by decide +kernel), List.mem_of_getElem? (i := 1414) (by decide +kernel), List.mem_of_getElem? (i := 1415) (by decide +kernel)⟩
theorem lw_p70 : lw_okq (⟨"FortyGatesModel", "ranBody", "(I)V"⟩, 47) := ⟨⟨by decide +kernel, by decide +kernel⟩, List.mem_of_getElem? (i := 951) (by decide +kernel), List.mem_of_getElem? (i := 1421) (by decide +kernel), List.mem_of_getElem? (i := 1422) (by decide +kernel)⟩
theorem lw_p71 : lw_okq (⟨"FortyGatesModel", "plainTurns", "(I)I"⟩, 47) := ⟨⟨by decide +kernel, by decide +kernel⟩, List.mem_of_getElem? (i := 951) (by decide +kernel), List.mem_of_getElem? (i := 1425) (by decide +kernel), List.mem_of_getElem? (i := 1426) (by decide +kernel)⟩
theorem lw_p72 : lw_okq (⟨"FortyGatesModel", "slidesActs", "(I)I"⟩, 47) := ⟨⟨by decide +kernel, by decide +kernel⟩, List.mem_of_getElem? (i := 951) (by decide +kernel), List.mem_of_getElem? (i := 1429) (by decide +kernel), List.mem_of_getElem? (i := 1430) (by decide +kernel)⟩
theorem lw_p73 : lw_okq (⟨"FortyGatesModel", "plainSlides", "(I)I"⟩, 47) := ⟨⟨by decide +kernel, by decide +kernel⟩, List.mem_of_getElem? (i := 951) (by decide +kernel), List.mem_of_getElem? (i := 1433) (by decide +kernel), List.mem_of_getElem? (i := 1434) (by decide +kernel)⟩
theorem lw_p74 : lw_okq (⟨"FortyGatesModel", "tellsActs", "(I)I"⟩, 47) := ⟨⟨by decide +kernel, by decide +kernel⟩, List.mem_of_getElem? (i := 951) (by decide +kernel), List.mem_of_getElem? (i := 1437) (by decide +kernel), List.mem_of_getElem? (i := 1438) (by decide +kernel)⟩
theorem lw_p75 : lw_okq (⟨"FortyGatesModel", "plainTells", "(I)I"⟩, 47) := ⟨⟨by decide +kernel, by decide +kernel⟩, List.mem_of_getElem? (i := 951) (by decide +kernel), List.mem_of_getElem? (i := 1441) (by decide +kernel), List.mem_of_getElem? (i := 1442) (by decide +kernel)⟩
def lw_privs_5 : List (MethodName × Nat) := [(⟨"FortyGatesModel", "isOther", "()Z"⟩, 47), (⟨"FortyGatesModel", "runsQuickest", "(I)V"⟩, 47), (⟨"FortyGatesModel", "leads", "(II)I"⟩, 47), (⟨"FortyGatesModel", "looksForTimes", "()V"⟩, 47), (⟨"FortyGatesModel", "fitting", "(I)I"⟩, 47), (⟨"FortyGatesModel", "turnsActs", "(I)I"⟩, 47), (⟨"FortyGatesModel", "ranBody", "(I)V"⟩, 47), (⟨"FortyGatesModel", "plainTurns", "(I)I"⟩, 47), (⟨"FortyGatesModel", "slidesActs", "(I)I"⟩, 47), (⟨"FortyGatesModel", "plainSlides", "(I)I"⟩, 47), (⟨"FortyGatesModel", "tellsActs", "(I)I"⟩, 47), (⟨"FortyGatesModel", "plainTells", "(I)I"⟩, 47)]
theorem lw_r5 : ∀ q ∈ lw_privs_5, lw_okq q := List.forall_mem_cons.mpr ⟨lw_p64, List.forall_mem_cons.mpr ⟨lw_p65, List.forall_mem_cons.mpr ⟨lw_p66, List.forall_mem_cons.mpr ⟨lw_p67, List.forall_mem_cons.mpr ⟨lw_p68, List.forall_mem_cons.mpr ⟨lw_p69, List.forall_mem_cons.mpr ⟨lw_p70, List.forall_mem_cons.mpr ⟨lw_p71, List.forall_mem_cons.mpr ⟨lw_p72, List.forall_mem_cons.mpr ⟨lw_p73, List.forall_mem_cons.mpr ⟨lw_p74, List.forall_mem_cons.mpr ⟨lw_p75, fun _ h => absurd h List.not_mem_nil⟩⟩⟩⟩⟩⟩⟩⟩⟩⟩⟩⟩
def lw_privs : List (MethodName × Nat) := lw_privs_1 ++ (lw_privs_2 ++ (lw_privs_3 ++ (lw_privs_4 ++ (lw_privs_5))))
def lw_tbl : List Cond := k2_sels lw_privs ++ tables_1
theorem lw_privs_ok : ∀ q ∈ lw_privs, lw_okq q := by
  show ∀ q ∈ lw_privs_1 ++ (lw_privs_2 ++ (lw_privs_3 ++ (lw_privs_4 ++ (lw_privs_5)))), lw_okq q
  exact List.forall_mem_append.mpr ⟨lw_r1, List.forall_mem_append.mpr ⟨lw_r2, List.forall_mem_append.mpr ⟨lw_r3, List.forall_mem_append.mpr ⟨lw_r4, lw_r5⟩⟩⟩⟩

/-! ===== BEGIN printed: names, fields, word lists, decode rows ===== -/
def RX0 : String := "FortyGates$Acts"
def TX0 : u_T := fun k => match k with
  | 0 => ("FortyGates$Acts", "ran", "I", false)
  | 1 => ("FortyGates$Acts", "bodies", "[I", true)
  | 2 => ("FortyGates$Acts", "ownKind", "I", false)
  | 3 => ("FortyGates$Acts", "ownV", "I", false)
  | _ => ("FortyGates$Acts", "ownNumber", "I", false)
def tyX0 : Nat → FieldType := fun k => match k with
  | 0 => .int
  | 1 => .array .int
  | 2 => .int
  | 3 => .int
  | _ => .int
abbrev wsX00 : List Cond := u_ws RX0 TX0 5
theorem nmX0 : ∀ a, a < 5 → ∀ b, b < 5 → a ≠ b → (TX0 a).2.1 ≠ (TX0 b).2.1 := by decide +kernel
theorem tyX0_ok : ∀ k, k < 5 → parseFieldDescriptor (TX0 k).2.2.1 = some (tyX0 k) := by decide +kernel
abbrev cX0_init : ByteArray := prog_2_method_1_code
def yX0_init : MethodName := ⟨RX0, "<init>", "()V"⟩
abbrev cX0_begin : ByteArray := prog_2_method_2_code
def yX0_begin : MethodName := ⟨RX0, "begin", "(LFortyGates$Gates;III)I"⟩
abbrev cX0_perform : ByteArray := prog_2_method_3_code
def yX0_perform : MethodName := ⟨RX0, "perform", "(IIII)I"⟩
abbrev cX0_doBody : ByteArray := prog_2_method_4_code
def yX0_doBody : MethodName := ⟨RX0, "doBody", "(IIII)I"⟩
def RX1 : String := "FortyGates$Clauses"
def TX1 : u_T := fun k => match k with
  | 0 => ("FortyGates$Clauses", "rut", "I", false)
  | 1 => ("FortyGates$Clauses", "fog", "I", false)
  | 2 => ("FortyGates$Clauses", "size", "I", false)
  | 3 => ("FortyGates$Clauses", "codes", "I", false)
  | 4 => ("FortyGates$Clauses", "isWax", "[Z", true)
  | 5 => ("FortyGates$Clauses", "amount", "[I", true)
  | 6 => ("FortyGates$Clauses", "end", "[I", true)
  | 7 => ("FortyGates$Clauses", "code", "[I", true)
  | _ => ("FortyGates$Clauses", "stack", "[I", true)
def tyX1 : Nat → FieldType := fun k => match k with
  | 0 => .int
  | 1 => .int
  | 2 => .int
  | 3 => .int
  | 4 => .array .boolean
  | 5 => .array .int
  | 6 => .array .int
  | 7 => .array .int
  | _ => .array .int
abbrev wsX10 : List Cond := u_ws RX1 TX1 9
theorem nmX1 : ∀ a, a < 9 → ∀ b, b < 9 → a ≠ b → (TX1 a).2.1 ≠ (TX1 b).2.1 := by decide +kernel
theorem tyX1_ok : ∀ k, k < 9 → parseFieldDescriptor (TX1 k).2.2.1 = some (tyX1 k) := by decide +kernel
abbrev cX1_init : ByteArray := prog_3_method_1_code
def yX1_init : MethodName := ⟨RX1, "<init>", "()V"⟩
abbrev cX1_clear : ByteArray := prog_3_method_2_code
def yX1_clear : MethodName := ⟨RX1, "clear", "()V"⟩
abbrev cX1_copyFrom : ByteArray := prog_3_method_3_code
def yX1_copyFrom : MethodName := ⟨RX1, "copyFrom", "(LFortyGates$Clauses;)V"⟩
abbrev cX1_write : ByteArray := prog_3_method_4_code
def yX1_write : MethodName := ⟨RX1, "write", "(I)V"⟩
abbrev cX1_append : ByteArray := prog_3_method_5_code
def yX1_append : MethodName := ⟨RX1, "append", "(ZI)V"⟩
abbrev cX1_pacesOf : ByteArray := prog_3_method_6_code
def yX1_pacesOf : MethodName := ⟨RX1, "pacesOf", "(I[I)I"⟩
abbrev cX1_pacesOfTest : ByteArray := prog_3_method_7_code
def yX1_pacesOfTest : MethodName := ⟨RX1, "pacesOfTest", "(I[I)I"⟩
def RX2 : String := "FortyGates$Gates"
def TX2 : u_T := fun k => match k with
  | 0 => ("FortyGates$Gates", "size", "I", false)
  | 1 => ("FortyGates$Gates", "kind", "[I", true)
  | 2 => ("FortyGates$Gates", "v", "[I", true)
  | 3 => ("FortyGates$Gates", "turn", "[I", true)
  | 4 => ("FortyGates$Gates", "line", "[I", true)
  | _ => ("FortyGates$Gates", "rows", "[I", true)
def tyX2 : Nat → FieldType := fun k => match k with
  | 0 => .int
  | 1 => .array .int
  | 2 => .array .int
  | 3 => .array .int
  | 4 => .array .int
  | _ => .array .int
abbrev wsX20 : List Cond := u_ws RX2 TX2 6
theorem nmX2 : ∀ a, a < 6 → ∀ b, b < 6 → a ≠ b → (TX2 a).2.1 ≠ (TX2 b).2.1 := by decide +kernel
theorem tyX2_ok : ∀ k, k < 6 → parseFieldDescriptor (TX2 k).2.2.1 = some (tyX2 k) := by decide +kernel
abbrev cX2_init : ByteArray := prog_4_method_1_code
def yX2_init : MethodName := ⟨RX2, "<init>", "()V"⟩
abbrev cX2_append : ByteArray := prog_4_method_2_code
def yX2_append : MethodName := ⟨RX2, "append", "(III)I"⟩
abbrev cX2_copyFrom : ByteArray := prog_4_method_3_code
def yX2_copyFrom : MethodName := ⟨RX2, "copyFrom", "(LFortyGates$Gates;)V"⟩
def RX3 : String := "FortyGates$Hill"
def TX3 : u_T := fun k => match k with
  | 0 => ("FortyGates$Hill", "gates", "LFortyGates$Gates;", true)
  | 1 => ("FortyGates$Hill", "skill", "[I", true)
  | 2 => ("FortyGates$Hill", "skiers", "I", false)
  | 3 => ("FortyGates$Hill", "runs", "I", false)
  | 4 => ("FortyGates$Hill", "tape", "LFortyGates$Tape;", true)
  | 5 => ("FortyGates$Hill", "clauses", "LFortyGates$Clauses;", true)
  | 6 => ("FortyGates$Hill", "slopes", "I", false)
  | 7 => ("FortyGates$Hill", "seen", "LFortyGates$Notes;", true)
  | _ => ("FortyGates$Hill", "book", "LFortyGates$Notes;", true)
def tyX3 : Nat → FieldType := fun k => match k with
  | 0 => .object "FortyGates$Gates"
  | 1 => .array .int
  | 2 => .int
  | 3 => .int
  | 4 => .object "FortyGates$Tape"
  | 5 => .object "FortyGates$Clauses"
  | 6 => .int
  | 7 => .object "FortyGates$Notes"
  | _ => .object "FortyGates$Notes"
abbrev wsX30 : List Cond := u_ws RX3 TX3 9
theorem nmX3 : ∀ a, a < 9 → ∀ b, b < 9 → a ≠ b → (TX3 a).2.1 ≠ (TX3 b).2.1 := by decide +kernel
theorem tyX3_ok : ∀ k, k < 9 → parseFieldDescriptor (TX3 k).2.2.1 = some (tyX3 k) := by decide +kernel
abbrev cX3_init : ByteArray := prog_5_method_1_code
def yX3_init : MethodName := ⟨RX3, "<init>", "()V"⟩
abbrev cX3_copyFrom : ByteArray := prog_5_method_2_code
def yX3_copyFrom : MethodName := ⟨RX3, "copyFrom", "(LFortyGates$Hill;)V"⟩
def RX4 : String := "FortyGates$Matches"
def TX4 : u_T := fun k => match k with
  | 0 => ("FortyGates$Matches", "firstRow", "[I", true)
  | 1 => ("FortyGates$Matches", "row", "[I", true)
  | 2 => ("FortyGates$Matches", "due", "[I", true)
  | _ => ("FortyGates$Matches", "found", "I", false)
def tyX4 : Nat → FieldType := fun k => match k with
  | 0 => .array .int
  | 1 => .array .int
  | 2 => .array .int
  | _ => .int
abbrev wsX40 : List Cond := u_ws RX4 TX4 4
theorem nmX4 : ∀ a, a < 4 → ∀ b, b < 4 → a ≠ b → (TX4 a).2.1 ≠ (TX4 b).2.1 := by decide +kernel
theorem tyX4_ok : ∀ k, k < 4 → parseFieldDescriptor (TX4 k).2.2.1 = some (tyX4 k) := by decide +kernel
abbrev cX4_init : ByteArray := prog_6_method_1_code
def yX4_init : MethodName := ⟨RX4, "<init>", "()V"⟩
abbrev cX4_search : ByteArray := prog_6_method_2_code
def yX4_search : MethodName := ⟨RX4, "search", "(LFortyGates$Passage;LFortyGates$Notes;)I"⟩
abbrev cX4_reach : ByteArray := prog_6_method_3_code
def yX4_reach : MethodName := ⟨RX4, "reach", "(LFortyGates$Passage;III)V"⟩
abbrev cX4_passBy : ByteArray := prog_6_method_4_code
def yX4_passBy : MethodName := ⟨RX4, "passBy", "(LFortyGates$Passage;III)V"⟩
def RX5 : String := "FortyGates$Notes"
def TX5 : u_T := fun k => match k with
  | 0 => ("FortyGates$Notes", "size", "I", false)
  | 1 => ("FortyGates$Notes", "key", "[I", true)
  | _ => ("FortyGates$Notes", "time", "[I", true)
def tyX5 : Nat → FieldType := fun k => match k with
  | 0 => .int
  | 1 => .array .int
  | _ => .array .int
abbrev wsX50 : List Cond := u_ws RX5 TX5 3
theorem nmX5 : ∀ a, a < 3 → ∀ b, b < 3 → a ≠ b → (TX5 a).2.1 ≠ (TX5 b).2.1 := by decide +kernel
theorem tyX5_ok : ∀ k, k < 3 → parseFieldDescriptor (TX5 k).2.2.1 = some (tyX5 k) := by decide +kernel
abbrev cX5_init : ByteArray := prog_7_method_1_code
def yX5_init : MethodName := ⟨RX5, "<init>", "(I)V"⟩
abbrev cX5_append : ByteArray := prog_7_method_2_code
def yX5_append : MethodName := ⟨RX5, "append", "(II)Z"⟩
abbrev cX5_clear : ByteArray := prog_7_method_3_code
def yX5_clear : MethodName := ⟨RX5, "clear", "()I"⟩
abbrev cX5_copyFrom : ByteArray := prog_7_method_4_code
def yX5_copyFrom : MethodName := ⟨RX5, "copyFrom", "(LFortyGates$Notes;)V"⟩
def RX6 : String := "FortyGates$Passage"
def TX6 : u_T := fun k => match k with
  | 0 => ("FortyGates$Passage", "size", "I", false)
  | 1 => ("FortyGates$Passage", "order", "[I", true)
  | 2 => ("FortyGates$Passage", "over", "[I", true)
  | 3 => ("FortyGates$Passage", "takes", "[I", true)
  | 4 => ("FortyGates$Passage", "behind", "[I", true)
  | 5 => ("FortyGates$Passage", "facts", "[I", true)
  | 6 => ("FortyGates$Passage", "ice", "[I", true)
  | 7 => ("FortyGates$Passage", "wax", "[I", true)
  | 8 => ("FortyGates$Passage", "least", "[I", true)
  | 9 => ("FortyGates$Passage", "choice", "[I", true)
  | 10 => ("FortyGates$Passage", "best", "[I", true)
  | 11 => ("FortyGates$Passage", "took", "[I", true)
  | 12 => ("FortyGates$Passage", "overThere", "[I", true)
  | 13 => ("FortyGates$Passage", "total", "I", false)
  | 14 => ("FortyGates$Passage", "paceBehind", "I", false)
  | 15 => ("FortyGates$Passage", "slides", "Z", false)
  | _ => ("FortyGates$Passage", "chances", "J", false)
def tyX6 : Nat → FieldType := fun k => match k with
  | 0 => .int
  | 1 => .array .int
  | 2 => .array .int
  | 3 => .array .int
  | 4 => .array .int
  | 5 => .array .int
  | 6 => .array .int
  | 7 => .array .int
  | 8 => .array .int
  | 9 => .array .int
  | 10 => .array .int
  | 11 => .array .int
  | 12 => .array .int
  | 13 => .int
  | 14 => .int
  | 15 => .boolean
  | _ => .long
abbrev wsX60 : List Cond := u_ws RX6 TX6 17
theorem nmX6 : ∀ a, a < 17 → ∀ b, b < 17 → a ≠ b → (TX6 a).2.1 ≠ (TX6 b).2.1 := by decide +kernel
theorem tyX6_ok : ∀ k, k < 17 → parseFieldDescriptor (TX6 k).2.2.1 = some (tyX6 k) := by decide +kernel
abbrev cX6_init : ByteArray := prog_8_method_1_code
def yX6_init : MethodName := ⟨RX6, "<init>", "()V"⟩
abbrev cX6_prepare : ByteArray := prog_8_method_2_code
def yX6_prepare : MethodName := ⟨RX6, "prepare", "(LFortyGates$Hill;IIZ)V"⟩
abbrev cX6_sumClauses : ByteArray := prog_8_method_3_code
def yX6_sumClauses : MethodName := ⟨RX6, "sumClauses", "(LFortyGates$Clauses;Z)V"⟩
abbrev cX6_addAt : ByteArray := prog_8_method_4_code
def yX6_addAt : MethodName := ⟨RX6, "addAt", "([III)V"⟩
abbrev cX6_tightness : ByteArray := prog_8_method_5_code
def yX6_tightness : MethodName := ⟨RX6, "tightness", "(LFortyGates$Hill;II)I"⟩
abbrev cX6_ruts : ByteArray := prog_8_method_6_code
def yX6_ruts : MethodName := ⟨RX6, "ruts", "(LFortyGates$Hill;II)I"⟩
abbrev cX6_fillGate : ByteArray := prog_8_method_7_code
def yX6_fillGate : MethodName := ⟨RX6, "fillGate", "(IIII)V"⟩
abbrev cX6_cell : ByteArray := prog_8_method_8_code
def yX6_cell : MethodName := ⟨RX6, "cell", "(III)I"⟩
abbrev cX6_held : ByteArray := prog_8_method_9_code
def yX6_held : MethodName := ⟨RX6, "held", "(II)I"⟩
abbrev cX6_timeAt : ByteArray := prog_8_method_10_code
def yX6_timeAt : MethodName := ⟨RX6, "timeAt", "(III)I"⟩
abbrev cX6_overAt : ByteArray := prog_8_method_11_code
def yX6_overAt : MethodName := ⟨RX6, "overAt", "(III)I"⟩
abbrev cX6_paceAfter : ByteArray := prog_8_method_12_code
def yX6_paceAfter : MethodName := ⟨RX6, "paceAfter", "(III)I"⟩
abbrev cX6_changePlaces : ByteArray := prog_8_method_13_code
def yX6_changePlaces : MethodName := ⟨RX6, "changePlaces", "(II)V"⟩
abbrev cX6_leastFrom : ByteArray := prog_8_method_14_code
def yX6_leastFrom : MethodName := ⟨RX6, "leastFrom", "(II)I"⟩
abbrev cX6_solve : ByteArray := prog_8_method_15_code
def yX6_solve : MethodName := ⟨RX6, "solve", "(Z)I"⟩
abbrev cX6_solveAt : ByteArray := prog_8_method_16_code
def yX6_solveAt : MethodName := ⟨RX6, "solveAt", "(IIZ)V"⟩
abbrev cX6_goByBest : ByteArray := prog_8_method_17_code
def yX6_goByBest : MethodName := ⟨RX6, "goByBest", "()V"⟩
abbrev cX6_go : ByteArray := prog_8_method_18_code
def yX6_go : MethodName := ⟨RX6, "go", "([I)V"⟩
abbrev cX6_hasRowOf : ByteArray := prog_8_method_19_code
def yX6_hasRowOf : MethodName := ⟨RX6, "hasRowOf", "(LFortyGates$Passage;)Z"⟩
def RX7 : String := "FortyGates$Reader"
def TX7 : u_T := fun k => match k with
  | 0 => ("FortyGates$Reader", "made", "LFortyGates$Clauses;", true)
  | 1 => ("FortyGates$Reader", "place", "I", false)
  | 2 => ("FortyGates$Reader", "size", "I", false)
  | _ => ("FortyGates$Reader", "signs", "[I", false)
def tyX7 : Nat → FieldType := fun k => match k with
  | 0 => .object "FortyGates$Clauses"
  | 1 => .int
  | 2 => .int
  | _ => .array .int
abbrev wsX70 : List Cond := u_ws RX7 TX7 4
theorem nmX7 : ∀ a, a < 4 → ∀ b, b < 4 → a ≠ b → (TX7 a).2.1 ≠ (TX7 b).2.1 := by decide +kernel
theorem tyX7_ok : ∀ k, k < 4 → parseFieldDescriptor (TX7 k).2.2.1 = some (tyX7 k) := by decide +kernel
abbrev cX7_init : ByteArray := prog_9_method_1_code
def yX7_init : MethodName := ⟨RX7, "<init>", "()V"⟩
abbrev cX7_readTape : ByteArray := prog_9_method_2_code
def yX7_readTape : MethodName := ⟨RX7, "readTape", "(LFortyGates$Tape;)Z"⟩
abbrev cX7_readClause : ByteArray := prog_9_method_3_code
def yX7_readClause : MethodName := ⟨RX7, "readClause", "()Z"⟩
abbrev cX7_readSetting : ByteArray := prog_9_method_4_code
def yX7_readSetting : MethodName := ⟨RX7, "readSetting", "()Z"⟩
abbrev cX7_readAny : ByteArray := prog_9_method_5_code
def yX7_readAny : MethodName := ⟨RX7, "readAny", "(I)Z"⟩
abbrev cX7_readPart : ByteArray := prog_9_method_6_code
def yX7_readPart : MethodName := ⟨RX7, "readPart", "(I)Z"⟩
abbrev cX7_readNot : ByteArray := prog_9_method_7_code
def yX7_readNot : MethodName := ⟨RX7, "readNot", "(I)Z"⟩
abbrev cX7_readTest : ByteArray := prog_9_method_8_code
def yX7_readTest : MethodName := ⟨RX7, "readTest", "()Z"⟩
abbrev cX7_digitsBy : ByteArray := prog_9_method_9_code
def yX7_digitsBy : MethodName := ⟨RX7, "digitsBy", "(II)I"⟩
abbrev cX7_readNumber : ByteArray := prog_9_method_10_code
def yX7_readNumber : MethodName := ⟨RX7, "readNumber", "()I"⟩
abbrev cX7_sees : ByteArray := prog_9_method_11_code
def yX7_sees : MethodName := ⟨RX7, "sees", "(C)Z"⟩
abbrev cX7_take : ByteArray := prog_9_method_12_code
def yX7_take : MethodName := ⟨RX7, "take", "(C)Z"⟩
abbrev cX7_takeWord : ByteArray := prog_9_method_13_code
def yX7_takeWord : MethodName := ⟨RX7, "takeWord", "(Ljava/lang/String;)Z"⟩
abbrev cX7_takeOneOf : ByteArray := prog_9_method_14_code
def yX7_takeOneOf : MethodName := ⟨RX7, "takeOneOf", "(Ljava/lang/String;)I"⟩
def RX8 : String := "FortyGates$Safest"
def TX8 : u_T := fun k => match k with
  | 0 => ("FortyGates$Safest", "best", "J", false)
  | 1 => ("FortyGates$Safest", "bestRow", "[I", true)
  | 2 => ("FortyGates$Safest", "row", "[I", true)
  | _ => ("FortyGates$Safest", "limit", "I", false)
def tyX8 : Nat → FieldType := fun k => match k with
  | 0 => .long
  | 1 => .array .int
  | 2 => .array .int
  | _ => .int
abbrev wsX80 : List Cond := u_ws RX8 TX8 4
theorem nmX8 : ∀ a, a < 4 → ∀ b, b < 4 → a ≠ b → (TX8 a).2.1 ≠ (TX8 b).2.1 := by decide +kernel
theorem tyX8_ok : ∀ k, k < 4 → parseFieldDescriptor (TX8 k).2.2.1 = some (tyX8 k) := by decide +kernel
abbrev cX8_init : ByteArray := prog_10_method_1_code
def yX8_init : MethodName := ⟨RX8, "<init>", "()V"⟩
abbrev cX8_search : ByteArray := prog_10_method_2_code
def yX8_search : MethodName := ⟨RX8, "search", "(LFortyGates$Passage;I)V"⟩
abbrev cX8_reach : ByteArray := prog_10_method_3_code
def yX8_reach : MethodName := ⟨RX8, "reach", "(LFortyGates$Passage;IIIJ)V"⟩
abbrev cX8_passBy : ByteArray := prog_10_method_4_code
def yX8_passBy : MethodName := ⟨RX8, "passBy", "(LFortyGates$Passage;IIIJ)V"⟩
def RX9 : String := "FortyGates$Tape"
def TX9 : u_T := fun k => match k with
  | 0 => ("FortyGates$Tape", "size", "I", false)
  | _ => ("FortyGates$Tape", "signs", "[I", true)
def tyX9 : Nat → FieldType := fun k => match k with
  | 0 => .int
  | _ => .array .int
abbrev wsX90 : List Cond := u_ws RX9 TX9 2
theorem nmX9 : ∀ a, a < 2 → ∀ b, b < 2 → a ≠ b → (TX9 a).2.1 ≠ (TX9 b).2.1 := by decide +kernel
theorem tyX9_ok : ∀ k, k < 2 → parseFieldDescriptor (TX9 k).2.2.1 = some (tyX9 k) := by decide +kernel
abbrev cX9_init : ByteArray := prog_11_method_1_code
def yX9_init : MethodName := ⟨RX9, "<init>", "()V"⟩
abbrev cX9_copyFrom : ByteArray := prog_11_method_2_code
def yX9_copyFrom : MethodName := ⟨RX9, "copyFrom", "(LFortyGates$Tape;)V"⟩
def RX10 : String := "FortyGates"
def TX10 : u_T := fun k => match k with
  | 0 => ("FortyGates", "hill", "LFortyGates$Hill;", true)
  | 1 => ("FortyGates", "kept", "LFortyGates$Hill;", true)
  | 2 => ("FortyGates", "imaged", "Z", false)
  | 3 => ("FortyGates", "reader", "LFortyGates$Reader;", true)
  | 4 => ("FortyGates", "first", "LFortyGates$Passage;", true)
  | 5 => ("FortyGates", "second", "LFortyGates$Passage;", true)
  | 6 => ("FortyGates", "safest", "LFortyGates$Safest;", true)
  | 7 => ("FortyGates", "matches", "LFortyGates$Matches;", true)
  | 8 => ("FortyGates", "acts", "LFortyGates$Acts;", true)
  | _ => ("FortyGates", "leastOf", "[I", true)
def tyX10 : Nat → FieldType := fun k => match k with
  | 0 => .object "FortyGates$Hill"
  | 1 => .object "FortyGates$Hill"
  | 2 => .boolean
  | 3 => .object "FortyGates$Reader"
  | 4 => .object "FortyGates$Passage"
  | 5 => .object "FortyGates$Passage"
  | 6 => .object "FortyGates$Safest"
  | 7 => .object "FortyGates$Matches"
  | 8 => .object "FortyGates$Acts"
  | _ => .array .int
abbrev wsX100 : List Cond := u_ws RX10 TX10 10
theorem nmX10 : ∀ a, a < 10 → ∀ b, b < 10 → a ≠ b → (TX10 a).2.1 ≠ (TX10 b).2.1 := by decide +kernel
theorem tyX10_ok : ∀ k, k < 10 → parseFieldDescriptor (TX10 k).2.2.1 = some (tyX10 k) := by decide +kernel
abbrev cX10_init : ByteArray := prog_1_method_1_code
def yX10_init : MethodName := ⟨RX10, "<init>", "()V"⟩
abbrev cX10_feed : ByteArray := prog_1_method_2_code
def yX10_feed : MethodName := ⟨RX10, "feed", "(I)I"⟩
abbrev cX10_slope : ByteArray := prog_1_method_3_code
def yX10_slope : MethodName := ⟨RX10, "slope", "()I"⟩
abbrev cX10_gate : ByteArray := prog_1_method_4_code
def yX10_gate : MethodName := ⟨RX10, "gate", "(III)I"⟩
abbrev cX10_of : ByteArray := prog_1_method_5_code
def yX10_of : MethodName := ⟨RX10, "of", "(II)I"⟩
abbrev cX10_turn : ByteArray := prog_1_method_6_code
def yX10_turn : MethodName := ⟨RX10, "turn", "(II)I"⟩
abbrev cX10_plan : ByteArray := prog_1_method_7_code
def yX10_plan : MethodName := ⟨RX10, "plan", "(II)I"⟩
abbrev cX10_row : ByteArray := prog_1_method_8_code
def yX10_row : MethodName := ⟨RX10, "row", "(III)I"⟩
abbrev cX10_skier : ByteArray := prog_1_method_9_code
def yX10_skier : MethodName := ⟨RX10, "skier", "(I)I"⟩
abbrev cX10_skill : ByteArray := prog_1_method_10_code
def yX10_skill : MethodName := ⟨RX10, "skill", "(II)I"⟩
abbrev cX10_told : ByteArray := prog_1_method_11_code
def yX10_told : MethodName := ⟨RX10, "told", "(I)I"⟩
abbrev cX10_run : ByteArray := prog_1_method_12_code
def yX10_run : MethodName := ⟨RX10, "run", "(I)I"⟩
abbrev cX10_would : ByteArray := prog_1_method_13_code
def yX10_would : MethodName := ⟨RX10, "would", "(II)I"⟩
abbrev cX10_quickest : ByteArray := prog_1_method_14_code
def yX10_quickest : MethodName := ⟨RX10, "quickest", "(II)I"⟩
abbrev cX10_clean : ByteArray := prog_1_method_15_code
def yX10_clean : MethodName := ⟨RX10, "clean", "(II)I"⟩
abbrev cX10_up : ByteArray := prog_1_method_16_code
def yX10_up : MethodName := ⟨RX10, "up", "(II)J"⟩
abbrev cX10_surest : ByteArray := prog_1_method_17_code
def yX10_surest : MethodName := ⟨RX10, "surest", "(III)J"⟩
abbrev cX10_sure : ByteArray := prog_1_method_18_code
def yX10_sure : MethodName := ⟨RX10, "sure", "(III)I"⟩
abbrev cX10_carry : ByteArray := prog_1_method_19_code
def yX10_carry : MethodName := ⟨RX10, "carry", "(II)I"⟩
abbrev cX10_start : ByteArray := prog_1_method_20_code
def yX10_start : MethodName := ⟨RX10, "start", "(II)I"⟩
abbrev cX10_rutted : ByteArray := prog_1_method_21_code
def yX10_rutted : MethodName := ⟨RX10, "rutted", "(I)I"⟩
abbrev cX10_wax : ByteArray := prog_1_method_22_code
def yX10_wax : MethodName := ⟨RX10, "wax", "(I)I"⟩
abbrev cX10_loses : ByteArray := prog_1_method_23_code
def yX10_loses : MethodName := ⟨RX10, "loses", "(III)I"⟩
abbrev cX10_wins : ByteArray := prog_1_method_24_code
def yX10_wins : MethodName := ⟨RX10, "wins", "(IIII)J"⟩
abbrev cX10_risk : ByteArray := prog_1_method_25_code
def yX10_risk : MethodName := ⟨RX10, "risk", "(IIII)J"⟩
abbrev cX10_set : ByteArray := prog_1_method_26_code
def yX10_set : MethodName := ⟨RX10, "set", "(II)I"⟩
abbrev cX10_rank : ByteArray := prog_1_method_27_code
def yX10_rank : MethodName := ⟨RX10, "rank", "(I)I"⟩
abbrev cX10_mean : ByteArray := prog_1_method_28_code
def yX10_mean : MethodName := ⟨RX10, "mean", "(I)J"⟩
abbrev cX10_slowest : ByteArray := prog_1_method_29_code
def yX10_slowest : MethodName := ⟨RX10, "slowest", "(I)I"⟩
abbrev cX10_see : ByteArray := prog_1_method_30_code
def yX10_see : MethodName := ⟨RX10, "see", "(II)I"⟩
abbrev cX10_fits : ByteArray := prog_1_method_31_code
def yX10_fits : MethodName := ⟨RX10, "fits", "(II)I"⟩
abbrev cX10_who : ByteArray := prog_1_method_32_code
def yX10_who : MethodName := ⟨RX10, "who", "()I"⟩
abbrev cX10_book : ByteArray := prog_1_method_33_code
def yX10_book : MethodName := ⟨RX10, "book", "(II)I"⟩
abbrev cX10_looked : ByteArray := prog_1_method_34_code
def yX10_looked : MethodName := ⟨RX10, "looked", "()I"⟩
abbrev cX10_act : ByteArray := prog_1_method_35_code
def yX10_act : MethodName := ⟨RX10, "act", "(III)I"⟩
abbrev cX10_trace : ByteArray := prog_1_method_36_code
def yX10_trace : MethodName := ⟨RX10, "trace", "(I)I"⟩
abbrev cX10_as : ByteArray := prog_1_method_37_code
def yX10_as : MethodName := ⟨RX10, "as", "(II)I"⟩
abbrev cX10_image : ByteArray := prog_1_method_38_code
def yX10_image : MethodName := ⟨RX10, "image", "()I"⟩
abbrev cX10_undo : ByteArray := prog_1_method_39_code
def yX10_undo : MethodName := ⟨RX10, "undo", "()I"⟩
abbrev cX10_count : ByteArray := prog_1_method_40_code
def yX10_count : MethodName := ⟨RX10, "count", "(I)I"⟩
abbrev cX10_noGate : ByteArray := prog_1_method_41_code
def yX10_noGate : MethodName := ⟨RX10, "noGate", "(I)Z"⟩
abbrev cX10_noSkier : ByteArray := prog_1_method_42_code
def yX10_noSkier : MethodName := ⟨RX10, "noSkier", "(I)Z"⟩
abbrev cX10_noPart : ByteArray := prog_1_method_43_code
def yX10_noPart : MethodName := ⟨RX10, "noPart", "(I)Z"⟩
abbrev cX10_outside : ByteArray := prog_1_method_44_code
def yX10_outside : MethodName := ⟨RX10, "outside", "(III)Z"⟩
abbrev cX10_exchange : ByteArray := prog_1_method_45_code
def yX10_exchange : MethodName := ⟨RX10, "exchange", "([III)I"⟩
abbrev cX10_note : ByteArray := prog_1_method_46_code
def yX10_note : MethodName := ⟨RX10, "note", "(LFortyGates$Notes;II)I"⟩
abbrev cX10_goByTheLine : ByteArray := prog_1_method_47_code
def yX10_goByTheLine : MethodName := ⟨RX10, "goByTheLine", "(I)V"⟩
abbrev cX10_leastTime : ByteArray := prog_1_method_48_code
def yX10_leastTime : MethodName := ⟨RX10, "leastTime", "(LFortyGates$Passage;I)I"⟩
abbrev cX10_goBothByBest : ByteArray := prog_1_method_49_code
def yX10_goBothByBest : MethodName := ⟨RX10, "goBothByBest", "(II)V"⟩
abbrev cX10_bestLine : ByteArray := prog_1_method_50_code
def yX10_bestLine : MethodName := ⟨RX10, "bestLine", "(IIZ)I"⟩
abbrev cX10_surestWithin : ByteArray := prog_1_method_51_code
def yX10_surestWithin : MethodName := ⟨RX10, "surestWithin", "(III)J"⟩
abbrev cX10_aheadIfChanged : ByteArray := prog_1_method_52_code
def yX10_aheadIfChanged : MethodName := ⟨RX10, "aheadIfChanged", "(II)I"⟩
abbrev cX10_linesThatFit : ByteArray := prog_1_method_53_code
def yX10_linesThatFit : MethodName := ⟨RX10, "linesThatFit", "(I)I"⟩
abbrev cX10_placeOf : ByteArray := prog_1_method_54_code
def yX10_placeOf : MethodName := ⟨RX10, "placeOf", "(I)I"⟩
abbrev cX10_lowest : ByteArray := prog_1_method_55_code
def yX10_lowest : MethodName := ⟨RX10, "lowest", "(JJI)J"⟩
def RX11 : String := "FortyGatesModel"
def TX11 : u_T := fun k => match k with
  | 0 => ("FortyGatesModel", "thrown", "I", false)
  | 1 => ("FortyGatesModel", "s", "[I", true)
  | 2 => ("FortyGatesModel", "image", "[I", true)
  | 3 => ("FortyGatesModel", "hasImage", "Z", false)
  | 4 => ("FortyGatesModel", "act", "I", false)
  | 5 => ("FortyGatesModel", "spot", "I", false)
  | 6 => ("FortyGatesModel", "end", "I", false)
  | 7 => ("FortyGatesModel", "isWrong", "Z", false)
  | 8 => ("FortyGatesModel", "open", "I", false)
  | 9 => ("FortyGatesModel", "by", "[I", true)
  | 10 => ("FortyGatesModel", "truths", "[Z", true)
  | 11 => ("FortyGatesModel", "waxed", "I", false)
  | 12 => ("FortyGatesModel", "iced", "I", false)
  | 13 => ("FortyGatesModel", "standing", "[I", true)
  | 14 => ("FortyGatesModel", "skierNow", "I", false)
  | 15 => ("FortyGatesModel", "runsNow", "I", false)
  | 16 => ("FortyGatesModel", "isPlain", "Z", false)
  | 17 => ("FortyGatesModel", "keptWax", "[I", true)
  | 18 => ("FortyGatesModel", "keptIce", "[I", true)
  | 19 => ("FortyGatesModel", "passTakes", "[I", true)
  | 20 => ("FortyGatesModel", "passOver", "[I", true)
  | 21 => ("FortyGatesModel", "passThen", "[I", true)
  | 22 => ("FortyGatesModel", "over", "I", false)
  | 23 => ("FortyGatesModel", "takes", "I", false)
  | 24 => ("FortyGatesModel", "then", "I", false)
  | 25 => ("FortyGatesModel", "took", "[I", true)
  | 26 => ("FortyGatesModel", "overs", "[I", true)
  | 27 => ("FortyGatesModel", "line", "[I", true)
  | 28 => ("FortyGatesModel", "time", "I", false)
  | 29 => ("FortyGatesModel", "paceThen", "I", false)
  | 30 => ("FortyGatesModel", "isSliding", "Z", false)
  | 31 => ("FortyGatesModel", "ups", "J", false)
  | 32 => ("FortyGatesModel", "trying", "[I", true)
  | 33 => ("FortyGatesModel", "best", "[I", true)
  | 34 => ("FortyGatesModel", "asked", "I", false)
  | 35 => ("FortyGatesModel", "limit", "I", false)
  | 36 => ("FortyGatesModel", "leastTime", "I", false)
  | 37 => ("FortyGatesModel", "mostUps", "J", false)
  | 38 => ("FortyGatesModel", "many", "I", false)
  | 39 => ("FortyGatesModel", "kept", "[I", true)
  | 40 => ("FortyGatesModel", "firstTook", "[I", true)
  | 41 => ("FortyGatesModel", "times", "[I", true)
  | 42 => ("FortyGatesModel", "bodies", "[I", true)
  | 43 => ("FortyGatesModel", "ran", "I", false)
  | 44 => ("FortyGatesModel", "kind", "I", false)
  | 45 => ("FortyGatesModel", "number", "I", false)
  | _ => ("FortyGatesModel", "tellsV", "I", false)
def tyX11 : Nat → FieldType := fun k => match k with
  | 0 => .int
  | 1 => .array .int
  | 2 => .array .int
  | 3 => .boolean
  | 4 => .int
  | 5 => .int
  | 6 => .int
  | 7 => .boolean
  | 8 => .int
  | 9 => .array .int
  | 10 => .array .boolean
  | 11 => .int
  | 12 => .int
  | 13 => .array .int
  | 14 => .int
  | 15 => .int
  | 16 => .boolean
  | 17 => .array .int
  | 18 => .array .int
  | 19 => .array .int
  | 20 => .array .int
  | 21 => .array .int
  | 22 => .int
  | 23 => .int
  | 24 => .int
  | 25 => .array .int
  | 26 => .array .int
  | 27 => .array .int
  | 28 => .int
  | 29 => .int
  | 30 => .boolean
  | 31 => .long
  | 32 => .array .int
  | 33 => .array .int
  | 34 => .int
  | 35 => .int
  | 36 => .int
  | 37 => .long
  | 38 => .int
  | 39 => .array .int
  | 40 => .array .int
  | 41 => .array .int
  | 42 => .array .int
  | 43 => .int
  | 44 => .int
  | 45 => .int
  | _ => .int
abbrev wsX110 : List Cond := u_ws RX11 TX11 47
theorem nmX11 : ∀ a, a < 47 → ∀ b, b < 47 → a ≠ b → (TX11 a).2.1 ≠ (TX11 b).2.1 := by decide +kernel
theorem tyX11_ok : ∀ k, k < 47 → parseFieldDescriptor (TX11 k).2.2.1 = some (tyX11 k) := by decide +kernel
abbrev cX11_init : ByteArray := prog_13_method_1_code
def yX11_init : MethodName := ⟨RX11, "<init>", "()V"⟩
abbrev cX11_in : ByteArray := prog_13_method_3_code
def yX11_in : MethodName := ⟨RX11, "in", "(III)Z"⟩
abbrev cX11_within : ByteArray := prog_13_method_4_code
def yX11_within : MethodName := ⟨RX11, "within", "(III)I"⟩
abbrev cX11_isGate : ByteArray := prog_13_method_5_code
def yX11_isGate : MethodName := ⟨RX11, "isGate", "(I)Z"⟩
abbrev cX11_isSkier : ByteArray := prog_13_method_6_code
def yX11_isSkier : MethodName := ⟨RX11, "isSkier", "(I)Z"⟩
abbrev cX11_feed : ByteArray := prog_13_method_7_code
def yX11_feed : MethodName := ⟨RX11, "feed", "(I)I"⟩
abbrev cX11_here : ByteArray := prog_13_method_8_code
def yX11_here : MethodName := ⟨RX11, "here", "()I"⟩
abbrev cX11_must : ByteArray := prog_13_method_9_code
def yX11_must : MethodName := ⟨RX11, "must", "(I)V"⟩
abbrev cX11_spells : ByteArray := prog_13_method_10_code
def yX11_spells : MethodName := ⟨RX11, "spells", "(Ljava/lang/String;)V"⟩
abbrev cX11_figures : ByteArray := prog_13_method_11_code
def yX11_figures : MethodName := ⟨RX11, "figures", "()I"⟩
abbrev cX11_among : ByteArray := prog_13_method_12_code
def yX11_among : MethodName := ⟨RX11, "among", "(Ljava/lang/String;)I"⟩
abbrev cX11_emits : ByteArray := prog_13_method_13_code
def yX11_emits : MethodName := ⟨RX11, "emits", "(I)V"⟩
abbrev cX11_factor : ByteArray := prog_13_method_14_code
def yX11_factor : MethodName := ⟨RX11, "factor", "()V"⟩
abbrev cX11_every : ByteArray := prog_13_method_15_code
def yX11_every : MethodName := ⟨RX11, "every", "()V"⟩
abbrev cX11_some : ByteArray := prog_13_method_16_code
def yX11_some : MethodName := ⟨RX11, "some", "()V"⟩
abbrev cX11_much : ByteArray := prog_13_method_17_code
def yX11_much : MethodName := ⟨RX11, "much", "(ILjava/lang/String;)V"⟩
abbrev cX11_tellsHere : ByteArray := prog_13_method_18_code
def yX11_tellsHere : MethodName := ⟨RX11, "tellsHere", "(ILjava/lang/String;)V"⟩
abbrev cX11_clauseHere : ByteArray := prog_13_method_19_code
def yX11_clauseHere : MethodName := ⟨RX11, "clauseHere", "()V"⟩
abbrev cX11_slope : ByteArray := prog_13_method_20_code
def yX11_slope : MethodName := ⟨RX11, "slope", "()I"⟩
abbrev cX11_tellsOf : ByteArray := prog_13_method_21_code
def yX11_tellsOf : MethodName := ⟨RX11, "tellsOf", "(II)I"⟩
abbrev cX11_looks : ByteArray := prog_13_method_22_code
def yX11_looks : MethodName := ⟨RX11, "looks", "(IIII)V"⟩
abbrev cX11_gate : ByteArray := prog_13_method_23_code
def yX11_gate : MethodName := ⟨RX11, "gate", "(III)I"⟩
abbrev cX11_of : ByteArray := prog_13_method_24_code
def yX11_of : MethodName := ⟨RX11, "of", "(II)I"⟩
abbrev cX11_turn : ByteArray := prog_13_method_25_code
def yX11_turn : MethodName := ⟨RX11, "turn", "(II)I"⟩
abbrev cX11_plan : ByteArray := prog_13_method_26_code
def yX11_plan : MethodName := ⟨RX11, "plan", "(II)I"⟩
abbrev cX11_row : ByteArray := prog_13_method_27_code
def yX11_row : MethodName := ⟨RX11, "row", "(III)I"⟩
abbrev cX11_skier : ByteArray := prog_13_method_28_code
def yX11_skier : MethodName := ⟨RX11, "skier", "(I)I"⟩
abbrev cX11_skill : ByteArray := prog_13_method_29_code
def yX11_skill : MethodName := ⟨RX11, "skill", "(II)I"⟩
abbrev cX11_told : ByteArray := prog_13_method_30_code
def yX11_told : MethodName := ⟨RX11, "told", "(I)I"⟩
abbrev cX11_runsAre : ByteArray := prog_13_method_31_code
def yX11_runsAre : MethodName := ⟨RX11, "runsAre", "(I)V"⟩
abbrev cX11_begins : ByteArray := prog_13_method_32_code
def yX11_begins : MethodName := ⟨RX11, "begins", "(II)V"⟩
abbrev cX11_asTheyStand : ByteArray := prog_13_method_33_code
def yX11_asTheyStand : MethodName := ⟨RX11, "asTheyStand", "()V"⟩
abbrev cX11_beginsNow : ByteArray := prog_13_method_34_code
def yX11_beginsNow : MethodName := ⟨RX11, "beginsNow", "(I)V"⟩
abbrev cX11_looksForPass : ByteArray := prog_13_method_35_code
def yX11_looksForPass : MethodName := ⟨RX11, "looksForPass", "(III)V"⟩
abbrev cX11_passes : ByteArray := prog_13_method_36_code
def yX11_passes : MethodName := ⟨RX11, "passes", "(III)V"⟩
abbrev cX11_runsBy : ByteArray := prog_13_method_37_code
def yX11_runsBy : MethodName := ⟨RX11, "runsBy", "()V"⟩
abbrev cX11_runsByPlan : ByteArray := prog_13_method_38_code
def yX11_runsByPlan : MethodName := ⟨RX11, "runsByPlan", "(I)V"⟩
abbrev cX11_run : ByteArray := prog_13_method_39_code
def yX11_run : MethodName := ⟨RX11, "run", "(I)I"⟩
abbrev cX11_would : ByteArray := prog_13_method_40_code
def yX11_would : MethodName := ⟨RX11, "would", "(II)I"⟩
abbrev cX11_power : ByteArray := prog_13_method_41_code
def yX11_power : MethodName := ⟨RX11, "power", "(I)J"⟩
abbrev cX11_lowest : ByteArray := prog_13_method_42_code
def yX11_lowest : MethodName := ⟨RX11, "lowest", "(JJI)J"⟩
abbrev cX11_up : ByteArray := prog_13_method_43_code
def yX11_up : MethodName := ⟨RX11, "up", "(II)J"⟩
abbrev cX11_takesLine : ByteArray := prog_13_method_44_code
def yX11_takesLine : MethodName := ⟨RX11, "takesLine", "()V"⟩
abbrev cX11_ends : ByteArray := prog_13_method_45_code
def yX11_ends : MethodName := ⟨RX11, "ends", "(IJ)V"⟩
abbrev cX11_isAsSeen : ByteArray := prog_13_method_46_code
def yX11_isAsSeen : MethodName := ⟨RX11, "isAsSeen", "(II)Z"⟩
abbrev cX11_linesFrom : ByteArray := prog_13_method_47_code
def yX11_linesFrom : MethodName := ⟨RX11, "linesFrom", "(IIIJ)V"⟩
abbrev cX11_looksForLines : ByteArray := prog_13_method_48_code
def yX11_looksForLines : MethodName := ⟨RX11, "looksForLines", "(III)V"⟩
abbrev cX11_leastBy : ByteArray := prog_13_method_49_code
def yX11_leastBy : MethodName := ⟨RX11, "leastBy", "(II)I"⟩
abbrev cX11_leastNow : ByteArray := prog_13_method_50_code
def yX11_leastNow : MethodName := ⟨RX11, "leastNow", "(I)I"⟩
abbrev cX11_quickest : ByteArray := prog_13_method_51_code
def yX11_quickest : MethodName := ⟨RX11, "quickest", "(II)I"⟩
abbrev cX11_clean : ByteArray := prog_13_method_52_code
def yX11_clean : MethodName := ⟨RX11, "clean", "(II)I"⟩
abbrev cX11_looksForSurest : ByteArray := prog_13_method_53_code
def yX11_looksForSurest : MethodName := ⟨RX11, "looksForSurest", "(II)V"⟩
abbrev cX11_surestPart : ByteArray := prog_13_method_54_code
def yX11_surestPart : MethodName := ⟨RX11, "surestPart", "(I)J"⟩
abbrev cX11_surest : ByteArray := prog_13_method_55_code
def yX11_surest : MethodName := ⟨RX11, "surest", "(III)J"⟩
abbrev cX11_sure : ByteArray := prog_13_method_56_code
def yX11_sure : MethodName := ⟨RX11, "sure", "(III)I"⟩
abbrev cX11_carry : ByteArray := prog_13_method_57_code
def yX11_carry : MethodName := ⟨RX11, "carry", "(II)I"⟩
abbrev cX11_start : ByteArray := prog_13_method_58_code
def yX11_start : MethodName := ⟨RX11, "start", "(II)I"⟩
abbrev cX11_keepsBest : ByteArray := prog_13_method_59_code
def yX11_keepsBest : MethodName := ⟨RX11, "keepsBest", "()V"⟩
abbrev cX11_isOther : ByteArray := prog_13_method_60_code
def yX11_isOther : MethodName := ⟨RX11, "isOther", "()Z"⟩
abbrev cX11_rutted : ByteArray := prog_13_method_61_code
def yX11_rutted : MethodName := ⟨RX11, "rutted", "(I)I"⟩
abbrev cX11_wax : ByteArray := prog_13_method_62_code
def yX11_wax : MethodName := ⟨RX11, "wax", "(I)I"⟩
abbrev cX11_runsQuickest : ByteArray := prog_13_method_63_code
def yX11_runsQuickest : MethodName := ⟨RX11, "runsQuickest", "(I)V"⟩
abbrev cX11_loses : ByteArray := prog_13_method_64_code
def yX11_loses : MethodName := ⟨RX11, "loses", "(III)I"⟩
abbrev cX11_wins : ByteArray := prog_13_method_65_code
def yX11_wins : MethodName := ⟨RX11, "wins", "(IIII)J"⟩
abbrev cX11_risk : ByteArray := prog_13_method_66_code
def yX11_risk : MethodName := ⟨RX11, "risk", "(IIII)J"⟩
abbrev cX11_leads : ByteArray := prog_13_method_67_code
def yX11_leads : MethodName := ⟨RX11, "leads", "(II)I"⟩
abbrev cX11_set : ByteArray := prog_13_method_68_code
def yX11_set : MethodName := ⟨RX11, "set", "(II)I"⟩
abbrev cX11_looksForTimes : ByteArray := prog_13_method_69_code
def yX11_looksForTimes : MethodName := ⟨RX11, "looksForTimes", "()V"⟩
abbrev cX11_rank : ByteArray := prog_13_method_70_code
def yX11_rank : MethodName := ⟨RX11, "rank", "(I)I"⟩
abbrev cX11_mean : ByteArray := prog_13_method_71_code
def yX11_mean : MethodName := ⟨RX11, "mean", "(I)J"⟩
abbrev cX11_slowest : ByteArray := prog_13_method_72_code
def yX11_slowest : MethodName := ⟨RX11, "slowest", "(I)I"⟩
abbrev cX11_see : ByteArray := prog_13_method_73_code
def yX11_see : MethodName := ⟨RX11, "see", "(II)I"⟩
abbrev cX11_fitting : ByteArray := prog_13_method_74_code
def yX11_fitting : MethodName := ⟨RX11, "fitting", "(I)I"⟩
abbrev cX11_fits : ByteArray := prog_13_method_75_code
def yX11_fits : MethodName := ⟨RX11, "fits", "(II)I"⟩
abbrev cX11_who : ByteArray := prog_13_method_76_code
def yX11_who : MethodName := ⟨RX11, "who", "()I"⟩
abbrev cX11_book : ByteArray := prog_13_method_77_code
def yX11_book : MethodName := ⟨RX11, "book", "(II)I"⟩
abbrev cX11_looked : ByteArray := prog_13_method_78_code
def yX11_looked : MethodName := ⟨RX11, "looked", "()I"⟩
abbrev cX11_ranBody : ByteArray := prog_13_method_79_code
def yX11_ranBody : MethodName := ⟨RX11, "ranBody", "(I)V"⟩
abbrev cX11_isUnder : ByteArray := prog_13_method_80_code
def yX11_isUnder : MethodName := ⟨RX11, "isUnder", "(II)Z"⟩
abbrev cX11_plainTurns : ByteArray := prog_13_method_81_code
def yX11_plainTurns : MethodName := ⟨RX11, "plainTurns", "(I)I"⟩
abbrev cX11_turnsActs : ByteArray := prog_13_method_82_code
def yX11_turnsActs : MethodName := ⟨RX11, "turnsActs", "(I)I"⟩
abbrev cX11_plainSlides : ByteArray := prog_13_method_83_code
def yX11_plainSlides : MethodName := ⟨RX11, "plainSlides", "(I)I"⟩
abbrev cX11_slidesActs : ByteArray := prog_13_method_84_code
def yX11_slidesActs : MethodName := ⟨RX11, "slidesActs", "(I)I"⟩
abbrev cX11_plainTells : ByteArray := prog_13_method_85_code
def yX11_plainTells : MethodName := ⟨RX11, "plainTells", "(I)I"⟩
abbrev cX11_tellsActs : ByteArray := prog_13_method_86_code
def yX11_tellsActs : MethodName := ⟨RX11, "tellsActs", "(I)I"⟩
abbrev cX11_act : ByteArray := prog_13_method_87_code
def yX11_act : MethodName := ⟨RX11, "act", "(III)I"⟩
abbrev cX11_trace : ByteArray := prog_13_method_88_code
def yX11_trace : MethodName := ⟨RX11, "trace", "(I)I"⟩
abbrev cX11_as : ByteArray := prog_13_method_89_code
def yX11_as : MethodName := ⟨RX11, "as", "(II)I"⟩
abbrev cX11_image : ByteArray := prog_13_method_90_code
def yX11_image : MethodName := ⟨RX11, "image", "()I"⟩
abbrev cX11_undo : ByteArray := prog_13_method_91_code
def yX11_undo : MethodName := ⟨RX11, "undo", "()I"⟩
abbrev cX11_count : ByteArray := prog_13_method_92_code
def yX11_count : MethodName := ⟨RX11, "count", "(I)I"⟩
def RJ11 : String := "java/lang/Character"
def TJ11 : u_T := fun k => match k with
  | _ => ("", "", "", false)
def tyJ11 : Nat → FieldType := fun k => match k with
  | _ => .int
abbrev wsJ110 : List Cond := u_ws RJ11 TJ11 0
theorem nmJ11 : ∀ a, a < 0 → ∀ b, b < 0 → a ≠ b → (TJ11 a).2.1 ≠ (TJ11 b).2.1 := by decide +kernel
theorem tyJ11_ok : ∀ k, k < 0 → parseFieldDescriptor (TJ11 k).2.2.1 = some (tyJ11 k) := by decide +kernel
abbrev cJ11_isValidCodePoint_9a6ad : ByteArray := prog_14_method_11_code
def yJ11_isValidCodePoint_9a6ad : MethodName := ⟨RJ11, "isValidCodePoint", "(I)Z"⟩
abbrev cJ11_highSurrogate_5068e : ByteArray := prog_14_method_28_code
def yJ11_highSurrogate_5068e : MethodName := ⟨RJ11, "highSurrogate", "(I)C"⟩
abbrev cJ11_lowSurrogate_5068e : ByteArray := prog_14_method_29_code
def yJ11_lowSurrogate_5068e : MethodName := ⟨RJ11, "lowSurrogate", "(I)C"⟩
def RJ9 : String := "java/lang/Math"
def TJ9 : u_T := fun k => match k with
  | _ => ("", "", "", false)
def tyJ9 : Nat → FieldType := fun k => match k with
  | _ => .int
abbrev wsJ90 : List Cond := u_ws RJ9 TJ9 0
theorem nmJ9 : ∀ a, a < 0 → ∀ b, b < 0 → a ≠ b → (TJ9 a).2.1 ≠ (TJ9 b).2.1 := by decide +kernel
theorem tyJ9_ok : ∀ k, k < 0 → parseFieldDescriptor (TJ9 k).2.2.1 = some (tyJ9 k) := by decide +kernel
abbrev cJ9_max_7cf53 : ByteArray := prog_15_method_65_code
def yJ9_max_7cf53 : MethodName := ⟨RJ9, "max", "(II)I"⟩
abbrev cJ9_max_f86c9 : ByteArray := prog_15_method_66_code
def yJ9_max_f86c9 : MethodName := ⟨RJ9, "max", "(JJ)J"⟩
abbrev cJ9_min_7cf53 : ByteArray := prog_15_method_69_code
def yJ9_min_7cf53 : MethodName := ⟨RJ9, "min", "(II)I"⟩
def RJ0 : String := "java/lang/String"
def TJ0 : u_T := fun k => match k with
  | _ => ("", "", "", false)
def tyJ0 : Nat → FieldType := fun k => match k with
  | _ => .int
abbrev wsJ00 : List Cond := u_ws RJ0 TJ0 0
theorem nmJ0 : ∀ a, a < 0 → ∀ b, b < 0 → a ≠ b → (TJ0 a).2.1 ≠ (TJ0 b).2.1 := by decide +kernel
theorem tyJ0_ok : ∀ k, k < 0 → parseFieldDescriptor (TJ0 k).2.2.1 = some (tyJ0 k) := by decide +kernel
abbrev cJ0_length_8abf5 : ByteArray := prog_16_method_54_code
def yJ0_length_8abf5 : MethodName := ⟨RJ0, "length", "()I"⟩
abbrev cJ0_charAt_5068e : ByteArray := prog_16_method_56_code
def yJ0_charAt_5068e : MethodName := ⟨RJ0, "charAt", "(I)C"⟩
abbrev cJ0_indexOf_0f7a4 : ByteArray := prog_16_method_79_code
def yJ0_indexOf_0f7a4 : MethodName := ⟨RJ0, "indexOf", "(I)I"⟩
abbrev cJ0_indexOf_7cf53 : ByteArray := prog_16_method_80_code
def yJ0_indexOf_7cf53 : MethodName := ⟨RJ0, "indexOf", "(II)I"⟩
abbrev cJ0_coder_7d493 : ByteArray := prog_16_method_152_code
def yJ0_coder_7d493 : MethodName := ⟨RJ0, "coder", "()B"⟩
abbrev cJ0_isLatin1_aae02 : ByteArray := prog_16_method_154_code
def yJ0_isLatin1_aae02 : MethodName := ⟨RJ0, "isLatin1", "()Z"⟩
abbrev cJ0_checkIndex_df160 : ByteArray := prog_16_method_155_code
def yJ0_checkIndex_df160 : MethodName := ⟨RJ0, "checkIndex", "(II)V"⟩
abbrev cJ0_checkBoundsBeginEnd_23922 : ByteArray := prog_16_method_158_code
def yJ0_checkBoundsBeginEnd_23922 : MethodName := ⟨RJ0, "checkBoundsBeginEnd", "(III)V"⟩
def RJ1 : String := "java/lang/StringLatin1"
def TJ1 : u_T := fun k => match k with
  | _ => ("", "", "", false)
def tyJ1 : Nat → FieldType := fun k => match k with
  | _ => .int
abbrev wsJ10 : List Cond := u_ws RJ1 TJ1 0
theorem nmJ1 : ∀ a, a < 0 → ∀ b, b < 0 → a ≠ b → (TJ1 a).2.1 ≠ (TJ1 b).2.1 := by decide +kernel
theorem tyJ1_ok : ∀ k, k < 0 → parseFieldDescriptor (TJ1 k).2.2.1 = some (tyJ1 k) := by decide +kernel
abbrev cJ1_charAt_3b067 : ByteArray := prog_17_method_2_code
def yJ1_charAt_3b067 : MethodName := ⟨RJ1, "charAt", "([BI)C"⟩
abbrev cJ1_canEncode_9a6ad : ByteArray := prog_17_method_4_code
def yJ1_canEncode_9a6ad : MethodName := ⟨RJ1, "canEncode", "(I)Z"⟩
abbrev cJ1_indexOf_4cfef : ByteArray := prog_17_method_22_code
def yJ1_indexOf_4cfef : MethodName := ⟨RJ1, "indexOf", "([BIII)I"⟩
abbrev cJ1_indexOfChar_4cfef : ByteArray := prog_17_method_23_code
def yJ1_indexOfChar_4cfef : MethodName := ⟨RJ1, "indexOfChar", "([BIII)I"⟩
def RJ2 : String := "java/lang/StringUTF16"
def TJ2 : u_T := fun k => match k with
  | _ => ("", "", "", false)
def tyJ2 : Nat → FieldType := fun k => match k with
  | _ => .int
abbrev wsJ20 : List Cond := u_ws RJ2 TJ2 0
theorem nmJ2 : ∀ a, a < 0 → ∀ b, b < 0 → a ≠ b → (TJ2 a).2.1 ≠ (TJ2 b).2.1 := by decide +kernel
theorem tyJ2_ok : ∀ k, k < 0 → parseFieldDescriptor (TJ2 k).2.2.1 = some (tyJ2 k) := by decide +kernel
abbrev cJ2_getChar_3b067 : ByteArray := prog_18_method_5_code
def yJ2_getChar_3b067 : MethodName := ⟨RJ2, "getChar", "([BI)C"⟩
abbrev cJ2_length_9d52b : ByteArray := prog_18_method_6_code
def yJ2_length_9d52b : MethodName := ⟨RJ2, "length", "([B)I"⟩
abbrev cJ2_indexOf_4cfef : ByteArray := prog_18_method_40_code
def yJ2_indexOf_4cfef : MethodName := ⟨RJ2, "indexOf", "([BIII)I"⟩
abbrev cJ2_indexOfChar_4cfef : ByteArray := prog_18_method_47_code
def yJ2_indexOfChar_4cfef : MethodName := ⟨RJ2, "indexOfChar", "([BIII)I"⟩
abbrev cJ2_indexOfCharUnsafe_4cfef : ByteArray := prog_18_method_48_code
def yJ2_indexOfCharUnsafe_4cfef : MethodName := ⟨RJ2, "indexOfCharUnsafe", "([BIII)I"⟩
abbrev cJ2_indexOfSupplementary_4cfef : ByteArray := prog_18_method_49_code
def yJ2_indexOfSupplementary_4cfef : MethodName := ⟨RJ2, "indexOfSupplementary", "([BIII)I"⟩
abbrev cJ2_charAt_3b067 : ByteArray := prog_18_method_83_code
def yJ2_charAt_3b067 : MethodName := ⟨RJ2, "charAt", "([BI)C"⟩
abbrev cJ2_checkIndex_2214a : ByteArray := prog_18_method_91_code
def yJ2_checkIndex_2214a : MethodName := ⟨RJ2, "checkIndex", "(I[B)V"⟩
abbrev cJ2_checkBoundsBeginEnd_d044e : ByteArray := prog_18_method_93_code
def yJ2_checkBoundsBeginEnd_d044e : MethodName := ⟨RJ2, "checkBoundsBeginEnd", "(II[B)V"⟩
def RJ10 : String := "java/lang/System"
def TJ10 : u_T := fun k => match k with
  | _ => ("", "", "", false)
def tyJ10 : Nat → FieldType := fun k => match k with
  | _ => .int
abbrev wsJ100 : List Cond := u_ws RJ10 TJ10 0
theorem nmJ10 : ∀ a, a < 0 → ∀ b, b < 0 → a ≠ b → (TJ10 a).2.1 ≠ (TJ10 b).2.1 := by decide +kernel
theorem tyJ10_ok : ∀ k, k < 0 → parseFieldDescriptor (TJ10 k).2.2.1 = some (tyJ10 k) := by decide +kernel
def RJ3 : String := "jdk/internal/util/Preconditions"
def TJ3 : u_T := fun k => match k with
  | _ => ("", "", "", false)
def tyJ3 : Nat → FieldType := fun k => match k with
  | _ => .int
abbrev wsJ30 : List Cond := u_ws RJ3 TJ3 0
theorem nmJ3 : ∀ a, a < 0 → ∀ b, b < 0 → a ≠ b → (TJ3 a).2.1 ≠ (TJ3 b).2.1 := by decide +kernel
theorem tyJ3_ok : ∀ k, k < 0 → parseFieldDescriptor (TJ3 k).2.2.1 = some (tyJ3 k) := by decide +kernel
abbrev cJ3_checkIndex_8e157 : ByteArray := prog_20_method_11_code
def yJ3_checkIndex_8e157 : MethodName := ⟨RJ3, "checkIndex", "(IILjava/util/function/BiFunction;)I"⟩
abbrev cJ3_checkFromToIndex_8c36e : ByteArray := prog_20_method_12_code
def yJ3_checkFromToIndex_8c36e : MethodName := ⟨RJ3, "checkFromToIndex", "(IIILjava/util/function/BiFunction;)I"⟩
def RL : String := "FortyGatesLaw"
abbrev cL_law : ByteArray := code
def yL_law : MethodName := ⟨RL, "law", "([I)Z"⟩
