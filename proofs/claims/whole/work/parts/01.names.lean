-- ===== PART A: goes FIRST, ahead of the names: the tables' words, and 'selects' of the private methods out of them =====
/-- a private method of a class that the tables say can be made, by its rows of tables_1 -/
def lw_okq (q : MethodName × Nat) : Prop := (q.1.cls ≠ "java/lang/invoke/MethodHandle" ∧ q.1.cls ≠ "java/lang/invoke/VarHandle") ∧ Cond.instantiable q.1.cls q.2 ∈ tables_1 ∧ Cond.privateMethod q.1 ∈ tables_1 ∧ Cond.instanceMethod q.1 ∈ tables_1
theorem lw_p0 : lw_okq (⟨"TrueHeard$Reader", "readClause", "()LTrueHeard$Clause;"⟩, 6) := ⟨⟨by decide +kernel, by decide +kernel⟩, List.mem_of_getElem? (i := 105) (by decide +kernel), List.mem_of_getElem? (i := 186) (by decide +kernel), List.mem_of_getElem? (i := 187) (by decide +kernel)⟩
theorem lw_p1 : lw_okq (⟨"TrueHeard$Reader", "readWord", "()I"⟩, 6) := ⟨⟨by decide +kernel, by decide +kernel⟩, List.mem_of_getElem? (i := 105) (by decide +kernel), List.mem_of_getElem? (i := 190) (by decide +kernel), List.mem_of_getElem? (i := 191) (by decide +kernel)⟩
theorem lw_p2 : lw_okq (⟨"TrueHeard$Reader", "sign", "()I"⟩, 6) := ⟨⟨by decide +kernel, by decide +kernel⟩, List.mem_of_getElem? (i := 105) (by decide +kernel), List.mem_of_getElem? (i := 194) (by decide +kernel), List.mem_of_getElem? (i := 195) (by decide +kernel)⟩
theorem lw_p3 : lw_okq (⟨"TrueHeard$Reader", "goOnAll", "(Ljava/lang/String;)Z"⟩, 6) := ⟨⟨by decide +kernel, by decide +kernel⟩, List.mem_of_getElem? (i := 105) (by decide +kernel), List.mem_of_getElem? (i := 199) (by decide +kernel), List.mem_of_getElem? (i := 200) (by decide +kernel)⟩
theorem lw_p4 : lw_okq (⟨"TrueHeard$Reader", "goOn", "(C)Z"⟩, 6) := ⟨⟨by decide +kernel, by decide +kernel⟩, List.mem_of_getElem? (i := 105) (by decide +kernel), List.mem_of_getElem? (i := 251) (by decide +kernel), List.mem_of_getElem? (i := 252) (by decide +kernel)⟩
theorem lw_p5 : lw_okq (⟨"TrueHeard$Reader", "readNumber", "()I"⟩, 6) := ⟨⟨by decide +kernel, by decide +kernel⟩, List.mem_of_getElem? (i := 105) (by decide +kernel), List.mem_of_getElem? (i := 257) (by decide +kernel), List.mem_of_getElem? (i := 258) (by decide +kernel)⟩
theorem lw_p6 : lw_okq (⟨"TrueHeard$Reader", "readAny", "(I)Z"⟩, 6) := ⟨⟨by decide +kernel, by decide +kernel⟩, List.mem_of_getElem? (i := 105) (by decide +kernel), List.mem_of_getElem? (i := 261) (by decide +kernel), List.mem_of_getElem? (i := 262) (by decide +kernel)⟩
theorem lw_p7 : lw_okq (⟨"TrueHeard$Reader", "readOne", "(I)Z"⟩, 6) := ⟨⟨by decide +kernel, by decide +kernel⟩, List.mem_of_getElem? (i := 105) (by decide +kernel), List.mem_of_getElem? (i := 265) (by decide +kernel), List.mem_of_getElem? (i := 266) (by decide +kernel)⟩
theorem lw_p8 : lw_okq (⟨"TrueHeard$Reader", "readTest", "()Z"⟩, 6) := ⟨⟨by decide +kernel, by decide +kernel⟩, List.mem_of_getElem? (i := 105) (by decide +kernel), List.mem_of_getElem? (i := 269) (by decide +kernel), List.mem_of_getElem? (i := 270) (by decide +kernel)⟩
theorem lw_p9 : lw_okq (⟨"TrueHeard$Reader", "add", "(I)V"⟩, 6) := ⟨⟨by decide +kernel, by decide +kernel⟩, List.mem_of_getElem? (i := 105) (by decide +kernel), List.mem_of_getElem? (i := 336) (by decide +kernel), List.mem_of_getElem? (i := 337) (by decide +kernel)⟩
theorem lw_p10 : lw_okq (⟨"TrueHeard$Reader", "newClause", "(II)LTrueHeard$Clause;"⟩, 6) := ⟨⟨by decide +kernel, by decide +kernel⟩, List.mem_of_getElem? (i := 105) (by decide +kernel), List.mem_of_getElem? (i := 340) (by decide +kernel), List.mem_of_getElem? (i := 341) (by decide +kernel)⟩
theorem lw_p11 : lw_okq (⟨"TrueHeard$Reader", "firstClauses", "(I)[LTrueHeard$Clause;"⟩, 6) := ⟨⟨by decide +kernel, by decide +kernel⟩, List.mem_of_getElem? (i := 105) (by decide +kernel), List.mem_of_getElem? (i := 376) (by decide +kernel), List.mem_of_getElem? (i := 377) (by decide +kernel)⟩
theorem lw_p12 : lw_okq (⟨"TrueHeard", "newWay", "(IIII)LTrueHeard$Runner;"⟩, 7) := ⟨⟨by decide +kernel, by decide +kernel⟩, List.mem_of_getElem? (i := 23) (by decide +kernel), List.mem_of_getElem? (i := 437) (by decide +kernel), List.mem_of_getElem? (i := 438) (by decide +kernel)⟩
theorem lw_p13 : lw_okq (⟨"TrueHeard", "partsSo", "(LTrueHeard$Clause;LTrueHeard$Runner;I)J"⟩, 7) := ⟨⟨by decide +kernel, by decide +kernel⟩, List.mem_of_getElem? (i := 23) (by decide +kernel), List.mem_of_getElem? (i := 678) (by decide +kernel), List.mem_of_getElem? (i := 679) (by decide +kernel)⟩
theorem lw_p14 : lw_okq (⟨"TrueHeard", "partsOfRow", "(I)J"⟩, 7) := ⟨⟨by decide +kernel, by decide +kernel⟩, List.mem_of_getElem? (i := 23) (by decide +kernel), List.mem_of_getElem? (i := 698) (by decide +kernel), List.mem_of_getElem? (i := 699) (by decide +kernel)⟩
theorem lw_p15 : lw_okq (⟨"TrueHeard", "isSo", "(LTrueHeard$Clause;III)Z"⟩, 7) := ⟨⟨by decide +kernel, by decide +kernel⟩, List.mem_of_getElem? (i := 23) (by decide +kernel), List.mem_of_getElem? (i := 703) (by decide +kernel), List.mem_of_getElem? (i := 704) (by decide +kernel)⟩
def lw_privs_1 : List (MethodName × Nat) := [(⟨"TrueHeard$Reader", "readClause", "()LTrueHeard$Clause;"⟩, 6), (⟨"TrueHeard$Reader", "readWord", "()I"⟩, 6), (⟨"TrueHeard$Reader", "sign", "()I"⟩, 6), (⟨"TrueHeard$Reader", "goOnAll", "(Ljava/lang/String;)Z"⟩, 6), (⟨"TrueHeard$Reader", "goOn", "(C)Z"⟩, 6), (⟨"TrueHeard$Reader", "readNumber", "()I"⟩, 6), (⟨"TrueHeard$Reader", "readAny", "(I)Z"⟩, 6), (⟨"TrueHeard$Reader", "readOne", "(I)Z"⟩, 6), (⟨"TrueHeard$Reader", "readTest", "()Z"⟩, 6), (⟨"TrueHeard$Reader", "add", "(I)V"⟩, 6), (⟨"TrueHeard$Reader", "newClause", "(II)LTrueHeard$Clause;"⟩, 6), (⟨"TrueHeard$Reader", "firstClauses", "(I)[LTrueHeard$Clause;"⟩, 6), (⟨"TrueHeard", "newWay", "(IIII)LTrueHeard$Runner;"⟩, 7), (⟨"TrueHeard", "partsSo", "(LTrueHeard$Clause;LTrueHeard$Runner;I)J"⟩, 7), (⟨"TrueHeard", "partsOfRow", "(I)J"⟩, 7), (⟨"TrueHeard", "isSo", "(LTrueHeard$Clause;III)Z"⟩, 7)]
theorem lw_r1 : ∀ q ∈ lw_privs_1, lw_okq q := List.forall_mem_cons.mpr ⟨lw_p0, List.forall_mem_cons.mpr ⟨lw_p1, List.forall_mem_cons.mpr ⟨lw_p2, List.forall_mem_cons.mpr ⟨lw_p3, List.forall_mem_cons.mpr ⟨lw_p4, List.forall_mem_cons.mpr ⟨lw_p5, List.forall_mem_cons.mpr ⟨lw_p6, List.forall_mem_cons.mpr ⟨lw_p7, List.forall_mem_cons.mpr ⟨lw_p8, List.forall_mem_cons.mpr ⟨lw_p9, List.forall_mem_cons.mpr ⟨lw_p10, List.forall_mem_cons.mpr ⟨lw_p11, List.forall_mem_cons.mpr ⟨lw_p12, List.forall_mem_cons.mpr ⟨lw_p13, List.forall_mem_cons.mpr ⟨lw_p14, List.forall_mem_cons.mpr ⟨lw_p15, fun _ h => absurd h List.not_mem_nil⟩⟩⟩⟩⟩⟩⟩⟩⟩⟩⟩⟩⟩⟩⟩⟩
theorem lw_p16 : lw_okq (⟨"TrueHeard", "markFails", "(LTrueHeard$Clause;I)V"⟩, 7) := ⟨⟨by decide +kernel, by decide +kernel⟩, List.mem_of_getElem? (i := 23) (by decide +kernel), List.mem_of_getElem? (i := 755) (by decide +kernel), List.mem_of_getElem? (i := 756) (by decide +kernel)⟩
theorem lw_p17 : lw_okq (⟨"TrueHeard", "carryBack", "(II)V"⟩, 7) := ⟨⟨by decide +kernel, by decide +kernel⟩, List.mem_of_getElem? (i := 23) (by decide +kernel), List.mem_of_getElem? (i := 759) (by decide +kernel), List.mem_of_getElem? (i := 760) (by decide +kernel)⟩
theorem lw_p18 : lw_okq (⟨"TrueHeard", "failsFrom", "(I)Z"⟩, 7) := ⟨⟨by decide +kernel, by decide +kernel⟩, List.mem_of_getElem? (i := 23) (by decide +kernel), List.mem_of_getElem? (i := 763) (by decide +kernel), List.mem_of_getElem? (i := 764) (by decide +kernel)⟩
theorem lw_p19 : lw_okq (⟨"TrueHeard", "setFails", "(IZ)V"⟩, 7) := ⟨⟨by decide +kernel, by decide +kernel⟩, List.mem_of_getElem? (i := 23) (by decide +kernel), List.mem_of_getElem? (i := 767) (by decide +kernel), List.mem_of_getElem? (i := 768) (by decide +kernel)⟩
theorem lw_p20 : lw_okq (⟨"TrueHeardModel", "begins", "(ILjava/lang/String;)V"⟩, 25) := ⟨⟨by decide +kernel, by decide +kernel⟩, List.mem_of_getElem? (i := 907) (by decide +kernel), List.mem_of_getElem? (i := 1000) (by decide +kernel), List.mem_of_getElem? (i := 1001) (by decide +kernel)⟩
theorem lw_p21 : lw_okq (⟨"TrueHeardModel", "clauseHere", "()V"⟩, 25) := ⟨⟨by decide +kernel, by decide +kernel⟩, List.mem_of_getElem? (i := 907) (by decide +kernel), List.mem_of_getElem? (i := 1004) (by decide +kernel), List.mem_of_getElem? (i := 1005) (by decide +kernel)⟩
theorem lw_p22 : lw_okq (⟨"TrueHeardModel", "here", "()I"⟩, 25) := ⟨⟨by decide +kernel, by decide +kernel⟩, List.mem_of_getElem? (i := 907) (by decide +kernel), List.mem_of_getElem? (i := 1008) (by decide +kernel), List.mem_of_getElem? (i := 1009) (by decide +kernel)⟩
theorem lw_p23 : lw_okq (⟨"TrueHeardModel", "much", "(ILjava/lang/String;)V"⟩, 25) := ⟨⟨by decide +kernel, by decide +kernel⟩, List.mem_of_getElem? (i := 907) (by decide +kernel), List.mem_of_getElem? (i := 1013) (by decide +kernel), List.mem_of_getElem? (i := 1014) (by decide +kernel)⟩
theorem lw_p24 : lw_okq (⟨"TrueHeardModel", "spells", "(Ljava/lang/String;)V"⟩, 25) := ⟨⟨by decide +kernel, by decide +kernel⟩, List.mem_of_getElem? (i := 907) (by decide +kernel), List.mem_of_getElem? (i := 1017) (by decide +kernel), List.mem_of_getElem? (i := 1018) (by decide +kernel)⟩
theorem lw_p25 : lw_okq (⟨"TrueHeardModel", "must", "(I)V"⟩, 25) := ⟨⟨by decide +kernel, by decide +kernel⟩, List.mem_of_getElem? (i := 907) (by decide +kernel), List.mem_of_getElem? (i := 1023) (by decide +kernel), List.mem_of_getElem? (i := 1024) (by decide +kernel)⟩
theorem lw_p26 : lw_okq (⟨"TrueHeardModel", "figures", "()I"⟩, 25) := ⟨⟨by decide +kernel, by decide +kernel⟩, List.mem_of_getElem? (i := 907) (by decide +kernel), List.mem_of_getElem? (i := 1027) (by decide +kernel), List.mem_of_getElem? (i := 1028) (by decide +kernel)⟩
theorem lw_p27 : lw_okq (⟨"TrueHeardModel", "some", "()V"⟩, 25) := ⟨⟨by decide +kernel, by decide +kernel⟩, List.mem_of_getElem? (i := 907) (by decide +kernel), List.mem_of_getElem? (i := 1031) (by decide +kernel), List.mem_of_getElem? (i := 1032) (by decide +kernel)⟩
theorem lw_p28 : lw_okq (⟨"TrueHeardModel", "every", "()V"⟩, 25) := ⟨⟨by decide +kernel, by decide +kernel⟩, List.mem_of_getElem? (i := 907) (by decide +kernel), List.mem_of_getElem? (i := 1035) (by decide +kernel), List.mem_of_getElem? (i := 1036) (by decide +kernel)⟩
theorem lw_p29 : lw_okq (⟨"TrueHeardModel", "factor", "()V"⟩, 25) := ⟨⟨by decide +kernel, by decide +kernel⟩, List.mem_of_getElem? (i := 907) (by decide +kernel), List.mem_of_getElem? (i := 1039) (by decide +kernel), List.mem_of_getElem? (i := 1040) (by decide +kernel)⟩
theorem lw_p30 : lw_okq (⟨"TrueHeardModel", "emits", "(I)V"⟩, 25) := ⟨⟨by decide +kernel, by decide +kernel⟩, List.mem_of_getElem? (i := 907) (by decide +kernel), List.mem_of_getElem? (i := 1043) (by decide +kernel), List.mem_of_getElem? (i := 1044) (by decide +kernel)⟩
theorem lw_p31 : lw_okq (⟨"TrueHeardModel", "among", "(Ljava/lang/String;)I"⟩, 25) := ⟨⟨by decide +kernel, by decide +kernel⟩, List.mem_of_getElem? (i := 907) (by decide +kernel), List.mem_of_getElem? (i := 1047) (by decide +kernel), List.mem_of_getElem? (i := 1048) (by decide +kernel)⟩
def lw_privs_2 : List (MethodName × Nat) := [(⟨"TrueHeard", "markFails", "(LTrueHeard$Clause;I)V"⟩, 7), (⟨"TrueHeard", "carryBack", "(II)V"⟩, 7), (⟨"TrueHeard", "failsFrom", "(I)Z"⟩, 7), (⟨"TrueHeard", "setFails", "(IZ)V"⟩, 7), (⟨"TrueHeardModel", "begins", "(ILjava/lang/String;)V"⟩, 25), (⟨"TrueHeardModel", "clauseHere", "()V"⟩, 25), (⟨"TrueHeardModel", "here", "()I"⟩, 25), (⟨"TrueHeardModel", "much", "(ILjava/lang/String;)V"⟩, 25), (⟨"TrueHeardModel", "spells", "(Ljava/lang/String;)V"⟩, 25), (⟨"TrueHeardModel", "must", "(I)V"⟩, 25), (⟨"TrueHeardModel", "figures", "()I"⟩, 25), (⟨"TrueHeardModel", "some", "()V"⟩, 25), (⟨"TrueHeardModel", "every", "()V"⟩, 25), (⟨"TrueHeardModel", "factor", "()V"⟩, 25), (⟨"TrueHeardModel", "emits", "(I)V"⟩, 25), (⟨"TrueHeardModel", "among", "(Ljava/lang/String;)I"⟩, 25)]
theorem lw_r2 : ∀ q ∈ lw_privs_2, lw_okq q := List.forall_mem_cons.mpr ⟨lw_p16, List.forall_mem_cons.mpr ⟨lw_p17, List.forall_mem_cons.mpr ⟨lw_p18, List.forall_mem_cons.mpr ⟨lw_p19, List.forall_mem_cons.mpr ⟨lw_p20, List.forall_mem_cons.mpr ⟨lw_p21, List.forall_mem_cons.mpr ⟨lw_p22, List.forall_mem_cons.mpr ⟨lw_p23, List.forall_mem_cons.mpr ⟨lw_p24, List.forall_mem_cons.mpr ⟨lw_p25, List.forall_mem_cons.mpr ⟨lw_p26, List.forall_mem_cons.mpr ⟨lw_p27, List.forall_mem_cons.mpr ⟨lw_p28, List.forall_mem_cons.mpr ⟨lw_p29, List.forall_mem_cons.mpr ⟨lw_p30, List.forall_mem_cons.mpr ⟨lw_p31, fun _ h => absurd h List.not_mem_nil⟩⟩⟩⟩⟩⟩⟩⟩⟩⟩⟩⟩⟩⟩⟩⟩
theorem lw_p32 : lw_okq (⟨"TrueHeardModel", "clauseOfD", "()V"⟩, 25) := ⟨⟨by decide +kernel, by decide +kernel⟩, List.mem_of_getElem? (i := 907) (by decide +kernel), List.mem_of_getElem? (i := 1052) (by decide +kernel), List.mem_of_getElem? (i := 1053) (by decide +kernel)⟩
theorem lw_p33 : lw_okq (⟨"TrueHeardModel", "isThing", "(I)Z"⟩, 25) := ⟨⟨by decide +kernel, by decide +kernel⟩, List.mem_of_getElem? (i := 907) (by decide +kernel), List.mem_of_getElem? (i := 1071) (by decide +kernel), List.mem_of_getElem? (i := 1072) (by decide +kernel)⟩
theorem lw_p34 : lw_okq (⟨"TrueHeardModel", "looks", "(IIII)V"⟩, 25) := ⟨⟨by decide +kernel, by decide +kernel⟩, List.mem_of_getElem? (i := 907) (by decide +kernel), List.mem_of_getElem? (i := 1079) (by decide +kernel), List.mem_of_getElem? (i := 1080) (by decide +kernel)⟩
theorem lw_p35 : lw_okq (⟨"TrueHeardModel", "goesThrough", "(I)Z"⟩, 25) := ⟨⟨by decide +kernel, by decide +kernel⟩, List.mem_of_getElem? (i := 907) (by decide +kernel), List.mem_of_getElem? (i := 1083) (by decide +kernel), List.mem_of_getElem? (i := 1084) (by decide +kernel)⟩
theorem lw_p36 : lw_okq (⟨"TrueHeardModel", "isWay", "(I)Z"⟩, 25) := ⟨⟨by decide +kernel, by decide +kernel⟩, List.mem_of_getElem? (i := 907) (by decide +kernel), List.mem_of_getElem? (i := 1098) (by decide +kernel), List.mem_of_getElem? (i := 1099) (by decide +kernel)⟩
theorem lw_p37 : lw_okq (⟨"TrueHeardModel", "takes", "(I)I"⟩, 25) := ⟨⟨by decide +kernel, by decide +kernel⟩, List.mem_of_getElem? (i := 907) (by decide +kernel), List.mem_of_getElem? (i := 1102) (by decide +kernel), List.mem_of_getElem? (i := 1103) (by decide +kernel)⟩
theorem lw_p38 : lw_okq (⟨"TrueHeardModel", "takesAt", "(II)I"⟩, 25) := ⟨⟨by decide +kernel, by decide +kernel⟩, List.mem_of_getElem? (i := 907) (by decide +kernel), List.mem_of_getElem? (i := 1106) (by decide +kernel), List.mem_of_getElem? (i := 1107) (by decide +kernel)⟩
theorem lw_p39 : lw_okq (⟨"TrueHeardModel", "costsOf", "(I)I"⟩, 25) := ⟨⟨by decide +kernel, by decide +kernel⟩, List.mem_of_getElem? (i := 907) (by decide +kernel), List.mem_of_getElem? (i := 1110) (by decide +kernel), List.mem_of_getElem? (i := 1111) (by decide +kernel)⟩
theorem lw_p40 : lw_okq (⟨"TrueHeardModel", "isSaying", "(I)Z"⟩, 25) := ⟨⟨by decide +kernel, by decide +kernel⟩, List.mem_of_getElem? (i := 907) (by decide +kernel), List.mem_of_getElem? (i := 1130) (by decide +kernel), List.mem_of_getElem? (i := 1131) (by decide +kernel)⟩
theorem lw_p41 : lw_okq (⟨"TrueHeardModel", "heardTrue", "(II)J"⟩, 25) := ⟨⟨by decide +kernel, by decide +kernel⟩, List.mem_of_getElem? (i := 907) (by decide +kernel), List.mem_of_getElem? (i := 1135) (by decide +kernel), List.mem_of_getElem? (i := 1136) (by decide +kernel)⟩
theorem lw_p42 : lw_okq (⟨"TrueHeardModel", "statesNow", "()I"⟩, 25) := ⟨⟨by decide +kernel, by decide +kernel⟩, List.mem_of_getElem? (i := 907) (by decide +kernel), List.mem_of_getElem? (i := 1139) (by decide +kernel), List.mem_of_getElem? (i := 1140) (by decide +kernel)⟩
theorem lw_p43 : lw_okq (⟨"TrueHeardModel", "beginsAll", "(I)V"⟩, 25) := ⟨⟨by decide +kernel, by decide +kernel⟩, List.mem_of_getElem? (i := 907) (by decide +kernel), List.mem_of_getElem? (i := 1143) (by decide +kernel), List.mem_of_getElem? (i := 1144) (by decide +kernel)⟩
theorem lw_p44 : lw_okq (⟨"TrueHeardModel", "goesAll", "(I)V"⟩, 25) := ⟨⟨by decide +kernel, by decide +kernel⟩, List.mem_of_getElem? (i := 907) (by decide +kernel), List.mem_of_getElem? (i := 1150) (by decide +kernel), List.mem_of_getElem? (i := 1151) (by decide +kernel)⟩
theorem lw_p45 : lw_okq (⟨"TrueHeardModel", "goesOn", "(II)V"⟩, 25) := ⟨⟨by decide +kernel, by decide +kernel⟩, List.mem_of_getElem? (i := 907) (by decide +kernel), List.mem_of_getElem? (i := 1154) (by decide +kernel), List.mem_of_getElem? (i := 1155) (by decide +kernel)⟩
theorem lw_p46 : lw_okq (⟨"TrueHeardModel", "oftenTrue", "(II)J"⟩, 25) := ⟨⟨by decide +kernel, by decide +kernel⟩, List.mem_of_getElem? (i := 907) (by decide +kernel), List.mem_of_getElem? (i := 1158) (by decide +kernel), List.mem_of_getElem? (i := 1159) (by decide +kernel)⟩
theorem lw_p47 : lw_okq (⟨"TrueHeardModel", "allStates", "()I"⟩, 25) := ⟨⟨by decide +kernel, by decide +kernel⟩, List.mem_of_getElem? (i := 907) (by decide +kernel), List.mem_of_getElem? (i := 1162) (by decide +kernel), List.mem_of_getElem? (i := 1163) (by decide +kernel)⟩
def lw_privs_3 : List (MethodName × Nat) := [(⟨"TrueHeardModel", "clauseOfD", "()V"⟩, 25), (⟨"TrueHeardModel", "isThing", "(I)Z"⟩, 25), (⟨"TrueHeardModel", "looks", "(IIII)V"⟩, 25), (⟨"TrueHeardModel", "goesThrough", "(I)Z"⟩, 25), (⟨"TrueHeardModel", "isWay", "(I)Z"⟩, 25), (⟨"TrueHeardModel", "takes", "(I)I"⟩, 25), (⟨"TrueHeardModel", "takesAt", "(II)I"⟩, 25), (⟨"TrueHeardModel", "costsOf", "(I)I"⟩, 25), (⟨"TrueHeardModel", "isSaying", "(I)Z"⟩, 25), (⟨"TrueHeardModel", "heardTrue", "(II)J"⟩, 25), (⟨"TrueHeardModel", "statesNow", "()I"⟩, 25), (⟨"TrueHeardModel", "beginsAll", "(I)V"⟩, 25), (⟨"TrueHeardModel", "goesAll", "(I)V"⟩, 25), (⟨"TrueHeardModel", "goesOn", "(II)V"⟩, 25), (⟨"TrueHeardModel", "oftenTrue", "(II)J"⟩, 25), (⟨"TrueHeardModel", "allStates", "()I"⟩, 25)]
theorem lw_r3 : ∀ q ∈ lw_privs_3, lw_okq q := List.forall_mem_cons.mpr ⟨lw_p32, List.forall_mem_cons.mpr ⟨lw_p33, List.forall_mem_cons.mpr ⟨lw_p34, List.forall_mem_cons.mpr ⟨lw_p35, List.forall_mem_cons.mpr ⟨lw_p36, List.forall_mem_cons.mpr ⟨lw_p37, List.forall_mem_cons.mpr ⟨lw_p38, List.forall_mem_cons.mpr ⟨lw_p39, List.forall_mem_cons.mpr ⟨lw_p40, List.forall_mem_cons.mpr ⟨lw_p41, List.forall_mem_cons.mpr ⟨lw_p42, List.forall_mem_cons.mpr ⟨lw_p43, List.forall_mem_cons.mpr ⟨lw_p44, List.forall_mem_cons.mpr ⟨lw_p45, List.forall_mem_cons.mpr ⟨lw_p46, List.forall_mem_cons.mpr ⟨lw_p47, fun _ h => absurd h List.not_mem_nil⟩⟩⟩⟩⟩⟩⟩⟩⟩⟩⟩⟩⟩⟩⟩⟩
theorem lw_p48 : lw_okq (⟨"TrueHeardModel", "oftenOf", "(I)J"⟩, 25) := ⟨⟨by decide +kernel, by decide +kernel⟩, List.mem_of_getElem? (i := 907) (by decide +kernel), List.mem_of_getElem? (i := 1166) (by decide +kernel), List.mem_of_getElem? (i := 1167) (by decide +kernel)⟩
theorem lw_p49 : lw_okq (⟨"TrueHeardModel", "isTrue", "(III)Z"⟩, 25) := ⟨⟨by decide +kernel, by decide +kernel⟩, List.mem_of_getElem? (i := 907) (by decide +kernel), List.mem_of_getElem? (i := 1170) (by decide +kernel), List.mem_of_getElem? (i := 1171) (by decide +kernel)⟩
theorem lw_p50 : lw_okq (⟨"TrueHeardModel", "allOften", "(I)J"⟩, 25) := ⟨⟨by decide +kernel, by decide +kernel⟩, List.mem_of_getElem? (i := 907) (by decide +kernel), List.mem_of_getElem? (i := 1174) (by decide +kernel), List.mem_of_getElem? (i := 1175) (by decide +kernel)⟩
theorem lw_p51 : lw_okq (⟨"TrueHeardModel", "isBetter", "(III)Z"⟩, 25) := ⟨⟨by decide +kernel, by decide +kernel⟩, List.mem_of_getElem? (i := 907) (by decide +kernel), List.mem_of_getElem? (i := 1196) (by decide +kernel), List.mem_of_getElem? (i := 1197) (by decide +kernel)⟩
theorem lw_p52 : lw_okq (⟨"TrueHeardModel", "mayBegin", "(I)V"⟩, 25) := ⟨⟨by decide +kernel, by decide +kernel⟩, List.mem_of_getElem? (i := 907) (by decide +kernel), List.mem_of_getElem? (i := 1208) (by decide +kernel), List.mem_of_getElem? (i := 1209) (by decide +kernel)⟩
theorem lw_p53 : lw_okq (⟨"TrueHeardModel", "mayGo", "(I)V"⟩, 25) := ⟨⟨by decide +kernel, by decide +kernel⟩, List.mem_of_getElem? (i := 907) (by decide +kernel), List.mem_of_getElem? (i := 1212) (by decide +kernel), List.mem_of_getElem? (i := 1213) (by decide +kernel)⟩
theorem lw_p54 : lw_okq (⟨"TrueHeardModel", "mayBecome", "(III)I"⟩, 25) := ⟨⟨by decide +kernel, by decide +kernel⟩, List.mem_of_getElem? (i := 907) (by decide +kernel), List.mem_of_getElem? (i := 1216) (by decide +kernel), List.mem_of_getElem? (i := 1217) (by decide +kernel)⟩
theorem lw_p55 : lw_okq (⟨"TrueHeardModel", "isSurely", "(II)Z"⟩, 25) := ⟨⟨by decide +kernel, by decide +kernel⟩, List.mem_of_getElem? (i := 907) (by decide +kernel), List.mem_of_getElem? (i := 1220) (by decide +kernel), List.mem_of_getElem? (i := 1221) (by decide +kernel)⟩
theorem lw_p56 : lw_okq (⟨"TrueHeardModel", "looksForReach", "(II)V"⟩, 25) := ⟨⟨by decide +kernel, by decide +kernel⟩, List.mem_of_getElem? (i := 907) (by decide +kernel), List.mem_of_getElem? (i := 1236) (by decide +kernel), List.mem_of_getElem? (i := 1237) (by decide +kernel)⟩
theorem lw_p57 : lw_okq (⟨"TrueHeardModel", "reachesTruth", "(I)Z"⟩, 25) := ⟨⟨by decide +kernel, by decide +kernel⟩, List.mem_of_getElem? (i := 907) (by decide +kernel), List.mem_of_getElem? (i := 1240) (by decide +kernel), List.mem_of_getElem? (i := 1241) (by decide +kernel)⟩
theorem lw_p58 : lw_okq (⟨"TrueHeardModel", "heededBy", "(I)I"⟩, 25) := ⟨⟨by decide +kernel, by decide +kernel⟩, List.mem_of_getElem? (i := 907) (by decide +kernel), List.mem_of_getElem? (i := 1252) (by decide +kernel), List.mem_of_getElem? (i := 1253) (by decide +kernel)⟩
theorem lw_p59 : lw_okq (⟨"TrueHeardModel", "sendsActs", "(I)I"⟩, 25) := ⟨⟨by decide +kernel, by decide +kernel⟩, List.mem_of_getElem? (i := 907) (by decide +kernel), List.mem_of_getElem? (i := 1272) (by decide +kernel), List.mem_of_getElem? (i := 1273) (by decide +kernel)⟩
theorem lw_p60 : lw_okq (⟨"TrueHeardModel", "ranBody", "(I)V"⟩, 25) := ⟨⟨by decide +kernel, by decide +kernel⟩, List.mem_of_getElem? (i := 907) (by decide +kernel), List.mem_of_getElem? (i := 1279) (by decide +kernel), List.mem_of_getElem? (i := 1280) (by decide +kernel)⟩
theorem lw_p61 : lw_okq (⟨"TrueHeardModel", "plainSends", "(I)I"⟩, 25) := ⟨⟨by decide +kernel, by decide +kernel⟩, List.mem_of_getElem? (i := 907) (by decide +kernel), List.mem_of_getElem? (i := 1283) (by decide +kernel), List.mem_of_getElem? (i := 1284) (by decide +kernel)⟩
theorem lw_p62 : lw_okq (⟨"TrueHeardModel", "takesActs", "(I)I"⟩, 25) := ⟨⟨by decide +kernel, by decide +kernel⟩, List.mem_of_getElem? (i := 907) (by decide +kernel), List.mem_of_getElem? (i := 1287) (by decide +kernel), List.mem_of_getElem? (i := 1288) (by decide +kernel)⟩
theorem lw_p63 : lw_okq (⟨"TrueHeardModel", "plainTakes", "(I)I"⟩, 25) := ⟨⟨by decide +kernel, by decide +kernel⟩, List.mem_of_getElem? (i := 907) (by decide +kernel), List.mem_of_getElem? (i := 1291) (by decide +kernel), List.mem_of_getElem? (i := 1292) (by decide +kernel)⟩
def lw_privs_4 : List (MethodName × Nat) := [(⟨"TrueHeardModel", "oftenOf", "(I)J"⟩, 25), (⟨"TrueHeardModel", "isTrue", "(III)Z"⟩, 25), (⟨"TrueHeardModel", "allOften", "(I)J"⟩, 25), (⟨"TrueHeardModel", "isBetter", "(III)Z"⟩, 25), (⟨"TrueHeardModel", "mayBegin", "(I)V"⟩, 25), (⟨"TrueHeardModel", "mayGo", "(I)V"⟩, 25), (⟨"TrueHeardModel", "mayBecome", "(III)I"⟩, 25), (⟨"TrueHeardModel", "isSurely", "(II)Z"⟩, 25), (⟨"TrueHeardModel", "looksForReach", "(II)V"⟩, 25), (⟨"TrueHeardModel", "reachesTruth", "(I)Z"⟩, 25), (⟨"TrueHeardModel", "heededBy", "(I)I"⟩, 25), (⟨"TrueHeardModel", "sendsActs", "(I)I"⟩, 25), (⟨"TrueHeardModel", "ranBody", "(I)V"⟩, 25), (⟨"TrueHeardModel", "plainSends", "(I)I"⟩, 25), (⟨"TrueHeardModel", "takesActs", "(I)I"⟩, 25), (⟨"TrueHeardModel", "plainTakes", "(I)I"⟩, 25)]
theorem lw_r4 : ∀ q ∈ lw_privs_4, lw_okq q := List.forall_mem_cons.mpr ⟨lw_p48, List.forall_mem_cons.mpr ⟨lw_p49, List.forall_mem_cons.mpr ⟨lw_p50, List.forall_mem_cons.mpr ⟨lw_p51, List.forall_mem_cons.mpr ⟨lw_p52, List.forall_mem_cons.mpr ⟨lw_p53, List.forall_mem_cons.mpr ⟨lw_p54, List.forall_mem_cons.mpr ⟨lw_p55, List.forall_mem_cons.mpr ⟨lw_p56, List.forall_mem_cons.mpr ⟨lw_p57, List.forall_mem_cons.mpr ⟨lw_p58, List.forall_mem_cons.mpr ⟨lw_p59, List.forall_mem_cons.mpr ⟨lw_p60, List.forall_mem_cons.mpr ⟨lw_p61, List.forall_mem_cons.mpr ⟨lw_p62, List.forall_mem_cons.mpr ⟨lw_p63, fun _ h => absurd h List.not_mem_nil⟩⟩⟩⟩⟩⟩⟩⟩⟩⟩⟩⟩⟩⟩⟩⟩
theorem lw_p64 : lw_okq (⟨"TrueHeardModel", "tellsActs", "(I)I"⟩, 25) := ⟨⟨by decide +kernel, by decide +kernel⟩, List.mem_of_getElem? (i := 907) (by decide +kernel), List.mem_of_getElem? (i := 1295) (by decide +kernel), List.mem_of_getElem? (i := 1296) (by decide +kernel)⟩
theorem lw_p65 : lw_okq (⟨"TrueHeardModel", "plainTells", "(I)I"⟩, 25) := ⟨⟨by decide +kernel, by decide +kernel⟩, List.mem_of_getElem? (i := 907) (by decide +kernel), List.mem_of_getElem? (i := 1299) (by decide +kernel), List.mem_of_getElem? (i := 1300) (by decide +kernel)⟩
def lw_privs_5 : List (MethodName × Nat) := [(⟨"TrueHeardModel", "tellsActs", "(I)I"⟩, 25), (⟨"TrueHeardModel", "plainTells", "(I)I"⟩, 25)]
theorem lw_r5 : ∀ q ∈ lw_privs_5, lw_okq q := List.forall_mem_cons.mpr ⟨lw_p64, List.forall_mem_cons.mpr ⟨lw_p65, fun _ h => absurd h List.not_mem_nil⟩⟩
def lw_privs : List (MethodName × Nat) := lw_privs_1 ++ (lw_privs_2 ++ (lw_privs_3 ++ (lw_privs_4 ++ (lw_privs_5))))
def lw_tbl : List Cond := k2_sels lw_privs ++ tables_1
theorem lw_privs_ok : ∀ q ∈ lw_privs, lw_okq q := by
  show ∀ q ∈ lw_privs_1 ++ (lw_privs_2 ++ (lw_privs_3 ++ (lw_privs_4 ++ (lw_privs_5)))), lw_okq q
  exact List.forall_mem_append.mpr ⟨lw_r1, List.forall_mem_append.mpr ⟨lw_r2, List.forall_mem_append.mpr ⟨lw_r3, List.forall_mem_append.mpr ⟨lw_r4, lw_r5⟩⟩⟩⟩

def RX0 : String := "TrueHeard$Bell"
def TX0 : u_T := fun k => match k with
  | 0 => ("TrueHeard$Runner", "kind", "I", true)
  | 1 => ("TrueHeard$Runner", "number", "I", true)
  | 2 => ("TrueHeard$Runner", "v", "I", true)
  | 3 => ("TrueHeard$Runner", "hours", "I", true)
  | 4 => ("TrueHeard$Runner", "cost", "I", true)
  | _ => ("TrueHeard$Runner", "trace", "LTrueHeard$Trace;", true)
def tyX0 : Nat → FieldType := fun k => match k with
  | 0 => .int
  | 1 => .int
  | 2 => .int
  | 3 => .int
  | 4 => .int
  | _ => .object "TrueHeard$Trace"
abbrev wsX00 : List Cond := u_ws RX0 TX0 6
theorem nmX0 : ∀ a, a < 6 → ∀ b, b < 6 → a ≠ b → (TX0 a).2.1 ≠ (TX0 b).2.1 := by decide +kernel
theorem tyX0_ok : ∀ k, k < 6 → parseFieldDescriptor (TX0 k).2.2.1 = some (tyX0 k) := by decide +kernel
abbrev cX0_init : ByteArray := prog_2_method_1_code
def yX0_init : MethodName := ⟨RX0, "<init>", "(IIIIILTrueHeard$Trace;)V"⟩
abbrev cX0_hoursFrom : ByteArray := prog_2_method_2_code
def yX0_hoursFrom : MethodName := ⟨RX0, "hoursFrom", "(I)I"⟩
abbrev cX0_sends : ByteArray := prog_2_method_3_code
def yX0_sends : MethodName := ⟨RX0, "sends", "(I)I"⟩
def RX1 : String := "TrueHeard$Boat"
def TX1 : u_T := fun k => match k with
  | 0 => ("TrueHeard$Runner", "kind", "I", true)
  | 1 => ("TrueHeard$Runner", "number", "I", true)
  | 2 => ("TrueHeard$Runner", "v", "I", true)
  | 3 => ("TrueHeard$Runner", "hours", "I", true)
  | 4 => ("TrueHeard$Runner", "cost", "I", true)
  | _ => ("TrueHeard$Runner", "trace", "LTrueHeard$Trace;", true)
def tyX1 : Nat → FieldType := fun k => match k with
  | 0 => .int
  | 1 => .int
  | 2 => .int
  | 3 => .int
  | 4 => .int
  | _ => .object "TrueHeard$Trace"
abbrev wsX10 : List Cond := u_ws RX1 TX1 6
theorem nmX1 : ∀ a, a < 6 → ∀ b, b < 6 → a ≠ b → (TX1 a).2.1 ≠ (TX1 b).2.1 := by decide +kernel
theorem tyX1_ok : ∀ k, k < 6 → parseFieldDescriptor (TX1 k).2.2.1 = some (tyX1 k) := by decide +kernel
abbrev cX1_init : ByteArray := prog_3_method_1_code
def yX1_init : MethodName := ⟨RX1, "<init>", "(IIIIILTrueHeard$Trace;)V"⟩
abbrev cX1_hoursFrom : ByteArray := prog_3_method_2_code
def yX1_hoursFrom : MethodName := ⟨RX1, "hoursFrom", "(I)I"⟩
abbrev cX1_takes : ByteArray := prog_3_method_3_code
def yX1_takes : MethodName := ⟨RX1, "takes", "(I)I"⟩
def RX2 : String := "TrueHeard$Bribed"
def TX2 : u_T := fun k => match k with
  | 0 => ("TrueHeard$Runner", "kind", "I", true)
  | 1 => ("TrueHeard$Runner", "number", "I", true)
  | 2 => ("TrueHeard$Runner", "v", "I", true)
  | 3 => ("TrueHeard$Runner", "hours", "I", true)
  | 4 => ("TrueHeard$Runner", "cost", "I", true)
  | 5 => ("TrueHeard$Runner", "trace", "LTrueHeard$Trace;", true)
  | _ => ("TrueHeard$Bribed", "sits", "I", true)
def tyX2 : Nat → FieldType := fun k => match k with
  | 0 => .int
  | 1 => .int
  | 2 => .int
  | 3 => .int
  | 4 => .int
  | 5 => .object "TrueHeard$Trace"
  | _ => .int
abbrev wsX20 : List Cond := u_ws RX2 TX2 7
theorem nmX2 : ∀ a, a < 7 → ∀ b, b < 7 → a ≠ b → (TX2 a).2.1 ≠ (TX2 b).2.1 := by decide +kernel
theorem tyX2_ok : ∀ k, k < 7 → parseFieldDescriptor (TX2 k).2.2.1 = some (tyX2 k) := by decide +kernel
abbrev cX2_init : ByteArray := prog_4_method_1_code
def yX2_init : MethodName := ⟨RX2, "<init>", "(IIIIILTrueHeard$Trace;)V"⟩
abbrev cX2_hoursFrom : ByteArray := prog_4_method_2_code
def yX2_hoursFrom : MethodName := ⟨RX2, "hoursFrom", "(I)I"⟩
abbrev cX2_hoursSat : ByteArray := prog_4_method_3_code
def yX2_hoursSat : MethodName := ⟨RX2, "hoursSat", "()I"⟩
abbrev cX2_takes : ByteArray := prog_4_method_4_code
def yX2_takes : MethodName := ⟨RX2, "takes", "(I)I"⟩
def RX3 : String := "TrueHeard$Clause"
def TX3 : u_T := fun k => match k with
  | 0 => ("TrueHeard$Clause", "word", "I", true)
  | 1 => ("TrueHeard$Clause", "n", "I", true)
  | _ => ("TrueHeard$Clause", "tokens", "[I", true)
def tyX3 : Nat → FieldType := fun k => match k with
  | 0 => .int
  | 1 => .int
  | _ => .array .int
abbrev wsX30 : List Cond := u_ws RX3 TX3 3
theorem nmX3 : ∀ a, a < 3 → ∀ b, b < 3 → a ≠ b → (TX3 a).2.1 ≠ (TX3 b).2.1 := by decide +kernel
theorem tyX3_ok : ∀ k, k < 3 → parseFieldDescriptor (TX3 k).2.2.1 = some (tyX3 k) := by decide +kernel
abbrev cX3_init : ByteArray := prog_5_method_1_code
def yX3_init : MethodName := ⟨RX3, "<init>", "(II[I)V"⟩
abbrev cX3_holds : ByteArray := prog_5_method_2_code
def yX3_holds : MethodName := ⟨RX3, "holds", "(I)Z"⟩
abbrev cX3_test : ByteArray := prog_5_method_3_code
def yX3_test : MethodName := ⟨RX3, "test", "(III)I"⟩
abbrev cX3_passes : ByteArray := prog_5_method_4_code
def yX3_passes : MethodName := ⟨RX3, "passes", "(II)Z"⟩
def RX4 : String := "TrueHeard$Fire"
def TX4 : u_T := fun k => match k with
  | 0 => ("TrueHeard$Runner", "kind", "I", true)
  | 1 => ("TrueHeard$Runner", "number", "I", true)
  | 2 => ("TrueHeard$Runner", "v", "I", true)
  | 3 => ("TrueHeard$Runner", "hours", "I", true)
  | 4 => ("TrueHeard$Runner", "cost", "I", true)
  | _ => ("TrueHeard$Runner", "trace", "LTrueHeard$Trace;", true)
def tyX4 : Nat → FieldType := fun k => match k with
  | 0 => .int
  | 1 => .int
  | 2 => .int
  | 3 => .int
  | 4 => .int
  | _ => .object "TrueHeard$Trace"
abbrev wsX40 : List Cond := u_ws RX4 TX4 6
theorem nmX4 : ∀ a, a < 6 → ∀ b, b < 6 → a ≠ b → (TX4 a).2.1 ≠ (TX4 b).2.1 := by decide +kernel
theorem tyX4_ok : ∀ k, k < 6 → parseFieldDescriptor (TX4 k).2.2.1 = some (tyX4 k) := by decide +kernel
abbrev cX4_init : ByteArray := prog_6_method_1_code
def yX4_init : MethodName := ⟨RX4, "<init>", "(IIIIILTrueHeard$Trace;)V"⟩
abbrev cX4_hoursFrom : ByteArray := prog_6_method_2_code
def yX4_hoursFrom : MethodName := ⟨RX4, "hoursFrom", "(I)I"⟩
abbrev cX4_tells : ByteArray := prog_6_method_3_code
def yX4_tells : MethodName := ⟨RX4, "tells", "(I)I"⟩
def RX5 : String := "TrueHeard$Reader"
def TX5 : u_T := fun k => match k with
  | 0 => ("TrueHeard$Reader", "world", "LTrueHeard$World;", true)
  | 1 => ("TrueHeard$Reader", "clauses", "[LTrueHeard$Clause;", true)
  | 2 => ("TrueHeard$Reader", "tokens", "[I", true)
  | 3 => ("TrueHeard$Reader", "tokenCount", "I", false)
  | 4 => ("TrueHeard$Reader", "names", "Ljava/lang/String;", false)
  | _ => ("TrueHeard$Reader", "place", "I", false)
def tyX5 : Nat → FieldType := fun k => match k with
  | 0 => .object "TrueHeard$World"
  | 1 => .array (.object "TrueHeard$Clause")
  | 2 => .array .int
  | 3 => .int
  | 4 => .object "java/lang/String"
  | _ => .int
abbrev wsX50 : List Cond := u_ws RX5 TX5 6
theorem nmX5 : ∀ a, a < 6 → ∀ b, b < 6 → a ≠ b → (TX5 a).2.1 ≠ (TX5 b).2.1 := by decide +kernel
theorem tyX5_ok : ∀ k, k < 6 → parseFieldDescriptor (TX5 k).2.2.1 = some (tyX5 k) := by decide +kernel
abbrev cX5_init : ByteArray := prog_7_method_1_code
def yX5_init : MethodName := ⟨RX5, "<init>", "(LTrueHeard$World;)V"⟩
abbrev cX5_readCoast : ByteArray := prog_7_method_2_code
def yX5_readCoast : MethodName := ⟨RX5, "readCoast", "()[LTrueHeard$Clause;"⟩
abbrev cX5_firstClauses : ByteArray := prog_7_method_3_code
def yX5_firstClauses : MethodName := ⟨RX5, "firstClauses", "(I)[LTrueHeard$Clause;"⟩
abbrev cX5_readSaying : ByteArray := prog_7_method_4_code
def yX5_readSaying : MethodName := ⟨RX5, "readSaying", "()LTrueHeard$Clause;"⟩
abbrev cX5_newClause : ByteArray := prog_7_method_5_code
def yX5_newClause : MethodName := ⟨RX5, "newClause", "(II)LTrueHeard$Clause;"⟩
abbrev cX5_readClause : ByteArray := prog_7_method_6_code
def yX5_readClause : MethodName := ⟨RX5, "readClause", "()LTrueHeard$Clause;"⟩
abbrev cX5_readWord : ByteArray := prog_7_method_7_code
def yX5_readWord : MethodName := ⟨RX5, "readWord", "()I"⟩
abbrev cX5_readAny : ByteArray := prog_7_method_8_code
def yX5_readAny : MethodName := ⟨RX5, "readAny", "(I)Z"⟩
abbrev cX5_readOne : ByteArray := prog_7_method_9_code
def yX5_readOne : MethodName := ⟨RX5, "readOne", "(I)Z"⟩
abbrev cX5_readTest : ByteArray := prog_7_method_10_code
def yX5_readTest : MethodName := ⟨RX5, "readTest", "()Z"⟩
abbrev cX5_readNumber : ByteArray := prog_7_method_11_code
def yX5_readNumber : MethodName := ⟨RX5, "readNumber", "()I"⟩
abbrev cX5_goOnAll : ByteArray := prog_7_method_12_code
def yX5_goOnAll : MethodName := ⟨RX5, "goOnAll", "(Ljava/lang/String;)Z"⟩
abbrev cX5_goOn : ByteArray := prog_7_method_13_code
def yX5_goOn : MethodName := ⟨RX5, "goOn", "(C)Z"⟩
abbrev cX5_sign : ByteArray := prog_7_method_14_code
def yX5_sign : MethodName := ⟨RX5, "sign", "()I"⟩
abbrev cX5_add : ByteArray := prog_7_method_15_code
def yX5_add : MethodName := ⟨RX5, "add", "(I)V"⟩
def RX6 : String := "TrueHeard$Runner"
def TX6 : u_T := fun k => match k with
  | 0 => ("TrueHeard$Runner", "kind", "I", true)
  | 1 => ("TrueHeard$Runner", "number", "I", true)
  | 2 => ("TrueHeard$Runner", "v", "I", true)
  | 3 => ("TrueHeard$Runner", "hours", "I", true)
  | 4 => ("TrueHeard$Runner", "cost", "I", true)
  | _ => ("TrueHeard$Runner", "trace", "LTrueHeard$Trace;", true)
def tyX6 : Nat → FieldType := fun k => match k with
  | 0 => .int
  | 1 => .int
  | 2 => .int
  | 3 => .int
  | 4 => .int
  | _ => .object "TrueHeard$Trace"
abbrev wsX60 : List Cond := u_ws RX6 TX6 6
theorem nmX6 : ∀ a, a < 6 → ∀ b, b < 6 → a ≠ b → (TX6 a).2.1 ≠ (TX6 b).2.1 := by decide +kernel
theorem tyX6_ok : ∀ k, k < 6 → parseFieldDescriptor (TX6 k).2.2.1 = some (tyX6 k) := by decide +kernel
abbrev cX6_init : ByteArray := prog_8_method_1_code
def yX6_init : MethodName := ⟨RX6, "<init>", "(IIIIILTrueHeard$Trace;)V"⟩
abbrev cX6_hoursFrom : ByteArray := prog_8_method_2_code
def yX6_hoursFrom : MethodName := ⟨RX6, "hoursFrom", "(I)I"⟩
abbrev cX6_hoursSat : ByteArray := prog_8_method_3_code
def yX6_hoursSat : MethodName := ⟨RX6, "hoursSat", "()I"⟩
abbrev cX6_toll : ByteArray := prog_8_method_4_code
def yX6_toll : MethodName := ⟨RX6, "toll", "()I"⟩
abbrev cX6_sends : ByteArray := prog_8_method_5_code
def yX6_sends : MethodName := ⟨RX6, "sends", "(I)I"⟩
abbrev cX6_takes : ByteArray := prog_8_method_6_code
def yX6_takes : MethodName := ⟨RX6, "takes", "(I)I"⟩
abbrev cX6_tells : ByteArray := prog_8_method_7_code
def yX6_tells : MethodName := ⟨RX6, "tells", "(I)I"⟩
def RX7 : String := "TrueHeard$Tolled"
def TX7 : u_T := fun k => match k with
  | 0 => ("TrueHeard$Runner", "kind", "I", true)
  | 1 => ("TrueHeard$Runner", "number", "I", true)
  | 2 => ("TrueHeard$Runner", "v", "I", true)
  | 3 => ("TrueHeard$Runner", "hours", "I", true)
  | 4 => ("TrueHeard$Runner", "cost", "I", true)
  | _ => ("TrueHeard$Runner", "trace", "LTrueHeard$Trace;", true)
def tyX7 : Nat → FieldType := fun k => match k with
  | 0 => .int
  | 1 => .int
  | 2 => .int
  | 3 => .int
  | 4 => .int
  | _ => .object "TrueHeard$Trace"
abbrev wsX70 : List Cond := u_ws RX7 TX7 6
theorem nmX7 : ∀ a, a < 6 → ∀ b, b < 6 → a ≠ b → (TX7 a).2.1 ≠ (TX7 b).2.1 := by decide +kernel
theorem tyX7_ok : ∀ k, k < 6 → parseFieldDescriptor (TX7 k).2.2.1 = some (tyX7 k) := by decide +kernel
abbrev cX7_init : ByteArray := prog_9_method_1_code
def yX7_init : MethodName := ⟨RX7, "<init>", "(IIIIILTrueHeard$Trace;)V"⟩
abbrev cX7_toll : ByteArray := prog_9_method_2_code
def yX7_toll : MethodName := ⟨RX7, "toll", "()I"⟩
abbrev cX7_tells : ByteArray := prog_9_method_3_code
def yX7_tells : MethodName := ⟨RX7, "tells", "(I)I"⟩
def RX8 : String := "TrueHeard$Towed"
def TX8 : u_T := fun k => match k with
  | 0 => ("TrueHeard$Runner", "kind", "I", true)
  | 1 => ("TrueHeard$Runner", "number", "I", true)
  | 2 => ("TrueHeard$Runner", "v", "I", true)
  | 3 => ("TrueHeard$Runner", "hours", "I", true)
  | 4 => ("TrueHeard$Runner", "cost", "I", true)
  | _ => ("TrueHeard$Runner", "trace", "LTrueHeard$Trace;", true)
def tyX8 : Nat → FieldType := fun k => match k with
  | 0 => .int
  | 1 => .int
  | 2 => .int
  | 3 => .int
  | 4 => .int
  | _ => .object "TrueHeard$Trace"
abbrev wsX80 : List Cond := u_ws RX8 TX8 6
theorem nmX8 : ∀ a, a < 6 → ∀ b, b < 6 → a ≠ b → (TX8 a).2.1 ≠ (TX8 b).2.1 := by decide +kernel
theorem tyX8_ok : ∀ k, k < 6 → parseFieldDescriptor (TX8 k).2.2.1 = some (tyX8 k) := by decide +kernel
abbrev cX8_init : ByteArray := prog_10_method_1_code
def yX8_init : MethodName := ⟨RX8, "<init>", "(IIIIILTrueHeard$Trace;)V"⟩
abbrev cX8_hoursFrom : ByteArray := prog_10_method_2_code
def yX8_hoursFrom : MethodName := ⟨RX8, "hoursFrom", "(I)I"⟩
abbrev cX8_sends : ByteArray := prog_10_method_3_code
def yX8_sends : MethodName := ⟨RX8, "sends", "(I)I"⟩
def RX9 : String := "TrueHeard$Trace"
def TX9 : u_T := fun k => match k with
  | 0 => ("TrueHeard$Trace", "bodies", "[I", true)
  | _ => ("TrueHeard$Trace", "ran", "I", false)
def tyX9 : Nat → FieldType := fun k => match k with
  | 0 => .array .int
  | _ => .int
abbrev wsX90 : List Cond := u_ws RX9 TX9 2
theorem nmX9 : ∀ a, a < 2 → ∀ b, b < 2 → a ≠ b → (TX9 a).2.1 ≠ (TX9 b).2.1 := by decide +kernel
theorem tyX9_ok : ∀ k, k < 2 → parseFieldDescriptor (TX9 k).2.2.1 = some (tyX9 k) := by decide +kernel
abbrev cX9_init : ByteArray := prog_11_method_1_code
def yX9_init : MethodName := ⟨RX9, "<init>", "()V"⟩
abbrev cX9_note : ByteArray := prog_11_method_2_code
def yX9_note : MethodName := ⟨RX9, "note", "(I)V"⟩
def RX10 : String := "TrueHeard$World"
def TX10 : u_T := fun k => match k with
  | 0 => ("TrueHeard$World", "tape", "[B", true)
  | 1 => ("TrueHeard$World", "signs", "I", false)
  | 2 => ("TrueHeard$World", "coast", "[LTrueHeard$Clause;", false)
  | 3 => ("TrueHeard$World", "coasts", "I", false)
  | 4 => ("TrueHeard$World", "sayings", "[LTrueHeard$Clause;", true)
  | 5 => ("TrueHeard$World", "sayingCount", "I", false)
  | 6 => ("TrueHeard$World", "ways", "[LTrueHeard$Runner;", true)
  | 7 => ("TrueHeard$World", "wayCount", "I", false)
  | 8 => ("TrueHeard$World", "things", "I", false)
  | 9 => ("TrueHeard$World", "states", "I", false)
  | 10 => ("TrueHeard$World", "hour", "I", false)
  | 11 => ("TrueHeard$World", "heedThing", "I", false)
  | 12 => ("TrueHeard$World", "heedState", "I", false)
  | 13 => ("TrueHeard$World", "told", "I", false)
  | _ => ("TrueHeard$World", "toldCount", "I", false)
def tyX10 : Nat → FieldType := fun k => match k with
  | 0 => .array .byte
  | 1 => .int
  | 2 => .array (.object "TrueHeard$Clause")
  | 3 => .int
  | 4 => .array (.object "TrueHeard$Clause")
  | 5 => .int
  | 6 => .array (.object "TrueHeard$Runner")
  | 7 => .int
  | 8 => .int
  | 9 => .int
  | 10 => .int
  | 11 => .int
  | 12 => .int
  | 13 => .int
  | _ => .int
abbrev wsX100 : List Cond := u_ws RX10 TX10 15
theorem nmX10 : ∀ a, a < 15 → ∀ b, b < 15 → a ≠ b → (TX10 a).2.1 ≠ (TX10 b).2.1 := by decide +kernel
theorem tyX10_ok : ∀ k, k < 15 → parseFieldDescriptor (TX10 k).2.2.1 = some (tyX10 k) := by decide +kernel
abbrev cX10_init : ByteArray := prog_12_method_1_code
def yX10_init : MethodName := ⟨RX10, "<init>", "()V"⟩
abbrev cX10_copy : ByteArray := prog_12_method_2_code
def yX10_copy : MethodName := ⟨RX10, "copy", "(LTrueHeard$World;)V"⟩
abbrev cX10_hasThing : ByteArray := prog_12_method_3_code
def yX10_hasThing : MethodName := ⟨RX10, "hasThing", "(I)Z"⟩
abbrev cX10_sayingAt : ByteArray := prog_12_method_4_code
def yX10_sayingAt : MethodName := ⟨RX10, "sayingAt", "(I)LTrueHeard$Clause;"⟩
abbrev cX10_wayAt : ByteArray := prog_12_method_5_code
def yX10_wayAt : MethodName := ⟨RX10, "wayAt", "(I)LTrueHeard$Runner;"⟩
abbrev cX10_replaceWay : ByteArray := prog_12_method_6_code
def yX10_replaceWay : MethodName := ⟨RX10, "replaceWay", "(ILTrueHeard$Runner;)V"⟩
abbrev cX10_rows : ByteArray := prog_12_method_7_code
def yX10_rows : MethodName := ⟨RX10, "rows", "()I"⟩
abbrev cX10_heeded : ByteArray := prog_12_method_8_code
def yX10_heeded : MethodName := ⟨RX10, "heeded", "(I)I"⟩
abbrev cX10_factsOfRow : ByteArray := prog_12_method_9_code
def yX10_factsOfRow : MethodName := ⟨RX10, "factsOfRow", "(II)I"⟩
abbrev cX10_costs : ByteArray := prog_12_method_10_code
def yX10_costs : MethodName := ⟨RX10, "costs", "(LTrueHeard$Runner;)I"⟩
abbrev cX10_together : ByteArray := prog_12_method_11_code
def yX10_together : MethodName := ⟨RX10, "together", "(II)I"⟩
abbrev cX10_step : ByteArray := prog_12_method_12_code
def yX10_step : MethodName := ⟨RX10, "step", "(II)I"⟩
abbrev cX10_reach : ByteArray := prog_12_method_13_code
def yX10_reach : MethodName := ⟨RX10, "reach", "(II)I"⟩
abbrev cX10_chances : ByteArray := prog_12_method_14_code
def yX10_chances : MethodName := ⟨RX10, "chances", "(II)J"⟩
abbrev cX10_chanceIn : ByteArray := prog_12_method_15_code
def yX10_chanceIn : MethodName := ⟨RX10, "chanceIn", "(JI)J"⟩
def RX11 : String := "TrueHeard"
def TX11 : u_T := fun k => match k with
  | 0 => ("TrueHeard", "world", "LTrueHeard$World;", true)
  | 1 => ("TrueHeard", "image", "LTrueHeard$World;", true)
  | 2 => ("TrueHeard", "reader", "LTrueHeard$Reader;", true)
  | 3 => ("TrueHeard", "trace", "LTrueHeard$Trace;", true)
  | 4 => ("TrueHeard", "chances", "[J", true)
  | 5 => ("TrueHeard", "fails", "[Z", true)
  | _ => ("TrueHeard", "imaged", "Z", false)
def tyX11 : Nat → FieldType := fun k => match k with
  | 0 => .object "TrueHeard$World"
  | 1 => .object "TrueHeard$World"
  | 2 => .object "TrueHeard$Reader"
  | 3 => .object "TrueHeard$Trace"
  | 4 => .array .long
  | 5 => .array .boolean
  | _ => .boolean
abbrev wsX110 : List Cond := u_ws RX11 TX11 7
theorem nmX11 : ∀ a, a < 7 → ∀ b, b < 7 → a ≠ b → (TX11 a).2.1 ≠ (TX11 b).2.1 := by decide +kernel
theorem tyX11_ok : ∀ k, k < 7 → parseFieldDescriptor (TX11 k).2.2.1 = some (tyX11 k) := by decide +kernel
abbrev cX11_init : ByteArray := prog_1_method_1_code
def yX11_init : MethodName := ⟨RX11, "<init>", "()V"⟩
abbrev cX11_feed : ByteArray := prog_1_method_2_code
def yX11_feed : MethodName := ⟨RX11, "feed", "(I)I"⟩
abbrev cX11_coast : ByteArray := prog_1_method_3_code
def yX11_coast : MethodName := ⟨RX11, "coast", "()I"⟩
abbrev cX11_saying : ByteArray := prog_1_method_4_code
def yX11_saying : MethodName := ⟨RX11, "saying", "()I"⟩
abbrev cX11_thing : ByteArray := prog_1_method_5_code
def yX11_thing : MethodName := ⟨RX11, "thing", "(I)I"⟩
abbrev cX11_put : ByteArray := prog_1_method_6_code
def yX11_put : MethodName := ⟨RX11, "put", "(II)I"⟩
abbrev cX11_of : ByteArray := prog_1_method_7_code
def yX11_of : MethodName := ⟨RX11, "of", "(II)I"⟩
abbrev cX11_way : ByteArray := prog_1_method_8_code
def yX11_way : MethodName := ⟨RX11, "way", "(IIII)I"⟩
abbrev cX11_newWay : ByteArray := prog_1_method_9_code
def yX11_newWay : MethodName := ⟨RX11, "newWay", "(IIII)LTrueHeard$Runner;"⟩
abbrev cX11_at : ByteArray := prog_1_method_10_code
def yX11_at : MethodName := ⟨RX11, "at", "(II)I"⟩
abbrev cX11_bribe : ByteArray := prog_1_method_11_code
def yX11_bribe : MethodName := ⟨RX11, "bribe", "(II)I"⟩
abbrev cX11_now : ByteArray := prog_1_method_12_code
def yX11_now : MethodName := ⟨RX11, "now", "()I"⟩
abbrev cX11_hour : ByteArray := prog_1_method_13_code
def yX11_hour : MethodName := ⟨RX11, "hour", "(I)I"⟩
abbrev cX11_odds : ByteArray := prog_1_method_14_code
def yX11_odds : MethodName := ⟨RX11, "odds", "(III)J"⟩
abbrev cX11_sure : ByteArray := prog_1_method_15_code
def yX11_sure : MethodName := ⟨RX11, "sure", "(II)I"⟩
abbrev cX11_tell : ByteArray := prog_1_method_16_code
def yX11_tell : MethodName := ⟨RX11, "tell", "(II)I"⟩
abbrev cX11_which : ByteArray := prog_1_method_17_code
def yX11_which : MethodName := ⟨RX11, "which", "(I)I"⟩
abbrev cX11_worth : ByteArray := prog_1_method_18_code
def yX11_worth : MethodName := ⟨RX11, "worth", "(IIIII)J"⟩
abbrev cX11_sit : ByteArray := prog_1_method_19_code
def yX11_sit : MethodName := ⟨RX11, "sit", "(II)I"⟩
abbrev cX11_catches : ByteArray := prog_1_method_20_code
def yX11_catches : MethodName := ⟨RX11, "catches", "(III)I"⟩
abbrev cX11_all : ByteArray := prog_1_method_21_code
def yX11_all : MethodName := ⟨RX11, "all", "(I)I"⟩
abbrev cX11_begin : ByteArray := prog_1_method_22_code
def yX11_begin : MethodName := ⟨RX11, "begin", "(III)I"⟩
abbrev cX11_heed : ByteArray := prog_1_method_23_code
def yX11_heed : MethodName := ⟨RX11, "heed", "(II)I"⟩
abbrev cX11_self : ByteArray := prog_1_method_24_code
def yX11_self : MethodName := ⟨RX11, "self", "(IIII)J"⟩
abbrev cX11_back : ByteArray := prog_1_method_25_code
def yX11_back : MethodName := ⟨RX11, "back", "(III)I"⟩
abbrev cX11_partsSo : ByteArray := prog_1_method_26_code
def yX11_partsSo : MethodName := ⟨RX11, "partsSo", "(LTrueHeard$Clause;LTrueHeard$Runner;I)J"⟩
abbrev cX11_partsOfRow : ByteArray := prog_1_method_27_code
def yX11_partsOfRow : MethodName := ⟨RX11, "partsOfRow", "(I)J"⟩
abbrev cX11_isSo : ByteArray := prog_1_method_28_code
def yX11_isSo : MethodName := ⟨RX11, "isSo", "(LTrueHeard$Clause;III)Z"⟩
abbrev cX11_markFails : ByteArray := prog_1_method_29_code
def yX11_markFails : MethodName := ⟨RX11, "markFails", "(LTrueHeard$Clause;I)V"⟩
abbrev cX11_carryBack : ByteArray := prog_1_method_30_code
def yX11_carryBack : MethodName := ⟨RX11, "carryBack", "(II)V"⟩
abbrev cX11_failsFrom : ByteArray := prog_1_method_31_code
def yX11_failsFrom : MethodName := ⟨RX11, "failsFrom", "(I)Z"⟩
abbrev cX11_setFails : ByteArray := prog_1_method_32_code
def yX11_setFails : MethodName := ⟨RX11, "setFails", "(IZ)V"⟩
abbrev cX11_partOf : ByteArray := prog_1_method_33_code
def yX11_partOf : MethodName := ⟨RX11, "partOf", "(JI)J"⟩
abbrev cX11_row : ByteArray := prog_1_method_34_code
def yX11_row : MethodName := ⟨RX11, "row", "(I)I"⟩
abbrev cX11_looked : ByteArray := prog_1_method_35_code
def yX11_looked : MethodName := ⟨RX11, "looked", "()I"⟩
abbrev cX11_act : ByteArray := prog_1_method_36_code
def yX11_act : MethodName := ⟨RX11, "act", "(III)I"⟩
abbrev cX11_trace : ByteArray := prog_1_method_37_code
def yX11_trace : MethodName := ⟨RX11, "trace", "(I)I"⟩
abbrev cX11_as : ByteArray := prog_1_method_38_code
def yX11_as : MethodName := ⟨RX11, "as", "(II)I"⟩
abbrev cX11_isOf : ByteArray := prog_1_method_39_code
def yX11_isOf : MethodName := ⟨RX11, "isOf", "(LTrueHeard$Runner;I)Z"⟩
abbrev cX11_image : ByteArray := prog_1_method_40_code
def yX11_image : MethodName := ⟨RX11, "image", "()I"⟩
abbrev cX11_undo : ByteArray := prog_1_method_41_code
def yX11_undo : MethodName := ⟨RX11, "undo", "()I"⟩
abbrev cX11_count : ByteArray := prog_1_method_42_code
def yX11_count : MethodName := ⟨RX11, "count", "(I)I"⟩
abbrev cX11_isState : ByteArray := prog_1_method_43_code
def yX11_isState : MethodName := ⟨RX11, "isState", "(I)Z"⟩
abbrev cX11_isKind : ByteArray := prog_1_method_44_code
def yX11_isKind : MethodName := ⟨RX11, "isKind", "(I)Z"⟩
abbrev cX11_isPart : ByteArray := prog_1_method_45_code
def yX11_isPart : MethodName := ⟨RX11, "isPart", "(I)Z"⟩
abbrev cX11_stateIn : ByteArray := prog_1_method_46_code
def yX11_stateIn : MethodName := ⟨RX11, "stateIn", "(II)I"⟩
abbrev cX11_withState : ByteArray := prog_1_method_47_code
def yX11_withState : MethodName := ⟨RX11, "withState", "(III)I"⟩
abbrev cX11_reached : ByteArray := prog_1_method_48_code
def yX11_reached : MethodName := ⟨RX11, "reached", "(II)I"⟩
abbrev cX11_factsOfThing : ByteArray := prog_1_method_49_code
def yX11_factsOfThing : MethodName := ⟨RX11, "factsOfThing", "(III)I"⟩
abbrev cX11_factsOfWay : ByteArray := prog_1_method_50_code
def yX11_factsOfWay : MethodName := ⟨RX11, "factsOfWay", "(II)I"⟩
def RX12 : String := "TrueHeardModel"
def TX12 : u_T := fun k => match k with
  | 0 => ("TrueHeardModel", "thrown", "I", false)
  | 1 => ("TrueHeardModel", "s", "[I", true)
  | 2 => ("TrueHeardModel", "image", "[I", true)
  | 3 => ("TrueHeardModel", "hasImage", "Z", false)
  | 4 => ("TrueHeardModel", "act", "I", false)
  | 5 => ("TrueHeardModel", "letters", "Ljava/lang/String;", false)
  | 6 => ("TrueHeardModel", "spot", "I", false)
  | 7 => ("TrueHeardModel", "end", "I", false)
  | 8 => ("TrueHeardModel", "isWrong", "Z", false)
  | 9 => ("TrueHeardModel", "open", "I", false)
  | 10 => ("TrueHeardModel", "by", "[I", true)
  | 11 => ("TrueHeardModel", "truths", "[Z", true)
  | 12 => ("TrueHeardModel", "turns", "I", false)
  | 13 => ("TrueHeardModel", "drift", "I", false)
  | 14 => ("TrueHeardModel", "dear", "I", false)
  | 15 => ("TrueHeardModel", "often", "[J", true)
  | 16 => ("TrueHeardModel", "then", "[J", true)
  | 17 => ("TrueHeardModel", "may", "[I", true)
  | 18 => ("TrueHeardModel", "reach", "[I", true)
  | 19 => ("TrueHeardModel", "isSoThen", "[Z", true)
  | 20 => ("TrueHeardModel", "bodies", "[I", true)
  | 21 => ("TrueHeardModel", "ran", "I", false)
  | 22 => ("TrueHeardModel", "kind", "I", false)
  | 23 => ("TrueHeardModel", "number", "I", false)
  | _ => ("TrueHeardModel", "tellsV", "I", false)
def tyX12 : Nat → FieldType := fun k => match k with
  | 0 => .int
  | 1 => .array .int
  | 2 => .array .int
  | 3 => .boolean
  | 4 => .int
  | 5 => .object "java/lang/String"
  | 6 => .int
  | 7 => .int
  | 8 => .boolean
  | 9 => .int
  | 10 => .array .int
  | 11 => .array .boolean
  | 12 => .int
  | 13 => .int
  | 14 => .int
  | 15 => .array .long
  | 16 => .array .long
  | 17 => .array .int
  | 18 => .array .int
  | 19 => .array .boolean
  | 20 => .array .int
  | 21 => .int
  | 22 => .int
  | 23 => .int
  | _ => .int
abbrev wsX120 : List Cond := u_ws RX12 TX12 25
theorem nmX12 : ∀ a, a < 25 → ∀ b, b < 25 → a ≠ b → (TX12 a).2.1 ≠ (TX12 b).2.1 := by decide +kernel
theorem tyX12_ok : ∀ k, k < 25 → parseFieldDescriptor (TX12 k).2.2.1 = some (tyX12 k) := by decide +kernel
abbrev cX12_init : ByteArray := prog_14_method_1_code
def yX12_init : MethodName := ⟨RX12, "<init>", "()V"⟩
abbrev cX12_in : ByteArray := prog_14_method_3_code
def yX12_in : MethodName := ⟨RX12, "in", "(III)Z"⟩
abbrev cX12_isThing : ByteArray := prog_14_method_4_code
def yX12_isThing : MethodName := ⟨RX12, "isThing", "(I)Z"⟩
abbrev cX12_isWay : ByteArray := prog_14_method_5_code
def yX12_isWay : MethodName := ⟨RX12, "isWay", "(I)Z"⟩
abbrev cX12_isSaying : ByteArray := prog_14_method_6_code
def yX12_isSaying : MethodName := ⟨RX12, "isSaying", "(I)Z"⟩
abbrev cX12_feed : ByteArray := prog_14_method_7_code
def yX12_feed : MethodName := ⟨RX12, "feed", "(I)I"⟩
abbrev cX12_here : ByteArray := prog_14_method_8_code
def yX12_here : MethodName := ⟨RX12, "here", "()I"⟩
abbrev cX12_must : ByteArray := prog_14_method_9_code
def yX12_must : MethodName := ⟨RX12, "must", "(I)V"⟩
abbrev cX12_spells : ByteArray := prog_14_method_10_code
def yX12_spells : MethodName := ⟨RX12, "spells", "(Ljava/lang/String;)V"⟩
abbrev cX12_figures : ByteArray := prog_14_method_11_code
def yX12_figures : MethodName := ⟨RX12, "figures", "()I"⟩
abbrev cX12_among : ByteArray := prog_14_method_12_code
def yX12_among : MethodName := ⟨RX12, "among", "(Ljava/lang/String;)I"⟩
abbrev cX12_emits : ByteArray := prog_14_method_13_code
def yX12_emits : MethodName := ⟨RX12, "emits", "(I)V"⟩
abbrev cX12_factor : ByteArray := prog_14_method_14_code
def yX12_factor : MethodName := ⟨RX12, "factor", "()V"⟩
abbrev cX12_every : ByteArray := prog_14_method_15_code
def yX12_every : MethodName := ⟨RX12, "every", "()V"⟩
abbrev cX12_some : ByteArray := prog_14_method_16_code
def yX12_some : MethodName := ⟨RX12, "some", "()V"⟩
abbrev cX12_much : ByteArray := prog_14_method_17_code
def yX12_much : MethodName := ⟨RX12, "much", "(ILjava/lang/String;)V"⟩
abbrev cX12_clauseOfD : ByteArray := prog_14_method_18_code
def yX12_clauseOfD : MethodName := ⟨RX12, "clauseOfD", "()V"⟩
abbrev cX12_clauseHere : ByteArray := prog_14_method_19_code
def yX12_clauseHere : MethodName := ⟨RX12, "clauseHere", "()V"⟩
abbrev cX12_begins : ByteArray := prog_14_method_20_code
def yX12_begins : MethodName := ⟨RX12, "begins", "(ILjava/lang/String;)V"⟩
abbrev cX12_coast : ByteArray := prog_14_method_21_code
def yX12_coast : MethodName := ⟨RX12, "coast", "()I"⟩
abbrev cX12_saying : ByteArray := prog_14_method_22_code
def yX12_saying : MethodName := ⟨RX12, "saying", "()I"⟩
abbrev cX12_isSo : ByteArray := prog_14_method_23_code
def yX12_isSo : MethodName := ⟨RX12, "isSo", "(II)Z"⟩
abbrev cX12_goesThrough : ByteArray := prog_14_method_24_code
def yX12_goesThrough : MethodName := ⟨RX12, "goesThrough", "(I)Z"⟩
abbrev cX12_looks : ByteArray := prog_14_method_25_code
def yX12_looks : MethodName := ⟨RX12, "looks", "(IIII)V"⟩
abbrev cX12_stateOf : ByteArray := prog_14_method_26_code
def yX12_stateOf : MethodName := ⟨RX12, "stateOf", "(II)I"⟩
abbrev cX12_isTrue : ByteArray := prog_14_method_27_code
def yX12_isTrue : MethodName := ⟨RX12, "isTrue", "(III)Z"⟩
abbrev cX12_thing : ByteArray := prog_14_method_28_code
def yX12_thing : MethodName := ⟨RX12, "thing", "(I)I"⟩
abbrev cX12_put : ByteArray := prog_14_method_29_code
def yX12_put : MethodName := ⟨RX12, "put", "(II)I"⟩
abbrev cX12_of : ByteArray := prog_14_method_30_code
def yX12_of : MethodName := ⟨RX12, "of", "(II)I"⟩
abbrev cX12_way : ByteArray := prog_14_method_31_code
def yX12_way : MethodName := ⟨RX12, "way", "(IIII)I"⟩
abbrev cX12_takesAt : ByteArray := prog_14_method_32_code
def yX12_takesAt : MethodName := ⟨RX12, "takesAt", "(II)I"⟩
abbrev cX12_takes : ByteArray := prog_14_method_33_code
def yX12_takes : MethodName := ⟨RX12, "takes", "(I)I"⟩
abbrev cX12_costsOf : ByteArray := prog_14_method_34_code
def yX12_costsOf : MethodName := ⟨RX12, "costsOf", "(I)I"⟩
abbrev cX12_at : ByteArray := prog_14_method_35_code
def yX12_at : MethodName := ⟨RX12, "at", "(II)I"⟩
abbrev cX12_bribe : ByteArray := prog_14_method_36_code
def yX12_bribe : MethodName := ⟨RX12, "bribe", "(II)I"⟩
abbrev cX12_now : ByteArray := prog_14_method_37_code
def yX12_now : MethodName := ⟨RX12, "now", "()I"⟩
abbrev cX12_hour : ByteArray := prog_14_method_38_code
def yX12_hour : MethodName := ⟨RX12, "hour", "(I)I"⟩
abbrev cX12_beginsAll : ByteArray := prog_14_method_39_code
def yX12_beginsAll : MethodName := ⟨RX12, "beginsAll", "(I)V"⟩
abbrev cX12_statesNow : ByteArray := prog_14_method_40_code
def yX12_statesNow : MethodName := ⟨RX12, "statesNow", "()I"⟩
abbrev cX12_goesOn : ByteArray := prog_14_method_41_code
def yX12_goesOn : MethodName := ⟨RX12, "goesOn", "(II)V"⟩
abbrev cX12_goesAll : ByteArray := prog_14_method_42_code
def yX12_goesAll : MethodName := ⟨RX12, "goesAll", "(I)V"⟩
abbrev cX12_oftenOf : ByteArray := prog_14_method_43_code
def yX12_oftenOf : MethodName := ⟨RX12, "oftenOf", "(I)J"⟩
abbrev cX12_allStates : ByteArray := prog_14_method_44_code
def yX12_allStates : MethodName := ⟨RX12, "allStates", "()I"⟩
abbrev cX12_twos : ByteArray := prog_14_method_45_code
def yX12_twos : MethodName := ⟨RX12, "twos", "(I)J"⟩
abbrev cX12_allOften : ByteArray := prog_14_method_46_code
def yX12_allOften : MethodName := ⟨RX12, "allOften", "(I)J"⟩
abbrev cX12_oftenTrue : ByteArray := prog_14_method_47_code
def yX12_oftenTrue : MethodName := ⟨RX12, "oftenTrue", "(II)J"⟩
abbrev cX12_heardTrue : ByteArray := prog_14_method_48_code
def yX12_heardTrue : MethodName := ⟨RX12, "heardTrue", "(II)J"⟩
abbrev cX12_lowest : ByteArray := prog_14_method_49_code
def yX12_lowest : MethodName := ⟨RX12, "lowest", "(JJI)J"⟩
abbrev cX12_odds : ByteArray := prog_14_method_50_code
def yX12_odds : MethodName := ⟨RX12, "odds", "(III)J"⟩
abbrev cX12_sure : ByteArray := prog_14_method_51_code
def yX12_sure : MethodName := ⟨RX12, "sure", "(II)I"⟩
abbrev cX12_tell : ByteArray := prog_14_method_52_code
def yX12_tell : MethodName := ⟨RX12, "tell", "(II)I"⟩
abbrev cX12_isBetter : ByteArray := prog_14_method_53_code
def yX12_isBetter : MethodName := ⟨RX12, "isBetter", "(III)Z"⟩
abbrev cX12_which : ByteArray := prog_14_method_54_code
def yX12_which : MethodName := ⟨RX12, "which", "(I)I"⟩
abbrev cX12_worth : ByteArray := prog_14_method_55_code
def yX12_worth : MethodName := ⟨RX12, "worth", "(IIIII)J"⟩
abbrev cX12_mayBegin : ByteArray := prog_14_method_56_code
def yX12_mayBegin : MethodName := ⟨RX12, "mayBegin", "(I)V"⟩
abbrev cX12_mayBecome : ByteArray := prog_14_method_57_code
def yX12_mayBecome : MethodName := ⟨RX12, "mayBecome", "(III)I"⟩
abbrev cX12_mayGo : ByteArray := prog_14_method_58_code
def yX12_mayGo : MethodName := ⟨RX12, "mayGo", "(I)V"⟩
abbrev cX12_isSurely : ByteArray := prog_14_method_59_code
def yX12_isSurely : MethodName := ⟨RX12, "isSurely", "(II)Z"⟩
abbrev cX12_sit : ByteArray := prog_14_method_60_code
def yX12_sit : MethodName := ⟨RX12, "sit", "(II)I"⟩
abbrev cX12_catches : ByteArray := prog_14_method_61_code
def yX12_catches : MethodName := ⟨RX12, "catches", "(III)I"⟩
abbrev cX12_all : ByteArray := prog_14_method_62_code
def yX12_all : MethodName := ⟨RX12, "all", "(I)I"⟩
abbrev cX12_begin : ByteArray := prog_14_method_63_code
def yX12_begin : MethodName := ⟨RX12, "begin", "(III)I"⟩
abbrev cX12_looksForReach : ByteArray := prog_14_method_64_code
def yX12_looksForReach : MethodName := ⟨RX12, "looksForReach", "(II)V"⟩
abbrev cX12_reachesTruth : ByteArray := prog_14_method_65_code
def yX12_reachesTruth : MethodName := ⟨RX12, "reachesTruth", "(I)Z"⟩
abbrev cX12_heed : ByteArray := prog_14_method_66_code
def yX12_heed : MethodName := ⟨RX12, "heed", "(II)I"⟩
abbrev cX12_heededBy : ByteArray := prog_14_method_67_code
def yX12_heededBy : MethodName := ⟨RX12, "heededBy", "(I)I"⟩
abbrev cX12_self : ByteArray := prog_14_method_68_code
def yX12_self : MethodName := ⟨RX12, "self", "(IIII)J"⟩
abbrev cX12_back : ByteArray := prog_14_method_69_code
def yX12_back : MethodName := ⟨RX12, "back", "(III)I"⟩
abbrev cX12_row : ByteArray := prog_14_method_70_code
def yX12_row : MethodName := ⟨RX12, "row", "(I)I"⟩
abbrev cX12_looked : ByteArray := prog_14_method_71_code
def yX12_looked : MethodName := ⟨RX12, "looked", "()I"⟩
abbrev cX12_ranBody : ByteArray := prog_14_method_72_code
def yX12_ranBody : MethodName := ⟨RX12, "ranBody", "(I)V"⟩
abbrev cX12_isUnder : ByteArray := prog_14_method_73_code
def yX12_isUnder : MethodName := ⟨RX12, "isUnder", "(II)Z"⟩
abbrev cX12_plainSends : ByteArray := prog_14_method_74_code
def yX12_plainSends : MethodName := ⟨RX12, "plainSends", "(I)I"⟩
abbrev cX12_sendsActs : ByteArray := prog_14_method_75_code
def yX12_sendsActs : MethodName := ⟨RX12, "sendsActs", "(I)I"⟩
abbrev cX12_plainTakes : ByteArray := prog_14_method_76_code
def yX12_plainTakes : MethodName := ⟨RX12, "plainTakes", "(I)I"⟩
abbrev cX12_takesActs : ByteArray := prog_14_method_77_code
def yX12_takesActs : MethodName := ⟨RX12, "takesActs", "(I)I"⟩
abbrev cX12_plainTells : ByteArray := prog_14_method_78_code
def yX12_plainTells : MethodName := ⟨RX12, "plainTells", "(I)I"⟩
abbrev cX12_tellsActs : ByteArray := prog_14_method_79_code
def yX12_tellsActs : MethodName := ⟨RX12, "tellsActs", "(I)I"⟩
abbrev cX12_act : ByteArray := prog_14_method_80_code
def yX12_act : MethodName := ⟨RX12, "act", "(III)I"⟩
abbrev cX12_trace : ByteArray := prog_14_method_81_code
def yX12_trace : MethodName := ⟨RX12, "trace", "(I)I"⟩
abbrev cX12_as : ByteArray := prog_14_method_82_code
def yX12_as : MethodName := ⟨RX12, "as", "(II)I"⟩
abbrev cX12_image : ByteArray := prog_14_method_83_code
def yX12_image : MethodName := ⟨RX12, "image", "()I"⟩
abbrev cX12_undo : ByteArray := prog_14_method_84_code
def yX12_undo : MethodName := ⟨RX12, "undo", "()I"⟩
abbrev cX12_count : ByteArray := prog_14_method_85_code
def yX12_count : MethodName := ⟨RX12, "count", "(I)I"⟩
def RJx145de : String := "java/io/Serializable"
def TJx145de : u_T := fun k => match k with
  | _ => ("", "", "", false)
def tyJx145de : Nat → FieldType := fun k => match k with
  | _ => .int
abbrev wsJx145de0 : List Cond := u_ws RJx145de TJx145de 0
theorem nmJx145de : ∀ a, a < 0 → ∀ b, b < 0 → a ≠ b → (TJx145de a).2.1 ≠ (TJx145de b).2.1 := by decide +kernel
theorem tyJx145de_ok : ∀ k, k < 0 → parseFieldDescriptor (TJx145de k).2.2.1 = some (tyJx145de k) := by decide +kernel
def RJx9f9b0 : String := "java/lang/CharSequence"
def TJx9f9b0 : u_T := fun k => match k with
  | _ => ("", "", "", false)
def tyJx9f9b0 : Nat → FieldType := fun k => match k with
  | _ => .int
abbrev wsJx9f9b00 : List Cond := u_ws RJx9f9b0 TJx9f9b0 0
theorem nmJx9f9b0 : ∀ a, a < 0 → ∀ b, b < 0 → a ≠ b → (TJx9f9b0 a).2.1 ≠ (TJx9f9b0 b).2.1 := by decide +kernel
theorem tyJx9f9b0_ok : ∀ k, k < 0 → parseFieldDescriptor (TJx9f9b0 k).2.2.1 = some (tyJx9f9b0 k) := by decide +kernel
def RJ11 : String := "java/lang/Character"
def TJ11 : u_T := fun k => match k with
  | _ => ("", "", "", false)
def tyJ11 : Nat → FieldType := fun k => match k with
  | _ => .int
abbrev wsJ110 : List Cond := u_ws RJ11 TJ11 0
theorem nmJ11 : ∀ a, a < 0 → ∀ b, b < 0 → a ≠ b → (TJ11 a).2.1 ≠ (TJ11 b).2.1 := by decide +kernel
theorem tyJ11_ok : ∀ k, k < 0 → parseFieldDescriptor (TJ11 k).2.2.1 = some (tyJ11 k) := by decide +kernel
abbrev cJ11_isValidCodePoint_9a6ad : ByteArray := prog_15_method_11_code
def yJ11_isValidCodePoint_9a6ad : MethodName := ⟨RJ11, "isValidCodePoint", "(I)Z"⟩
abbrev cJ11_highSurrogate_5068e : ByteArray := prog_15_method_28_code
def yJ11_highSurrogate_5068e : MethodName := ⟨RJ11, "highSurrogate", "(I)C"⟩
abbrev cJ11_lowSurrogate_5068e : ByteArray := prog_15_method_29_code
def yJ11_lowSurrogate_5068e : MethodName := ⟨RJ11, "lowSurrogate", "(I)C"⟩
def RJx8e188 : String := "java/lang/Cloneable"
def TJx8e188 : u_T := fun k => match k with
  | _ => ("", "", "", false)
def tyJx8e188 : Nat → FieldType := fun k => match k with
  | _ => .int
abbrev wsJx8e1880 : List Cond := u_ws RJx8e188 TJx8e188 0
theorem nmJx8e188 : ∀ a, a < 0 → ∀ b, b < 0 → a ≠ b → (TJx8e188 a).2.1 ≠ (TJx8e188 b).2.1 := by decide +kernel
theorem tyJx8e188_ok : ∀ k, k < 0 → parseFieldDescriptor (TJx8e188 k).2.2.1 = some (tyJx8e188 k) := by decide +kernel
def RJxb160c : String := "java/lang/Comparable"
def TJxb160c : u_T := fun k => match k with
  | _ => ("", "", "", false)
def tyJxb160c : Nat → FieldType := fun k => match k with
  | _ => .int
abbrev wsJxb160c0 : List Cond := u_ws RJxb160c TJxb160c 0
theorem nmJxb160c : ∀ a, a < 0 → ∀ b, b < 0 → a ≠ b → (TJxb160c a).2.1 ≠ (TJxb160c b).2.1 := by decide +kernel
theorem tyJxb160c_ok : ∀ k, k < 0 → parseFieldDescriptor (TJxb160c k).2.2.1 = some (tyJxb160c k) := by decide +kernel
def RJ9 : String := "java/lang/Math"
def TJ9 : u_T := fun k => match k with
  | _ => ("", "", "", false)
def tyJ9 : Nat → FieldType := fun k => match k with
  | _ => .int
abbrev wsJ90 : List Cond := u_ws RJ9 TJ9 0
theorem nmJ9 : ∀ a, a < 0 → ∀ b, b < 0 → a ≠ b → (TJ9 a).2.1 ≠ (TJ9 b).2.1 := by decide +kernel
theorem tyJ9_ok : ∀ k, k < 0 → parseFieldDescriptor (TJ9 k).2.2.1 = some (tyJ9 k) := by decide +kernel
abbrev cJ9_max_7cf53 : ByteArray := prog_17_method_65_code
def yJ9_max_7cf53 : MethodName := ⟨RJ9, "max", "(II)I"⟩
abbrev cJ9_min_7cf53 : ByteArray := prog_17_method_69_code
def yJ9_min_7cf53 : MethodName := ⟨RJ9, "min", "(II)I"⟩
def RJ0 : String := "java/lang/String"
def TJ0 : u_T := fun k => match k with
  | _ => ("", "", "", false)
def tyJ0 : Nat → FieldType := fun k => match k with
  | _ => .int
abbrev wsJ00 : List Cond := u_ws RJ0 TJ0 0
theorem nmJ0 : ∀ a, a < 0 → ∀ b, b < 0 → a ≠ b → (TJ0 a).2.1 ≠ (TJ0 b).2.1 := by decide +kernel
theorem tyJ0_ok : ∀ k, k < 0 → parseFieldDescriptor (TJ0 k).2.2.1 = some (tyJ0 k) := by decide +kernel
abbrev cJ0_length_8abf5 : ByteArray := prog_18_method_54_code
def yJ0_length_8abf5 : MethodName := ⟨RJ0, "length", "()I"⟩
abbrev cJ0_charAt_5068e : ByteArray := prog_18_method_56_code
def yJ0_charAt_5068e : MethodName := ⟨RJ0, "charAt", "(I)C"⟩
abbrev cJ0_indexOf_0f7a4 : ByteArray := prog_18_method_79_code
def yJ0_indexOf_0f7a4 : MethodName := ⟨RJ0, "indexOf", "(I)I"⟩
abbrev cJ0_indexOf_7cf53 : ByteArray := prog_18_method_80_code
def yJ0_indexOf_7cf53 : MethodName := ⟨RJ0, "indexOf", "(II)I"⟩
abbrev cJ0_coder_7d493 : ByteArray := prog_18_method_152_code
def yJ0_coder_7d493 : MethodName := ⟨RJ0, "coder", "()B"⟩
abbrev cJ0_isLatin1_aae02 : ByteArray := prog_18_method_154_code
def yJ0_isLatin1_aae02 : MethodName := ⟨RJ0, "isLatin1", "()Z"⟩
abbrev cJ0_checkIndex_df160 : ByteArray := prog_18_method_155_code
def yJ0_checkIndex_df160 : MethodName := ⟨RJ0, "checkIndex", "(II)V"⟩
abbrev cJ0_checkBoundsBeginEnd_23922 : ByteArray := prog_18_method_158_code
def yJ0_checkBoundsBeginEnd_23922 : MethodName := ⟨RJ0, "checkBoundsBeginEnd", "(III)V"⟩
def RJ1 : String := "java/lang/StringLatin1"
def TJ1 : u_T := fun k => match k with
  | _ => ("", "", "", false)
def tyJ1 : Nat → FieldType := fun k => match k with
  | _ => .int
abbrev wsJ10 : List Cond := u_ws RJ1 TJ1 0
theorem nmJ1 : ∀ a, a < 0 → ∀ b, b < 0 → a ≠ b → (TJ1 a).2.1 ≠ (TJ1 b).2.1 := by decide +kernel
theorem tyJ1_ok : ∀ k, k < 0 → parseFieldDescriptor (TJ1 k).2.2.1 = some (tyJ1 k) := by decide +kernel
abbrev cJ1_charAt_3b067 : ByteArray := prog_19_method_2_code
def yJ1_charAt_3b067 : MethodName := ⟨RJ1, "charAt", "([BI)C"⟩
abbrev cJ1_canEncode_9a6ad : ByteArray := prog_19_method_4_code
def yJ1_canEncode_9a6ad : MethodName := ⟨RJ1, "canEncode", "(I)Z"⟩
abbrev cJ1_indexOf_4cfef : ByteArray := prog_19_method_22_code
def yJ1_indexOf_4cfef : MethodName := ⟨RJ1, "indexOf", "([BIII)I"⟩
abbrev cJ1_indexOfChar_4cfef : ByteArray := prog_19_method_23_code
def yJ1_indexOfChar_4cfef : MethodName := ⟨RJ1, "indexOfChar", "([BIII)I"⟩
def RJ2 : String := "java/lang/StringUTF16"
def TJ2 : u_T := fun k => match k with
  | _ => ("", "", "", false)
def tyJ2 : Nat → FieldType := fun k => match k with
  | _ => .int
abbrev wsJ20 : List Cond := u_ws RJ2 TJ2 0
theorem nmJ2 : ∀ a, a < 0 → ∀ b, b < 0 → a ≠ b → (TJ2 a).2.1 ≠ (TJ2 b).2.1 := by decide +kernel
theorem tyJ2_ok : ∀ k, k < 0 → parseFieldDescriptor (TJ2 k).2.2.1 = some (tyJ2 k) := by decide +kernel
abbrev cJ2_getChar_3b067 : ByteArray := prog_20_method_5_code
def yJ2_getChar_3b067 : MethodName := ⟨RJ2, "getChar", "([BI)C"⟩
abbrev cJ2_length_9d52b : ByteArray := prog_20_method_6_code
def yJ2_length_9d52b : MethodName := ⟨RJ2, "length", "([B)I"⟩
abbrev cJ2_indexOf_4cfef : ByteArray := prog_20_method_40_code
def yJ2_indexOf_4cfef : MethodName := ⟨RJ2, "indexOf", "([BIII)I"⟩
abbrev cJ2_indexOfChar_4cfef : ByteArray := prog_20_method_47_code
def yJ2_indexOfChar_4cfef : MethodName := ⟨RJ2, "indexOfChar", "([BIII)I"⟩
abbrev cJ2_indexOfCharUnsafe_4cfef : ByteArray := prog_20_method_48_code
def yJ2_indexOfCharUnsafe_4cfef : MethodName := ⟨RJ2, "indexOfCharUnsafe", "([BIII)I"⟩
abbrev cJ2_indexOfSupplementary_4cfef : ByteArray := prog_20_method_49_code
def yJ2_indexOfSupplementary_4cfef : MethodName := ⟨RJ2, "indexOfSupplementary", "([BIII)I"⟩
abbrev cJ2_charAt_3b067 : ByteArray := prog_20_method_83_code
def yJ2_charAt_3b067 : MethodName := ⟨RJ2, "charAt", "([BI)C"⟩
abbrev cJ2_checkIndex_2214a : ByteArray := prog_20_method_91_code
def yJ2_checkIndex_2214a : MethodName := ⟨RJ2, "checkIndex", "(I[B)V"⟩
abbrev cJ2_checkBoundsBeginEnd_d044e : ByteArray := prog_20_method_93_code
def yJ2_checkBoundsBeginEnd_d044e : MethodName := ⟨RJ2, "checkBoundsBeginEnd", "(II[B)V"⟩
def RJ10 : String := "java/lang/System"
def TJ10 : u_T := fun k => match k with
  | _ => ("", "", "", false)
def tyJ10 : Nat → FieldType := fun k => match k with
  | _ => .int
abbrev wsJ100 : List Cond := u_ws RJ10 TJ10 0
theorem nmJ10 : ∀ a, a < 0 → ∀ b, b < 0 → a ≠ b → (TJ10 a).2.1 ≠ (TJ10 b).2.1 := by decide +kernel
theorem tyJ10_ok : ∀ k, k < 0 → parseFieldDescriptor (TJ10 k).2.2.1 = some (tyJ10 k) := by decide +kernel
def RJxfd54e : String := "java/lang/constant/Constable"
def TJxfd54e : u_T := fun k => match k with
  | _ => ("", "", "", false)
def tyJxfd54e : Nat → FieldType := fun k => match k with
  | _ => .int
abbrev wsJxfd54e0 : List Cond := u_ws RJxfd54e TJxfd54e 0
theorem nmJxfd54e : ∀ a, a < 0 → ∀ b, b < 0 → a ≠ b → (TJxfd54e a).2.1 ≠ (TJxfd54e b).2.1 := by decide +kernel
theorem tyJxfd54e_ok : ∀ k, k < 0 → parseFieldDescriptor (TJxfd54e k).2.2.1 = some (tyJxfd54e k) := by decide +kernel
def RJx3cf43 : String := "java/lang/constant/ConstantDesc"
def TJx3cf43 : u_T := fun k => match k with
  | _ => ("", "", "", false)
def tyJx3cf43 : Nat → FieldType := fun k => match k with
  | _ => .int
abbrev wsJx3cf430 : List Cond := u_ws RJx3cf43 TJx3cf43 0
theorem nmJx3cf43 : ∀ a, a < 0 → ∀ b, b < 0 → a ≠ b → (TJx3cf43 a).2.1 ≠ (TJx3cf43 b).2.1 := by decide +kernel
theorem tyJx3cf43_ok : ∀ k, k < 0 → parseFieldDescriptor (TJx3cf43 k).2.2.1 = some (tyJx3cf43 k) := by decide +kernel
def RJ7 : String := "java/util/Arrays"
def TJ7 : u_T := fun k => match k with
  | _ => ("", "", "", false)
def tyJ7 : Nat → FieldType := fun k => match k with
  | _ => .int
abbrev wsJ70 : List Cond := u_ws RJ7 TJ7 0
theorem nmJ7 : ∀ a, a < 0 → ∀ b, b < 0 → a ≠ b → (TJ7 a).2.1 ≠ (TJ7 b).2.1 := by decide +kernel
theorem tyJ7_ok : ∀ k, k < 0 → parseFieldDescriptor (TJ7 k).2.2.1 = some (tyJ7 k) := by decide +kernel
abbrev cJ7_copyOf_59c91 : ByteArray := prog_22_method_123_code
def yJ7_copyOf_59c91 : MethodName := ⟨RJ7, "copyOf", "([II)[I"⟩
def RJ3 : String := "jdk/internal/util/Preconditions"
def TJ3 : u_T := fun k => match k with
  | _ => ("", "", "", false)
def tyJ3 : Nat → FieldType := fun k => match k with
  | _ => .int
abbrev wsJ30 : List Cond := u_ws RJ3 TJ3 0
theorem nmJ3 : ∀ a, a < 0 → ∀ b, b < 0 → a ≠ b → (TJ3 a).2.1 ≠ (TJ3 b).2.1 := by decide +kernel
theorem tyJ3_ok : ∀ k, k < 0 → parseFieldDescriptor (TJ3 k).2.2.1 = some (tyJ3 k) := by decide +kernel
abbrev cJ3_checkIndex_8e157 : ByteArray := prog_23_method_11_code
def yJ3_checkIndex_8e157 : MethodName := ⟨RJ3, "checkIndex", "(IILjava/util/function/BiFunction;)I"⟩
abbrev cJ3_checkFromToIndex_8c36e : ByteArray := prog_23_method_12_code
def yJ3_checkFromToIndex_8c36e : MethodName := ⟨RJ3, "checkFromToIndex", "(IIILjava/util/function/BiFunction;)I"⟩
def RL : String := "TrueHeardLaw"
abbrev cL_law : ByteArray := code
def yL_law : MethodName := ⟨RL, "law", "([I)Z"⟩
abbrev vwCl : List vw_C := [(RX0, TX0, 6), (RX1, TX1, 6), (RX2, TX2, 7), (RX3, TX3, 3), (RX4, TX4, 6), (RX5, TX5, 6), (RX6, TX6, 6), (RX7, TX7, 6), (RX8, TX8, 6), (RX9, TX9, 2), (RX10, TX10, 15), (RX11, TX11, 7), (RX12, TX12, 25)]
