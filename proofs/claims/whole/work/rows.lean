section
-- ===== PART A: goes FIRST, ahead of the names: the tables' words, and 'selects' of the private methods out of them =====
/-- a private method of a class that the tables say can be made, by its rows of tables_1 -/
def lw_okq (q : MethodName × Nat) : Prop := (q.1.cls ≠ "java/lang/invoke/MethodHandle" ∧ q.1.cls ≠ "java/lang/invoke/VarHandle") ∧ Cond.instantiable q.1.cls q.2 ∈ tables_1 ∧ Cond.privateMethod q.1 ∈ tables_1 ∧ Cond.instanceMethod q.1 ∈ tables_1
theorem lw_p0 : lw_okq (⟨"TrueHeard$Reader", "readClause", "()LTrueHeard$Clause;"⟩, 6) := ⟨⟨by decide +kernel, by decide +kernel⟩, List.mem_of_getElem? (i := 105) (by decide +kernel), List.mem_of_getElem? (i := 186) (by decide +kernel), List.mem_of_getElem? (i := 187) (by decide +kernel)⟩
theorem lw_p1 : lw_okq (⟨"TrueHeard$Reader", "readWord", "()I"⟩, 6) := ⟨⟨by decide +kernel, by decide +kernel⟩, List.mem_of_getElem? (i := 105) (by decide +kernel), List.mem_of_getElem? (i := 190) (by decide +kernel), List.mem_of_getElem? (i := 191) (by decide +kernel)⟩
theorem lw_p2 : lw_okq (⟨"TrueHeard$Reader", "sign", "()I"⟩, 6) := ⟨⟨by decide +kernel, by decide +kernel⟩, List.mem_of_getElem? (i := 105) (by decide +kernel), List.mem_of_getElem? (i := 194) (by decide +kernel), List.mem_of_getElem? (i := 195) (by decide +kernel)⟩
theorem lw_p3 : lw_okq (⟨"TrueHeard$Reader", "goOnAll", "(Ljava/lang/String;)Z"⟩, 6) := ⟨⟨by decide +kernel, by decide +kernel⟩, List.mem_of_getElem? (i := 105) (by decide +kernel), List.mem_of_getElem? (i := 199) (by decide +kernel), List.mem_of_getElem? (i := 200) (by decide +kernel)⟩
theorem lw_p4 : lw_okq (⟨"TrueHeard$Reader", "goOn", "(C)Z"⟩, 6) := ⟨⟨by decide +kernel, by decide +kernel⟩, List.mem_of_getElem? (i := 105) (by decide +kernel), List.mem_of_getElem? (i := 251) (by decide +kernel), List.mem_of_getElem? (i := 252) (by decide +kernel)⟩
theorem lw_p5 : lw_okq (⟨"TrueHeard$Reader", "readNumber", "()I"⟩, 6) := ⟨⟨by decide +kernel, by decide +kernel⟩, List.mem_of_getElem? (i := 105) (by decide +kernel), List.mem_of_getElem? (i := 257) (by decide +kernel), List.mem_of_getElem? (i := 258) (by decide +kernel)⟩
theorem lw_p6 : lw_okq (⟨"TrueHeard$Reader", "readAny", "(I)Z"⟩, 6) := ⟨⟨by decide +kernel, by decide +kernel⟩, List.mem_of_getElem? (i := 105) (by decide +kernel), List.mem_of_getElem? (i := 261) (by decide +kernel), List.mem_of_getElem? (i := 262) (by decide +kernel)⟩
theorem lw_p7 : lw_okq (⟨"TrueHeard$Reader", "readOne", "(I)Z"⟩, 6) := ⟨⟨by decide +kernel, by decide +kernel⟩, List.mem_of_getElem? (i := 105) (by decide +kernel), List.mem_of_getElem? (i := 265) (by decide +kernel), List.mem_of_getElem? (i := 266) (by decide +kernel)⟩
theorem lw_p8 : lw_okq (⟨"TrueHeard$Reader", "readTest", "()Z"⟩, 6) := ⟨⟨by decide +kernel, by decide +kernel⟩, List.mem_of_getElem? (i := 105) (by decide +kernel), List.mem_of_getElem? (i := 269) (by decide +kernel), List.mem_of_getElem? (i := 270) (by decide +kernel)⟩
theorem lw_p9 : lw_okq (⟨"TrueHeard$Reader", "add", "(I)V"⟩, 6) := ⟨⟨by decide +kernel, by decide +kernel⟩, List.mem_of_getElem? (i := 105) (by decide +kernel), List.mem_of_getElem? (i := 336) (by decide +kernel), List.mem_of_getElem? (i := 337) (by decide +kernel)⟩
theorem lw_p10 : lw_okq (⟨"TrueHeard$Reader", "newClause", "(II)LTrueHeard$Clause;"⟩, 6) := ⟨⟨by decide +kernel, by decide +kernel⟩, List.mem_of_getElem? (i := 105) (by decide +kernel), List.mem_of_getElem? (i := 340) (by decide +kernel), List.mem_of_getElem? (i := 341) (by decide +kernel)⟩
theorem lw_p11 : lw_okq (⟨"TrueHeard$Reader", "firstClauses", "(I)[LTrueHeard$Clause;"⟩, 6) := ⟨⟨by decide +kernel, by decide +kernel⟩, List.mem_of_getElem? (i := 105) (by decide +kernel), List.mem_of_getElem? (i := 376) (by decide +kernel), List.mem_of_getElem? (i := 377) (by decide +kernel)⟩
theorem lw_p12 : lw_okq (⟨"TrueHeard", "newWay", "(IIII)LTrueHeard$Runner;"⟩, 7) := ⟨⟨by decide +kernel, by decide +kernel⟩, List.mem_of_getElem? (i := 23) (by decide +kernel), List.mem_of_getElem? (i := 437) (by decide +kernel), List.mem_of_getElem? (i := 438) (by decide +kernel)⟩
theorem lw_p13 : lw_okq (⟨"TrueHeard", "partsSo", "(LTrueHeard$Clause;LTrueHeard$Runner;I)J"⟩, 7) := ⟨⟨by decide +kernel, by decide +kernel⟩, List.mem_of_getElem? (i := 23) (by decide +kernel), List.mem_of_getElem? (i := 678) (by decide +kernel), List.mem_of_getElem? (i := 679) (by decide +kernel)⟩
theorem lw_p14 : lw_okq (⟨"TrueHeard", "partsOfRow", "(I)J"⟩, 7) := ⟨⟨by decide +kernel, by decide +kernel⟩, List.mem_of_getElem? (i := 23) (by decide +kernel), List.mem_of_getElem? (i := 698) (by decide +kernel), List.mem_of_getElem? (i := 699) (by decide +kernel)⟩
theorem lw_p15 : lw_okq (⟨"TrueHeard", "isSo", "(LTrueHeard$Clause;III)Z"⟩, 7) := ⟨⟨by decide +kernel, by decide +kernel⟩, List.mem_of_getElem? (i := 23) (by decide +kernel), List.mem_of_getElem? (i := 703) (by decide +kernel), List.mem_of_getElem? (i := 704) (by decide +kernel)⟩
def lw_privs_1 : List (MethodName × Nat) := [(⟨"TrueHeard$Reader", "readClause", "()LTrueHeard$Clause;"⟩, 6), (⟨"TrueHeard$Reader", "readWord", "()I"⟩, 6), (⟨"TrueHeard$Reader", "sign", "()I"⟩, 6), (⟨"TrueHeard$Reader", "goOnAll", "(Ljava/lang/String;)Z"⟩, 6), (⟨"TrueHeard$Reader", "goOn", "(C)Z"⟩, 6), (⟨"TrueHeard$Reader", "readNumber", "()I"⟩, 6), (⟨"TrueHeard$Reader", "readAny", "(I)Z"⟩, 6), (⟨"TrueHeard$Reader", "readOne", "(I)Z"⟩, 6), (⟨"TrueHeard$Reader", "readTest", "()Z"⟩, 6), (⟨"TrueHeard$Reader", "add", "(I)V"⟩, 6), (⟨"TrueHeard$Reader", "newClause", "(II)LTrueHeard$Clause;"⟩, 6), (⟨"TrueHeard$Reader", "firstClauses", "(I)[LTrueHeard$Clause;"⟩, 6), (⟨"TrueHeard", "newWay", "(IIII)LTrueHeard$Runner;"⟩, 7), (⟨"TrueHeard", "partsSo", "(LTrueHeard$Clause;LTrueHeard$Runner;I)J"⟩, 7), (⟨"TrueHeard", "partsOfRow", "(I)J"⟩, 7), (⟨"TrueHeard", "isSo", "(LTrueHeard$Clause;III)Z"⟩, 7)]
theorem lw_r1 : ∀ q ∈ lw_privs_1, lw_okq q := List.forall_mem_cons.mpr ⟨lw_p0, List.forall_mem_cons.mpr ⟨lw_p1, List.forall_mem_cons.mpr ⟨lw_p2, List.forall_mem_cons.mpr ⟨lw_p3, List.forall_mem_cons.mpr ⟨lw_p4, List.forall_mem_cons.mpr ⟨lw_p5, List.forall_mem_cons.mpr ⟨lw_p6, List.forall_mem_cons.mpr ⟨lw_p7, List.forall_mem_cons.mpr ⟨lw_p8, List.forall_mem_cons.mpr ⟨lw_p9, List.forall_mem_cons.mpr ⟨lw_p10, List.forall_mem_cons.mpr ⟨lw_p11, List.forall_mem_cons.mpr ⟨lw_p12, List.forall_mem_cons.mpr ⟨lw_p13, List.forall_mem_cons.mpr ⟨lw_p14, List.forall_mem_cons.mpr ⟨lw_p15, fun _ h => absurd h List.not_mem_nil⟩⟩⟩⟩⟩⟩⟩⟩⟩⟩⟩⟩⟩⟩⟩⟩
theorem lw_p16 : lw_okq (⟨"TrueHeard", "markFails", "(LTrueHeard$Clause;I)V"⟩, 7) := ⟨⟨by decide +kernel, by decide +kernel⟩, List.mem_of_getElem? (i := 23) (by decide +kernel), List.mem_of_getElem? (i := 755) (by decide +kernel), List.mem_of_getElem? (i := 756) (by decide +kernel)⟩
theorem lw_p17 : lw_okq (⟨"TrueHeard", "carryBack", "(II)V"⟩, 7) := ⟨⟨by decide +kernel, by decide +kernel⟩, List.mem_of_getElem? (i := 23) (by decide +kernel), List.mem_of_getElem? (i := 759) (by decide +kernel), List.mem_of_getElem? (i := 760) (by decide +kernel)⟩
theorem lw_p18 : lw_okq (⟨"TrueHeard", "failsFrom", "(I)Z"⟩, 7) := ⟨⟨by decide +kernel, by decide +kernel⟩, List.mem_of_getElem? (i := 23) (by decide +kernel), List.mem_of_getElem? (i := 763) (by decide +kernel), List.mem_of_getElem? (i := 764) (by decide +kernel)⟩
theorem lw_p19 : lw_okq (⟨"TrueHeard", "setFails", "(IZ)V"⟩, 7) := ⟨⟨by decide +kernel, by decide +kernel⟩, List.mem_of_getElem? (i := 23) (by decide +kernel), List.mem_of_getElem? (i := 767) (by decide +kernel), List.mem_of_getElem? (i := 768) (by decide +kernel)⟩
theorem lw_p20 : lw_okq (⟨"TrueHeardModel", "begins", "(ILjava/lang/String;)V"⟩, 25) := ⟨⟨by decide +kernel, by decide +kernel⟩, List.mem_of_getElem? (i := 907) (by decide +kernel), List.mem_of_getElem? (i := 1000) (by decide +kernel), List.mem_of_getElem? (i := 1001) (by decide +kernel)⟩
theorem lw_p21 : lw_okq (⟨"TrueHeardModel", "clauseHere", "()V"⟩, 25) := ⟨⟨by decide +kernel, by decide +kernel⟩, List.mem_of_getElem? (i := 907) (by decide +kernel), List.mem_of_getElem? (i := 1004) (by decide +kernel), List.mem_of_getElem? (i := 1005) (by decide +kernel)⟩
theorem lw_p22 : lw_okq (⟨"TrueHeardModel", "here", "()I"⟩, 25) := ⟨⟨by decide +kernel, by decide +kernel⟩, List.mem_of_getElem? (i := 907) (by decide +kernel), List.mem_of_getElem? (i := 1008) (by decide +kernel), List.mem_of_getElem? (i := 1009) (by decide +kernel)⟩
theorem lw_p23 : lw_okq (⟨"TrueHeardModel", "much", "(ILjava/lang/String;)V"⟩, 25) := ⟨⟨by decide +kernel, by decide +kernel⟩, List.mem_of_getElem? (i := 907) (by decide +kernel), List.mem_of_getElem? (i := 1013) (by decide +kernel), List.mem_of_getElem? (i := 1014) (by decide +kernel)⟩
theorem lw_p24 : lw_okq (⟨"TrueHeardModel", "spells", "(Ljava/lang/String;)V"⟩, 25) := ⟨⟨by decide +kernel, by decide +kernel⟩, List.mem_of_getElem? (i := 907) (by decide +kernel), List.mem_of_getElem? (i := 1017) (by decide +kernel), List.mem_of_getElem? (i := 1018) (by decide +kernel)⟩
theorem lw_p25 : lw_okq (⟨"TrueHeardModel", "must", "(I)V"⟩, 25) := ⟨⟨by decide +kernel, by decide +kernel⟩, List.mem_of_getElem? (i := 907) (by decide +kernel), List.mem_of_getElem? (i := 1023) (by decide +kernel), List.mem_of_getElem? (i := 1024) (by decide +kernel)⟩
theorem lw_p26 : lw_okq (⟨"TrueHeardModel", "figures", "()I"⟩, 25) := ⟨⟨by decide +kernel, by decide +kernel⟩, List.mem_of_getElem? (i := 907) (by decide +kernel), List.mem_of_getElem? (i := 1027) (by decide +kernel), List.mem_of_getElem? (i := 1028) (by decide +kernel)⟩
theorem lw_p27 : lw_okq (⟨"TrueHeardModel", "some", "()V"⟩, 25) := ⟨⟨by decide +kernel, by decide +kernel⟩, List.mem_of_getElem? (i := 907) (by decide +kernel), List.mem_of_getElem? (i := 1031) (by decide +kernel), List.mem_of_getElem? (i := 1032) (by decide +kernel)⟩
theorem lw_p28 : lw_okq (⟨"TrueHeardModel", "every", "()V"⟩, 25) := ⟨⟨by decide +kernel, by decide +kernel⟩, List.mem_of_getElem? (i := 907) (by decide +kernel), List.mem_of_getElem? (i := 1035) (by decide +kernel), List.mem_of_getElem? (i := 1036) (by decide +kernel)⟩
theorem lw_p29 : lw_okq (⟨"TrueHeardModel", "factor", "()V"⟩, 25) := ⟨⟨by decide +kernel, by decide +kernel⟩, List.mem_of_getElem? (i := 907) (by decide +kernel), List.mem_of_getElem? (i := 1039) (by decide +kernel), List.mem_of_getElem? (i := 1040) (by decide +kernel)⟩
theorem lw_p30 : lw_okq (⟨"TrueHeardModel", "emits", "(I)V"⟩, 25) := ⟨⟨by decide +kernel, by decide +kernel⟩, List.mem_of_getElem? (i := 907) (by decide +kernel), List.mem_of_getElem? (i := 1043) (by decide +kernel), List.mem_of_getElem? (i := 1044) (by decide +kernel)⟩
theorem lw_p31 : lw_okq (⟨"TrueHeardModel", "among", "(Ljava/lang/String;)I"⟩, 25) := ⟨⟨by decide +kernel, by decide +kernel⟩, List.mem_of_getElem? (i := 907) (by decide +kernel), List.mem_of_getElem? (i := 1047) (by decide +kernel), List.mem_of_getElem? (i := 1048) (by decide +kernel)⟩
def lw_privs_2 : List (MethodName × Nat) := [(⟨"TrueHeard", "markFails", "(LTrueHeard$Clause;I)V"⟩, 7), (⟨"TrueHeard", "carryBack", "(II)V"⟩, 7), (⟨"TrueHeard", "failsFrom", "(I)Z"⟩, 7), (⟨"TrueHeard", "setFails", "(IZ)V"⟩, 7), (⟨"TrueHeardModel", "begins", "(ILjava/lang/String;)V"⟩, 25), (⟨"TrueHeardModel", "clauseHere", "()V"⟩, 25), (⟨"TrueHeardModel", "here", "()I"⟩, 25), (⟨"TrueHeardModel", "much", "(ILjava/lang/String;)V"⟩, 25), (⟨"TrueHeardModel", "spells", "(Ljava/lang/String;)V"⟩, 25), (⟨"TrueHeardModel", "must", "(I)V"⟩, 25), (⟨"TrueHeardModel", "figures", "()I"⟩, 25), (⟨"TrueHeardModel", "some", "()V"⟩, 25), (⟨"TrueHeardModel", "every", "()V"⟩, 25), (⟨"TrueHeardModel", "factor", "()V"⟩, 25), (⟨"TrueHeardModel", "emits", "(I)V"⟩, 25), (⟨"TrueHeardModel", "among", "(Ljava/lang/String;)I"⟩, 25)]
theorem lw_r2 : ∀ q ∈ lw_privs_2, lw_okq q := List.forall_mem_cons.mpr ⟨lw_p16, List.forall_mem_cons.mpr ⟨lw_p17, List.forall_mem_cons.mpr ⟨lw_p18, List.forall_mem_cons.mpr ⟨lw_p19, List.forall_mem_cons.mpr ⟨lw_p20, List.forall_mem_cons.mpr ⟨lw_p21, List.forall_mem_cons.mpr ⟨lw_p22, List.forall_mem_cons.mpr ⟨lw_p23, List.forall_mem_cons.mpr ⟨lw_p24, List.forall_mem_cons.mpr ⟨lw_p25, List.forall_mem_cons.mpr ⟨lw_p26, List.forall_mem_cons.mpr ⟨lw_p27, List.forall_mem_cons.mpr ⟨lw_p28, List.forall_mem_cons.mpr ⟨lw_p29, List.forall_mem_cons.mpr ⟨lw_p30, List.forall_mem_cons.mpr ⟨lw_p31, fun _ h => absurd h List.not_mem_nil⟩⟩⟩⟩⟩⟩⟩⟩⟩⟩⟩⟩⟩⟩⟩⟩
theorem lw_p32 : lw_okq (⟨"TrueHeardModel", "clauseOfD", "()V"⟩, 25) := ⟨⟨by decide +kernel, by decide +kernel⟩, List.mem_of_getElem? (i := 907) (by decide +kernel), List.mem_of_getElem? (i := 1052) (by decide +kernel), List.mem_of_getElem? (i := 1053) (by decide +kernel)⟩
theorem lw_p33 : lw_okq (⟨"TrueHeardModel", "isThing", "(I)Z"⟩, 25) := ⟨⟨by decide +kernel, by decide +kernel⟩, List.mem_of_getElem? (i := 907) (by decide +kernel), List.mem_of_getElem? (i := 1071) (by decide +kernel), List.mem_of_getElem? (i := 1072) (by decide +kernel)⟩
theorem lw_p34 : lw_okq (⟨"TrueHeardModel", "looks", "(IIII)V"⟩, 25) := ⟨⟨by decide +kernel, by decide +kernel⟩, List.mem_of_getElem? (i := 907) (by decide +kernel), List.mem_of_getElem? (i := 1079) (by decide +kernel), List.mem_of_getElem? (i := 1080) (by decide +kernel)⟩
theorem lw_p35 : lw_okq (⟨"TrueHeardModel", "goesThrough", "(I)Z"⟩, 25) := ⟨⟨by decide +kernel, by decide +kernel⟩, List.mem_of_getElem? (i := 907) (by decide +kernel), List.mem_of_getElem? (i := 1083) (by decide +kernel), List.mem_of_getElem? (i := 1084) (by decide +kernel)⟩
theorem lw_p36 : lw_okq (⟨"TrueHeardModel", "isWay", "(I)Z"⟩, 25) := ⟨⟨by decide +kernel, by decide +kernel⟩, List.mem_of_getElem? (i := 907) (by decide +kernel), List.mem_of_getElem? (i := 1098) (by decide +kernel), List.mem_of_getElem? (i := 1099) (by decide +kernel)⟩
theorem lw_p37 : lw_okq (⟨"TrueHeardModel", "takes", "(I)I"⟩, 25) := ⟨⟨by decide +kernel, by decide +kernel⟩, List.mem_of_getElem? (i := 907) (by decide +kernel), List.mem_of_getElem? (i := 1102) (by decide +kernel), List.mem_of_getElem? (i := 1103) (by decide +kernel)⟩
theorem lw_p38 : lw_okq (⟨"TrueHeardModel", "takesAt", "(II)I"⟩, 25) := ⟨⟨by decide +kernel, by decide +kernel⟩, List.mem_of_getElem? (i := 907) (by decide +kernel), List.mem_of_getElem? (i := 1106) (by decide +kernel), List.mem_of_getElem? (i := 1107) (by decide +kernel)⟩
theorem lw_p39 : lw_okq (⟨"TrueHeardModel", "costsOf", "(I)I"⟩, 25) := ⟨⟨by decide +kernel, by decide +kernel⟩, List.mem_of_getElem? (i := 907) (by decide +kernel), List.mem_of_getElem? (i := 1110) (by decide +kernel), List.mem_of_getElem? (i := 1111) (by decide +kernel)⟩
theorem lw_p40 : lw_okq (⟨"TrueHeardModel", "isSaying", "(I)Z"⟩, 25) := ⟨⟨by decide +kernel, by decide +kernel⟩, List.mem_of_getElem? (i := 907) (by decide +kernel), List.mem_of_getElem? (i := 1130) (by decide +kernel), List.mem_of_getElem? (i := 1131) (by decide +kernel)⟩
theorem lw_p41 : lw_okq (⟨"TrueHeardModel", "heardTrue", "(II)J"⟩, 25) := ⟨⟨by decide +kernel, by decide +kernel⟩, List.mem_of_getElem? (i := 907) (by decide +kernel), List.mem_of_getElem? (i := 1135) (by decide +kernel), List.mem_of_getElem? (i := 1136) (by decide +kernel)⟩
theorem lw_p42 : lw_okq (⟨"TrueHeardModel", "statesNow", "()I"⟩, 25) := ⟨⟨by decide +kernel, by decide +kernel⟩, List.mem_of_getElem? (i := 907) (by decide +kernel), List.mem_of_getElem? (i := 1139) (by decide +kernel), List.mem_of_getElem? (i := 1140) (by decide +kernel)⟩
theorem lw_p43 : lw_okq (⟨"TrueHeardModel", "beginsAll", "(I)V"⟩, 25) := ⟨⟨by decide +kernel, by decide +kernel⟩, List.mem_of_getElem? (i := 907) (by decide +kernel), List.mem_of_getElem? (i := 1143) (by decide +kernel), List.mem_of_getElem? (i := 1144) (by decide +kernel)⟩
theorem lw_p44 : lw_okq (⟨"TrueHeardModel", "goesAll", "(I)V"⟩, 25) := ⟨⟨by decide +kernel, by decide +kernel⟩, List.mem_of_getElem? (i := 907) (by decide +kernel), List.mem_of_getElem? (i := 1150) (by decide +kernel), List.mem_of_getElem? (i := 1151) (by decide +kernel)⟩
theorem lw_p45 : lw_okq (⟨"TrueHeardModel", "goesOn", "(II)V"⟩, 25) := ⟨⟨by decide +kernel, by decide +kernel⟩, List.mem_of_getElem? (i := 907) (by decide +kernel), List.mem_of_getElem? (i := 1154) (by decide +kernel), List.mem_of_getElem? (i := 1155) (by decide +kernel)⟩
theorem lw_p46 : lw_okq (⟨"TrueHeardModel", "oftenTrue", "(II)J"⟩, 25) := ⟨⟨by decide +kernel, by decide +kernel⟩, List.mem_of_getElem? (i := 907) (by decide +kernel), List.mem_of_getElem? (i := 1158) (by decide +kernel), List.mem_of_getElem? (i := 1159) (by decide +kernel)⟩
theorem lw_p47 : lw_okq (⟨"TrueHeardModel", "allStates", "()I"⟩, 25) := ⟨⟨by decide +kernel, by decide +kernel⟩, List.mem_of_getElem? (i := 907) (by decide +kernel), List.mem_of_getElem? (i := 1162) (by decide +kernel), List.mem_of_getElem? (i := 1163) (by decide +kernel)⟩
def lw_privs_3 : List (MethodName × Nat) := [(⟨"TrueHeardModel", "clauseOfD", "()V"⟩, 25), (⟨"TrueHeardModel", "isThing", "(I)Z"⟩, 25), (⟨"TrueHeardModel", "looks", "(IIII)V"⟩, 25), (⟨"TrueHeardModel", "goesThrough", "(I)Z"⟩, 25), (⟨"TrueHeardModel", "isWay", "(I)Z"⟩, 25), (⟨"TrueHeardModel", "takes", "(I)I"⟩, 25), (⟨"TrueHeardModel", "takesAt", "(II)I"⟩, 25), (⟨"TrueHeardModel", "costsOf", "(I)I"⟩, 25), (⟨"TrueHeardModel", "isSaying", "(I)Z"⟩, 25), (⟨"TrueHeardModel", "heardTrue", "(II)J"⟩, 25), (⟨"TrueHeardModel", "statesNow", "()I"⟩, 25), (⟨"TrueHeardModel", "beginsAll", "(I)V"⟩, 25), (⟨"TrueHeardModel", "goesAll", "(I)V"⟩, 25), (⟨"TrueHeardModel", "goesOn", "(II)V"⟩, 25), (⟨"TrueHeardModel", "oftenTrue", "(II)J"⟩, 25), (⟨"TrueHeardModel", "allStates", "()I"⟩, 25)]
theorem lw_r3 : ∀ q ∈ lw_privs_3, lw_okq q := List.forall_mem_cons.mpr ⟨lw_p32, List.forall_mem_cons.mpr ⟨lw_p33, List.forall_mem_cons.mpr ⟨lw_p34, List.forall_mem_cons.mpr ⟨lw_p35, List.forall_mem_cons.mpr ⟨lw_p36, List.forall_mem_cons.mpr ⟨lw_p37, List.forall_mem_cons.mpr ⟨lw_p38, List.forall_mem_cons.mpr ⟨lw_p39, List.forall_mem_cons.mpr ⟨lw_p40, List.forall_mem_cons.mpr ⟨lw_p41, List.forall_mem_cons.mpr ⟨lw_p42, List.forall_mem_cons.mpr ⟨lw_p43, List.forall_mem_cons.mpr ⟨lw_p44, List.forall_mem_cons.mpr ⟨lw_p45, List.forall_mem_cons.mpr ⟨lw_p46, List.forall_mem_cons.mpr ⟨lw_p47, fun _ h => absurd h List.not_mem_nil⟩⟩⟩⟩⟩⟩⟩⟩⟩⟩⟩⟩⟩⟩⟩⟩
theorem lw_p48 : lw_okq (⟨"TrueHeardModel", "oftenOf", "(I)J"⟩, 25) := ⟨⟨by decide +kernel, by decide +kernel⟩, List.mem_of_getElem? (i := 907) (by decide +kernel), List.mem_of_getElem? (i := 1166) (by decide +kernel), List.mem_of_getElem? (i := 1167) (by decide +kernel)⟩
theorem lw_p49 : lw_okq (⟨"TrueHeardModel", "isTrue", "(III)Z"⟩, 25) := ⟨⟨by decide +kernel, by decide +kernel⟩, List.mem_of_getElem? (i := 907) (by decide +kernel), List.mem_of_getElem? (i := 1170) (by decide +kernel), List.mem_of_getElem? (i := 1171) (by decide +kernel)⟩
theorem lw_p50 : lw_okq (⟨"TrueHeardModel", "allOften", "(I)J"⟩, 25) := ⟨⟨by decide +kernel, by decide +kernel⟩, List.mem_of_getElem? (i := 907) (by decide +kernel), List.mem_of_getElem? (i := 1174) (by decide +kernel), List.mem_of_getElem? (i := 1175) (by decide +kernel)⟩
theorem lw_p51 : lw_okq (⟨"TrueHeardModel", "isBetter", "(III)Z"⟩, 25) := ⟨⟨by decide +kernel, by decide +kernel⟩, List.mem_of_getElem? (i := 907) (by decide +kernel), List.mem_of_getElem? (i := 1196) (by decide +kernel), List.mem_of_getElem? (i := 1197) (by decide +kernel)⟩
theorem lw_p52 : lw_okq (⟨"TrueHeardModel", "mayBegin", "(I)V"⟩, 25) := ⟨⟨by decide +kernel, by decide +kernel⟩, List.mem_of_getElem? (i := 907) (by decide +kernel), List.mem_of_getElem? (i := 1208) (by decide +kernel), List.mem_of_getElem? (i := 1209) (by decide +kernel)⟩
theorem lw_p53 : lw_okq (⟨"TrueHeardModel", "mayGo", "(I)V"⟩, 25) := ⟨⟨by decide +kernel, by decide +kernel⟩, List.mem_of_getElem? (i := 907) (by decide +kernel), List.mem_of_getElem? (i := 1212) (by decide +kernel), List.mem_of_getElem? (i := 1213) (by decide +kernel)⟩
theorem lw_p54 : lw_okq (⟨"TrueHeardModel", "mayBecome", "(III)I"⟩, 25) := ⟨⟨by decide +kernel, by decide +kernel⟩, List.mem_of_getElem? (i := 907) (by decide +kernel), List.mem_of_getElem? (i := 1216) (by decide +kernel), List.mem_of_getElem? (i := 1217) (by decide +kernel)⟩
theorem lw_p55 : lw_okq (⟨"TrueHeardModel", "isSurely", "(II)Z"⟩, 25) := ⟨⟨by decide +kernel, by decide +kernel⟩, List.mem_of_getElem? (i := 907) (by decide +kernel), List.mem_of_getElem? (i := 1220) (by decide +kernel), List.mem_of_getElem? (i := 1221) (by decide +kernel)⟩
theorem lw_p56 : lw_okq (⟨"TrueHeardModel", "looksForReach", "(II)V"⟩, 25) := ⟨⟨by decide +kernel, by decide +kernel⟩, List.mem_of_getElem? (i := 907) (by decide +kernel), List.mem_of_getElem? (i := 1236) (by decide +kernel), List.mem_of_getElem? (i := 1237) (by decide +kernel)⟩
theorem lw_p57 : lw_okq (⟨"TrueHeardModel", "reachesTruth", "(I)Z"⟩, 25) := ⟨⟨by decide +kernel, by decide +kernel⟩, List.mem_of_getElem? (i := 907) (by decide +kernel), List.mem_of_getElem? (i := 1240) (by decide +kernel), List.mem_of_getElem? (i := 1241) (by decide +kernel)⟩
theorem lw_p58 : lw_okq (⟨"TrueHeardModel", "heededBy", "(I)I"⟩, 25) := ⟨⟨by decide +kernel, by decide +kernel⟩, List.mem_of_getElem? (i := 907) (by decide +kernel), List.mem_of_getElem? (i := 1252) (by decide +kernel), List.mem_of_getElem? (i := 1253) (by decide +kernel)⟩
theorem lw_p59 : lw_okq (⟨"TrueHeardModel", "sendsActs", "(I)I"⟩, 25) := ⟨⟨by decide +kernel, by decide +kernel⟩, List.mem_of_getElem? (i := 907) (by decide +kernel), List.mem_of_getElem? (i := 1272) (by decide +kernel), List.mem_of_getElem? (i := 1273) (by decide +kernel)⟩
theorem lw_p60 : lw_okq (⟨"TrueHeardModel", "ranBody", "(I)V"⟩, 25) := ⟨⟨by decide +kernel, by decide +kernel⟩, List.mem_of_getElem? (i := 907) (by decide +kernel), List.mem_of_getElem? (i := 1279) (by decide +kernel), List.mem_of_getElem? (i := 1280) (by decide +kernel)⟩
theorem lw_p61 : lw_okq (⟨"TrueHeardModel", "plainSends", "(I)I"⟩, 25) := ⟨⟨by decide +kernel, by decide +kernel⟩, List.mem_of_getElem? (i := 907) (by decide +kernel), List.mem_of_getElem? (i := 1283) (by decide +kernel), List.mem_of_getElem? (i := 1284) (by decide +kernel)⟩
theorem lw_p62 : lw_okq (⟨"TrueHeardModel", "takesActs", "(I)I"⟩, 25) := ⟨⟨by decide +kernel, by decide +kernel⟩, List.mem_of_getElem? (i := 907) (by decide +kernel), List.mem_of_getElem? (i := 1287) (by decide +kernel), List.mem_of_getElem? (i := 1288) (by decide +kernel)⟩
theorem lw_p63 : lw_okq (⟨"TrueHeardModel", "plainTakes", "(I)I"⟩, 25) := ⟨⟨by decide +kernel, by decide +kernel⟩, List.mem_of_getElem? (i := 907) (by decide +kernel), List.mem_of_getElem? (i := 1291) (by decide +kernel), List.mem_of_getElem? (i := 1292) (by decide +kernel)⟩
def lw_privs_4 : List (MethodName × Nat) := [(⟨"TrueHeardModel", "oftenOf", "(I)J"⟩, 25), (⟨"TrueHeardModel", "isTrue", "(III)Z"⟩, 25), (⟨"TrueHeardModel", "allOften", "(I)J"⟩, 25), (⟨"TrueHeardModel", "isBetter", "(III)Z"⟩, 25), (⟨"TrueHeardModel", "mayBegin", "(I)V"⟩, 25), (⟨"TrueHeardModel", "mayGo", "(I)V"⟩, 25), (⟨"TrueHeardModel", "mayBecome", "(III)I"⟩, 25), (⟨"TrueHeardModel", "isSurely", "(II)Z"⟩, 25), (⟨"TrueHeardModel", "looksForReach", "(II)V"⟩, 25), (⟨"TrueHeardModel", "reachesTruth", "(I)Z"⟩, 25), (⟨"TrueHeardModel", "heededBy", "(I)I"⟩, 25), (⟨"TrueHeardModel", "sendsActs", "(I)I"⟩, 25), (⟨"TrueHeardModel", "ranBody", "(I)V"⟩, 25), (⟨"TrueHeardModel", "plainSends", "(I)I"⟩, 25), (⟨"TrueHeardModel", "takesActs", "(I)I"⟩, 25), (⟨"TrueHeardModel", "plainTakes", "(I)I"⟩, 25)]
theorem lw_r4 : ∀ q ∈ lw_privs_4, lw_okq q := List.forall_mem_cons.mpr ⟨lw_p48, List.forall_mem_cons.mpr ⟨lw_p49, List.forall_mem_cons.mpr ⟨lw_p50, List.forall_mem_cons.mpr ⟨lw_p51, List.forall_mem_cons.mpr ⟨lw_p52, List.forall_mem_cons.mpr ⟨lw_p53, List.forall_mem_cons.mpr ⟨lw_p54, List.forall_mem_cons.mpr ⟨lw_p55, List.forall_mem_cons.mpr ⟨lw_p56, List.forall_mem_cons.mpr ⟨lw_p57, List.forall_mem_cons.mpr ⟨lw_p58, List.forall_mem_cons.mpr ⟨lw_p59, List.forall_mem_cons.mpr ⟨lw_p60, List.forall_mem_cons.mpr ⟨lw_p61, List.forall_mem_cons.mpr ⟨lw_p62, List.forall_mem_cons.mpr ⟨lw_p63, fun _ h => absurd h List.not_mem_nil⟩⟩⟩⟩⟩⟩⟩⟩⟩⟩⟩⟩⟩⟩⟩⟩
theorem lw_p64 : lw_okq (⟨"TrueHeardModel", "tellsActs", "(I)I"⟩, 25) := ⟨⟨by decide +kernel, by decide +kernel⟩, List.mem_of_getElem? (i := 907) (by decide +kernel), List.mem_of_getElem? (i := 1295) (by decide +kernel), List.mem_of_getElem? (i := 1296) (by decide +kernel)⟩
theorem lw_p65 : lw_okq (⟨"TrueHeardModel", "plainTells", "(I)I"⟩, 25) := ⟨⟨by decide +kernel, by decide +kernel⟩, List.mem_of_getElem? (i := 907) (by decide +kernel), List.mem_of_getElem? (i := 1299) (by decide +kernel), List.mem_of_getElem? (i := 1300) (by decide +kernel)⟩
def lw_privs_5 : List (MethodName × Nat) := [(⟨"TrueHeardModel", "tellsActs", "(I)I"⟩, 25), (⟨"TrueHeardModel", "plainTells", "(I)I"⟩, 25)]
theorem lw_r5 : ∀ q ∈ lw_privs_5, lw_okq q := List.forall_mem_cons.mpr ⟨lw_p64, List.forall_mem_cons.mpr ⟨lw_p65, fun _ h => absurd h List.not_mem_nil⟩⟩
def lw_privs : List (MethodName × Nat) := lw_privs_1 ++ (lw_privs_2 ++ (lw_privs_3 ++ (lw_privs_4 ++ (lw_privs_5))))
def lw_tbl : List Cond := k2_sels lw_privs ++ tables_1
theorem lw_privs_ok : ∀ q ∈ lw_privs, lw_okq q := by
  show ∀ q ∈ lw_privs_1 ++ (lw_privs_2 ++ (lw_privs_3 ++ (lw_privs_4 ++ (lw_privs_5)))), lw_okq q
  exact List.forall_mem_append.mpr ⟨lw_r1, List.forall_mem_append.mpr ⟨lw_r2, List.forall_mem_append.mpr ⟨lw_r3, List.forall_mem_append.mpr ⟨lw_r4, lw_r5⟩⟩⟩⟩

def RX0 : String := "TrueHeard$Bell"
def TX0 : u_T := fun k => match k with
  | 0 => ("TrueHeard$Runner", "kind", "I", true)
  | 1 => ("TrueHeard$Runner", "number", "I", true)
  | 2 => ("TrueHeard$Runner", "v", "I", true)
  | 3 => ("TrueHeard$Runner", "hours", "I", true)
  | 4 => ("TrueHeard$Runner", "cost", "I", true)
  | _ => ("TrueHeard$Runner", "trace", "LTrueHeard$Trace;", true)
def tyX0 : Nat → FieldType := fun k => match k with
  | 0 => .int
  | 1 => .int
  | 2 => .int
  | 3 => .int
  | 4 => .int
  | _ => .object "TrueHeard$Trace"
abbrev wsX00 : List Cond := u_ws RX0 TX0 6
theorem nmX0 : ∀ a, a < 6 → ∀ b, b < 6 → a ≠ b → (TX0 a).2.1 ≠ (TX0 b).2.1 := by decide +kernel
theorem tyX0_ok : ∀ k, k < 6 → parseFieldDescriptor (TX0 k).2.2.1 = some (tyX0 k) := by decide +kernel
abbrev cX0_init : ByteArray := prog_2_method_1_code
def yX0_init : MethodName := ⟨RX0, "<init>", "(IIIIILTrueHeard$Trace;)V"⟩
abbrev cX0_hoursFrom : ByteArray := prog_2_method_2_code
def yX0_hoursFrom : MethodName := ⟨RX0, "hoursFrom", "(I)I"⟩
abbrev cX0_sends : ByteArray := prog_2_method_3_code
def yX0_sends : MethodName := ⟨RX0, "sends", "(I)I"⟩
def RX1 : String := "TrueHeard$Boat"
def TX1 : u_T := fun k => match k with
  | 0 => ("TrueHeard$Runner", "kind", "I", true)
  | 1 => ("TrueHeard$Runner", "number", "I", true)
  | 2 => ("TrueHeard$Runner", "v", "I", true)
  | 3 => ("TrueHeard$Runner", "hours", "I", true)
  | 4 => ("TrueHeard$Runner", "cost", "I", true)
  | _ => ("TrueHeard$Runner", "trace", "LTrueHeard$Trace;", true)
def tyX1 : Nat → FieldType := fun k => match k with
  | 0 => .int
  | 1 => .int
  | 2 => .int
  | 3 => .int
  | 4 => .int
  | _ => .object "TrueHeard$Trace"
abbrev wsX10 : List Cond := u_ws RX1 TX1 6
theorem nmX1 : ∀ a, a < 6 → ∀ b, b < 6 → a ≠ b → (TX1 a).2.1 ≠ (TX1 b).2.1 := by decide +kernel
theorem tyX1_ok : ∀ k, k < 6 → parseFieldDescriptor (TX1 k).2.2.1 = some (tyX1 k) := by decide +kernel
abbrev cX1_init : ByteArray := prog_3_method_1_code
def yX1_init : MethodName := ⟨RX1, "<init>", "(IIIIILTrueHeard$Trace;)V"⟩
abbrev cX1_hoursFrom : ByteArray := prog_3_method_2_code
def yX1_hoursFrom : MethodName := ⟨RX1, "hoursFrom", "(I)I"⟩
abbrev cX1_takes : ByteArray := prog_3_method_3_code
def yX1_takes : MethodName := ⟨RX1, "takes", "(I)I"⟩
def RX2 : String := "TrueHeard$Bribed"
def TX2 : u_T := fun k => match k with
  | 0 => ("TrueHeard$Runner", "kind", "I", true)
  | 1 => ("TrueHeard$Runner", "number", "I", true)
  | 2 => ("TrueHeard$Runner", "v", "I", true)
  | 3 => ("TrueHeard$Runner", "hours", "I", true)
  | 4 => ("TrueHeard$Runner", "cost", "I", true)
  | 5 => ("TrueHeard$Runner", "trace", "LTrueHeard$Trace;", true)
  | _ => ("TrueHeard$Bribed", "sits", "I", true)
def tyX2 : Nat → FieldType := fun k => match k with
  | 0 => .int
  | 1 => .int
  | 2 => .int
  | 3 => .int
  | 4 => .int
  | 5 => .object "TrueHeard$Trace"
  | _ => .int
abbrev wsX20 : List Cond := u_ws RX2 TX2 7
theorem nmX2 : ∀ a, a < 7 → ∀ b, b < 7 → a ≠ b → (TX2 a).2.1 ≠ (TX2 b).2.1 := by decide +kernel
theorem tyX2_ok : ∀ k, k < 7 → parseFieldDescriptor (TX2 k).2.2.1 = some (tyX2 k) := by decide +kernel
abbrev cX2_init : ByteArray := prog_4_method_1_code
def yX2_init : MethodName := ⟨RX2, "<init>", "(IIIIILTrueHeard$Trace;)V"⟩
abbrev cX2_hoursFrom : ByteArray := prog_4_method_2_code
def yX2_hoursFrom : MethodName := ⟨RX2, "hoursFrom", "(I)I"⟩
abbrev cX2_hoursSat : ByteArray := prog_4_method_3_code
def yX2_hoursSat : MethodName := ⟨RX2, "hoursSat", "()I"⟩
abbrev cX2_takes : ByteArray := prog_4_method_4_code
def yX2_takes : MethodName := ⟨RX2, "takes", "(I)I"⟩
def RX3 : String := "TrueHeard$Clause"
def TX3 : u_T := fun k => match k with
  | 0 => ("TrueHeard$Clause", "word", "I", true)
  | 1 => ("TrueHeard$Clause", "n", "I", true)
  | _ => ("TrueHeard$Clause", "tokens", "[I", true)
def tyX3 : Nat → FieldType := fun k => match k with
  | 0 => .int
  | 1 => .int
  | _ => .array .int
abbrev wsX30 : List Cond := u_ws RX3 TX3 3
theorem nmX3 : ∀ a, a < 3 → ∀ b, b < 3 → a ≠ b → (TX3 a).2.1 ≠ (TX3 b).2.1 := by decide +kernel
theorem tyX3_ok : ∀ k, k < 3 → parseFieldDescriptor (TX3 k).2.2.1 = some (tyX3 k) := by decide +kernel
abbrev cX3_init : ByteArray := prog_5_method_1_code
def yX3_init : MethodName := ⟨RX3, "<init>", "(II[I)V"⟩
abbrev cX3_holds : ByteArray := prog_5_method_2_code
def yX3_holds : MethodName := ⟨RX3, "holds", "(I)Z"⟩
abbrev cX3_test : ByteArray := prog_5_method_3_code
def yX3_test : MethodName := ⟨RX3, "test", "(III)I"⟩
abbrev cX3_passes : ByteArray := prog_5_method_4_code
def yX3_passes : MethodName := ⟨RX3, "passes", "(II)Z"⟩
def RX4 : String := "TrueHeard$Fire"
def TX4 : u_T := fun k => match k with
  | 0 => ("TrueHeard$Runner", "kind", "I", true)
  | 1 => ("TrueHeard$Runner", "number", "I", true)
  | 2 => ("TrueHeard$Runner", "v", "I", true)
  | 3 => ("TrueHeard$Runner", "hours", "I", true)
  | 4 => ("TrueHeard$Runner", "cost", "I", true)
  | _ => ("TrueHeard$Runner", "trace", "LTrueHeard$Trace;", true)
def tyX4 : Nat → FieldType := fun k => match k with
  | 0 => .int
  | 1 => .int
  | 2 => .int
  | 3 => .int
  | 4 => .int
  | _ => .object "TrueHeard$Trace"
abbrev wsX40 : List Cond := u_ws RX4 TX4 6
theorem nmX4 : ∀ a, a < 6 → ∀ b, b < 6 → a ≠ b → (TX4 a).2.1 ≠ (TX4 b).2.1 := by decide +kernel
theorem tyX4_ok : ∀ k, k < 6 → parseFieldDescriptor (TX4 k).2.2.1 = some (tyX4 k) := by decide +kernel
abbrev cX4_init : ByteArray := prog_6_method_1_code
def yX4_init : MethodName := ⟨RX4, "<init>", "(IIIIILTrueHeard$Trace;)V"⟩
abbrev cX4_hoursFrom : ByteArray := prog_6_method_2_code
def yX4_hoursFrom : MethodName := ⟨RX4, "hoursFrom", "(I)I"⟩
abbrev cX4_tells : ByteArray := prog_6_method_3_code
def yX4_tells : MethodName := ⟨RX4, "tells", "(I)I"⟩
def RX5 : String := "TrueHeard$Reader"
def TX5 : u_T := fun k => match k with
  | 0 => ("TrueHeard$Reader", "world", "LTrueHeard$World;", true)
  | 1 => ("TrueHeard$Reader", "clauses", "[LTrueHeard$Clause;", true)
  | 2 => ("TrueHeard$Reader", "tokens", "[I", true)
  | 3 => ("TrueHeard$Reader", "tokenCount", "I", false)
  | 4 => ("TrueHeard$Reader", "names", "Ljava/lang/String;", false)
  | _ => ("TrueHeard$Reader", "place", "I", false)
def tyX5 : Nat → FieldType := fun k => match k with
  | 0 => .object "TrueHeard$World"
  | 1 => .array (.object "TrueHeard$Clause")
  | 2 => .array .int
  | 3 => .int
  | 4 => .object "java/lang/String"
  | _ => .int
abbrev wsX50 : List Cond := u_ws RX5 TX5 6
theorem nmX5 : ∀ a, a < 6 → ∀ b, b < 6 → a ≠ b → (TX5 a).2.1 ≠ (TX5 b).2.1 := by decide +kernel
theorem tyX5_ok : ∀ k, k < 6 → parseFieldDescriptor (TX5 k).2.2.1 = some (tyX5 k) := by decide +kernel
abbrev cX5_init : ByteArray := prog_7_method_1_code
def yX5_init : MethodName := ⟨RX5, "<init>", "(LTrueHeard$World;)V"⟩
abbrev cX5_readCoast : ByteArray := prog_7_method_2_code
def yX5_readCoast : MethodName := ⟨RX5, "readCoast", "()[LTrueHeard$Clause;"⟩
abbrev cX5_firstClauses : ByteArray := prog_7_method_3_code
def yX5_firstClauses : MethodName := ⟨RX5, "firstClauses", "(I)[LTrueHeard$Clause;"⟩
abbrev cX5_readSaying : ByteArray := prog_7_method_4_code
def yX5_readSaying : MethodName := ⟨RX5, "readSaying", "()LTrueHeard$Clause;"⟩
abbrev cX5_newClause : ByteArray := prog_7_method_5_code
def yX5_newClause : MethodName := ⟨RX5, "newClause", "(II)LTrueHeard$Clause;"⟩
abbrev cX5_readClause : ByteArray := prog_7_method_6_code
def yX5_readClause : MethodName := ⟨RX5, "readClause", "()LTrueHeard$Clause;"⟩
abbrev cX5_readWord : ByteArray := prog_7_method_7_code
def yX5_readWord : MethodName := ⟨RX5, "readWord", "()I"⟩
abbrev cX5_readAny : ByteArray := prog_7_method_8_code
def yX5_readAny : MethodName := ⟨RX5, "readAny", "(I)Z"⟩
abbrev cX5_readOne : ByteArray := prog_7_method_9_code
def yX5_readOne : MethodName := ⟨RX5, "readOne", "(I)Z"⟩
abbrev cX5_readTest : ByteArray := prog_7_method_10_code
def yX5_readTest : MethodName := ⟨RX5, "readTest", "()Z"⟩
abbrev cX5_readNumber : ByteArray := prog_7_method_11_code
def yX5_readNumber : MethodName := ⟨RX5, "readNumber", "()I"⟩
abbrev cX5_goOnAll : ByteArray := prog_7_method_12_code
def yX5_goOnAll : MethodName := ⟨RX5, "goOnAll", "(Ljava/lang/String;)Z"⟩
abbrev cX5_goOn : ByteArray := prog_7_method_13_code
def yX5_goOn : MethodName := ⟨RX5, "goOn", "(C)Z"⟩
abbrev cX5_sign : ByteArray := prog_7_method_14_code
def yX5_sign : MethodName := ⟨RX5, "sign", "()I"⟩
abbrev cX5_add : ByteArray := prog_7_method_15_code
def yX5_add : MethodName := ⟨RX5, "add", "(I)V"⟩
def RX6 : String := "TrueHeard$Runner"
def TX6 : u_T := fun k => match k with
  | 0 => ("TrueHeard$Runner", "kind", "I", true)
  | 1 => ("TrueHeard$Runner", "number", "I", true)
  | 2 => ("TrueHeard$Runner", "v", "I", true)
  | 3 => ("TrueHeard$Runner", "hours", "I", true)
  | 4 => ("TrueHeard$Runner", "cost", "I", true)
  | _ => ("TrueHeard$Runner", "trace", "LTrueHeard$Trace;", true)
def tyX6 : Nat → FieldType := fun k => match k with
  | 0 => .int
  | 1 => .int
  | 2 => .int
  | 3 => .int
  | 4 => .int
  | _ => .object "TrueHeard$Trace"
abbrev wsX60 : List Cond := u_ws RX6 TX6 6
theorem nmX6 : ∀ a, a < 6 → ∀ b, b < 6 → a ≠ b → (TX6 a).2.1 ≠ (TX6 b).2.1 := by decide +kernel
theorem tyX6_ok : ∀ k, k < 6 → parseFieldDescriptor (TX6 k).2.2.1 = some (tyX6 k) := by decide +kernel
abbrev cX6_init : ByteArray := prog_8_method_1_code
def yX6_init : MethodName := ⟨RX6, "<init>", "(IIIIILTrueHeard$Trace;)V"⟩
abbrev cX6_hoursFrom : ByteArray := prog_8_method_2_code
def yX6_hoursFrom : MethodName := ⟨RX6, "hoursFrom", "(I)I"⟩
abbrev cX6_hoursSat : ByteArray := prog_8_method_3_code
def yX6_hoursSat : MethodName := ⟨RX6, "hoursSat", "()I"⟩
abbrev cX6_toll : ByteArray := prog_8_method_4_code
def yX6_toll : MethodName := ⟨RX6, "toll", "()I"⟩
abbrev cX6_sends : ByteArray := prog_8_method_5_code
def yX6_sends : MethodName := ⟨RX6, "sends", "(I)I"⟩
abbrev cX6_takes : ByteArray := prog_8_method_6_code
def yX6_takes : MethodName := ⟨RX6, "takes", "(I)I"⟩
abbrev cX6_tells : ByteArray := prog_8_method_7_code
def yX6_tells : MethodName := ⟨RX6, "tells", "(I)I"⟩
def RX7 : String := "TrueHeard$Tolled"
def TX7 : u_T := fun k => match k with
  | 0 => ("TrueHeard$Runner", "kind", "I", true)
  | 1 => ("TrueHeard$Runner", "number", "I", true)
  | 2 => ("TrueHeard$Runner", "v", "I", true)
  | 3 => ("TrueHeard$Runner", "hours", "I", true)
  | 4 => ("TrueHeard$Runner", "cost", "I", true)
  | _ => ("TrueHeard$Runner", "trace", "LTrueHeard$Trace;", true)
def tyX7 : Nat → FieldType := fun k => match k with
  | 0 => .int
  | 1 => .int
  | 2 => .int
  | 3 => .int
  | 4 => .int
  | _ => .object "TrueHeard$Trace"
abbrev wsX70 : List Cond := u_ws RX7 TX7 6
theorem nmX7 : ∀ a, a < 6 → ∀ b, b < 6 → a ≠ b → (TX7 a).2.1 ≠ (TX7 b).2.1 := by decide +kernel
theorem tyX7_ok : ∀ k, k < 6 → parseFieldDescriptor (TX7 k).2.2.1 = some (tyX7 k) := by decide +kernel
abbrev cX7_init : ByteArray := prog_9_method_1_code
def yX7_init : MethodName := ⟨RX7, "<init>", "(IIIIILTrueHeard$Trace;)V"⟩
abbrev cX7_toll : ByteArray := prog_9_method_2_code
def yX7_toll : MethodName := ⟨RX7, "toll", "()I"⟩
abbrev cX7_tells : ByteArray := prog_9_method_3_code
def yX7_tells : MethodName := ⟨RX7, "tells", "(I)I"⟩
def RX8 : String := "TrueHeard$Towed"
def TX8 : u_T := fun k => match k with
  | 0 => ("TrueHeard$Runner", "kind", "I", true)
  | 1 => ("TrueHeard$Runner", "number", "I", true)
  | 2 => ("TrueHeard$Runner", "v", "I", true)
  | 3 => ("TrueHeard$Runner", "hours", "I", true)
  | 4 => ("TrueHeard$Runner", "cost", "I", true)
  | _ => ("TrueHeard$Runner", "trace", "LTrueHeard$Trace;", true)
def tyX8 : Nat → FieldType := fun k => match k with
  | 0 => .int
  | 1 => .int
  | 2 => .int
  | 3 => .int
  | 4 => .int
  | _ => .object "TrueHeard$Trace"
abbrev wsX80 : List Cond := u_ws RX8 TX8 6
theorem nmX8 : ∀ a, a < 6 → ∀ b, b < 6 → a ≠ b → (TX8 a).2.1 ≠ (TX8 b).2.1 := by decide +kernel
theorem tyX8_ok : ∀ k, k < 6 → parseFieldDescriptor (TX8 k).2.2.1 = some (tyX8 k) := by decide +kernel
abbrev cX8_init : ByteArray := prog_10_method_1_code
def yX8_init : MethodName := ⟨RX8, "<init>", "(IIIIILTrueHeard$Trace;)V"⟩
abbrev cX8_hoursFrom : ByteArray := prog_10_method_2_code
def yX8_hoursFrom : MethodName := ⟨RX8, "hoursFrom", "(I)I"⟩
abbrev cX8_sends : ByteArray := prog_10_method_3_code
def yX8_sends : MethodName := ⟨RX8, "sends", "(I)I"⟩
def RX9 : String := "TrueHeard$Trace"
def TX9 : u_T := fun k => match k with
  | 0 => ("TrueHeard$Trace", "bodies", "[I", true)
  | _ => ("TrueHeard$Trace", "ran", "I", false)
def tyX9 : Nat → FieldType := fun k => match k with
  | 0 => .array .int
  | _ => .int
abbrev wsX90 : List Cond := u_ws RX9 TX9 2
theorem nmX9 : ∀ a, a < 2 → ∀ b, b < 2 → a ≠ b → (TX9 a).2.1 ≠ (TX9 b).2.1 := by decide +kernel
theorem tyX9_ok : ∀ k, k < 2 → parseFieldDescriptor (TX9 k).2.2.1 = some (tyX9 k) := by decide +kernel
abbrev cX9_init : ByteArray := prog_11_method_1_code
def yX9_init : MethodName := ⟨RX9, "<init>", "()V"⟩
abbrev cX9_note : ByteArray := prog_11_method_2_code
def yX9_note : MethodName := ⟨RX9, "note", "(I)V"⟩
def RX10 : String := "TrueHeard$World"
def TX10 : u_T := fun k => match k with
  | 0 => ("TrueHeard$World", "tape", "[B", true)
  | 1 => ("TrueHeard$World", "signs", "I", false)
  | 2 => ("TrueHeard$World", "coast", "[LTrueHeard$Clause;", false)
  | 3 => ("TrueHeard$World", "coasts", "I", false)
  | 4 => ("TrueHeard$World", "sayings", "[LTrueHeard$Clause;", true)
  | 5 => ("TrueHeard$World", "sayingCount", "I", false)
  | 6 => ("TrueHeard$World", "ways", "[LTrueHeard$Runner;", true)
  | 7 => ("TrueHeard$World", "wayCount", "I", false)
  | 8 => ("TrueHeard$World", "things", "I", false)
  | 9 => ("TrueHeard$World", "states", "I", false)
  | 10 => ("TrueHeard$World", "hour", "I", false)
  | 11 => ("TrueHeard$World", "heedThing", "I", false)
  | 12 => ("TrueHeard$World", "heedState", "I", false)
  | 13 => ("TrueHeard$World", "told", "I", false)
  | _ => ("TrueHeard$World", "toldCount", "I", false)
def tyX10 : Nat → FieldType := fun k => match k with
  | 0 => .array .byte
  | 1 => .int
  | 2 => .array (.object "TrueHeard$Clause")
  | 3 => .int
  | 4 => .array (.object "TrueHeard$Clause")
  | 5 => .int
  | 6 => .array (.object "TrueHeard$Runner")
  | 7 => .int
  | 8 => .int
  | 9 => .int
  | 10 => .int
  | 11 => .int
  | 12 => .int
  | 13 => .int
  | _ => .int
abbrev wsX100 : List Cond := u_ws RX10 TX10 15
theorem nmX10 : ∀ a, a < 15 → ∀ b, b < 15 → a ≠ b → (TX10 a).2.1 ≠ (TX10 b).2.1 := by decide +kernel
theorem tyX10_ok : ∀ k, k < 15 → parseFieldDescriptor (TX10 k).2.2.1 = some (tyX10 k) := by decide +kernel
abbrev cX10_init : ByteArray := prog_12_method_1_code
def yX10_init : MethodName := ⟨RX10, "<init>", "()V"⟩
abbrev cX10_copy : ByteArray := prog_12_method_2_code
def yX10_copy : MethodName := ⟨RX10, "copy", "(LTrueHeard$World;)V"⟩
abbrev cX10_hasThing : ByteArray := prog_12_method_3_code
def yX10_hasThing : MethodName := ⟨RX10, "hasThing", "(I)Z"⟩
abbrev cX10_sayingAt : ByteArray := prog_12_method_4_code
def yX10_sayingAt : MethodName := ⟨RX10, "sayingAt", "(I)LTrueHeard$Clause;"⟩
abbrev cX10_wayAt : ByteArray := prog_12_method_5_code
def yX10_wayAt : MethodName := ⟨RX10, "wayAt", "(I)LTrueHeard$Runner;"⟩
abbrev cX10_replaceWay : ByteArray := prog_12_method_6_code
def yX10_replaceWay : MethodName := ⟨RX10, "replaceWay", "(ILTrueHeard$Runner;)V"⟩
abbrev cX10_rows : ByteArray := prog_12_method_7_code
def yX10_rows : MethodName := ⟨RX10, "rows", "()I"⟩
abbrev cX10_heeded : ByteArray := prog_12_method_8_code
def yX10_heeded : MethodName := ⟨RX10, "heeded", "(I)I"⟩
abbrev cX10_factsOfRow : ByteArray := prog_12_method_9_code
def yX10_factsOfRow : MethodName := ⟨RX10, "factsOfRow", "(II)I"⟩
abbrev cX10_costs : ByteArray := prog_12_method_10_code
def yX10_costs : MethodName := ⟨RX10, "costs", "(LTrueHeard$Runner;)I"⟩
abbrev cX10_together : ByteArray := prog_12_method_11_code
def yX10_together : MethodName := ⟨RX10, "together", "(II)I"⟩
abbrev cX10_step : ByteArray := prog_12_method_12_code
def yX10_step : MethodName := ⟨RX10, "step", "(II)I"⟩
abbrev cX10_reach : ByteArray := prog_12_method_13_code
def yX10_reach : MethodName := ⟨RX10, "reach", "(II)I"⟩
abbrev cX10_chances : ByteArray := prog_12_method_14_code
def yX10_chances : MethodName := ⟨RX10, "chances", "(II)J"⟩
abbrev cX10_chanceIn : ByteArray := prog_12_method_15_code
def yX10_chanceIn : MethodName := ⟨RX10, "chanceIn", "(JI)J"⟩
def RX11 : String := "TrueHeard"
def TX11 : u_T := fun k => match k with
  | 0 => ("TrueHeard", "world", "LTrueHeard$World;", true)
  | 1 => ("TrueHeard", "image", "LTrueHeard$World;", true)
  | 2 => ("TrueHeard", "reader", "LTrueHeard$Reader;", true)
  | 3 => ("TrueHeard", "trace", "LTrueHeard$Trace;", true)
  | 4 => ("TrueHeard", "chances", "[J", true)
  | 5 => ("TrueHeard", "fails", "[Z", true)
  | _ => ("TrueHeard", "imaged", "Z", false)
def tyX11 : Nat → FieldType := fun k => match k with
  | 0 => .object "TrueHeard$World"
  | 1 => .object "TrueHeard$World"
  | 2 => .object "TrueHeard$Reader"
  | 3 => .object "TrueHeard$Trace"
  | 4 => .array .long
  | 5 => .array .boolean
  | _ => .boolean
abbrev wsX110 : List Cond := u_ws RX11 TX11 7
theorem nmX11 : ∀ a, a < 7 → ∀ b, b < 7 → a ≠ b → (TX11 a).2.1 ≠ (TX11 b).2.1 := by decide +kernel
theorem tyX11_ok : ∀ k, k < 7 → parseFieldDescriptor (TX11 k).2.2.1 = some (tyX11 k) := by decide +kernel
abbrev cX11_init : ByteArray := prog_1_method_1_code
def yX11_init : MethodName := ⟨RX11, "<init>", "()V"⟩
abbrev cX11_feed : ByteArray := prog_1_method_2_code
def yX11_feed : MethodName := ⟨RX11, "feed", "(I)I"⟩
abbrev cX11_coast : ByteArray := prog_1_method_3_code
def yX11_coast : MethodName := ⟨RX11, "coast", "()I"⟩
abbrev cX11_saying : ByteArray := prog_1_method_4_code
def yX11_saying : MethodName := ⟨RX11, "saying", "()I"⟩
abbrev cX11_thing : ByteArray := prog_1_method_5_code
def yX11_thing : MethodName := ⟨RX11, "thing", "(I)I"⟩
abbrev cX11_put : ByteArray := prog_1_method_6_code
def yX11_put : MethodName := ⟨RX11, "put", "(II)I"⟩
abbrev cX11_of : ByteArray := prog_1_method_7_code
def yX11_of : MethodName := ⟨RX11, "of", "(II)I"⟩
abbrev cX11_way : ByteArray := prog_1_method_8_code
def yX11_way : MethodName := ⟨RX11, "way", "(IIII)I"⟩
abbrev cX11_newWay : ByteArray := prog_1_method_9_code
def yX11_newWay : MethodName := ⟨RX11, "newWay", "(IIII)LTrueHeard$Runner;"⟩
abbrev cX11_at : ByteArray := prog_1_method_10_code
def yX11_at : MethodName := ⟨RX11, "at", "(II)I"⟩
abbrev cX11_bribe : ByteArray := prog_1_method_11_code
def yX11_bribe : MethodName := ⟨RX11, "bribe", "(II)I"⟩
abbrev cX11_now : ByteArray := prog_1_method_12_code
def yX11_now : MethodName := ⟨RX11, "now", "()I"⟩
abbrev cX11_hour : ByteArray := prog_1_method_13_code
def yX11_hour : MethodName := ⟨RX11, "hour", "(I)I"⟩
abbrev cX11_odds : ByteArray := prog_1_method_14_code
def yX11_odds : MethodName := ⟨RX11, "odds", "(III)J"⟩
abbrev cX11_sure : ByteArray := prog_1_method_15_code
def yX11_sure : MethodName := ⟨RX11, "sure", "(II)I"⟩
abbrev cX11_tell : ByteArray := prog_1_method_16_code
def yX11_tell : MethodName := ⟨RX11, "tell", "(II)I"⟩
abbrev cX11_which : ByteArray := prog_1_method_17_code
def yX11_which : MethodName := ⟨RX11, "which", "(I)I"⟩
abbrev cX11_worth : ByteArray := prog_1_method_18_code
def yX11_worth : MethodName := ⟨RX11, "worth", "(IIIII)J"⟩
abbrev cX11_sit : ByteArray := prog_1_method_19_code
def yX11_sit : MethodName := ⟨RX11, "sit", "(II)I"⟩
abbrev cX11_catches : ByteArray := prog_1_method_20_code
def yX11_catches : MethodName := ⟨RX11, "catches", "(III)I"⟩
abbrev cX11_all : ByteArray := prog_1_method_21_code
def yX11_all : MethodName := ⟨RX11, "all", "(I)I"⟩
abbrev cX11_begin : ByteArray := prog_1_method_22_code
def yX11_begin : MethodName := ⟨RX11, "begin", "(III)I"⟩
abbrev cX11_heed : ByteArray := prog_1_method_23_code
def yX11_heed : MethodName := ⟨RX11, "heed", "(II)I"⟩
abbrev cX11_self : ByteArray := prog_1_method_24_code
def yX11_self : MethodName := ⟨RX11, "self", "(IIII)J"⟩
abbrev cX11_back : ByteArray := prog_1_method_25_code
def yX11_back : MethodName := ⟨RX11, "back", "(III)I"⟩
abbrev cX11_partsSo : ByteArray := prog_1_method_26_code
def yX11_partsSo : MethodName := ⟨RX11, "partsSo", "(LTrueHeard$Clause;LTrueHeard$Runner;I)J"⟩
abbrev cX11_partsOfRow : ByteArray := prog_1_method_27_code
def yX11_partsOfRow : MethodName := ⟨RX11, "partsOfRow", "(I)J"⟩
abbrev cX11_isSo : ByteArray := prog_1_method_28_code
def yX11_isSo : MethodName := ⟨RX11, "isSo", "(LTrueHeard$Clause;III)Z"⟩
abbrev cX11_markFails : ByteArray := prog_1_method_29_code
def yX11_markFails : MethodName := ⟨RX11, "markFails", "(LTrueHeard$Clause;I)V"⟩
abbrev cX11_carryBack : ByteArray := prog_1_method_30_code
def yX11_carryBack : MethodName := ⟨RX11, "carryBack", "(II)V"⟩
abbrev cX11_failsFrom : ByteArray := prog_1_method_31_code
def yX11_failsFrom : MethodName := ⟨RX11, "failsFrom", "(I)Z"⟩
abbrev cX11_setFails : ByteArray := prog_1_method_32_code
def yX11_setFails : MethodName := ⟨RX11, "setFails", "(IZ)V"⟩
abbrev cX11_partOf : ByteArray := prog_1_method_33_code
def yX11_partOf : MethodName := ⟨RX11, "partOf", "(JI)J"⟩
abbrev cX11_row : ByteArray := prog_1_method_34_code
def yX11_row : MethodName := ⟨RX11, "row", "(I)I"⟩
abbrev cX11_looked : ByteArray := prog_1_method_35_code
def yX11_looked : MethodName := ⟨RX11, "looked", "()I"⟩
abbrev cX11_act : ByteArray := prog_1_method_36_code
def yX11_act : MethodName := ⟨RX11, "act", "(III)I"⟩
abbrev cX11_trace : ByteArray := prog_1_method_37_code
def yX11_trace : MethodName := ⟨RX11, "trace", "(I)I"⟩
abbrev cX11_as : ByteArray := prog_1_method_38_code
def yX11_as : MethodName := ⟨RX11, "as", "(II)I"⟩
abbrev cX11_isOf : ByteArray := prog_1_method_39_code
def yX11_isOf : MethodName := ⟨RX11, "isOf", "(LTrueHeard$Runner;I)Z"⟩
abbrev cX11_image : ByteArray := prog_1_method_40_code
def yX11_image : MethodName := ⟨RX11, "image", "()I"⟩
abbrev cX11_undo : ByteArray := prog_1_method_41_code
def yX11_undo : MethodName := ⟨RX11, "undo", "()I"⟩
abbrev cX11_count : ByteArray := prog_1_method_42_code
def yX11_count : MethodName := ⟨RX11, "count", "(I)I"⟩
abbrev cX11_isState : ByteArray := prog_1_method_43_code
def yX11_isState : MethodName := ⟨RX11, "isState", "(I)Z"⟩
abbrev cX11_isKind : ByteArray := prog_1_method_44_code
def yX11_isKind : MethodName := ⟨RX11, "isKind", "(I)Z"⟩
abbrev cX11_isPart : ByteArray := prog_1_method_45_code
def yX11_isPart : MethodName := ⟨RX11, "isPart", "(I)Z"⟩
abbrev cX11_stateIn : ByteArray := prog_1_method_46_code
def yX11_stateIn : MethodName := ⟨RX11, "stateIn", "(II)I"⟩
abbrev cX11_withState : ByteArray := prog_1_method_47_code
def yX11_withState : MethodName := ⟨RX11, "withState", "(III)I"⟩
abbrev cX11_reached : ByteArray := prog_1_method_48_code
def yX11_reached : MethodName := ⟨RX11, "reached", "(II)I"⟩
abbrev cX11_factsOfThing : ByteArray := prog_1_method_49_code
def yX11_factsOfThing : MethodName := ⟨RX11, "factsOfThing", "(III)I"⟩
abbrev cX11_factsOfWay : ByteArray := prog_1_method_50_code
def yX11_factsOfWay : MethodName := ⟨RX11, "factsOfWay", "(II)I"⟩
def RX12 : String := "TrueHeardModel"
def TX12 : u_T := fun k => match k with
  | 0 => ("TrueHeardModel", "thrown", "I", false)
  | 1 => ("TrueHeardModel", "s", "[I", true)
  | 2 => ("TrueHeardModel", "image", "[I", true)
  | 3 => ("TrueHeardModel", "hasImage", "Z", false)
  | 4 => ("TrueHeardModel", "act", "I", false)
  | 5 => ("TrueHeardModel", "letters", "Ljava/lang/String;", false)
  | 6 => ("TrueHeardModel", "spot", "I", false)
  | 7 => ("TrueHeardModel", "end", "I", false)
  | 8 => ("TrueHeardModel", "isWrong", "Z", false)
  | 9 => ("TrueHeardModel", "open", "I", false)
  | 10 => ("TrueHeardModel", "by", "[I", true)
  | 11 => ("TrueHeardModel", "truths", "[Z", true)
  | 12 => ("TrueHeardModel", "turns", "I", false)
  | 13 => ("TrueHeardModel", "drift", "I", false)
  | 14 => ("TrueHeardModel", "dear", "I", false)
  | 15 => ("TrueHeardModel", "often", "[J", true)
  | 16 => ("TrueHeardModel", "then", "[J", true)
  | 17 => ("TrueHeardModel", "may", "[I", true)
  | 18 => ("TrueHeardModel", "reach", "[I", true)
  | 19 => ("TrueHeardModel", "isSoThen", "[Z", true)
  | 20 => ("TrueHeardModel", "bodies", "[I", true)
  | 21 => ("TrueHeardModel", "ran", "I", false)
  | 22 => ("TrueHeardModel", "kind", "I", false)
  | 23 => ("TrueHeardModel", "number", "I", false)
  | _ => ("TrueHeardModel", "tellsV", "I", false)
def tyX12 : Nat → FieldType := fun k => match k with
  | 0 => .int
  | 1 => .array .int
  | 2 => .array .int
  | 3 => .boolean
  | 4 => .int
  | 5 => .object "java/lang/String"
  | 6 => .int
  | 7 => .int
  | 8 => .boolean
  | 9 => .int
  | 10 => .array .int
  | 11 => .array .boolean
  | 12 => .int
  | 13 => .int
  | 14 => .int
  | 15 => .array .long
  | 16 => .array .long
  | 17 => .array .int
  | 18 => .array .int
  | 19 => .array .boolean
  | 20 => .array .int
  | 21 => .int
  | 22 => .int
  | 23 => .int
  | _ => .int
abbrev wsX120 : List Cond := u_ws RX12 TX12 25
theorem nmX12 : ∀ a, a < 25 → ∀ b, b < 25 → a ≠ b → (TX12 a).2.1 ≠ (TX12 b).2.1 := by decide +kernel
theorem tyX12_ok : ∀ k, k < 25 → parseFieldDescriptor (TX12 k).2.2.1 = some (tyX12 k) := by decide +kernel
abbrev cX12_init : ByteArray := prog_14_method_1_code
def yX12_init : MethodName := ⟨RX12, "<init>", "()V"⟩
abbrev cX12_in : ByteArray := prog_14_method_3_code
def yX12_in : MethodName := ⟨RX12, "in", "(III)Z"⟩
abbrev cX12_isThing : ByteArray := prog_14_method_4_code
def yX12_isThing : MethodName := ⟨RX12, "isThing", "(I)Z"⟩
abbrev cX12_isWay : ByteArray := prog_14_method_5_code
def yX12_isWay : MethodName := ⟨RX12, "isWay", "(I)Z"⟩
abbrev cX12_isSaying : ByteArray := prog_14_method_6_code
def yX12_isSaying : MethodName := ⟨RX12, "isSaying", "(I)Z"⟩
abbrev cX12_feed : ByteArray := prog_14_method_7_code
def yX12_feed : MethodName := ⟨RX12, "feed", "(I)I"⟩
abbrev cX12_here : ByteArray := prog_14_method_8_code
def yX12_here : MethodName := ⟨RX12, "here", "()I"⟩
abbrev cX12_must : ByteArray := prog_14_method_9_code
def yX12_must : MethodName := ⟨RX12, "must", "(I)V"⟩
abbrev cX12_spells : ByteArray := prog_14_method_10_code
def yX12_spells : MethodName := ⟨RX12, "spells", "(Ljava/lang/String;)V"⟩
abbrev cX12_figures : ByteArray := prog_14_method_11_code
def yX12_figures : MethodName := ⟨RX12, "figures", "()I"⟩
abbrev cX12_among : ByteArray := prog_14_method_12_code
def yX12_among : MethodName := ⟨RX12, "among", "(Ljava/lang/String;)I"⟩
abbrev cX12_emits : ByteArray := prog_14_method_13_code
def yX12_emits : MethodName := ⟨RX12, "emits", "(I)V"⟩
abbrev cX12_factor : ByteArray := prog_14_method_14_code
def yX12_factor : MethodName := ⟨RX12, "factor", "()V"⟩
abbrev cX12_every : ByteArray := prog_14_method_15_code
def yX12_every : MethodName := ⟨RX12, "every", "()V"⟩
abbrev cX12_some : ByteArray := prog_14_method_16_code
def yX12_some : MethodName := ⟨RX12, "some", "()V"⟩
abbrev cX12_much : ByteArray := prog_14_method_17_code
def yX12_much : MethodName := ⟨RX12, "much", "(ILjava/lang/String;)V"⟩
abbrev cX12_clauseOfD : ByteArray := prog_14_method_18_code
def yX12_clauseOfD : MethodName := ⟨RX12, "clauseOfD", "()V"⟩
abbrev cX12_clauseHere : ByteArray := prog_14_method_19_code
def yX12_clauseHere : MethodName := ⟨RX12, "clauseHere", "()V"⟩
abbrev cX12_begins : ByteArray := prog_14_method_20_code
def yX12_begins : MethodName := ⟨RX12, "begins", "(ILjava/lang/String;)V"⟩
abbrev cX12_coast : ByteArray := prog_14_method_21_code
def yX12_coast : MethodName := ⟨RX12, "coast", "()I"⟩
abbrev cX12_saying : ByteArray := prog_14_method_22_code
def yX12_saying : MethodName := ⟨RX12, "saying", "()I"⟩
abbrev cX12_isSo : ByteArray := prog_14_method_23_code
def yX12_isSo : MethodName := ⟨RX12, "isSo", "(II)Z"⟩
abbrev cX12_goesThrough : ByteArray := prog_14_method_24_code
def yX12_goesThrough : MethodName := ⟨RX12, "goesThrough", "(I)Z"⟩
abbrev cX12_looks : ByteArray := prog_14_method_25_code
def yX12_looks : MethodName := ⟨RX12, "looks", "(IIII)V"⟩
abbrev cX12_stateOf : ByteArray := prog_14_method_26_code
def yX12_stateOf : MethodName := ⟨RX12, "stateOf", "(II)I"⟩
abbrev cX12_isTrue : ByteArray := prog_14_method_27_code
def yX12_isTrue : MethodName := ⟨RX12, "isTrue", "(III)Z"⟩
abbrev cX12_thing : ByteArray := prog_14_method_28_code
def yX12_thing : MethodName := ⟨RX12, "thing", "(I)I"⟩
abbrev cX12_put : ByteArray := prog_14_method_29_code
def yX12_put : MethodName := ⟨RX12, "put", "(II)I"⟩
abbrev cX12_of : ByteArray := prog_14_method_30_code
def yX12_of : MethodName := ⟨RX12, "of", "(II)I"⟩
abbrev cX12_way : ByteArray := prog_14_method_31_code
def yX12_way : MethodName := ⟨RX12, "way", "(IIII)I"⟩
abbrev cX12_takesAt : ByteArray := prog_14_method_32_code
def yX12_takesAt : MethodName := ⟨RX12, "takesAt", "(II)I"⟩
abbrev cX12_takes : ByteArray := prog_14_method_33_code
def yX12_takes : MethodName := ⟨RX12, "takes", "(I)I"⟩
abbrev cX12_costsOf : ByteArray := prog_14_method_34_code
def yX12_costsOf : MethodName := ⟨RX12, "costsOf", "(I)I"⟩
abbrev cX12_at : ByteArray := prog_14_method_35_code
def yX12_at : MethodName := ⟨RX12, "at", "(II)I"⟩
abbrev cX12_bribe : ByteArray := prog_14_method_36_code
def yX12_bribe : MethodName := ⟨RX12, "bribe", "(II)I"⟩
abbrev cX12_now : ByteArray := prog_14_method_37_code
def yX12_now : MethodName := ⟨RX12, "now", "()I"⟩
abbrev cX12_hour : ByteArray := prog_14_method_38_code
def yX12_hour : MethodName := ⟨RX12, "hour", "(I)I"⟩
abbrev cX12_beginsAll : ByteArray := prog_14_method_39_code
def yX12_beginsAll : MethodName := ⟨RX12, "beginsAll", "(I)V"⟩
abbrev cX12_statesNow : ByteArray := prog_14_method_40_code
def yX12_statesNow : MethodName := ⟨RX12, "statesNow", "()I"⟩
abbrev cX12_goesOn : ByteArray := prog_14_method_41_code
def yX12_goesOn : MethodName := ⟨RX12, "goesOn", "(II)V"⟩
abbrev cX12_goesAll : ByteArray := prog_14_method_42_code
def yX12_goesAll : MethodName := ⟨RX12, "goesAll", "(I)V"⟩
abbrev cX12_oftenOf : ByteArray := prog_14_method_43_code
def yX12_oftenOf : MethodName := ⟨RX12, "oftenOf", "(I)J"⟩
abbrev cX12_allStates : ByteArray := prog_14_method_44_code
def yX12_allStates : MethodName := ⟨RX12, "allStates", "()I"⟩
abbrev cX12_twos : ByteArray := prog_14_method_45_code
def yX12_twos : MethodName := ⟨RX12, "twos", "(I)J"⟩
abbrev cX12_allOften : ByteArray := prog_14_method_46_code
def yX12_allOften : MethodName := ⟨RX12, "allOften", "(I)J"⟩
abbrev cX12_oftenTrue : ByteArray := prog_14_method_47_code
def yX12_oftenTrue : MethodName := ⟨RX12, "oftenTrue", "(II)J"⟩
abbrev cX12_heardTrue : ByteArray := prog_14_method_48_code
def yX12_heardTrue : MethodName := ⟨RX12, "heardTrue", "(II)J"⟩
abbrev cX12_lowest : ByteArray := prog_14_method_49_code
def yX12_lowest : MethodName := ⟨RX12, "lowest", "(JJI)J"⟩
abbrev cX12_odds : ByteArray := prog_14_method_50_code
def yX12_odds : MethodName := ⟨RX12, "odds", "(III)J"⟩
abbrev cX12_sure : ByteArray := prog_14_method_51_code
def yX12_sure : MethodName := ⟨RX12, "sure", "(II)I"⟩
abbrev cX12_tell : ByteArray := prog_14_method_52_code
def yX12_tell : MethodName := ⟨RX12, "tell", "(II)I"⟩
abbrev cX12_isBetter : ByteArray := prog_14_method_53_code
def yX12_isBetter : MethodName := ⟨RX12, "isBetter", "(III)Z"⟩
abbrev cX12_which : ByteArray := prog_14_method_54_code
def yX12_which : MethodName := ⟨RX12, "which", "(I)I"⟩
abbrev cX12_worth : ByteArray := prog_14_method_55_code
def yX12_worth : MethodName := ⟨RX12, "worth", "(IIIII)J"⟩
abbrev cX12_mayBegin : ByteArray := prog_14_method_56_code
def yX12_mayBegin : MethodName := ⟨RX12, "mayBegin", "(I)V"⟩
abbrev cX12_mayBecome : ByteArray := prog_14_method_57_code
def yX12_mayBecome : MethodName := ⟨RX12, "mayBecome", "(III)I"⟩
abbrev cX12_mayGo : ByteArray := prog_14_method_58_code
def yX12_mayGo : MethodName := ⟨RX12, "mayGo", "(I)V"⟩
abbrev cX12_isSurely : ByteArray := prog_14_method_59_code
def yX12_isSurely : MethodName := ⟨RX12, "isSurely", "(II)Z"⟩
abbrev cX12_sit : ByteArray := prog_14_method_60_code
def yX12_sit : MethodName := ⟨RX12, "sit", "(II)I"⟩
abbrev cX12_catches : ByteArray := prog_14_method_61_code
def yX12_catches : MethodName := ⟨RX12, "catches", "(III)I"⟩
abbrev cX12_all : ByteArray := prog_14_method_62_code
def yX12_all : MethodName := ⟨RX12, "all", "(I)I"⟩
abbrev cX12_begin : ByteArray := prog_14_method_63_code
def yX12_begin : MethodName := ⟨RX12, "begin", "(III)I"⟩
abbrev cX12_looksForReach : ByteArray := prog_14_method_64_code
def yX12_looksForReach : MethodName := ⟨RX12, "looksForReach", "(II)V"⟩
abbrev cX12_reachesTruth : ByteArray := prog_14_method_65_code
def yX12_reachesTruth : MethodName := ⟨RX12, "reachesTruth", "(I)Z"⟩
abbrev cX12_heed : ByteArray := prog_14_method_66_code
def yX12_heed : MethodName := ⟨RX12, "heed", "(II)I"⟩
abbrev cX12_heededBy : ByteArray := prog_14_method_67_code
def yX12_heededBy : MethodName := ⟨RX12, "heededBy", "(I)I"⟩
abbrev cX12_self : ByteArray := prog_14_method_68_code
def yX12_self : MethodName := ⟨RX12, "self", "(IIII)J"⟩
abbrev cX12_back : ByteArray := prog_14_method_69_code
def yX12_back : MethodName := ⟨RX12, "back", "(III)I"⟩
abbrev cX12_row : ByteArray := prog_14_method_70_code
def yX12_row : MethodName := ⟨RX12, "row", "(I)I"⟩
abbrev cX12_looked : ByteArray := prog_14_method_71_code
def yX12_looked : MethodName := ⟨RX12, "looked", "()I"⟩
abbrev cX12_ranBody : ByteArray := prog_14_method_72_code
def yX12_ranBody : MethodName := ⟨RX12, "ranBody", "(I)V"⟩
abbrev cX12_isUnder : ByteArray := prog_14_method_73_code
def yX12_isUnder : MethodName := ⟨RX12, "isUnder", "(II)Z"⟩
abbrev cX12_plainSends : ByteArray := prog_14_method_74_code
def yX12_plainSends : MethodName := ⟨RX12, "plainSends", "(I)I"⟩
abbrev cX12_sendsActs : ByteArray := prog_14_method_75_code
def yX12_sendsActs : MethodName := ⟨RX12, "sendsActs", "(I)I"⟩
abbrev cX12_plainTakes : ByteArray := prog_14_method_76_code
def yX12_plainTakes : MethodName := ⟨RX12, "plainTakes", "(I)I"⟩
abbrev cX12_takesActs : ByteArray := prog_14_method_77_code
def yX12_takesActs : MethodName := ⟨RX12, "takesActs", "(I)I"⟩
abbrev cX12_plainTells : ByteArray := prog_14_method_78_code
def yX12_plainTells : MethodName := ⟨RX12, "plainTells", "(I)I"⟩
abbrev cX12_tellsActs : ByteArray := prog_14_method_79_code
def yX12_tellsActs : MethodName := ⟨RX12, "tellsActs", "(I)I"⟩
abbrev cX12_act : ByteArray := prog_14_method_80_code
def yX12_act : MethodName := ⟨RX12, "act", "(III)I"⟩
abbrev cX12_trace : ByteArray := prog_14_method_81_code
def yX12_trace : MethodName := ⟨RX12, "trace", "(I)I"⟩
abbrev cX12_as : ByteArray := prog_14_method_82_code
def yX12_as : MethodName := ⟨RX12, "as", "(II)I"⟩
abbrev cX12_image : ByteArray := prog_14_method_83_code
def yX12_image : MethodName := ⟨RX12, "image", "()I"⟩
abbrev cX12_undo : ByteArray := prog_14_method_84_code
def yX12_undo : MethodName := ⟨RX12, "undo", "()I"⟩
abbrev cX12_count : ByteArray := prog_14_method_85_code
def yX12_count : MethodName := ⟨RX12, "count", "(I)I"⟩
def RJx145de : String := "java/io/Serializable"
def TJx145de : u_T := fun k => match k with
  | _ => ("", "", "", false)
def tyJx145de : Nat → FieldType := fun k => match k with
  | _ => .int
abbrev wsJx145de0 : List Cond := u_ws RJx145de TJx145de 0
theorem nmJx145de : ∀ a, a < 0 → ∀ b, b < 0 → a ≠ b → (TJx145de a).2.1 ≠ (TJx145de b).2.1 := by decide +kernel
theorem tyJx145de_ok : ∀ k, k < 0 → parseFieldDescriptor (TJx145de k).2.2.1 = some (tyJx145de k) := by decide +kernel
def RJx9f9b0 : String := "java/lang/CharSequence"
def TJx9f9b0 : u_T := fun k => match k with
  | _ => ("", "", "", false)
def tyJx9f9b0 : Nat → FieldType := fun k => match k with
  | _ => .int
abbrev wsJx9f9b00 : List Cond := u_ws RJx9f9b0 TJx9f9b0 0
theorem nmJx9f9b0 : ∀ a, a < 0 → ∀ b, b < 0 → a ≠ b → (TJx9f9b0 a).2.1 ≠ (TJx9f9b0 b).2.1 := by decide +kernel
theorem tyJx9f9b0_ok : ∀ k, k < 0 → parseFieldDescriptor (TJx9f9b0 k).2.2.1 = some (tyJx9f9b0 k) := by decide +kernel
def RJ11 : String := "java/lang/Character"
def TJ11 : u_T := fun k => match k with
  | _ => ("", "", "", false)
def tyJ11 : Nat → FieldType := fun k => match k with
  | _ => .int
abbrev wsJ110 : List Cond := u_ws RJ11 TJ11 0
theorem nmJ11 : ∀ a, a < 0 → ∀ b, b < 0 → a ≠ b → (TJ11 a).2.1 ≠ (TJ11 b).2.1 := by decide +kernel
theorem tyJ11_ok : ∀ k, k < 0 → parseFieldDescriptor (TJ11 k).2.2.1 = some (tyJ11 k) := by decide +kernel
abbrev cJ11_isValidCodePoint_9a6ad : ByteArray := prog_15_method_11_code
def yJ11_isValidCodePoint_9a6ad : MethodName := ⟨RJ11, "isValidCodePoint", "(I)Z"⟩
abbrev cJ11_highSurrogate_5068e : ByteArray := prog_15_method_28_code
def yJ11_highSurrogate_5068e : MethodName := ⟨RJ11, "highSurrogate", "(I)C"⟩
abbrev cJ11_lowSurrogate_5068e : ByteArray := prog_15_method_29_code
def yJ11_lowSurrogate_5068e : MethodName := ⟨RJ11, "lowSurrogate", "(I)C"⟩
def RJx8e188 : String := "java/lang/Cloneable"
def TJx8e188 : u_T := fun k => match k with
  | _ => ("", "", "", false)
def tyJx8e188 : Nat → FieldType := fun k => match k with
  | _ => .int
abbrev wsJx8e1880 : List Cond := u_ws RJx8e188 TJx8e188 0
theorem nmJx8e188 : ∀ a, a < 0 → ∀ b, b < 0 → a ≠ b → (TJx8e188 a).2.1 ≠ (TJx8e188 b).2.1 := by decide +kernel
theorem tyJx8e188_ok : ∀ k, k < 0 → parseFieldDescriptor (TJx8e188 k).2.2.1 = some (tyJx8e188 k) := by decide +kernel
def RJxb160c : String := "java/lang/Comparable"
def TJxb160c : u_T := fun k => match k with
  | _ => ("", "", "", false)
def tyJxb160c : Nat → FieldType := fun k => match k with
  | _ => .int
abbrev wsJxb160c0 : List Cond := u_ws RJxb160c TJxb160c 0
theorem nmJxb160c : ∀ a, a < 0 → ∀ b, b < 0 → a ≠ b → (TJxb160c a).2.1 ≠ (TJxb160c b).2.1 := by decide +kernel
theorem tyJxb160c_ok : ∀ k, k < 0 → parseFieldDescriptor (TJxb160c k).2.2.1 = some (tyJxb160c k) := by decide +kernel
def RJ9 : String := "java/lang/Math"
def TJ9 : u_T := fun k => match k with
  | _ => ("", "", "", false)
def tyJ9 : Nat → FieldType := fun k => match k with
  | _ => .int
abbrev wsJ90 : List Cond := u_ws RJ9 TJ9 0
theorem nmJ9 : ∀ a, a < 0 → ∀ b, b < 0 → a ≠ b → (TJ9 a).2.1 ≠ (TJ9 b).2.1 := by decide +kernel
theorem tyJ9_ok : ∀ k, k < 0 → parseFieldDescriptor (TJ9 k).2.2.1 = some (tyJ9 k) := by decide +kernel
abbrev cJ9_max_7cf53 : ByteArray := prog_17_method_65_code
def yJ9_max_7cf53 : MethodName := ⟨RJ9, "max", "(II)I"⟩
abbrev cJ9_min_7cf53 : ByteArray := prog_17_method_69_code
def yJ9_min_7cf53 : MethodName := ⟨RJ9, "min", "(II)I"⟩
def RJ0 : String := "java/lang/String"
def TJ0 : u_T := fun k => match k with
  | _ => ("", "", "", false)
def tyJ0 : Nat → FieldType := fun k => match k with
  | _ => .int
abbrev wsJ00 : List Cond := u_ws RJ0 TJ0 0
theorem nmJ0 : ∀ a, a < 0 → ∀ b, b < 0 → a ≠ b → (TJ0 a).2.1 ≠ (TJ0 b).2.1 := by decide +kernel
theorem tyJ0_ok : ∀ k, k < 0 → parseFieldDescriptor (TJ0 k).2.2.1 = some (tyJ0 k) := by decide +kernel
abbrev cJ0_length_8abf5 : ByteArray := prog_18_method_54_code
def yJ0_length_8abf5 : MethodName := ⟨RJ0, "length", "()I"⟩
abbrev cJ0_charAt_5068e : ByteArray := prog_18_method_56_code
def yJ0_charAt_5068e : MethodName := ⟨RJ0, "charAt", "(I)C"⟩
abbrev cJ0_indexOf_0f7a4 : ByteArray := prog_18_method_79_code
def yJ0_indexOf_0f7a4 : MethodName := ⟨RJ0, "indexOf", "(I)I"⟩
abbrev cJ0_indexOf_7cf53 : ByteArray := prog_18_method_80_code
def yJ0_indexOf_7cf53 : MethodName := ⟨RJ0, "indexOf", "(II)I"⟩
abbrev cJ0_coder_7d493 : ByteArray := prog_18_method_152_code
def yJ0_coder_7d493 : MethodName := ⟨RJ0, "coder", "()B"⟩
abbrev cJ0_isLatin1_aae02 : ByteArray := prog_18_method_154_code
def yJ0_isLatin1_aae02 : MethodName := ⟨RJ0, "isLatin1", "()Z"⟩
abbrev cJ0_checkIndex_df160 : ByteArray := prog_18_method_155_code
def yJ0_checkIndex_df160 : MethodName := ⟨RJ0, "checkIndex", "(II)V"⟩
abbrev cJ0_checkBoundsBeginEnd_23922 : ByteArray := prog_18_method_158_code
def yJ0_checkBoundsBeginEnd_23922 : MethodName := ⟨RJ0, "checkBoundsBeginEnd", "(III)V"⟩
def RJ1 : String := "java/lang/StringLatin1"
def TJ1 : u_T := fun k => match k with
  | _ => ("", "", "", false)
def tyJ1 : Nat → FieldType := fun k => match k with
  | _ => .int
abbrev wsJ10 : List Cond := u_ws RJ1 TJ1 0
theorem nmJ1 : ∀ a, a < 0 → ∀ b, b < 0 → a ≠ b → (TJ1 a).2.1 ≠ (TJ1 b).2.1 := by decide +kernel
theorem tyJ1_ok : ∀ k, k < 0 → parseFieldDescriptor (TJ1 k).2.2.1 = some (tyJ1 k) := by decide +kernel
abbrev cJ1_charAt_3b067 : ByteArray := prog_19_method_2_code
def yJ1_charAt_3b067 : MethodName := ⟨RJ1, "charAt", "([BI)C"⟩
abbrev cJ1_canEncode_9a6ad : ByteArray := prog_19_method_4_code
def yJ1_canEncode_9a6ad : MethodName := ⟨RJ1, "canEncode", "(I)Z"⟩
abbrev cJ1_indexOf_4cfef : ByteArray := prog_19_method_22_code
def yJ1_indexOf_4cfef : MethodName := ⟨RJ1, "indexOf", "([BIII)I"⟩
abbrev cJ1_indexOfChar_4cfef : ByteArray := prog_19_method_23_code
def yJ1_indexOfChar_4cfef : MethodName := ⟨RJ1, "indexOfChar", "([BIII)I"⟩
def RJ2 : String := "java/lang/StringUTF16"
def TJ2 : u_T := fun k => match k with
  | _ => ("", "", "", false)
def tyJ2 : Nat → FieldType := fun k => match k with
  | _ => .int
abbrev wsJ20 : List Cond := u_ws RJ2 TJ2 0
theorem nmJ2 : ∀ a, a < 0 → ∀ b, b < 0 → a ≠ b → (TJ2 a).2.1 ≠ (TJ2 b).2.1 := by decide +kernel
theorem tyJ2_ok : ∀ k, k < 0 → parseFieldDescriptor (TJ2 k).2.2.1 = some (tyJ2 k) := by decide +kernel
abbrev cJ2_getChar_3b067 : ByteArray := prog_20_method_5_code
def yJ2_getChar_3b067 : MethodName := ⟨RJ2, "getChar", "([BI)C"⟩
abbrev cJ2_length_9d52b : ByteArray := prog_20_method_6_code
def yJ2_length_9d52b : MethodName := ⟨RJ2, "length", "([B)I"⟩
abbrev cJ2_indexOf_4cfef : ByteArray := prog_20_method_40_code
def yJ2_indexOf_4cfef : MethodName := ⟨RJ2, "indexOf", "([BIII)I"⟩
abbrev cJ2_indexOfChar_4cfef : ByteArray := prog_20_method_47_code
def yJ2_indexOfChar_4cfef : MethodName := ⟨RJ2, "indexOfChar", "([BIII)I"⟩
abbrev cJ2_indexOfCharUnsafe_4cfef : ByteArray := prog_20_method_48_code
def yJ2_indexOfCharUnsafe_4cfef : MethodName := ⟨RJ2, "indexOfCharUnsafe", "([BIII)I"⟩
abbrev cJ2_indexOfSupplementary_4cfef : ByteArray := prog_20_method_49_code
def yJ2_indexOfSupplementary_4cfef : MethodName := ⟨RJ2, "indexOfSupplementary", "([BIII)I"⟩
abbrev cJ2_charAt_3b067 : ByteArray := prog_20_method_83_code
def yJ2_charAt_3b067 : MethodName := ⟨RJ2, "charAt", "([BI)C"⟩
abbrev cJ2_checkIndex_2214a : ByteArray := prog_20_method_91_code
def yJ2_checkIndex_2214a : MethodName := ⟨RJ2, "checkIndex", "(I[B)V"⟩
abbrev cJ2_checkBoundsBeginEnd_d044e : ByteArray := prog_20_method_93_code
def yJ2_checkBoundsBeginEnd_d044e : MethodName := ⟨RJ2, "checkBoundsBeginEnd", "(II[B)V"⟩
def RJ10 : String := "java/lang/System"
def TJ10 : u_T := fun k => match k with
  | _ => ("", "", "", false)
def tyJ10 : Nat → FieldType := fun k => match k with
  | _ => .int
abbrev wsJ100 : List Cond := u_ws RJ10 TJ10 0
theorem nmJ10 : ∀ a, a < 0 → ∀ b, b < 0 → a ≠ b → (TJ10 a).2.1 ≠ (TJ10 b).2.1 := by decide +kernel
theorem tyJ10_ok : ∀ k, k < 0 → parseFieldDescriptor (TJ10 k).2.2.1 = some (tyJ10 k) := by decide +kernel
def RJxfd54e : String := "java/lang/constant/Constable"
def TJxfd54e : u_T := fun k => match k with
  | _ => ("", "", "", false)
def tyJxfd54e : Nat → FieldType := fun k => match k with
  | _ => .int
abbrev wsJxfd54e0 : List Cond := u_ws RJxfd54e TJxfd54e 0
theorem nmJxfd54e : ∀ a, a < 0 → ∀ b, b < 0 → a ≠ b → (TJxfd54e a).2.1 ≠ (TJxfd54e b).2.1 := by decide +kernel
theorem tyJxfd54e_ok : ∀ k, k < 0 → parseFieldDescriptor (TJxfd54e k).2.2.1 = some (tyJxfd54e k) := by decide +kernel
def RJx3cf43 : String := "java/lang/constant/ConstantDesc"
def TJx3cf43 : u_T := fun k => match k with
  | _ => ("", "", "", false)
def tyJx3cf43 : Nat → FieldType := fun k => match k with
  | _ => .int
abbrev wsJx3cf430 : List Cond := u_ws RJx3cf43 TJx3cf43 0
theorem nmJx3cf43 : ∀ a, a < 0 → ∀ b, b < 0 → a ≠ b → (TJx3cf43 a).2.1 ≠ (TJx3cf43 b).2.1 := by decide +kernel
theorem tyJx3cf43_ok : ∀ k, k < 0 → parseFieldDescriptor (TJx3cf43 k).2.2.1 = some (tyJx3cf43 k) := by decide +kernel
def RJ7 : String := "java/util/Arrays"
def TJ7 : u_T := fun k => match k with
  | _ => ("", "", "", false)
def tyJ7 : Nat → FieldType := fun k => match k with
  | _ => .int
abbrev wsJ70 : List Cond := u_ws RJ7 TJ7 0
theorem nmJ7 : ∀ a, a < 0 → ∀ b, b < 0 → a ≠ b → (TJ7 a).2.1 ≠ (TJ7 b).2.1 := by decide +kernel
theorem tyJ7_ok : ∀ k, k < 0 → parseFieldDescriptor (TJ7 k).2.2.1 = some (tyJ7 k) := by decide +kernel
abbrev cJ7_copyOf_59c91 : ByteArray := prog_22_method_123_code
def yJ7_copyOf_59c91 : MethodName := ⟨RJ7, "copyOf", "([II)[I"⟩
def RJ3 : String := "jdk/internal/util/Preconditions"
def TJ3 : u_T := fun k => match k with
  | _ => ("", "", "", false)
def tyJ3 : Nat → FieldType := fun k => match k with
  | _ => .int
abbrev wsJ30 : List Cond := u_ws RJ3 TJ3 0
theorem nmJ3 : ∀ a, a < 0 → ∀ b, b < 0 → a ≠ b → (TJ3 a).2.1 ≠ (TJ3 b).2.1 := by decide +kernel
theorem tyJ3_ok : ∀ k, k < 0 → parseFieldDescriptor (TJ3 k).2.2.1 = some (tyJ3 k) := by decide +kernel
abbrev cJ3_checkIndex_8e157 : ByteArray := prog_23_method_11_code
def yJ3_checkIndex_8e157 : MethodName := ⟨RJ3, "checkIndex", "(IILjava/util/function/BiFunction;)I"⟩
abbrev cJ3_checkFromToIndex_8c36e : ByteArray := prog_23_method_12_code
def yJ3_checkFromToIndex_8c36e : MethodName := ⟨RJ3, "checkFromToIndex", "(IIILjava/util/function/BiFunction;)I"⟩
def RL : String := "TrueHeardLaw"
abbrev cL_law : ByteArray := code
def yL_law : MethodName := ⟨RL, "law", "([I)Z"⟩
abbrev vwCl : List vw_C := [(RX0, TX0, 6), (RX1, TX1, 6), (RX2, TX2, 7), (RX3, TX3, 3), (RX4, TX4, 6), (RX5, TX5, 6), (RX6, TX6, 6), (RX7, TX7, 6), (RX8, TX8, 6), (RX9, TX9, 2), (RX10, TX10, 15), (RX11, TX11, 7), (RX12, TX12, 25)]
end
section
/-! THE SMALL MACHINE: a memory of typed cells at numbered places, and what each instruction does to it. Places 0..12: the String constants, 13..25 their bytes, 26 the script, 27 a JDK object; from 28 on what the law makes. Kinds: 0..12 objects of vwCl's classes; 20 int[], 21 long[], 22 boolean[], 23 byte[], 24 Clause[], 25 Runner[]; 30 String, 31 a String's bytes, 32 the script, 33 other. -/
abbrev MM : Type := (Nat → Nat) × (Nat → Nat) × Nat × Nat × (Nat → Nat → Int32) × (Nat → Nat → Int64) × (Nat → Nat → Option Nat)
abbrev RI : Type := Nat × Instr × Nat × List Nat × List Nat
abbrev Rs : Type := Option (Option Value × MM)
abbrev LV : Type := List (Nat × Value)
abbrev MT : Type := MethodName × ByteArray × Nat × Option FieldType × List (List Nat × List RI)
def shp (μ : MM) (q : Nat) : Nat := μ.1 q
def aln (μ : MM) (q : Nat) : Nat := μ.2.1 q
def msz (μ : MM) : Nat := μ.2.2.1
def msl (μ : MM) : Nat := μ.2.2.2.1
def gI (μ : MM) (q k : Nat) : Int32 := μ.2.2.2.2.1 q k
def gL (μ : MM) (q k : Nat) : Int64 := μ.2.2.2.2.2.1 q k
def gR (μ : MM) (q k : Nat) : Option Nat := μ.2.2.2.2.2.2 q k
def sI (μ : MM) (q k : Nat) (v : Int32) : MM := (μ.1, μ.2.1, μ.2.2.1, μ.2.2.2.1, fun a b => if a = q ∧ b = k then v else gI μ a b, μ.2.2.2.2.2)
def sL (μ : MM) (q k : Nat) (v : Int64) : MM := (μ.1, μ.2.1, μ.2.2.1, μ.2.2.2.1, μ.2.2.2.2.1, fun a b => if a = q ∧ b = k then v else gL μ a b, μ.2.2.2.2.2.2)
def sR (μ : MM) (q k : Nat) (v : Option Nat) : MM := (μ.1, μ.2.1, μ.2.2.1, μ.2.2.2.1, μ.2.2.2.2.1, μ.2.2.2.2.2.1, fun a b => if a = q ∧ b = k then v else gR μ a b)
/-- a new cell: of a kind, a length (0 for an object), so many slots -/
def alc (μ : MM) (kind n sl : Nat) : MM := (fun a => if a = msz μ then kind else shp μ a, fun a => if a = msz μ then n else aln μ a, msz μ + 1, msl μ + sl, fun a b => if a = msz μ then 0 else gI μ a b, fun a b => if a = msz μ then 0 else gL μ a b, fun a b => if a = msz μ then none else gR μ a b)
/-- System.arraycopy of ints or bytes -/
def cpI (μ : MM) (a sp d dp n : Nat) : MM := (μ.1, μ.2.1, μ.2.2.1, μ.2.2.2.1, fun x b => if x = d ∧ dp ≤ b ∧ b < dp + n then gI μ a (sp + (b - dp)) else gI μ x b, μ.2.2.2.2.2)
def rv (r : Option Nat) : Value := match r with
  | none => .null
  | some a => .ref a
def gd (b : Bool) (r : Rs) : Rs := match b with
  | true => r
  | false => none
def asI (v : Value) (k : Int32 → Rs) : Rs := match v with
  | .int x => k x
  | _ => none
def asL (v : Value) (k : Int64 → Rs) : Rs := match v with
  | .long x => k x
  | _ => none
def asR (v : Value) (k : Nat → Rs) : Rs := match v with
  | .ref x => k x
  | _ => none
/-- null, or a cell -/
def asN (v : Value) (z : Rs) (k : Nat → Rs) : Rs := match v with
  | .null => z
  | .ref x => k x
  | _ => none
def p1 (st : List Value) (k : Value → List Value → Rs) : Rs := match st with
  | v :: r => k v r
  | [] => none
def ppI (st : List Value) (k : Int32 → List Value → Rs) : Rs := p1 st fun v r => asI v fun x => k x r
def ppL (st : List Value) (k : Int64 → List Value → Rs) : Rs := p1 st fun v r => asL v fun x => k x r
def ppR (st : List Value) (k : Nat → List Value → Rs) : Rs := p1 st fun v r => asR v fun x => k x r
def ppN : Nat → List Value → List Value → (List Value → List Value → Rs) → Rs
  | 0, st, acc, k => k acc st
  | n + 1, st, acc, k => p1 st fun v r => ppN n r (v :: acc) k
def lgt : LV → Nat → (Value → Rs) → Rs
  | [], _, _ => none
  | q :: l, i, k => match Nat.beq q.1 i with
    | true => k q.2
    | false => lgt l i k
def lst1 (l : LV) (i : Nat) (v : Value) : LV := (i, v) :: l.filter (fun q => !(q.1 == i) && !(q.1 + 1 == i && q.2.category == 2))
def lst2 (l : LV) (i : Nat) (v : Value) : LV := (i, v) :: l.filter (fun q => !(q.1 == i) && (!(q.1 == i + 1) && !(q.1 + 1 == i && q.2.category == 2)))
def cat1 (v : Value) (r : Rs) : Rs := match v with
  | .int _ => r
  | .null => r
  | .ref _ => r
  | _ => none
def cin : List Nat → Nat → Bool
  | [], _ => false
  | c :: r, s => Nat.beq s c || cin r s
def dsp : List Nat → Nat → (Nat → Rs) → Rs
  | c :: M :: r, s, k => match Nat.beq s c with
    | true => k M
    | false => dsp r s k
  | _, _, _ => none
/-- the words below a call's arguments -/
def slr (st : List Value) : Bool := Nat.ble (st.map fun v => v.category).sum 8
def inb (i : Int32) (n : Nat) : Bool := !decide (i < 0) && decide (i.toNatClampNeg < n)
def b01 (x : Int32) : Bool := decide (x = 0) || decide (x = 1)
def fitB (μ : MM) (a sp n : Nat) : Bool := (List.range n).all fun i => fits .byte (.int (gI μ a (sp + i)))
def bnd (rk : Nat) (r : Rs) (k : List Value → MM → Rs) : Rs := match rk with
  | 0 => match r with
    | some (none, μ) => k [] μ
    | _ => none
  | 1 => match r with
    | some (some (.int x), μ) => k [.int x] μ
    | _ => none
  | 2 => match r with
    | some (some (.long x), μ) => k [.long x] μ
    | _ => none
  | _ => match r with
    | some (some .null, μ) => k [.null] μ
    | some (some (.ref a), μ) => k [.ref a] μ
    | _ => none
def sw : Int → List Nat → Nat → Int32 → (Nat → Rs) → Rs
  | _, [], d, _, k => k d
  | lo, b :: bs, d, x, k => if x = Int32.ofInt lo then k b else sw (lo + 1) bs d x k
def lsw : List (Int × Int) → List Nat → Nat → Int32 → (Nat → Rs) → Rs
  | p :: ps, b :: bs, d, x, k => if x = Int32.ofInt p.1 then k b else lsw ps bs d x k
  | [], [], d, _, k => k d
  | _, _, _, _, _ => none
/-- narrow what an int method gives back: 0 int, 1 boolean, 2 byte or char -/
def rtg (a : List Nat) (x : Int32) (r : Rs) : Rs := match a with
  | [0] => r
  | [1] => gd (b01 x) r
  | [2] => gd (decide (x.toInt8.toInt32 = x)) r
  | [3] => gd (decide (x.toUInt32.toUInt16.toUInt32.toInt32 = x)) r
  | _ => none
section XB
variable (C : Nat → List Value → MM → Rs) (J : Nat → LV → List Value → MM → Rs)
def iop (f : Int32 → Int32 → Int32) (ls : LV) (st : List Value) (μ : MM) (K : LV → List Value → MM → Rs) : Rs := ppI st fun y st => ppI st fun x st => K ls (.int (f x y) :: st) μ
def lop (f : Int64 → Int64 → Int64) (ls : LV) (st : List Value) (μ : MM) (K : LV → List Value → MM → Rs) : Rs := ppL st fun y st => ppL st fun x st => K ls (.long (f x y) :: st) μ
def fput (as : List Nat) (v : Value) (st : List Value) (μ : MM) (ls : LV) (K : LV → List Value → MM → Rs) : Rs := match as with
  | k :: 0 :: cs => asI v fun x => ppR st fun a st => gd (cin cs (shp μ a)) (K ls st (sI μ a k x))
  | k :: 1 :: cs => asI v fun x => ppR st fun a st => gd (cin cs (shp μ a) && b01 x) (K ls st (sI μ a k x))
  | k :: 2 :: cs => asN v (ppR st fun a st => gd (cin cs (shp μ a)) (K ls st (sR μ a k none))) fun x => ppR st fun a st => gd (cin cs (shp μ a)) (K ls st (sR μ a k (some x)))
  | _ => none
def x1 (i : Instr) (as : List Nat) (ls : LV) (st : List Value) (μ : MM) (K : LV → List Value → MM → Rs) : Rs := match i with
  | .nop => match as with
    | [b] => J b ls st μ
    | _ => none
  | .aconst_null => K ls (.null :: st) μ
  | .iconst n => K ls (.int (Int32.ofInt n) :: st) μ
  | .bipush n => K ls (.int (Int8.ofInt n).toInt32 :: st) μ
  | .sipush n => K ls (.int (Int16.ofInt n).toInt32 :: st) μ
  | .lconst n => K ls (.long (Int64.ofNat (n : Nat)) :: st) μ
  | .ldc _ => match as with
    | [0, v] => K ls (.int (Int32.ofNat v) :: st) μ
    | [1, i] => K ls (.ref i :: st) μ
    | _ => none
  | .ldc_w _ => match as with
    | [0, v] => K ls (.int (Int32.ofNat v) :: st) μ
    | _ => none
  | .ldc2_w _ => match as with
    | [v] => K ls (.long (Int64.ofNat v) :: st) μ
    | _ => none
  | .iload n => lgt ls n fun v => asI v fun x => K ls (.int x :: st) μ
  | .iload_n n => lgt ls n fun v => asI v fun x => K ls (.int x :: st) μ
  | .lload n => lgt ls n fun v => asL v fun x => K ls (.long x :: st) μ
  | .lload_n n => lgt ls n fun v => asL v fun x => K ls (.long x :: st) μ
  | .aload n => lgt ls n fun v => asN v (K ls (.null :: st) μ) fun x => K ls (.ref x :: st) μ
  | .aload_n n => lgt ls n fun v => asN v (K ls (.null :: st) μ) fun x => K ls (.ref x :: st) μ
  | .istore n => ppI st fun x st => K (lst1 ls n (.int x)) st μ
  | .istore_n n => ppI st fun x st => K (lst1 ls n (.int x)) st μ
  | .lstore n => ppL st fun x st => K (lst2 ls n (.long x)) st μ
  | .lstore_n n => ppL st fun x st => K (lst2 ls n (.long x)) st μ
  | .astore n => p1 st fun v st => asN v (K (lst1 ls n .null) st μ) fun x => K (lst1 ls n (.ref x)) st μ
  | .astore_n n => p1 st fun v st => asN v (K (lst1 ls n .null) st μ) fun x => K (lst1 ls n (.ref x)) st μ
  | .iinc n k => lgt ls n fun v => asI v fun x => K (lst1 ls n (.int (x + Int32.ofInt k))) st μ
  | .iadd => iop (fun x y => x + y) ls st μ K
  | .isub => iop (fun x y => x - y) ls st μ K
  | .imul => iop (fun x y => x * y) ls st μ K
  | .iand => iop (fun x y => x &&& y) ls st μ K
  | .ior => iop (fun x y => x ||| y) ls st μ K
  | .ixor => iop (fun x y => x ^^^ y) ls st μ K
  | .ishl => iop (fun x y => x <<< (y &&& 31)) ls st μ K
  | .ishr => iop (fun x y => x >>> (y &&& 31)) ls st μ K
  | .idiv => ppI st fun y st => ppI st fun x st => gd (!decide (y = 0)) (K ls (.int (x / y) :: st) μ)
  | .irem => ppI st fun y st => ppI st fun x st => gd (!decide (y = 0)) (K ls (.int (x - x / y * y) :: st) μ)
  | .ineg => ppI st fun x st => K ls (.int (-x) :: st) μ
  | .i2l => ppI st fun x st => K ls (.long x.toInt64 :: st) μ
  | .i2b => ppI st fun x st => K ls (.int x.toInt8.toInt32 :: st) μ
  | .i2c => ppI st fun x st => K ls (.int (x.toUInt32 % 65536).toInt32 :: st) μ
  | .ladd => lop (fun x y => x + y) ls st μ K
  | .lsub => lop (fun x y => x - y) ls st μ K
  | .lmul => lop (fun x y => x * y) ls st μ K
  | .land => lop (fun x y => x &&& y) ls st μ K
  | .ldiv => ppL st fun y st => ppL st fun x st => gd (!decide (y = 0)) (K ls (.long (x / y) :: st) μ)
  | .lrem => ppL st fun y st => ppL st fun x st => gd (!decide (y = 0)) (K ls (.long (x - x / y * y) :: st) μ)
  | .lneg => ppL st fun x st => K ls (.long (-x) :: st) μ
  | .lshl => ppI st fun y st => ppL st fun x st => K ls (.long (x <<< (y.toInt64 &&& 63)) :: st) μ
  | .lshr => ppI st fun y st => ppL st fun x st => K ls (.long (x >>> (y.toInt64 &&& 63)) :: st) μ
  | .lcmp => ppL st fun y st => ppL st fun x st => K ls (.int (lg_cmp x y) :: st) μ
  | .dup => p1 st fun v st => cat1 v (K ls (v :: v :: st) μ)
  | .pop => p1 st fun v st => cat1 v (K ls st μ)
  | .dup2 => p1 st fun v st => match v with
    | .long x => K ls (.long x :: .long x :: st) μ
    | w => cat1 w (p1 st fun u st => cat1 u (K ls (w :: u :: w :: u :: st) μ))
  | .goto _ => match as with
    | [b] => J b ls st μ
    | _ => none
  | .ifCond c _ => match as with
    | [bt, bf] => ppI st fun x st => match c with
      | .eq => if x = 0 then J bt ls st μ else J bf ls st μ
      | .ne => if x = 0 then J bf ls st μ else J bt ls st μ
      | .lt => if x < 0 then J bt ls st μ else J bf ls st μ
      | .ge => if 0 ≤ x then J bt ls st μ else J bf ls st μ
      | .gt => if 0 < x then J bt ls st μ else J bf ls st μ
      | .le => if x ≤ 0 then J bt ls st μ else J bf ls st μ
    | _ => none
  | .if_icmp c _ => match as with
    | [bt, bf] => ppI st fun y st => ppI st fun x st => match c with
      | .eq => if x = y then J bt ls st μ else J bf ls st μ
      | .ne => if x = y then J bf ls st μ else J bt ls st μ
      | .lt => if x < y then J bt ls st μ else J bf ls st μ
      | .ge => if y ≤ x then J bt ls st μ else J bf ls st μ
      | .gt => if y < x then J bt ls st μ else J bf ls st μ
      | .le => if x ≤ y then J bt ls st μ else J bf ls st μ
    | _ => none
  | .ifnull _ => match as with
    | [bt, bf] => p1 st fun v st => asN v (J bt ls st μ) fun _ => J bf ls st μ
    | _ => none
  | .ifnonnull _ => match as with
    | [bt, bf] => p1 st fun v st => asN v (J bf ls st μ) fun _ => J bt ls st μ
    | _ => none
  | .tableswitch _ lo _ _ => match as with
    | d :: bs => ppI st fun x st => sw lo bs d x fun b => J b ls st μ
    | _ => none
  | .lookupswitch _ ps => match as with
    | d :: bs => ppI st fun x st => lsw ps.toList bs d x fun b => J b ls st μ
    | _ => none
  | .getfield _ => match as with
    | k :: 0 :: cs => ppR st fun a st => gd (cin cs (shp μ a)) (K ls (.int (gI μ a k) :: st) μ)
    | k :: 1 :: cs => ppR st fun a st => gd (cin cs (shp μ a)) (K ls (.int (gI μ a k) :: st) μ)
    | k :: 2 :: cs => ppR st fun a st => gd (cin cs (shp μ a)) (K ls (rv (gR μ a k) :: st) μ)
    | _ => none
  | .putfield _ => p1 st fun v st => fput as v st μ ls K
  | .getstatic _ => match as with
    | [0] => K ls (.int 1 :: st) μ
    | [1] => K ls (.retAddr 0 :: st) μ
    | _ => none
  | .arraylength => ppR st fun a st => gd (cin [20, 21, 22, 23, 24, 25, 31, 32] (shp μ a)) (K ls (.int (Int32.ofNat (aln μ a)) :: st) μ)
  | .iaload => ppI st fun i st => ppR st fun a st => gd (cin [20, 32] (shp μ a) && inb i (aln μ a)) (K ls (.int (gI μ a i.toNatClampNeg) :: st) μ)
  | .baload => ppI st fun i st => ppR st fun a st => gd (cin [22, 23, 31] (shp μ a) && inb i (aln μ a)) (K ls (.int (gI μ a i.toNatClampNeg) :: st) μ)
  | .laload => ppI st fun i st => ppR st fun a st => gd (cin [21] (shp μ a) && inb i (aln μ a)) (K ls (.long (gL μ a i.toNatClampNeg) :: st) μ)
  | .aaload => ppI st fun i st => ppR st fun a st => gd (cin [24, 25] (shp μ a) && inb i (aln μ a)) (K ls (rv (gR μ a i.toNatClampNeg) :: st) μ)
  | .iastore => ppI st fun x st => ppI st fun i st => ppR st fun a st => gd (cin [20] (shp μ a) && inb i (aln μ a)) (K ls st (sI μ a i.toNatClampNeg x))
  | .bastore => match as with
    | [0] => ppI st fun x st => ppI st fun i st => ppR st fun a st => gd (cin [22] (shp μ a) && inb i (aln μ a) && b01 x) (K ls st (sI μ a i.toNatClampNeg x))
    | [1] => ppI st fun x st => ppI st fun i st => ppR st fun a st => gd (cin [23] (shp μ a) && inb i (aln μ a)) (K ls st (sI μ a i.toNatClampNeg x.toInt8.toInt32))
    | _ => none
  | .lastore => ppL st fun x st => ppI st fun i st => ppR st fun a st => gd (cin [21] (shp μ a) && inb i (aln μ a)) (K ls st (sL μ a i.toNatClampNeg x))
  | .aastore => p1 st fun v st => ppI st fun i st => ppR st fun a st => asN v (gd (cin [24, 25] (shp μ a) && inb i (aln μ a)) (K ls st (sR μ a i.toNatClampNeg none))) fun x => gd (((cin [24] (shp μ a) && cin [3] (shp μ x)) || (cin [25] (shp μ a) && cin [0, 1, 2, 4, 6, 7, 8] (shp μ x))) && inb i (aln μ a)) (K ls st (sR μ a i.toNatClampNeg (some x)))
  | .newarray _ => match as with
    | [kd] => ppI st fun n st => gd (!decide (n < 0) && Nat.ble n.toNatClampNeg 100000) (K ls (.ref (msz μ) :: st) (alc μ kd n.toNatClampNeg n.toNatClampNeg))
    | _ => none
  | .anewarray _ => match as with
    | [kd] => ppI st fun n st => gd (!decide (n < 0) && Nat.ble n.toNatClampNeg 100000) (K ls (.ref (msz μ) :: st) (alc μ kd n.toNatClampNeg n.toNatClampNeg))
    | _ => none
  | .new _ => match as with
    | [ci, n] => K ls (.ref (msz μ) :: st) (alc μ ci 0 n)
    | _ => none
  | .instanceof _ => match as with
    | n :: cs => ppR st fun a st => gd (cin cs (shp μ a)) (match cin (cs.take n) (shp μ a) with
      | true => K ls (.int 1 :: st) μ
      | false => K ls (.int 0 :: st) μ)
    | _ => none
  | .invokestatic _ => match as with
    | [0, rk, n, M] => ppN n st [] fun ar st => gd (slr st) (bnd rk (C M ar μ) fun rs μ => K ls (rs ++ st) μ)
    | [4] => ppI st fun n st => ppI st fun dp st => ppR st fun d st => ppI st fun sp st => ppR st fun a st => gd (slr st && ((cin [20] (shp μ a) && cin [20] (shp μ d)) || (cin [23] (shp μ a) && (cin [23] (shp μ d) && fitB μ a sp.toNatClampNeg n.toNatClampNeg))) && !decide (sp < 0) && !decide (dp < 0) && !decide (n < 0) && Nat.ble (sp.toNatClampNeg + n.toNatClampNeg) (aln μ a) && Nat.ble (dp.toNatClampNeg + n.toNatClampNeg) (aln μ d)) (K ls st (cpI μ a sp.toNatClampNeg d dp.toNatClampNeg n.toNatClampNeg))
    | [5] => ppI st fun y st => ppI st fun x st => gd (slr st) (K ls (.int (if x < y then y else x) :: st) μ)
    | [6] => ppI st fun y st => ppI st fun x st => gd (slr st) (K ls (.int (if y < x then y else x) :: st) μ)
    | _ => none
  | .invokespecial _ => match as with
    | [3] => ppR st fun _ st => gd (slr st) (K ls st μ)
    | 1 :: rk :: n :: M :: cs => ppN n st [] fun ar st => ppR st fun a st => gd (slr st && cin cs (shp μ a)) (bnd rk (C M (.ref a :: ar) μ) fun rs μ => K ls (rs ++ st) μ)
    | _ => none
  | .invokevirtual _ => match as with
    | 2 :: rk :: n :: cs => ppN n st [] fun ar st => ppR st fun a st => gd (slr st) (dsp cs (shp μ a) fun M => bnd rk (C M (.ref a :: ar) μ) fun rs μ => K ls (rs ++ st) μ)
    | _ => none
  | .ireturn => match st with
    | [v] => asI v fun x => rtg as x (some (some (.int x), μ))
    | _ => none
  | .lreturn => match st with
    | [v] => asL v fun x => some (some (.long x), μ)
    | _ => none
  | .areturn => match st with
    | [v] => asN v (some (some .null, μ)) fun x => some (some (.ref x), μ)
    | _ => none
  | .return_ => match st with
    | [] => some (none, μ)
    | _ => none
  | _ => none
/-- a block's instructions -/
def xb : List RI → LV → List Value → MM → Rs
  | [], _, _, _ => none
  | e :: es, ls, st, μ => x1 C J e.2.1 e.2.2.2.1 ls st μ fun ls st μ => xb es ls st μ
end XB
/-- the live locals' values, in order -/
def pik : List Nat → LV → List Value → (List Value → Rs) → Rs
  | [], _, acc, k => k acc.reverse
  | i :: is, ls, acc, k => lgt ls i fun v => pik is ls (v :: acc) k
def mt0 : MT := (⟨"", "", ""⟩, ⟨#[]⟩, 0, none, [])
def blk (t : MT) (b : Nat) : List Nat × List RI := t.2.2.2.2.getD b ([], [])
end
section
/-! the code of the methods, by blocks: live locals, then the instructions (place, instruction, length, what it means here, places of its words in lw_tbl) -/
def kb_X0_init : List (List Nat × List RI) := [
  ([0, 1, 2, 3, 4, 5, 6], [(0, .aload_n 0, 1, [], []), (1, .iload_n 1, 1, [], []), (2, .iload_n 2, 1, [], []), (3, .iload_n 3, 1, [], []), (4, .iload 4, 2, [], []), (6, .iload 5, 2, [], []), (8, .aload 6, 2, [], []), (10, .invokespecial 1, 3, [1, 0, 6, 32, 0, 1, 2, 4, 6, 7, 8], [0, 511, 512]), (13, .nop, 0, [1], [])]),
  ([], [(13, .return_, 1, [], [])])]
def km_X0_init : MT := (yX0_init, cX0_init, 7, none, kb_X0_init)
def kb_X0_hoursFrom : List (List Nat × List RI) := [
  ([0], [(0, .aload_n 0, 1, [], []), (1, .getfield 7, 3, [3, 0, 0, 7], [531, 532]), (4, .iconst 1, 1, [], []), (5, .iadd, 1, [], []), (6, .iconst 2, 1, [], []), (7, .idiv, 1, [], []), (8, .ireturn, 1, [0], [])])]
def km_X0_hoursFrom : MT := (yX0_hoursFrom, cX0_hoursFrom, 2, (some .int), kb_X0_hoursFrom)
def kb_X0_sends : List (List Nat × List RI) := [
  ([0, 1], [(0, .aload_n 0, 1, [], []), (1, .getfield 13, 3, [5, 2, 0, 7], [542, 543]), (4, .bipush 11, 2, [], []), (6, .invokevirtual 17, 3, [2, 0, 1, 9, 46], [878, 0, 879, 880, 70, 0, 0, 0]), (9, .nop, 0, [1], [])]),
  ([0, 1], [(9, .aload_n 0, 1, [], []), (10, .iload_n 1, 1, [], []), (11, .iconst 3, 1, [], []), (12, .imul, 1, [], []), (13, .invokespecial 23, 3, [1, 1, 1, 36, 0, 7], [1, 882, 874, 566, 872, 0]), (16, .nop, 0, [2], [])]),
  ([], [(16, .ireturn, 1, [0], [])])]
def km_X0_sends : MT := (yX0_sends, cX0_sends, 2, (some .int), kb_X0_sends)
def kb_X1_init : List (List Nat × List RI) := [
  ([0, 1, 2, 3, 4, 5, 6], [(0, .aload_n 0, 1, [], []), (1, .iload_n 1, 1, [], []), (2, .iload_n 2, 1, [], []), (3, .iload_n 3, 1, [], []), (4, .iload 4, 2, [], []), (6, .iload 5, 2, [], []), (8, .aload 6, 2, [], []), (10, .invokespecial 1, 3, [1, 0, 6, 32, 0, 1, 2, 4, 6, 7, 8], [0, 572, 512]), (13, .nop, 0, [1], [])]),
  ([], [(13, .return_, 1, [], [])])]
def km_X1_init : MT := (yX1_init, cX1_init, 7, none, kb_X1_init)
def kb_X1_hoursFrom : List (List Nat × List RI) := [
  ([0, 1], [(0, .aload_n 0, 1, [], []), (1, .getfield 7, 3, [3, 0, 1, 8], [533, 534]), (4, .iload_n 1, 1, [], []), (5, .iconst 2, 1, [], []), (6, .irem, 1, [], []), (7, .iconst 1, 1, [], []), (8, .if_icmp .ne 12, 3, [2, 1], [])]),
  ([0], [(11, .aload_n 0, 1, [], []), (12, .getfield 13, 3, [2, 0, 1, 8], [525, 526]), (15, .iconst 3, 1, [], []), (16, .irem, 1, [], []), (17, .goto 4, 3, [3], [])]),
  ([], [(20, .iconst 0, 1, [], []), (21, .nop, 0, [3], [])]),
  ([], [(21, .iadd, 1, [], []), (22, .ireturn, 1, [0], [])])]
def km_X1_hoursFrom : MT := (yX1_hoursFrom, cX1_hoursFrom, 2, (some .int), kb_X1_hoursFrom)
def kb_X1_takes : List (List Nat × List RI) := [
  ([0, 1], [(0, .aload_n 0, 1, [], []), (1, .getfield 16, 3, [5, 2, 1, 8], [546, 547]), (4, .bipush 21, 2, [], []), (6, .invokevirtual 20, 3, [2, 0, 1, 9, 46], [904, 0, 879, 880, 70, 0, 0, 0]), (9, .nop, 0, [1], [])]),
  ([0, 1], [(9, .aload_n 0, 1, [], []), (10, .iload_n 1, 1, [], []), (11, .invokespecial 26, 3, [1, 1, 1, 37, 1, 8], [1, 905, 899, 579, 897, 0]), (14, .nop, 0, [2], [])]),
  ([], [(14, .ineg, 1, [], []), (15, .ireturn, 1, [0], [])])]
def km_X1_takes : MT := (yX1_takes, cX1_takes, 2, (some .int), kb_X1_takes)
def kb_X2_init : List (List Nat × List RI) := [
  ([0, 1, 2, 3, 4, 5, 6], [(0, .aload_n 0, 1, [], []), (1, .bipush 6, 2, [], []), (3, .iload_n 1, 1, [], []), (4, .iload_n 2, 1, [], []), (5, .iload_n 3, 1, [], []), (6, .iload 4, 2, [], []), (8, .aload 6, 2, [], []), (10, .invokespecial 3, 3, [1, 0, 6, 14, 2, 4], [0, 624, 583]), (13, .nop, 0, [1], [])]),
  ([0, 5], [(13, .aload_n 0, 1, [], []), (14, .iload 5, 2, [], []), (16, .putfield 9, 3, [6, 0, 2], [625, 0]), (19, .return_, 1, [], [])])]
def km_X2_init : MT := (yX2_init, cX2_init, 7, none, kb_X2_init)
def kb_X2_hoursFrom : List (List Nat × List RI) := [
  ([0, 1], [(0, .aload_n 0, 1, [], []), (1, .iload_n 1, 1, [], []), (2, .invokespecial 15, 3, [1, 1, 1, 15, 2], [1, 666, 1388, 634, 667, 0]), (5, .nop, 0, [1], [])]),
  ([0], [(5, .aload_n 0, 1, [], []), (6, .getfield 9, 3, [6, 0, 2], [625, 0]), (9, .iadd, 1, [], []), (10, .ireturn, 1, [0], [])])]
def km_X2_hoursFrom : MT := (yX2_hoursFrom, cX2_hoursFrom, 2, (some .int), kb_X2_hoursFrom)
def kb_X2_hoursSat : List (List Nat × List RI) := [
  ([0], [(0, .aload_n 0, 1, [], []), (1, .getfield 9, 3, [6, 0, 2], [625, 0]), (4, .ireturn, 1, [0], [])])]
def km_X2_hoursSat : MT := (yX2_hoursSat, cX2_hoursSat, 1, (some .int), kb_X2_hoursSat)
def kb_X2_takes : List (List Nat × List RI) := [
  ([0, 1], [(0, .aload_n 0, 1, [], []), (1, .getfield 19, 3, [5, 2, 2], [552, 553]), (4, .bipush 61, 2, [], []), (6, .invokevirtual 23, 3, [2, 0, 1, 9, 46], [909, 0, 879, 880, 70, 0, 0, 0]), (9, .nop, 0, [1], [])]),
  ([0, 1], [(9, .aload_n 0, 1, [], []), (10, .iload_n 1, 1, [], []), (11, .invokespecial 29, 3, [1, 1, 1, 37, 2], [1, 910, 911, 634, 897, 592]), (14, .nop, 0, [2], [])]),
  ([0], [(14, .aload_n 0, 1, [], []), (15, .getfield 32, 3, [2, 0, 2], [527, 528]), (18, .iadd, 1, [], []), (19, .ireturn, 1, [0], [])])]
def km_X2_takes : MT := (yX2_takes, cX2_takes, 2, (some .int), kb_X2_takes)
def kb_X3_init : List (List Nat × List RI) := [
  ([0, 1, 2, 3], [(0, .aload_n 0, 1, [], []), (1, .invokespecial 1, 3, [3], [428]), (4, .aload_n 0, 1, [], []), (5, .iload_n 1, 1, [], []), (6, .putfield 7, 3, [0, 0, 3], [429, 0]), (9, .aload_n 0, 1, [], []), (10, .iload_n 2, 1, [], []), (11, .putfield 13, 3, [1, 0, 3], [431, 0]), (14, .aload_n 0, 1, [], []), (15, .aload_n 3, 1, [], []), (16, .putfield 16, 3, [2, 2, 3], [433, 0]), (19, .return_, 1, [], [])])]
def km_X3_init : MT := (yX3_init, cX3_init, 4, none, kb_X3_init)
def kb_X3_holds : List (List Nat × List RI) := [
  ([0, 1], [(0, .iconst 0, 1, [], []), (1, .istore_n 2, 1, [], []), (2, .aload_n 0, 1, [], []), (3, .getfield 16, 3, [2, 2, 3], [433, 0]), (6, .astore_n 3, 1, [], []), (7, .aload_n 3, 1, [], []), (8, .arraylength, 1, [], []), (9, .istore 4, 2, [], []), (11, .iconst 0, 1, [], []), (12, .istore 5, 2, [], []), (14, .nop, 0, [1], [])]),
  ([1, 2, 3, 4, 5], [(14, .iload 5, 2, [], []), (16, .iload 4, 2, [], []), (18, .if_icmp .ge 97, 3, [12, 2], [])]),
  ([1, 2, 3, 4, 5], [(21, .aload_n 3, 1, [], []), (22, .iload 5, 2, [], []), (24, .iaload, 1, [], []), (25, .istore 6, 2, [], []), (27, .iload 6, 2, [], []), (29, .bipush 7, 2, [], []), (31, .iand, 1, [], []), (32, .tableswitch 58 5 7 #[28, 35, 47], 28, [6, 3, 4, 5], [])]),
  ([1, 2, 3, 4, 5], [(60, .iload_n 2, 1, [], []), (61, .iconst 1, 1, [], []), (62, .ixor, 1, [], []), (63, .istore_n 2, 1, [], []), (64, .goto 45, 3, [11], [])]),
  ([1, 2, 3, 4, 5], [(67, .iload_n 2, 1, [], []), (68, .iconst 1, 1, [], []), (69, .ishr, 1, [], []), (70, .iload_n 2, 1, [], []), (71, .bipush (-2), 2, [], []), (73, .ior, 1, [], []), (74, .iand, 1, [], []), (75, .istore_n 2, 1, [], []), (76, .goto 33, 3, [11], [])]),
  ([1, 2, 3, 4, 5], [(79, .iload_n 2, 1, [], []), (80, .iconst 1, 1, [], []), (81, .ishr, 1, [], []), (82, .iload_n 2, 1, [], []), (83, .iconst 1, 1, [], []), (84, .iand, 1, [], []), (85, .ior, 1, [], []), (86, .istore_n 2, 1, [], []), (87, .goto 22, 3, [11], [])]),
  ([1, 2, 3, 4, 5, 6], [(90, .iload_n 2, 1, [], []), (91, .iconst 1, 1, [], []), (92, .ishl, 1, [], []), (93, .iload 6, 2, [], []), (95, .iload_n 1, 1, [], []), (96, .invokestatic 20, 3, [0, 1, 2, 13], [0, 491, 492]), (99, .nop, 0, [7], [])]),
  ([1, 3, 4, 5], [(99, .ifCond .eq 7, 3, [9, 8], [])]),
  ([1, 3, 4, 5], [(102, .iconst 1, 1, [], []), (103, .goto 4, 3, [10], [])]),
  ([1, 3, 4, 5], [(106, .iconst 0, 1, [], []), (107, .nop, 0, [10], [])]),
  ([1, 3, 4, 5], [(107, .ior, 1, [], []), (108, .istore_n 2, 1, [], []), (109, .nop, 0, [11], [])]),
  ([1, 2, 3, 4, 5], [(109, .iinc 5 1, 3, [], []), (112, .goto (-98), 3, [1], [])]),
  ([2], [(115, .iload_n 2, 1, [], []), (116, .iconst 1, 1, [], []), (117, .iand, 1, [], []), (118, .iconst 1, 1, [], []), (119, .if_icmp .ne 7, 3, [14, 13], [])]),
  ([], [(122, .iconst 1, 1, [], []), (123, .goto 4, 3, [15], [])]),
  ([], [(126, .iconst 0, 1, [], []), (127, .nop, 0, [15], [])]),
  ([], [(127, .ireturn, 1, [1], [])])]
def km_X3_holds : MT := (yX3_holds, cX3_holds, 7, (some .boolean), kb_X3_holds)
def kb_X3_test : List (List Nat × List RI) := [
  ([0, 1, 2], [(0, .iload_n 0, 1, [], []), (1, .iload_n 1, 1, [], []), (2, .iconst 3, 1, [], []), (3, .ishl, 1, [], []), (4, .ior, 1, [], []), (5, .iload_n 2, 1, [], []), (6, .iconst 5, 1, [], []), (7, .ishl, 1, [], []), (8, .ior, 1, [], []), (9, .ireturn, 1, [0], [])])]
def km_X3_test : MT := (yX3_test, cX3_test, 3, (some .int), kb_X3_test)
def kb_X3_passes : List (List Nat × List RI) := [
  ([0, 1], [(0, .iload_n 1, 1, [], []), (1, .iconst 4, 1, [], []), (2, .iload_n 0, 1, [], []), (3, .bipush 7, 2, [], []), (5, .iand, 1, [], []), (6, .imul, 1, [], []), (7, .ishr, 1, [], []), (8, .bipush 15, 2, [], []), (10, .iand, 1, [], []), (11, .istore_n 2, 1, [], []), (12, .iload_n 0, 1, [], []), (13, .iconst 5, 1, [], []), (14, .ishr, 1, [], []), (15, .istore_n 3, 1, [], []), (16, .iload_n 0, 1, [], []), (17, .iconst 3, 1, [], []), (18, .ishr, 1, [], []), (19, .iconst 3, 1, [], []), (20, .iand, 1, [], []), (21, .lookupswitch 49 #[(0, 27), (1, 38)], 27, [9, 1, 5], [])]),
  ([2, 3], [(48, .iload_n 2, 1, [], []), (49, .iload_n 3, 1, [], []), (50, .if_icmp .ge 7, 3, [3, 2], [])]),
  ([], [(53, .iconst 1, 1, [], []), (54, .goto 4, 3, [4], [])]),
  ([], [(57, .iconst 0, 1, [], []), (58, .nop, 0, [4], [])]),
  ([], [(58, .ireturn, 1, [1], [])]),
  ([2, 3], [(59, .iload_n 2, 1, [], []), (60, .iload_n 3, 1, [], []), (61, .if_icmp .ne 7, 3, [7, 6], [])]),
  ([], [(64, .iconst 1, 1, [], []), (65, .goto 4, 3, [8], [])]),
  ([], [(68, .iconst 0, 1, [], []), (69, .nop, 0, [8], [])]),
  ([], [(69, .ireturn, 1, [1], [])]),
  ([2, 3], [(70, .iload_n 2, 1, [], []), (71, .iload_n 3, 1, [], []), (72, .if_icmp .le 7, 3, [11, 10], [])]),
  ([], [(75, .iconst 1, 1, [], []), (76, .goto 4, 3, [12], [])]),
  ([], [(79, .iconst 0, 1, [], []), (80, .nop, 0, [12], [])]),
  ([], [(80, .ireturn, 1, [1], [])])]
def km_X3_passes : MT := (yX3_passes, cX3_passes, 4, (some .boolean), kb_X3_passes)
def kb_X4_init : List (List Nat × List RI) := [
  ([0, 1, 2, 3, 4, 5, 6], [(0, .aload_n 0, 1, [], []), (1, .iload_n 1, 1, [], []), (2, .iload_n 2, 1, [], []), (3, .iload_n 3, 1, [], []), (4, .iload 4, 2, [], []), (6, .iload 5, 2, [], []), (8, .aload 6, 2, [], []), (10, .invokespecial 1, 3, [1, 0, 6, 32, 0, 1, 2, 4, 6, 7, 8], [0, 585, 512]), (13, .nop, 0, [1], [])]),
  ([], [(13, .return_, 1, [], [])])]
def km_X4_init : MT := (yX4_init, cX4_init, 7, none, kb_X4_init)
def kb_X4_hoursFrom : List (List Nat × List RI) := [
  ([0, 1], [(0, .iload_n 1, 1, [], []), (1, .bipush 12, 2, [], []), (3, .irem, 1, [], []), (4, .bipush 6, 2, [], []), (6, .if_icmp .lt 7, 3, [2, 1], [])]),
  ([], [(9, .iconst 1, 1, [], []), (10, .goto 7, 3, [3], [])]),
  ([0], [(13, .aload_n 0, 1, [], []), (14, .getfield 7, 3, [3, 0, 2, 4], [535, 536]), (17, .nop, 0, [3], [])]),
  ([], [(17, .ireturn, 1, [0], [])])]
def km_X4_hoursFrom : MT := (yX4_hoursFrom, cX4_hoursFrom, 2, (some .int), kb_X4_hoursFrom)
def kb_X4_tells : List (List Nat × List RI) := [
  ([0, 1], [(0, .aload_n 0, 1, [], []), (1, .getfield 13, 3, [5, 2, 2, 4], [548, 549]), (4, .bipush 31, 2, [], []), (6, .invokevirtual 17, 3, [2, 0, 1, 9, 46], [927, 0, 879, 880, 70, 0, 0, 0]), (9, .nop, 0, [1], [])]),
  ([0, 1], [(9, .aload_n 0, 1, [], []), (10, .iload_n 1, 1, [], []), (11, .invokespecial 23, 3, [1, 1, 1, 38, 2, 4], [1, 928, 921, 592, 919, 0]), (14, .nop, 0, [2], [])]),
  ([], [(14, .bipush 7, 2, [], []), (16, .ixor, 1, [], []), (17, .ireturn, 1, [0], [])])]
def km_X4_tells : MT := (yX4_tells, cX4_tells, 2, (some .int), kb_X4_tells)
def kb_X5_init : List (List Nat × List RI) := [
  ([0, 1], [(0, .aload_n 0, 1, [], []), (1, .invokespecial 3, 3, [3], [175]), (4, .aload_n 0, 1, [], []), (5, .bipush 10, 2, [], []), (7, .anewarray 9, 3, [24], [176]), (10, .putfield 11, 3, [1, 2, 5], [179, 0]), (13, .aload_n 0, 1, [], []), (14, .bipush 100, 2, [], []), (16, .newarray .int, 2, [20], [198]), (18, .putfield 17, 3, [2, 2, 5], [180, 0]), (21, .aload_n 0, 1, [], []), (22, .ldc 21, 2, [1, 0], []), (24, .putfield 23, 3, [4, 2, 5], [182, 0]), (27, .aload_n 0, 1, [], []), (28, .aload_n 1, 1, [], []), (29, .putfield 27, 3, [0, 2, 5], [178, 0]), (32, .return_, 1, [], [])])]
def km_X5_init : MT := (yX5_init, cX5_init, 2, none, kb_X5_init)
def kb_X5_readCoast : List (List Nat × List RI) := [
  ([0], [(0, .aload_n 0, 1, [], []), (1, .ldc 31, 2, [1, 1], []), (3, .putfield 23, 3, [4, 2, 5], [182, 0]), (6, .aload_n 0, 1, [], []), (7, .iconst 0, 1, [], []), (8, .putfield 33, 3, [5, 0, 5], [183, 0]), (11, .iconst 0, 1, [], []), (12, .istore_n 1, 1, [], []), (13, .iconst 1, 1, [], []), (14, .istore_n 2, 1, [], []), (15, .nop, 0, [1], [])]),
  ([0, 1, 2], [(15, .iload_n 2, 1, [], []), (16, .ifCond .eq 60, 3, [12, 2], [])]),
  ([0, 1], [(19, .iload_n 1, 1, [], []), (20, .aload_n 0, 1, [], []), (21, .getfield 11, 3, [1, 2, 5], [179, 0]), (24, .arraylength, 1, [], []), (25, .if_icmp .ge 51, 3, [12, 3], [])]),
  ([0, 1], [(28, .aload_n 0, 1, [], []), (29, .invokevirtual 37, 3, [2, 3, 0, 5, 22], [251, 0, 253, 0, 69, 0, 0, 0]), (32, .nop, 0, [4], [])]),
  ([0, 1], [(32, .astore_n 3, 1, [], []), (33, .aload_n 3, 1, [], []), (34, .ifnonnull 5, 3, [6, 5], [])]),
  ([], [(37, .aconst_null, 1, [], []), (38, .areturn, 1, [], [])]),
  ([0, 1, 3], [(39, .aload_n 0, 1, [], []), (40, .getfield 11, 3, [1, 2, 5], [179, 0]), (43, .iload_n 1, 1, [], []), (44, .aload_n 3, 1, [], []), (45, .aastore, 1, [], []), (46, .iinc 1 1, 3, [], []), (49, .iload_n 1, 1, [], []), (50, .aload_n 0, 1, [], []), (51, .getfield 11, 3, [1, 2, 5], [179, 0]), (54, .arraylength, 1, [], []), (55, .if_icmp .ge 16, 3, [10, 7], [])]),
  ([0, 1], [(58, .aload_n 0, 1, [], []), (59, .bipush 59, 2, [], []), (61, .invokevirtual 41, 3, [2, 1, 1, 5, 29], [316, 0, 318, 4, 69, 0, 0, 0]), (64, .nop, 0, [8], [])]),
  ([0, 1], [(64, .ifCond .eq 7, 3, [10, 9], [])]),
  ([0, 1], [(67, .iconst 1, 1, [], []), (68, .goto 4, 3, [11], [])]),
  ([0, 1], [(71, .iconst 0, 1, [], []), (72, .nop, 0, [11], [])]),
  ([0, 1], [(72, .istore_n 2, 1, [], []), (73, .goto (-58), 3, [1], [])]),
  ([0, 1], [(76, .aload_n 0, 1, [], []), (77, .getfield 33, 3, [5, 0, 5], [183, 0]), (80, .aload_n 0, 1, [], []), (81, .getfield 27, 3, [0, 2, 5], [178, 0]), (84, .getfield 45, 3, [1, 0, 10], [111, 0]), (87, .if_icmp .ne 11, 3, [15, 13], [])]),
  ([0, 1], [(90, .aload_n 0, 1, [], []), (91, .iload_n 1, 1, [], []), (92, .invokevirtual 50, 3, [2, 3, 1, 5, 19], [441, 0, 443, 11, 69, 0, 0, 0]), (95, .nop, 0, [14], [])]),
  ([], [(95, .goto 4, 3, [16], [])]),
  ([], [(98, .aconst_null, 1, [], []), (99, .nop, 0, [16], [])]),
  ([], [(99, .areturn, 1, [], [])])]
def km_X5_readCoast : MT := (yX5_readCoast, cX5_readCoast, 4, (some (.array (.object "TrueHeard$Clause"))), kb_X5_readCoast)
def kb_X5_firstClauses : List (List Nat × List RI) := [
  ([0, 1], [(0, .iconst 0, 1, [], []), (1, .iload_n 1, 1, [], []), (2, .invokestatic 54, 3, [5], [410, 354, 76, 355]), (5, .anewarray 9, 3, [24], [176]), (8, .astore_n 2, 1, [], []), (9, .iconst 0, 1, [], []), (10, .istore_n 3, 1, [], []), (11, .nop, 0, [1], [])]),
  ([0, 2, 3], [(11, .iload_n 3, 1, [], []), (12, .aload_n 2, 1, [], []), (13, .arraylength, 1, [], []), (14, .if_icmp .ge 27, 3, [4, 2], [])]),
  ([0, 2, 3], [(17, .iload_n 3, 1, [], []), (18, .aload_n 0, 1, [], []), (19, .getfield 11, 3, [1, 2, 5], [179, 0]), (22, .arraylength, 1, [], []), (23, .if_icmp .ge 18, 3, [4, 3], [])]),
  ([0, 2, 3], [(26, .aload_n 2, 1, [], []), (27, .iload_n 3, 1, [], []), (28, .aload_n 0, 1, [], []), (29, .getfield 11, 3, [1, 2, 5], [179, 0]), (32, .iload_n 3, 1, [], []), (33, .aaload, 1, [], []), (34, .aastore, 1, [], []), (35, .iinc 3 1, 3, [], []), (38, .goto (-27), 3, [1], [])]),
  ([2], [(41, .aload_n 2, 1, [], []), (42, .areturn, 1, [], [])])]
def km_X5_firstClauses : MT := (yX5_firstClauses, cX5_firstClauses, 4, (some (.array (.object "TrueHeard$Clause"))), kb_X5_firstClauses)
def kb_X5_readSaying : List (List Nat × List RI) := [
  ([0], [(0, .aload_n 0, 1, [], []), (1, .ldc 60, 2, [1, 6], []), (3, .putfield 23, 3, [4, 2, 5], [182, 0]), (6, .aload_n 0, 1, [], []), (7, .iconst 0, 1, [], []), (8, .putfield 33, 3, [5, 0, 5], [183, 0]), (11, .aload_n 0, 1, [], []), (12, .iconst 0, 1, [], []), (13, .putfield 62, 3, [3, 0, 5], [181, 0]), (16, .aload_n 0, 1, [], []), (17, .iconst 0, 1, [], []), (18, .invokevirtual 65, 3, [2, 1, 1, 5, 24], [326, 0, 328, 6, 69, 0, 0, 0]), (21, .nop, 0, [1], [])]),
  ([0], [(21, .ifCond .eq 26, 3, [5, 2], [])]),
  ([0], [(24, .aload_n 0, 1, [], []), (25, .getfield 33, 3, [5, 0, 5], [183, 0]), (28, .aload_n 0, 1, [], []), (29, .getfield 27, 3, [0, 2, 5], [178, 0]), (32, .getfield 45, 3, [1, 0, 10], [111, 0]), (35, .if_icmp .ne 12, 3, [5, 3], [])]),
  ([0], [(38, .aload_n 0, 1, [], []), (39, .iconst 3, 1, [], []), (40, .iconst 0, 1, [], []), (41, .invokevirtual 69, 3, [2, 3, 2, 5, 21], [405, 0, 407, 10, 69, 0, 0, 0]), (44, .nop, 0, [4], [])]),
  ([], [(44, .goto 4, 3, [6], [])]),
  ([], [(47, .aconst_null, 1, [], []), (48, .nop, 0, [6], [])]),
  ([], [(48, .areturn, 1, [], [])])]
def km_X5_readSaying : MT := (yX5_readSaying, cX5_readSaying, 1, (some (.object "TrueHeard$Clause")), kb_X5_readSaying)
def kb_X5_newClause : List (List Nat × List RI) := [
  ([0, 1, 2], [(0, .new 9, 3, [3, 3], [176, 409, 78]), (3, .dup, 1, [], []), (4, .iload_n 1, 1, [], []), (5, .iload_n 2, 1, [], []), (6, .aload_n 0, 1, [], []), (7, .getfield 17, 3, [2, 2, 5], [180, 0]), (10, .iconst 0, 1, [], []), (11, .aload_n 0, 1, [], []), (12, .getfield 62, 3, [3, 0, 5], [181, 0]), (15, .invokestatic 54, 3, [5], [410, 354, 76, 355]), (18, .invokestatic 73, 3, [0, 3, 2, 207], [0, 411, 412]), (21, .nop, 0, [1], [])]),
  ([], [(21, .invokespecial 79, 3, [1, 0, 3, 10, 3], [0, 425, 426]), (24, .nop, 0, [2], [])]),
  ([], [(24, .areturn, 1, [], [])])]
def km_X5_newClause : MT := (yX5_newClause, cX5_newClause, 3, (some (.object "TrueHeard$Clause")), kb_X5_newClause)
def kb_X5_readClause : List (List Nat × List RI) := [
  ([0], [(0, .aload_n 0, 1, [], []), (1, .iconst 0, 1, [], []), (2, .putfield 62, 3, [3, 0, 5], [181, 0]), (5, .aload_n 0, 1, [], []), (6, .invokevirtual 82, 3, [2, 1, 0, 5, 23], [255, 0, 257, 1, 69, 0, 0, 0]), (9, .nop, 0, [1], [])]),
  ([0], [(9, .istore_n 1, 1, [], []), (10, .iload_n 1, 1, [], []), (11, .ifCond .lt 12, 3, [4, 2], [])]),
  ([0, 1], [(14, .aload_n 0, 1, [], []), (15, .bipush 32, 2, [], []), (17, .invokevirtual 41, 3, [2, 1, 1, 5, 29], [316, 0, 318, 4, 69, 0, 0, 0]), (20, .nop, 0, [3], [])]),
  ([0, 1], [(20, .ifCond .ne 5, 3, [5, 4], [])]),
  ([], [(23, .aconst_null, 1, [], []), (24, .areturn, 1, [], [])]),
  ([0, 1], [(25, .aload_n 0, 1, [], []), (26, .invokevirtual 86, 3, [2, 1, 0, 5, 27], [322, 0, 324, 5, 69, 0, 0, 0]), (29, .nop, 0, [6], [])]),
  ([0, 1], [(29, .istore_n 2, 1, [], []), (30, .iload_n 2, 1, [], []), (31, .ifCond .lt 20, 3, [11, 7], [])]),
  ([0, 1, 2], [(34, .aload_n 0, 1, [], []), (35, .bipush 32, 2, [], []), (37, .invokevirtual 41, 3, [2, 1, 1, 5, 29], [316, 0, 318, 4, 69, 0, 0, 0]), (40, .nop, 0, [8], [])]),
  ([0, 1, 2], [(40, .ifCond .eq 11, 3, [11, 9], [])]),
  ([0, 1, 2], [(43, .aload_n 0, 1, [], []), (44, .iconst 0, 1, [], []), (45, .invokevirtual 65, 3, [2, 1, 1, 5, 24], [326, 0, 328, 6, 69, 0, 0, 0]), (48, .nop, 0, [10], [])]),
  ([0, 1, 2], [(48, .ifCond .ne 5, 3, [12, 11], [])]),
  ([], [(51, .aconst_null, 1, [], []), (52, .areturn, 1, [], [])]),
  ([0, 1, 2], [(53, .aload_n 0, 1, [], []), (54, .iload_n 1, 1, [], []), (55, .iload_n 2, 1, [], []), (56, .invokevirtual 69, 3, [2, 3, 2, 5, 21], [405, 0, 407, 10, 69, 0, 0, 0]), (59, .nop, 0, [13], [])]),
  ([], [(59, .areturn, 1, [], [])])]
def km_X5_readClause : MT := (yX5_readClause, cX5_readClause, 3, (some (.object "TrueHeard$Clause")), kb_X5_readClause)
def kb_X5_readWord : List (List Nat × List RI) := [
  ([0], [(0, .aload_n 0, 1, [], []), (1, .invokevirtual 89, 3, [2, 1, 0, 5, 30], [259, 0, 261, 2, 69, 0, 0, 0]), (4, .nop, 0, [1], [])]),
  ([0], [(4, .bipush 116, 2, [], []), (6, .if_icmp .ne 18, 3, [7, 2], [])]),
  ([0], [(9, .aload_n 0, 1, [], []), (10, .ldc 92, 2, [1, 2], []), (12, .invokevirtual 94, 3, [2, 1, 1, 5, 28], [264, 0, 266, 3, 69, 0, 0, 0]), (15, .nop, 0, [3], [])]),
  ([], [(15, .ifCond .eq 7, 3, [5, 4], [])]),
  ([], [(18, .iconst 0, 1, [], []), (19, .goto 4, 3, [6], [])]),
  ([], [(22, .iconst (-1), 1, [], []), (23, .nop, 0, [6], [])]),
  ([], [(23, .ireturn, 1, [0], [])]),
  ([0], [(24, .aload_n 0, 1, [], []), (25, .bipush 100, 2, [], []), (27, .invokevirtual 41, 3, [2, 1, 1, 5, 29], [316, 0, 318, 4, 69, 0, 0, 0]), (30, .nop, 0, [8], [])]),
  ([0], [(30, .ifCond .ne 5, 3, [10, 9], [])]),
  ([], [(33, .iconst (-1), 1, [], []), (34, .ireturn, 1, [0], [])]),
  ([0], [(35, .aload_n 0, 1, [], []), (36, .invokevirtual 89, 3, [2, 1, 0, 5, 30], [259, 0, 261, 2, 69, 0, 0, 0]), (39, .nop, 0, [11], [])]),
  ([0], [(39, .bipush 114, 2, [], []), (41, .if_icmp .ne 18, 3, [17, 12], [])]),
  ([0], [(44, .aload_n 0, 1, [], []), (45, .ldc 98, 2, [1, 3], []), (47, .invokevirtual 94, 3, [2, 1, 1, 5, 28], [264, 0, 266, 3, 69, 0, 0, 0]), (50, .nop, 0, [13], [])]),
  ([], [(50, .ifCond .eq 7, 3, [15, 14], [])]),
  ([], [(53, .iconst 1, 1, [], []), (54, .goto 4, 3, [16], [])]),
  ([], [(57, .iconst (-1), 1, [], []), (58, .nop, 0, [16], [])]),
  ([], [(58, .ireturn, 1, [0], [])]),
  ([0], [(59, .aload_n 0, 1, [], []), (60, .ldc 100, 2, [1, 4], []), (62, .invokevirtual 94, 3, [2, 1, 1, 5, 28], [264, 0, 266, 3, 69, 0, 0, 0]), (65, .nop, 0, [18], [])]),
  ([], [(65, .ifCond .eq 7, 3, [20, 19], [])]),
  ([], [(68, .iconst 2, 1, [], []), (69, .goto 4, 3, [21], [])]),
  ([], [(72, .iconst (-1), 1, [], []), (73, .nop, 0, [21], [])]),
  ([], [(73, .ireturn, 1, [0], [])])]
def km_X5_readWord : MT := (yX5_readWord, cX5_readWord, 1, (some .int), kb_X5_readWord)
def kb_X5_readAny : List (List Nat × List RI) := [
  ([0, 1], [(0, .iconst 1, 1, [], []), (1, .istore_n 2, 1, [], []), (2, .iconst 0, 1, [], []), (3, .istore_n 3, 1, [], []), (4, .nop, 0, [1], [])]),
  ([0, 1, 2, 3], [(4, .iload_n 2, 1, [], []), (5, .ifCond .eq 83, 3, [19, 2], [])]),
  ([0, 1, 3], [(8, .iload_n 3, 1, [], []), (9, .bipush 100, 2, [], []), (11, .if_icmp .ge 77, 3, [19, 3], [])]),
  ([0, 1, 3], [(14, .aload_n 0, 1, [], []), (15, .iload_n 1, 1, [], []), (16, .invokevirtual 102, 3, [2, 1, 1, 5, 25], [330, 0, 332, 7, 69, 0, 0, 0]), (19, .nop, 0, [4], [])]),
  ([0, 1, 3], [(19, .ifCond .ne 5, 3, [6, 5], [])]),
  ([], [(22, .iconst 0, 1, [], []), (23, .ireturn, 1, [1], [])]),
  ([0, 1, 3], [(24, .iconst 0, 1, [], []), (25, .istore 4, 2, [], []), (27, .nop, 0, [7], [])]),
  ([0, 1, 3, 4], [(27, .iload 4, 2, [], []), (29, .bipush 100, 2, [], []), (31, .if_icmp .ge 34, 3, [15, 8], [])]),
  ([0, 1, 3, 4], [(34, .aload_n 0, 1, [], []), (35, .bipush 38, 2, [], []), (37, .invokevirtual 41, 3, [2, 1, 1, 5, 29], [316, 0, 318, 4, 69, 0, 0, 0]), (40, .nop, 0, [9], [])]),
  ([0, 1, 3, 4], [(40, .ifCond .eq 25, 3, [15, 10], [])]),
  ([0, 1, 3, 4], [(43, .aload_n 0, 1, [], []), (44, .iload_n 1, 1, [], []), (45, .invokevirtual 102, 3, [2, 1, 1, 5, 25], [330, 0, 332, 7, 69, 0, 0, 0]), (48, .nop, 0, [11], [])]),
  ([0, 1, 3, 4], [(48, .ifCond .ne 5, 3, [13, 12], [])]),
  ([], [(51, .iconst 0, 1, [], []), (52, .ireturn, 1, [1], [])]),
  ([0, 1, 3, 4], [(53, .aload_n 0, 1, [], []), (54, .bipush 6, 2, [], []), (56, .invokevirtual 105, 3, [2, 0, 1, 5, 31], [401, 0, 403, 9, 69, 0, 0, 0]), (59, .nop, 0, [14], [])]),
  ([0, 1, 3, 4], [(59, .iinc 4 1, 3, [], []), (62, .goto (-35), 3, [7], [])]),
  ([0, 1, 3], [(65, .iload_n 3, 1, [], []), (66, .ifCond .le 9, 3, [17, 16], [])]),
  ([0, 1, 3], [(69, .aload_n 0, 1, [], []), (70, .bipush 7, 2, [], []), (72, .invokevirtual 105, 3, [2, 0, 1, 5, 31], [401, 0, 403, 9, 69, 0, 0, 0]), (75, .nop, 0, [17], [])]),
  ([0, 1, 3], [(75, .aload_n 0, 1, [], []), (76, .bipush 124, 2, [], []), (78, .invokevirtual 41, 3, [2, 1, 1, 5, 29], [316, 0, 318, 4, 69, 0, 0, 0]), (81, .nop, 0, [18], [])]),
  ([0, 1, 3], [(81, .istore_n 2, 1, [], []), (82, .iinc 3 1, 3, [], []), (85, .goto (-81), 3, [1], [])]),
  ([], [(88, .iconst 1, 1, [], []), (89, .ireturn, 1, [1], [])])]
def km_X5_readAny : MT := (yX5_readAny, cX5_readAny, 5, (some .boolean), kb_X5_readAny)
def kb_X5_readOne : List (List Nat × List RI) := [
  ([0, 1], [(0, .aload_n 0, 1, [], []), (1, .invokevirtual 89, 3, [2, 1, 0, 5, 30], [259, 0, 261, 2, 69, 0, 0, 0]), (4, .nop, 0, [1], [])]),
  ([0, 1], [(4, .bipush 33, 2, [], []), (6, .if_icmp .eq 17, 3, [6, 2], [])]),
  ([0, 1], [(9, .aload_n 0, 1, [], []), (10, .invokevirtual 89, 3, [2, 1, 0, 5, 30], [259, 0, 261, 2, 69, 0, 0, 0]), (13, .nop, 0, [3], [])]),
  ([0, 1], [(13, .bipush 40, 2, [], []), (15, .if_icmp .eq 8, 3, [6, 4], [])]),
  ([0], [(18, .aload_n 0, 1, [], []), (19, .invokevirtual 109, 3, [2, 1, 0, 5, 26], [334, 0, 336, 8, 69, 0, 0, 0]), (22, .nop, 0, [5], [])]),
  ([], [(22, .ireturn, 1, [1], [])]),
  ([0, 1], [(23, .iload_n 1, 1, [], []), (24, .iconst 5, 1, [], []), (25, .if_icmp .lt 5, 3, [8, 7], [])]),
  ([], [(28, .iconst 0, 1, [], []), (29, .ireturn, 1, [1], [])]),
  ([0, 1], [(30, .aload_n 0, 1, [], []), (31, .bipush 40, 2, [], []), (33, .invokevirtual 41, 3, [2, 1, 1, 5, 29], [316, 0, 318, 4, 69, 0, 0, 0]), (36, .nop, 0, [9], [])]),
  ([0, 1], [(36, .ifCond .eq 28, 3, [17, 10], [])]),
  ([0, 1], [(39, .aload_n 0, 1, [], []), (40, .iload_n 1, 1, [], []), (41, .iconst 1, 1, [], []), (42, .iadd, 1, [], []), (43, .invokevirtual 65, 3, [2, 1, 1, 5, 24], [326, 0, 328, 6, 69, 0, 0, 0]), (46, .nop, 0, [11], [])]),
  ([0], [(46, .ifCond .eq 16, 3, [15, 12], [])]),
  ([0], [(49, .aload_n 0, 1, [], []), (50, .bipush 41, 2, [], []), (52, .invokevirtual 41, 3, [2, 1, 1, 5, 29], [316, 0, 318, 4, 69, 0, 0, 0]), (55, .nop, 0, [13], [])]),
  ([], [(55, .ifCond .eq 7, 3, [15, 14], [])]),
  ([], [(58, .iconst 1, 1, [], []), (59, .goto 4, 3, [16], [])]),
  ([], [(62, .iconst 0, 1, [], []), (63, .nop, 0, [16], [])]),
  ([], [(63, .ireturn, 1, [1], [])]),
  ([0, 1], [(64, .aload_n 0, 1, [], []), (65, .bipush 33, 2, [], []), (67, .invokevirtual 41, 3, [2, 1, 1, 5, 29], [316, 0, 318, 4, 69, 0, 0, 0]), (70, .nop, 0, [18], [])]),
  ([0, 1], [(70, .ifCond .eq 13, 3, [21, 19], [])]),
  ([0, 1], [(73, .aload_n 0, 1, [], []), (74, .iload_n 1, 1, [], []), (75, .iconst 1, 1, [], []), (76, .iadd, 1, [], []), (77, .invokevirtual 102, 3, [2, 1, 1, 5, 25], [330, 0, 332, 7, 69, 0, 0, 0]), (80, .nop, 0, [20], [])]),
  ([0], [(80, .ifCond .ne 5, 3, [22, 21], [])]),
  ([], [(83, .iconst 0, 1, [], []), (84, .ireturn, 1, [1], [])]),
  ([0], [(85, .aload_n 0, 1, [], []), (86, .iconst 5, 1, [], []), (87, .invokevirtual 105, 3, [2, 0, 1, 5, 31], [401, 0, 403, 9, 69, 0, 0, 0]), (90, .nop, 0, [23], [])]),
  ([], [(90, .iconst 1, 1, [], []), (91, .ireturn, 1, [1], [])])]
def km_X5_readOne : MT := (yX5_readOne, cX5_readOne, 2, (some .boolean), kb_X5_readOne)
def kb_X5_readTest : List (List Nat × List RI) := [
  ([0], [(0, .aload_n 0, 1, [], []), (1, .getfield 23, 3, [4, 2, 5], [182, 0]), (4, .aload_n 0, 1, [], []), (5, .invokevirtual 89, 3, [2, 1, 0, 5, 30], [259, 0, 261, 2, 69, 0, 0, 0]), (8, .nop, 0, [1], [])]),
  ([0], [(8, .i2c, 1, [], []), (9, .invokevirtual 113, 3, [2, 1, 1, 30, 198], [338, 0, 339, 340, 72, 0, 0, 0]), (12, .nop, 0, [2], [])]),
  ([0], [(12, .istore_n 1, 1, [], []), (13, .iload_n 1, 1, [], []), (14, .ifCond .ge 5, 3, [4, 3], [])]),
  ([], [(17, .iconst 0, 1, [], []), (18, .ireturn, 1, [1], [])]),
  ([0, 1], [(19, .aload_n 0, 1, [], []), (20, .dup, 1, [], []), (21, .getfield 33, 3, [5, 0, 5], [183, 0]), (24, .iconst 1, 1, [], []), (25, .iadd, 1, [], []), (26, .putfield 33, 3, [5, 0, 5], [183, 0]), (29, .ldc 119, 2, [1, 5], []), (31, .aload_n 0, 1, [], []), (32, .invokevirtual 89, 3, [2, 1, 0, 5, 30], [259, 0, 261, 2, 69, 0, 0, 0]), (35, .nop, 0, [5], [])]),
  ([0, 1], [(35, .i2c, 1, [], []), (36, .invokevirtual 113, 3, [2, 1, 1, 30, 198], [338, 0, 339, 340, 72, 0, 0, 0]), (39, .nop, 0, [6], [])]),
  ([0, 1], [(39, .istore_n 2, 1, [], []), (40, .iload_n 2, 1, [], []), (41, .ifCond .ge 5, 3, [8, 7], [])]),
  ([], [(44, .iconst 0, 1, [], []), (45, .ireturn, 1, [1], [])]),
  ([0, 1, 2], [(46, .aload_n 0, 1, [], []), (47, .dup, 1, [], []), (48, .getfield 33, 3, [5, 0, 5], [183, 0]), (51, .iconst 1, 1, [], []), (52, .iadd, 1, [], []), (53, .putfield 33, 3, [5, 0, 5], [183, 0]), (56, .aload_n 0, 1, [], []), (57, .invokevirtual 86, 3, [2, 1, 0, 5, 27], [322, 0, 324, 5, 69, 0, 0, 0]), (60, .nop, 0, [9], [])]),
  ([0, 1, 2], [(60, .istore_n 3, 1, [], []), (61, .iload_n 3, 1, [], []), (62, .ifCond .ge 5, 3, [11, 10], [])]),
  ([], [(65, .iconst 0, 1, [], []), (66, .ireturn, 1, [1], [])]),
  ([0, 1, 2, 3], [(67, .aload_n 0, 1, [], []), (68, .iload_n 1, 1, [], []), (69, .iload_n 2, 1, [], []), (70, .iload_n 3, 1, [], []), (71, .invokestatic 121, 3, [0, 1, 3, 12], [0, 398, 399]), (74, .nop, 0, [12], [])]),
  ([], [(74, .invokevirtual 105, 3, [2, 0, 1, 5, 31], [401, 0, 403, 9, 69, 0, 0, 0]), (77, .nop, 0, [13], [])]),
  ([], [(77, .iconst 1, 1, [], []), (78, .ireturn, 1, [1], [])])]
def km_X5_readTest : MT := (yX5_readTest, cX5_readTest, 4, (some .boolean), kb_X5_readTest)
def kb_X5_readNumber : List (List Nat × List RI) := [
  ([0], [(0, .aload_n 0, 1, [], []), (1, .invokevirtual 89, 3, [2, 1, 0, 5, 30], [259, 0, 261, 2, 69, 0, 0, 0]), (4, .nop, 0, [1], [])]),
  ([0], [(4, .bipush 48, 2, [], []), (6, .isub, 1, [], []), (7, .istore_n 1, 1, [], []), (8, .iload_n 1, 1, [], []), (9, .ifCond .lt 9, 3, [3, 2], [])]),
  ([0, 1], [(12, .iload_n 1, 1, [], []), (13, .bipush 9, 2, [], []), (15, .if_icmp .le 5, 3, [4, 3], [])]),
  ([], [(18, .iconst (-1), 1, [], []), (19, .ireturn, 1, [0], [])]),
  ([0, 1], [(20, .aload_n 0, 1, [], []), (21, .dup, 1, [], []), (22, .getfield 33, 3, [5, 0, 5], [183, 0]), (25, .iconst 1, 1, [], []), (26, .iadd, 1, [], []), (27, .putfield 33, 3, [5, 0, 5], [183, 0]), (30, .aload_n 0, 1, [], []), (31, .invokevirtual 89, 3, [2, 1, 0, 5, 30], [259, 0, 261, 2, 69, 0, 0, 0]), (34, .nop, 0, [5], [])]),
  ([0, 1], [(34, .bipush 48, 2, [], []), (36, .isub, 1, [], []), (37, .istore_n 2, 1, [], []), (38, .iload_n 1, 1, [], []), (39, .ifCond .eq 13, 3, [8, 6], [])]),
  ([0, 1, 2], [(42, .iload_n 2, 1, [], []), (43, .ifCond .lt 9, 3, [8, 7], [])]),
  ([0, 1, 2], [(46, .iload_n 2, 1, [], []), (47, .bipush 9, 2, [], []), (49, .if_icmp .le 5, 3, [9, 8], [])]),
  ([1], [(52, .iload_n 1, 1, [], []), (53, .ireturn, 1, [0], [])]),
  ([0, 1, 2], [(54, .aload_n 0, 1, [], []), (55, .dup, 1, [], []), (56, .getfield 33, 3, [5, 0, 5], [183, 0]), (59, .iconst 1, 1, [], []), (60, .iadd, 1, [], []), (61, .putfield 33, 3, [5, 0, 5], [183, 0]), (64, .iload_n 1, 1, [], []), (65, .bipush 10, 2, [], []), (67, .imul, 1, [], []), (68, .iload_n 2, 1, [], []), (69, .iadd, 1, [], []), (70, .ireturn, 1, [0], [])])]
def km_X5_readNumber : MT := (yX5_readNumber, cX5_readNumber, 3, (some .int), kb_X5_readNumber)
def kb_X5_goOnAll : List (List Nat × List RI) := [
  ([0, 1], [(0, .iconst 0, 1, [], []), (1, .istore_n 2, 1, [], []), (2, .nop, 0, [1], [])]),
  ([0, 1, 2], [(2, .iload_n 2, 1, [], []), (3, .aload_n 1, 1, [], []), (4, .invokevirtual 125, 3, [2, 1, 0, 30, 196], [268, 0, 269, 270, 72, 0, 0, 0]), (7, .nop, 0, [2], [])]),
  ([0, 1, 2], [(7, .if_icmp .ge 23, 3, [8, 3], [])]),
  ([0, 1, 2], [(10, .aload_n 0, 1, [], []), (11, .aload_n 1, 1, [], []), (12, .iload_n 2, 1, [], []), (13, .invokevirtual 128, 3, [2, 1, 1, 30, 197], [278, 0, 279, 280, 72, 0, 0, 0]), (16, .nop, 0, [4], [])]),
  ([0, 1, 2], [(16, .invokevirtual 41, 3, [2, 1, 1, 5, 29], [316, 0, 318, 4, 69, 0, 0, 0]), (19, .nop, 0, [5], [])]),
  ([0, 1, 2], [(19, .ifCond .ne 5, 3, [7, 6], [])]),
  ([], [(22, .iconst 0, 1, [], []), (23, .ireturn, 1, [1], [])]),
  ([0, 1, 2], [(24, .iinc 2 1, 3, [], []), (27, .goto (-25), 3, [1], [])]),
  ([], [(30, .iconst 1, 1, [], []), (31, .ireturn, 1, [1], [])])]
def km_X5_goOnAll : MT := (yX5_goOnAll, cX5_goOnAll, 3, (some .boolean), kb_X5_goOnAll)
def kb_X5_goOn : List (List Nat × List RI) := [
  ([0, 1], [(0, .aload_n 0, 1, [], []), (1, .invokevirtual 89, 3, [2, 1, 0, 5, 30], [259, 0, 261, 2, 69, 0, 0, 0]), (4, .nop, 0, [1], [])]),
  ([0, 1], [(4, .iload_n 1, 1, [], []), (5, .if_icmp .eq 5, 3, [3, 2], [])]),
  ([], [(8, .iconst 0, 1, [], []), (9, .ireturn, 1, [1], [])]),
  ([0], [(10, .aload_n 0, 1, [], []), (11, .dup, 1, [], []), (12, .getfield 33, 3, [5, 0, 5], [183, 0]), (15, .iconst 1, 1, [], []), (16, .iadd, 1, [], []), (17, .putfield 33, 3, [5, 0, 5], [183, 0]), (20, .iconst 1, 1, [], []), (21, .ireturn, 1, [1], [])])]
def km_X5_goOn : MT := (yX5_goOn, cX5_goOn, 2, (some .boolean), kb_X5_goOn)
def kb_X5_sign : List (List Nat × List RI) := [
  ([0], [(0, .aload_n 0, 1, [], []), (1, .getfield 33, 3, [5, 0, 5], [183, 0]), (4, .ifCond .lt 36, 3, [4, 1], [])]),
  ([0], [(7, .aload_n 0, 1, [], []), (8, .getfield 33, 3, [5, 0, 5], [183, 0]), (11, .aload_n 0, 1, [], []), (12, .getfield 27, 3, [0, 2, 5], [178, 0]), (15, .getfield 45, 3, [1, 0, 10], [111, 0]), (18, .if_icmp .ge 22, 3, [4, 2], [])]),
  ([0], [(21, .aload_n 0, 1, [], []), (22, .getfield 33, 3, [5, 0, 5], [183, 0]), (25, .aload_n 0, 1, [], []), (26, .getfield 27, 3, [0, 2, 5], [178, 0]), (29, .getfield 132, 3, [0, 2, 10], [108, 0]), (32, .arraylength, 1, [], []), (33, .if_icmp .ge 7, 3, [4, 3], [])]),
  ([0], [(36, .iconst 1, 1, [], []), (37, .goto 4, 3, [5], [])]),
  ([0], [(40, .iconst 0, 1, [], []), (41, .nop, 0, [5], [])]),
  ([0], [(41, .istore_n 1, 1, [], []), (42, .iload_n 1, 1, [], []), (43, .ifCond .eq 18, 3, [7, 6], [])]),
  ([0], [(46, .aload_n 0, 1, [], []), (47, .getfield 27, 3, [0, 2, 5], [178, 0]), (50, .getfield 132, 3, [0, 2, 10], [108, 0]), (53, .aload_n 0, 1, [], []), (54, .getfield 33, 3, [5, 0, 5], [183, 0]), (57, .baload, 1, [], []), (58, .goto 6, 3, [8], [])]),
  ([], [(61, .sipush 128, 3, [], []), (64, .nop, 0, [8], [])]),
  ([], [(64, .ireturn, 1, [0], [])])]
def km_X5_sign : MT := (yX5_sign, cX5_sign, 2, (some .int), kb_X5_sign)
def kb_X5_add : List (List Nat × List RI) := [
  ([0, 1], [(0, .aload_n 0, 1, [], []), (1, .getfield 62, 3, [3, 0, 5], [181, 0]), (4, .aload_n 0, 1, [], []), (5, .getfield 17, 3, [2, 2, 5], [180, 0]), (8, .arraylength, 1, [], []), (9, .if_icmp .ge 23, 3, [2, 1], [])]),
  ([0, 1], [(12, .aload_n 0, 1, [], []), (13, .getfield 17, 3, [2, 2, 5], [180, 0]), (16, .aload_n 0, 1, [], []), (17, .getfield 62, 3, [3, 0, 5], [181, 0]), (20, .iload_n 1, 1, [], []), (21, .iastore, 1, [], []), (22, .aload_n 0, 1, [], []), (23, .dup, 1, [], []), (24, .getfield 62, 3, [3, 0, 5], [181, 0]), (27, .iconst 1, 1, [], []), (28, .iadd, 1, [], []), (29, .putfield 62, 3, [3, 0, 5], [181, 0]), (32, .nop, 0, [2], [])]),
  ([], [(32, .return_, 1, [], [])])]
def km_X5_add : MT := (yX5_add, cX5_add, 2, none, kb_X5_add)
def kb_X6_init : List (List Nat × List RI) := [
  ([0, 1, 2, 3, 4, 5, 6], [(0, .aload_n 0, 1, [], []), (1, .invokespecial 1, 3, [3], [514]), (4, .aload_n 0, 1, [], []), (5, .iload_n 1, 1, [], []), (6, .putfield 7, 3, [0, 0, 0, 1, 2, 4, 6, 7, 8], [515, 0]), (9, .aload_n 0, 1, [], []), (10, .iload_n 2, 1, [], []), (11, .putfield 13, 3, [1, 0, 0, 1, 2, 4, 6, 7, 8], [518, 0]), (14, .aload_n 0, 1, [], []), (15, .iload_n 3, 1, [], []), (16, .putfield 16, 3, [2, 0, 0, 1, 2, 4, 6, 7, 8], [522, 0]), (19, .aload_n 0, 1, [], []), (20, .iload 4, 2, [], []), (22, .putfield 19, 3, [3, 0, 0, 1, 2, 4, 6, 7, 8], [530, 0]), (25, .aload_n 0, 1, [], []), (26, .iload 5, 2, [], []), (28, .putfield 22, 3, [4, 0, 0, 1, 2, 4, 6, 7, 8], [538, 0]), (31, .aload_n 0, 1, [], []), (32, .aload 6, 2, [], []), (34, .putfield 25, 3, [5, 2, 0, 1, 2, 4, 6, 7, 8], [541, 0]), (37, .return_, 1, [], [])])]
def km_X6_init : MT := (yX6_init, cX6_init, 7, none, kb_X6_init)
def kb_X6_hoursFrom : List (List Nat × List RI) := [
  ([0], [(0, .aload_n 0, 1, [], []), (1, .getfield 19, 3, [3, 0, 0, 1, 2, 4, 6, 7, 8], [530, 0]), (4, .ireturn, 1, [0], [])])]
def km_X6_hoursFrom : MT := (yX6_hoursFrom, cX6_hoursFrom, 2, (some .int), kb_X6_hoursFrom)
def kb_X6_hoursSat : List (List Nat × List RI) := [
  ([], [(0, .iconst 0, 1, [], []), (1, .ireturn, 1, [0], [])])]
def km_X6_hoursSat : MT := (yX6_hoursSat, cX6_hoursSat, 1, (some .int), kb_X6_hoursSat)
def kb_X6_toll : List (List Nat × List RI) := [
  ([], [(0, .iconst 0, 1, [], []), (1, .ireturn, 1, [0], [])])]
def km_X6_toll : MT := (yX6_toll, cX6_toll, 1, (some .int), kb_X6_toll)
def kb_X6_sends : List (List Nat × List RI) := [
  ([0, 1], [(0, .aload_n 0, 1, [], []), (1, .getfield 25, 3, [5, 2, 0, 1, 2, 4, 6, 7, 8], [541, 0]), (4, .iconst 1, 1, [], []), (5, .invokevirtual 29, 3, [2, 0, 1, 9, 46], [895, 0, 879, 880, 70, 0, 0, 0]), (8, .nop, 0, [1], [])]),
  ([0, 1], [(8, .iload_n 1, 1, [], []), (9, .aload_n 0, 1, [], []), (10, .getfield 13, 3, [1, 0, 0, 1, 2, 4, 6, 7, 8], [518, 0]), (13, .iadd, 1, [], []), (14, .ireturn, 1, [0], [])])]
def km_X6_sends : MT := (yX6_sends, cX6_sends, 2, (some .int), kb_X6_sends)
def kb_X6_takes : List (List Nat × List RI) := [
  ([0, 1], [(0, .aload_n 0, 1, [], []), (1, .getfield 25, 3, [5, 2, 0, 1, 2, 4, 6, 7, 8], [541, 0]), (4, .iconst 2, 1, [], []), (5, .invokevirtual 29, 3, [2, 0, 1, 9, 46], [895, 0, 879, 880, 70, 0, 0, 0]), (8, .nop, 0, [1], [])]),
  ([0, 1], [(8, .aload_n 0, 1, [], []), (9, .iload_n 1, 1, [], []), (10, .invokevirtual 35, 3, [2, 1, 1, 0, 2, 1, 36, 2, 36, 4, 36, 6, 36, 7, 2, 8, 44], [917, 1, 876, 875, 82, 874, 36, 872, 1, 872, 883, 81, 874, 36, 872, 1, 872, 884, 81, 874, 36, 872, 1, 872, 885, 81, 874, 36, 872, 1, 872, 873, 81, 874, 36, 872, 1, 876, 886, 82, 874, 36, 872, 1, 888, 887, 86, 874, 36, 872]), (13, .nop, 0, [2], [])]),
  ([0], [(13, .aload_n 0, 1, [], []), (14, .getfield 16, 3, [2, 0, 0, 1, 2, 4, 6, 7, 8], [522, 0]), (17, .isub, 1, [], []), (18, .ireturn, 1, [0], [])])]
def km_X6_takes : MT := (yX6_takes, cX6_takes, 2, (some .int), kb_X6_takes)
def kb_X6_tells : List (List Nat × List RI) := [
  ([0, 1], [(0, .aload_n 0, 1, [], []), (1, .getfield 25, 3, [5, 2, 0, 1, 2, 4, 6, 7, 8], [541, 0]), (4, .iconst 3, 1, [], []), (5, .invokevirtual 29, 3, [2, 0, 1, 9, 46], [895, 0, 879, 880, 70, 0, 0, 0]), (8, .nop, 0, [1], [])]),
  ([0, 1], [(8, .aload_n 0, 1, [], []), (9, .iload_n 1, 1, [], []), (10, .invokevirtual 39, 3, [2, 1, 1, 0, 37, 1, 5, 2, 9, 4, 37, 6, 37, 7, 37, 8, 5], [943, 1, 897, 900, 81, 899, 37, 897, 1, 902, 901, 83, 899, 37, 897, 1, 907, 906, 87, 899, 37, 897, 1, 897, 913, 81, 899, 37, 897, 1, 897, 898, 81, 899, 37, 897, 1, 897, 914, 81, 899, 37, 897, 1, 902, 915, 83, 899, 37, 897]), (13, .nop, 0, [2], [])]),
  ([], [(13, .iconst 2, 1, [], []), (14, .imul, 1, [], []), (15, .ireturn, 1, [0], [])])]
def km_X6_tells : MT := (yX6_tells, cX6_tells, 2, (some .int), kb_X6_tells)
def kb_X7_init : List (List Nat × List RI) := [
  ([0, 1, 2, 3, 4, 5, 6], [(0, .aload_n 0, 1, [], []), (1, .iload_n 1, 1, [], []), (2, .iload_n 2, 1, [], []), (3, .iload_n 3, 1, [], []), (4, .iload 4, 2, [], []), (6, .iload 5, 2, [], []), (8, .aload 6, 2, [], []), (10, .invokespecial 1, 3, [1, 0, 6, 0, 0, 7], [0, 598, 509]), (13, .nop, 0, [1], [])]),
  ([], [(13, .return_, 1, [], [])])]
def km_X7_init : MT := (yX7_init, cX7_init, 7, none, kb_X7_init)
def kb_X7_toll : List (List Nat × List RI) := [
  ([0], [(0, .aload_n 0, 1, [], []), (1, .getfield 7, 3, [2, 0, 7], [523, 524]), (4, .ireturn, 1, [0], [])])]
def km_X7_toll : MT := (yX7_toll, cX7_toll, 1, (some .int), kb_X7_toll)
def kb_X7_tells : List (List Nat × List RI) := [
  ([0, 1], [(0, .aload_n 0, 1, [], []), (1, .getfield 13, 3, [5, 2, 7], [550, 551]), (4, .bipush 41, 2, [], []), (6, .invokevirtual 17, 3, [2, 0, 1, 9, 46], [933, 0, 879, 880, 70, 0, 0, 0]), (9, .nop, 0, [1], [])]),
  ([0, 1], [(9, .aload_n 0, 1, [], []), (10, .iload_n 1, 1, [], []), (11, .iconst 1, 1, [], []), (12, .isub, 1, [], []), (13, .invokespecial 23, 3, [1, 1, 1, 38, 7], [1, 934, 935, 605, 919, 566]), (16, .nop, 0, [2], [])]),
  ([0], [(16, .aload_n 0, 1, [], []), (17, .iconst 2, 1, [], []), (18, .invokevirtual 27, 3, [2, 1, 1, 7, 2], [937, 1, 876, 940, 82, 938, 2, 876]), (21, .nop, 0, [3], [])]),
  ([], [(21, .iadd, 1, [], []), (22, .ireturn, 1, [0], [])])]
def km_X7_tells : MT := (yX7_tells, cX7_tells, 2, (some .int), kb_X7_tells)
def kb_X8_init : List (List Nat × List RI) := [
  ([0, 1, 2, 3, 4, 5, 6], [(0, .aload_n 0, 1, [], []), (1, .iload_n 1, 1, [], []), (2, .iload_n 2, 1, [], []), (3, .iload_n 3, 1, [], []), (4, .iload 4, 2, [], []), (6, .iload 5, 2, [], []), (8, .aload 6, 2, [], []), (10, .invokespecial 1, 3, [1, 0, 6, 3, 1, 8], [0, 611, 570]), (13, .nop, 0, [1], [])]),
  ([], [(13, .return_, 1, [], [])])]
def km_X8_init : MT := (yX8_init, cX8_init, 7, none, kb_X8_init)
def kb_X8_hoursFrom : List (List Nat × List RI) := [
  ([0, 1], [(0, .iconst 0, 1, [], []), (1, .aload_n 0, 1, [], []), (2, .iload_n 1, 1, [], []), (3, .invokespecial 7, 3, [1, 1, 1, 4, 8], [1, 674, 1389, 618, 661, 0]), (6, .nop, 0, [1], [])]),
  ([], [(6, .iconst 1, 1, [], []), (7, .isub, 1, [], []), (8, .invokestatic 11, 3, [5], [675, 354, 76, 355]), (11, .ireturn, 1, [0], [])])]
def km_X8_hoursFrom : MT := (yX8_hoursFrom, cX8_hoursFrom, 2, (some .int), kb_X8_hoursFrom)
def kb_X8_sends : List (List Nat × List RI) := [
  ([0, 1], [(0, .aload_n 0, 1, [], []), (1, .getfield 17, 3, [5, 2, 8], [544, 545]), (4, .bipush 51, 2, [], []), (6, .invokevirtual 23, 3, [2, 0, 1, 9, 46], [890, 0, 879, 880, 70, 0, 0, 0]), (9, .nop, 0, [1], [])]),
  ([0, 1], [(9, .aload_n 0, 1, [], []), (10, .iload_n 1, 1, [], []), (11, .invokespecial 29, 3, [1, 1, 1, 36, 8], [1, 891, 892, 618, 872, 579]), (14, .nop, 0, [2], [])]),
  ([0], [(14, .aload_n 0, 1, [], []), (15, .getfield 32, 3, [1, 0, 8], [519, 520]), (18, .ixor, 1, [], []), (19, .ireturn, 1, [0], [])])]
def km_X8_sends : MT := (yX8_sends, cX8_sends, 2, (some .int), kb_X8_sends)
def kb_X9_init : List (List Nat × List RI) := [
  ([0], [(0, .aload_n 0, 1, [], []), (1, .invokespecial 3, 3, [3], [204]), (4, .aload_n 0, 1, [], []), (5, .bipush 20, 2, [], []), (7, .newarray .int, 2, [20], [198]), (9, .putfield 9, 3, [0, 2, 9], [205, 0]), (12, .return_, 1, [], [])])]
def km_X9_init : MT := (yX9_init, cX9_init, 1, none, kb_X9_init)
def kb_X9_note : List (List Nat × List RI) := [
  ([0, 1], [(0, .aload_n 0, 1, [], []), (1, .getfield 15, 3, [1, 0, 9], [207, 0]), (4, .aload_n 0, 1, [], []), (5, .getfield 9, 3, [0, 2, 9], [205, 0]), (8, .arraylength, 1, [], []), (9, .if_icmp .ge 13, 3, [2, 1], [])]),
  ([0, 1], [(12, .aload_n 0, 1, [], []), (13, .getfield 9, 3, [0, 2, 9], [205, 0]), (16, .aload_n 0, 1, [], []), (17, .getfield 15, 3, [1, 0, 9], [207, 0]), (20, .iload_n 1, 1, [], []), (21, .iastore, 1, [], []), (22, .nop, 0, [2], [])]),
  ([0], [(22, .aload_n 0, 1, [], []), (23, .dup, 1, [], []), (24, .getfield 15, 3, [1, 0, 9], [207, 0]), (27, .iconst 1, 1, [], []), (28, .iadd, 1, [], []), (29, .putfield 15, 3, [1, 0, 9], [207, 0]), (32, .return_, 1, [], [])])]
def km_X9_note : MT := (yX9_note, cX9_note, 2, none, kb_X9_note)
def kb_X10_init : List (List Nat × List RI) := [
  ([0], [(0, .aload_n 0, 1, [], []), (1, .invokespecial 3, 3, [3], [101]), (4, .aload_n 0, 1, [], []), (5, .bipush 100, 2, [], []), (7, .newarray .byte, 2, [23], [169]), (9, .putfield 9, 3, [0, 2, 10], [106, 0]), (12, .aload_n 0, 1, [], []), (13, .iconst 0, 1, [], []), (14, .anewarray 15, 3, [24], [102]), (17, .putfield 17, 3, [2, 2, 10], [112, 0]), (20, .aload_n 0, 1, [], []), (21, .iconst 5, 1, [], []), (22, .anewarray 15, 3, [24], [102]), (25, .putfield 21, 3, [4, 2, 10], [116, 0]), (28, .aload_n 0, 1, [], []), (29, .iconst 5, 1, [], []), (30, .anewarray 24, 3, [25], [104]), (33, .putfield 26, 3, [6, 2, 10], [120, 0]), (36, .aload_n 0, 1, [], []), (37, .iconst (-1), 1, [], []), (38, .putfield 30, 3, [11, 0, 10], [130, 0]), (41, .return_, 1, [], [])])]
def km_X10_init : MT := (yX10_init, cX10_init, 1, none, kb_X10_init)
def kb_X10_copy : List (List Nat × List RI) := [
  ([0, 1], [(0, .aload_n 1, 1, [], []), (1, .getfield 9, 3, [0, 2, 10], [106, 0]), (4, .iconst 0, 1, [], []), (5, .aload_n 0, 1, [], []), (6, .getfield 9, 3, [0, 2, 10], [106, 0]), (9, .iconst 0, 1, [], []), (10, .aload_n 1, 1, [], []), (11, .getfield 9, 3, [0, 2, 10], [106, 0]), (14, .arraylength, 1, [], []), (15, .aload_n 0, 1, [], []), (16, .getfield 9, 3, [0, 2, 10], [106, 0]), (19, .arraylength, 1, [], []), (20, .invokestatic 34, 3, [6], [494, 357, 76, 358]), (23, .invokestatic 40, 3, [4], [963, 424, 423, 80]), (26, .aload_n 0, 1, [], []), (27, .aload_n 1, 1, [], []), (28, .getfield 46, 3, [1, 0, 10], [110, 0]), (31, .putfield 46, 3, [1, 0, 10], [110, 0]), (34, .aload_n 0, 1, [], []), (35, .aload_n 1, 1, [], []), (36, .getfield 17, 3, [2, 2, 10], [112, 0]), (39, .putfield 17, 3, [2, 2, 10], [112, 0]), (42, .aload_n 0, 1, [], []), (43, .aload_n 1, 1, [], []), (44, .getfield 49, 3, [3, 0, 10], [114, 0]), (47, .putfield 49, 3, [3, 0, 10], [114, 0]), (50, .iconst 0, 1, [], []), (51, .istore_n 2, 1, [], []), (52, .nop, 0, [1], [])]),
  ([0, 1, 2], [(52, .iload_n 2, 1, [], []), (53, .aload_n 0, 1, [], []), (54, .getfield 21, 3, [4, 2, 10], [116, 0]), (57, .arraylength, 1, [], []), (58, .if_icmp .ge 30, 3, [4, 2], [])]),
  ([0, 1, 2], [(61, .iload_n 2, 1, [], []), (62, .aload_n 1, 1, [], []), (63, .getfield 21, 3, [4, 2, 10], [116, 0]), (66, .arraylength, 1, [], []), (67, .if_icmp .ge 21, 3, [4, 3], [])]),
  ([0, 1, 2], [(70, .aload_n 0, 1, [], []), (71, .getfield 21, 3, [4, 2, 10], [116, 0]), (74, .iload_n 2, 1, [], []), (75, .aload_n 1, 1, [], []), (76, .getfield 21, 3, [4, 2, 10], [116, 0]), (79, .iload_n 2, 1, [], []), (80, .aaload, 1, [], []), (81, .aastore, 1, [], []), (82, .iinc 2 1, 3, [], []), (85, .goto (-33), 3, [1], [])]),
  ([0, 1], [(88, .aload_n 0, 1, [], []), (89, .aload_n 1, 1, [], []), (90, .getfield 52, 3, [5, 0, 10], [118, 0]), (93, .putfield 52, 3, [5, 0, 10], [118, 0]), (96, .iconst 0, 1, [], []), (97, .istore_n 2, 1, [], []), (98, .nop, 0, [5], [])]),
  ([0, 1, 2], [(98, .iload_n 2, 1, [], []), (99, .aload_n 0, 1, [], []), (100, .getfield 26, 3, [6, 2, 10], [120, 0]), (103, .arraylength, 1, [], []), (104, .if_icmp .ge 30, 3, [8, 6], [])]),
  ([0, 1, 2], [(107, .iload_n 2, 1, [], []), (108, .aload_n 1, 1, [], []), (109, .getfield 26, 3, [6, 2, 10], [120, 0]), (112, .arraylength, 1, [], []), (113, .if_icmp .ge 21, 3, [8, 7], [])]),
  ([0, 1, 2], [(116, .aload_n 0, 1, [], []), (117, .getfield 26, 3, [6, 2, 10], [120, 0]), (120, .iload_n 2, 1, [], []), (121, .aload_n 1, 1, [], []), (122, .getfield 26, 3, [6, 2, 10], [120, 0]), (125, .iload_n 2, 1, [], []), (126, .aaload, 1, [], []), (127, .aastore, 1, [], []), (128, .iinc 2 1, 3, [], []), (131, .goto (-33), 3, [5], [])]),
  ([0, 1], [(134, .aload_n 0, 1, [], []), (135, .aload_n 1, 1, [], []), (136, .getfield 55, 3, [7, 0, 10], [122, 0]), (139, .putfield 55, 3, [7, 0, 10], [122, 0]), (142, .aload_n 0, 1, [], []), (143, .aload_n 1, 1, [], []), (144, .getfield 58, 3, [8, 0, 10], [124, 0]), (147, .putfield 58, 3, [8, 0, 10], [124, 0]), (150, .aload_n 0, 1, [], []), (151, .aload_n 1, 1, [], []), (152, .getfield 61, 3, [9, 0, 10], [126, 0]), (155, .putfield 61, 3, [9, 0, 10], [126, 0]), (158, .aload_n 0, 1, [], []), (159, .aload_n 1, 1, [], []), (160, .getfield 64, 3, [10, 0, 10], [128, 0]), (163, .putfield 64, 3, [10, 0, 10], [128, 0]), (166, .aload_n 0, 1, [], []), (167, .aload_n 1, 1, [], []), (168, .getfield 30, 3, [11, 0, 10], [130, 0]), (171, .putfield 30, 3, [11, 0, 10], [130, 0]), (174, .aload_n 0, 1, [], []), (175, .aload_n 1, 1, [], []), (176, .getfield 67, 3, [12, 0, 10], [132, 0]), (179, .putfield 67, 3, [12, 0, 10], [132, 0]), (182, .aload_n 0, 1, [], []), (183, .aload_n 1, 1, [], []), (184, .getfield 70, 3, [13, 0, 10], [134, 0]), (187, .putfield 70, 3, [13, 0, 10], [134, 0]), (190, .aload_n 0, 1, [], []), (191, .aload_n 1, 1, [], []), (192, .getfield 73, 3, [14, 0, 10], [136, 0]), (195, .putfield 73, 3, [14, 0, 10], [136, 0]), (198, .return_, 1, [], [])])]
def km_X10_copy : MT := (yX10_copy, cX10_copy, 3, none, kb_X10_copy)
def kb_X10_hasThing : List (List Nat × List RI) := [
  ([0, 1], [(0, .iload_n 1, 1, [], []), (1, .ifCond .lt 15, 3, [3, 1], [])]),
  ([0, 1], [(4, .iload_n 1, 1, [], []), (5, .aload_n 0, 1, [], []), (6, .getfield 58, 3, [8, 0, 10], [124, 0]), (9, .if_icmp .ge 7, 3, [3, 2], [])]),
  ([], [(12, .iconst 1, 1, [], []), (13, .goto 4, 3, [4], [])]),
  ([], [(16, .iconst 0, 1, [], []), (17, .nop, 0, [4], [])]),
  ([], [(17, .ireturn, 1, [1], [])])]
def km_X10_hasThing : MT := (yX10_hasThing, cX10_hasThing, 2, (some .boolean), kb_X10_hasThing)
def kb_X10_sayingAt : List (List Nat × List RI) := [
  ([0, 1], [(0, .iload_n 1, 1, [], []), (1, .ifCond .lt 29, 3, [4, 1], [])]),
  ([0, 1], [(4, .iload_n 1, 1, [], []), (5, .aload_n 0, 1, [], []), (6, .getfield 52, 3, [5, 0, 10], [118, 0]), (9, .if_icmp .ge 21, 3, [4, 2], [])]),
  ([0, 1], [(12, .iload_n 1, 1, [], []), (13, .aload_n 0, 1, [], []), (14, .getfield 21, 3, [4, 2, 10], [116, 0]), (17, .arraylength, 1, [], []), (18, .if_icmp .ge 12, 3, [4, 3], [])]),
  ([0, 1], [(21, .aload_n 0, 1, [], []), (22, .getfield 21, 3, [4, 2, 10], [116, 0]), (25, .iload_n 1, 1, [], []), (26, .aaload, 1, [], []), (27, .goto 4, 3, [5], [])]),
  ([], [(30, .aconst_null, 1, [], []), (31, .nop, 0, [5], [])]),
  ([], [(31, .areturn, 1, [], [])])]
def km_X10_sayingAt : MT := (yX10_sayingAt, cX10_sayingAt, 2, (some (.object "TrueHeard$Clause")), kb_X10_sayingAt)
def kb_X10_wayAt : List (List Nat × List RI) := [
  ([0, 1], [(0, .iload_n 1, 1, [], []), (1, .ifCond .lt 29, 3, [4, 1], [])]),
  ([0, 1], [(4, .iload_n 1, 1, [], []), (5, .aload_n 0, 1, [], []), (6, .getfield 55, 3, [7, 0, 10], [122, 0]), (9, .if_icmp .ge 21, 3, [4, 2], [])]),
  ([0, 1], [(12, .iload_n 1, 1, [], []), (13, .aload_n 0, 1, [], []), (14, .getfield 26, 3, [6, 2, 10], [120, 0]), (17, .arraylength, 1, [], []), (18, .if_icmp .ge 12, 3, [4, 3], [])]),
  ([0, 1], [(21, .aload_n 0, 1, [], []), (22, .getfield 26, 3, [6, 2, 10], [120, 0]), (25, .iload_n 1, 1, [], []), (26, .aaload, 1, [], []), (27, .goto 4, 3, [5], [])]),
  ([], [(30, .aconst_null, 1, [], []), (31, .nop, 0, [5], [])]),
  ([], [(31, .areturn, 1, [], [])])]
def km_X10_wayAt : MT := (yX10_wayAt, cX10_wayAt, 2, (some (.object "TrueHeard$Runner")), kb_X10_wayAt)
def kb_X10_replaceWay : List (List Nat × List RI) := [
  ([0, 1, 2], [(0, .iload_n 1, 1, [], []), (1, .ifCond .lt 19, 3, [3, 1], [])]),
  ([0, 1, 2], [(4, .iload_n 1, 1, [], []), (5, .aload_n 0, 1, [], []), (6, .getfield 26, 3, [6, 2, 10], [120, 0]), (9, .arraylength, 1, [], []), (10, .if_icmp .ge 10, 3, [3, 2], [])]),
  ([0, 1, 2], [(13, .aload_n 0, 1, [], []), (14, .getfield 26, 3, [6, 2, 10], [120, 0]), (17, .iload_n 1, 1, [], []), (18, .aload_n 2, 1, [], []), (19, .aastore, 1, [], []), (20, .nop, 0, [3], [])]),
  ([], [(20, .return_, 1, [], [])])]
def km_X10_replaceWay : MT := (yX10_replaceWay, cX10_replaceWay, 3, none, kb_X10_replaceWay)
def kb_X10_rows : List (List Nat × List RI) := [
  ([0], [(0, .iconst 1, 1, [], []), (1, .iconst 2, 1, [], []), (2, .aload_n 0, 1, [], []), (3, .getfield 58, 3, [8, 0, 10], [124, 0]), (6, .imul, 1, [], []), (7, .ishl, 1, [], []), (8, .ireturn, 1, [0], [])])]
def km_X10_rows : MT := (yX10_rows, cX10_rows, 1, (some .int), kb_X10_rows)
def kb_X10_heeded : List (List Nat × List RI) := [
  ([0, 1], [(0, .aload_n 0, 1, [], []), (1, .getfield 30, 3, [11, 0, 10], [130, 0]), (4, .iconst (-1), 1, [], []), (5, .if_icmp .ne 7, 3, [2, 1], [])]),
  ([1], [(8, .iload_n 1, 1, [], []), (9, .goto 15, 3, [3], [])]),
  ([0, 1], [(12, .iload_n 1, 1, [], []), (13, .aload_n 0, 1, [], []), (14, .getfield 30, 3, [11, 0, 10], [130, 0]), (17, .aload_n 0, 1, [], []), (18, .getfield 67, 3, [12, 0, 10], [132, 0]), (21, .invokestatic 76, 3, [0, 1, 3, 108], [1, 781, 462]), (24, .nop, 0, [3], [])]),
  ([], [(24, .ireturn, 1, [0], [])])]
def km_X10_heeded : MT := (yX10_heeded, cX10_heeded, 2, (some .int), kb_X10_heeded)
def kb_X10_factsOfRow : List (List Nat × List RI) := [
  ([0, 1, 2], [(0, .iload_n 2, 1, [], []), (1, .bipush 12, 2, [], []), (3, .irem, 1, [], []), (4, .bipush 16, 2, [], []), (6, .ishl, 1, [], []), (7, .istore_n 3, 1, [], []), (8, .iconst 0, 1, [], []), (9, .istore 4, 2, [], []), (11, .nop, 0, [1], [])]),
  ([0, 1, 3, 4], [(11, .iload 4, 2, [], []), (13, .iconst 4, 1, [], []), (14, .if_icmp .ge 37, 3, [7, 2], [])]),
  ([0, 1, 3, 4], [(17, .iload_n 3, 1, [], []), (18, .iload 4, 2, [], []), (20, .aload_n 0, 1, [], []), (21, .getfield 58, 3, [8, 0, 10], [124, 0]), (24, .if_icmp .ge 12, 3, [5, 3], [])]),
  ([0, 1, 4], [(27, .iload_n 1, 1, [], []), (28, .iload 4, 2, [], []), (30, .invokestatic 80, 3, [0, 1, 2, 107], [1, 752, 473]), (33, .nop, 0, [4], [])]),
  ([0, 1, 4], [(33, .goto 5, 3, [6], [])]),
  ([0, 1, 4], [(36, .bipush 9, 2, [], []), (38, .nop, 0, [6], [])]),
  ([0, 1, 4], [(38, .iconst 4, 1, [], []), (39, .iload 4, 2, [], []), (41, .imul, 1, [], []), (42, .ishl, 1, [], []), (43, .ior, 1, [], []), (44, .istore_n 3, 1, [], []), (45, .iinc 4 1, 3, [], []), (48, .goto (-37), 3, [1], [])]),
  ([3], [(51, .iload_n 3, 1, [], []), (52, .ireturn, 1, [0], [])])]
def km_X10_factsOfRow : MT := (yX10_factsOfRow, cX10_factsOfRow, 5, (some .int), kb_X10_factsOfRow)
def kb_X10_costs : List (List Nat × List RI) := [
  ([0, 1], [(0, .aload_n 1, 1, [], []), (1, .getfield 83, 3, [4, 0, 0, 1, 2, 4, 6, 7, 8], [539, 0]), (4, .aload_n 1, 1, [], []), (5, .invokevirtual 86, 3, [2, 1, 0, 0, 35, 1, 35, 2, 35, 4, 35, 6, 35, 7, 40, 8, 35], [681, 1, 682, 685, 81, 684, 35, 682, 1, 682, 686, 81, 684, 35, 682, 1, 682, 687, 81, 684, 35, 682, 1, 682, 688, 81, 684, 35, 682, 1, 682, 683, 81, 684, 35, 682, 1, 690, 689, 85, 684, 35, 682, 1, 682, 692, 81, 684, 35, 682]), (8, .nop, 0, [1], [])]),
  ([0, 1], [(8, .iadd, 1, [], []), (9, .aload_n 0, 1, [], []), (10, .iconst 2, 1, [], []), (11, .aload_n 1, 1, [], []), (12, .getfield 90, 3, [0, 0, 0, 1, 2, 4, 6, 7, 8], [516, 0]), (15, .aload_n 0, 1, [], []), (16, .getfield 64, 3, [10, 0, 10], [128, 0]), (19, .invokestatic 93, 3, [0, 1, 2, 111], [1, 694, 695]), (22, .nop, 0, [2], [])]),
  ([], [(22, .invokevirtual 96, 3, [2, 1, 2, 10, 57], [697, 0, 484, 485, 68, 0, 0, 0]), (25, .nop, 0, [3], [])]),
  ([], [(25, .iadd, 1, [], []), (26, .ireturn, 1, [0], [])])]
def km_X10_costs : MT := (yX10_costs, cX10_costs, 2, (some .int), kb_X10_costs)
def kb_X10_together : List (List Nat × List RI) := [
  ([0, 1, 2], [(0, .iconst 0, 1, [], []), (1, .istore_n 3, 1, [], []), (2, .aload_n 0, 1, [], []), (3, .getfield 17, 3, [2, 2, 10], [112, 0]), (6, .astore 4, 2, [], []), (8, .aload 4, 2, [], []), (10, .arraylength, 1, [], []), (11, .istore 5, 2, [], []), (13, .iconst 0, 1, [], []), (14, .istore 6, 2, [], []), (16, .nop, 0, [1], [])]),
  ([1, 2, 3, 4, 5, 6], [(16, .iload 6, 2, [], []), (18, .iload 5, 2, [], []), (20, .if_icmp .ge 47, 3, [8, 2], [])]),
  ([1, 2, 3, 4, 5, 6], [(23, .aload 4, 2, [], []), (25, .iload 6, 2, [], []), (27, .aaload, 1, [], []), (28, .astore 7, 2, [], []), (30, .aload 7, 2, [], []), (32, .ifnull 29, 3, [7, 3], [])]),
  ([1, 2, 3, 4, 5, 6, 7], [(35, .aload 7, 2, [], []), (37, .getfield 99, 3, [0, 0, 3], [430, 0]), (40, .iload_n 1, 1, [], []), (41, .if_icmp .ne 20, 3, [7, 4], [])]),
  ([1, 2, 3, 4, 5, 6, 7], [(44, .aload 7, 2, [], []), (46, .iload_n 2, 1, [], []), (47, .invokevirtual 102, 3, [2, 1, 1, 3, 11], [487, 0, 488, 489, 78, 0, 0, 0]), (50, .nop, 0, [5], [])]),
  ([1, 2, 3, 4, 5, 6, 7], [(50, .ifCond .eq 11, 3, [7, 6], [])]),
  ([1, 2, 3, 4, 5, 6, 7], [(53, .iload_n 3, 1, [], []), (54, .aload 7, 2, [], []), (56, .getfield 106, 3, [1, 0, 3], [432, 0]), (59, .iadd, 1, [], []), (60, .istore_n 3, 1, [], []), (61, .nop, 0, [7], [])]),
  ([1, 2, 3, 4, 5, 6], [(61, .iinc 6 1, 3, [], []), (64, .goto (-48), 3, [1], [])]),
  ([1, 3], [(67, .iload_n 1, 1, [], []), (68, .iconst 1, 1, [], []), (69, .if_icmp .ne 11, 3, [10, 9], [])]),
  ([3], [(72, .iconst 2, 1, [], []), (73, .iload_n 3, 1, [], []), (74, .invokestatic 34, 3, [6], [494, 357, 76, 358]), (77, .goto 4, 3, [11], [])]),
  ([3], [(80, .iload_n 3, 1, [], []), (81, .nop, 0, [11], [])]),
  ([], [(81, .ireturn, 1, [0], [])])]
def km_X10_together : MT := (yX10_together, cX10_together, 8, (some .int), kb_X10_together)
def kb_X10_step : List (List Nat × List RI) := [
  ([0, 1, 2], [(0, .iconst 0, 1, [], []), (1, .istore_n 3, 1, [], []), (2, .iconst 0, 1, [], []), (3, .istore 4, 2, [], []), (5, .nop, 0, [1], [])]),
  ([0, 1, 2, 3, 4], [(5, .iload 4, 2, [], []), (7, .iconst 4, 1, [], []), (8, .if_icmp .ge 89, 3, [12, 2], [])]),
  ([0, 1, 2, 3, 4], [(11, .iload_n 1, 1, [], []), (12, .iload 4, 2, [], []), (14, .iload_n 2, 1, [], []), (15, .invokestatic 109, 3, [0, 1, 3, 110], [1, 758, 480]), (18, .nop, 0, [3], [])]),
  ([0, 1, 2, 3, 4], [(18, .istore 5, 2, [], []), (20, .iload 4, 2, [], []), (22, .aload_n 0, 1, [], []), (23, .iconst 0, 1, [], []), (24, .iload 5, 2, [], []), (26, .invokevirtual 96, 3, [2, 1, 2, 10, 57], [697, 0, 484, 485, 68, 0, 0, 0]), (29, .nop, 0, [4], [])]),
  ([0, 1, 2, 3, 4, 5], [(29, .iadd, 1, [], []), (30, .istore 6, 2, [], []), (32, .aload_n 0, 1, [], []), (33, .iconst 1, 1, [], []), (34, .iload 5, 2, [], []), (36, .invokevirtual 96, 3, [2, 1, 2, 10, 57], [697, 0, 484, 485, 68, 0, 0, 0]), (39, .nop, 0, [5], [])]),
  ([0, 1, 2, 3, 4, 6], [(39, .istore 7, 2, [], []), (41, .iload 7, 2, [], []), (43, .iconst 2, 1, [], []), (44, .if_icmp .ge 12, 3, [7, 6], [])]),
  ([0, 1, 2, 3, 4, 6, 7], [(47, .iconst 1, 1, [], []), (48, .iload 6, 2, [], []), (50, .iconst 4, 1, [], []), (51, .irem, 1, [], []), (52, .ishl, 1, [], []), (53, .goto 4, 3, [8], [])]),
  ([0, 1, 2, 3, 4, 6, 7], [(56, .iconst 0, 1, [], []), (57, .nop, 0, [8], [])]),
  ([0, 1, 2, 3, 4, 6, 7], [(57, .istore 8, 2, [], []), (59, .iload 7, 2, [], []), (61, .ifCond .le 14, 3, [10, 9], [])]),
  ([0, 1, 2, 3, 4, 6, 8], [(64, .iconst 1, 1, [], []), (65, .iload 6, 2, [], []), (67, .iconst 1, 1, [], []), (68, .iadd, 1, [], []), (69, .iconst 4, 1, [], []), (70, .irem, 1, [], []), (71, .ishl, 1, [], []), (72, .goto 4, 3, [11], [])]),
  ([0, 1, 2, 3, 4, 8], [(75, .iconst 0, 1, [], []), (76, .nop, 0, [11], [])]),
  ([0, 1, 2, 3, 4, 8], [(76, .istore 9, 2, [], []), (78, .iload_n 3, 1, [], []), (79, .iload 8, 2, [], []), (81, .iload 9, 2, [], []), (83, .ior, 1, [], []), (84, .iconst 4, 1, [], []), (85, .iload 4, 2, [], []), (87, .imul, 1, [], []), (88, .ishl, 1, [], []), (89, .ior, 1, [], []), (90, .istore_n 3, 1, [], []), (91, .iinc 4 1, 3, [], []), (94, .goto (-89), 3, [1], [])]),
  ([3], [(97, .iload_n 3, 1, [], []), (98, .ireturn, 1, [0], [])])]
def km_X10_step : MT := (yX10_step, cX10_step, 10, (some .int), kb_X10_step)
def kb_X10_reach : List (List Nat × List RI) := [
  ([0, 1, 2], [(0, .ldc 112, 2, [0, 33825], [799]), (2, .istore_n 3, 1, [], []), (3, .iconst 0, 1, [], []), (4, .istore 4, 2, [], []), (6, .nop, 0, [1], [])]),
  ([0, 1, 2, 3, 4], [(6, .iload 4, 2, [], []), (8, .iload_n 2, 1, [], []), (9, .if_icmp .ge 105, 3, [15, 2], [])]),
  ([0, 1, 2, 3, 4], [(12, .aload_n 0, 1, [], []), (13, .iload_n 1, 1, [], []), (14, .aload_n 0, 1, [], []), (15, .getfield 64, 3, [10, 0, 10], [128, 0]), (18, .iload 4, 2, [], []), (20, .iadd, 1, [], []), (21, .invokevirtual 113, 3, [2, 1, 2, 10, 58], [800, 0, 801, 802, 68, 0, 0, 0]), (24, .nop, 0, [3], [])]),
  ([0, 1, 2, 3, 4], [(24, .istore 5, 2, [], []), (26, .iconst 0, 1, [], []), (27, .istore 6, 2, [], []), (29, .iconst 0, 1, [], []), (30, .istore 7, 2, [], []), (32, .nop, 0, [4], [])]),
  ([0, 1, 2, 3, 4, 5, 6, 7], [(32, .iload 7, 2, [], []), (34, .iconst 4, 1, [], []), (35, .if_icmp .ge 70, 3, [14, 5], [])]),
  ([0, 1, 2, 3, 4, 5, 6, 7], [(38, .iconst 0, 1, [], []), (39, .istore 8, 2, [], []), (41, .iconst 0, 1, [], []), (42, .istore 9, 2, [], []), (44, .nop, 0, [6], [])]),
  ([0, 1, 2, 3, 4, 5, 6, 7, 8, 9], [(44, .iload 9, 2, [], []), (46, .iconst 4, 1, [], []), (47, .if_icmp .ge 40, 3, [13, 7], [])]),
  ([0, 1, 2, 3, 4, 5, 6, 7, 8, 9], [(50, .iload 8, 2, [], []), (52, .iload_n 3, 1, [], []), (53, .iload 7, 2, [], []), (55, .invokestatic 116, 3, [0, 1, 2, 109], [1, 804, 805]), (58, .nop, 0, [8], [])]),
  ([0, 1, 2, 3, 4, 5, 6, 7, 9], [(58, .iload 9, 2, [], []), (60, .ishr, 1, [], []), (61, .iconst 1, 1, [], []), (62, .iand, 1, [], []), (63, .iconst 1, 1, [], []), (64, .if_icmp .ne 13, 3, [11, 9], [])]),
  ([0, 1, 2, 3, 4, 5, 6, 7, 9], [(67, .iload 5, 2, [], []), (69, .iload 9, 2, [], []), (71, .invokestatic 116, 3, [0, 1, 2, 109], [1, 804, 805]), (74, .nop, 0, [10], [])]),
  ([0, 1, 2, 3, 4, 5, 6, 7, 9], [(74, .goto 4, 3, [12], [])]),
  ([0, 1, 2, 3, 4, 5, 6, 7, 9], [(77, .iconst 0, 1, [], []), (78, .nop, 0, [12], [])]),
  ([0, 1, 2, 3, 4, 5, 6, 7, 9], [(78, .ior, 1, [], []), (79, .istore 8, 2, [], []), (81, .iinc 9 1, 3, [], []), (84, .goto (-40), 3, [6], [])]),
  ([0, 1, 2, 3, 4, 5, 6, 7, 8], [(87, .iload 6, 2, [], []), (89, .iload 8, 2, [], []), (91, .iconst 4, 1, [], []), (92, .iload 7, 2, [], []), (94, .imul, 1, [], []), (95, .ishl, 1, [], []), (96, .ior, 1, [], []), (97, .istore 6, 2, [], []), (99, .iinc 7 1, 3, [], []), (102, .goto (-70), 3, [4], [])]),
  ([0, 1, 2, 4, 6], [(105, .iload 6, 2, [], []), (107, .istore_n 3, 1, [], []), (108, .iinc 4 1, 3, [], []), (111, .goto (-105), 3, [1], [])]),
  ([3], [(114, .iload_n 3, 1, [], []), (115, .ireturn, 1, [0], [])])]
def km_X10_reach : MT := (yX10_reach, cX10_reach, 10, (some .int), kb_X10_reach)
def kb_X10_chances : List (List Nat × List RI) := [
  ([0, 1, 2], [(0, .iload_n 1, 1, [], []), (1, .aload_n 0, 1, [], []), (2, .getfield 58, 3, [8, 0, 10], [124, 0]), (5, .if_icmp .lt 7, 3, [2, 1], [])]),
  ([], [(8, .ldc2_w 119, 3, [4096], [751]), (11, .lreturn, 1, [], [])]),
  ([0, 1, 2], [(12, .ldc2_w 119, 3, [4096], [751]), (15, .bipush 16, 2, [], []), (17, .aload_n 0, 1, [], []), (18, .getfield 61, 3, [9, 0, 10], [126, 0]), (21, .iload_n 1, 1, [], []), (22, .invokestatic 80, 3, [0, 1, 2, 107], [1, 752, 473]), (25, .nop, 0, [3], [])]),
  ([0, 1, 2], [(25, .imul, 1, [], []), (26, .lshl, 1, [], []), (27, .lstore_n 3, 1, [], []), (28, .iconst 0, 1, [], []), (29, .istore 5, 2, [], []), (31, .nop, 0, [4], [])]),
  ([0, 1, 2, 3, 5], [(31, .iload 5, 2, [], []), (33, .iload_n 2, 1, [], []), (34, .if_icmp .ge 127, 3, [15, 5], [])]),
  ([0, 1, 2, 3, 5], [(37, .lconst 0, 1, [], []), (38, .lstore 6, 2, [], []), (40, .iconst 0, 1, [], []), (41, .istore 8, 2, [], []), (43, .nop, 0, [6], [])]),
  ([0, 1, 2, 3, 5, 6, 8], [(43, .iload 8, 2, [], []), (45, .iconst 4, 1, [], []), (46, .if_icmp .ge 106, 3, [14, 7], [])]),
  ([0, 1, 2, 3, 5, 6, 8], [(49, .lload_n 3, 1, [], []), (50, .iload 8, 2, [], []), (52, .invokestatic 121, 3, [0, 2, 2, 61], [0, 753, 754]), (55, .nop, 0, [8], [])]),
  ([0, 1, 2, 3, 5, 6, 8], [(55, .ldc2_w 125, 3, [2], [757]), (58, .ldiv, 1, [], []), (59, .lstore 9, 2, [], []), (61, .lload 9, 2, [], []), (63, .lconst 0, 1, [], []), (64, .lcmp, 1, [], []), (65, .ifCond .eq 81, 3, [13, 9], [])]),
  ([0, 1, 2, 3, 5, 6, 8, 9], [(68, .iload_n 1, 1, [], []), (69, .iload 8, 2, [], []), (71, .aload_n 0, 1, [], []), (72, .getfield 64, 3, [10, 0, 10], [128, 0]), (75, .iload 5, 2, [], []), (77, .iadd, 1, [], []), (78, .invokestatic 109, 3, [0, 1, 3, 110], [1, 758, 480]), (81, .nop, 0, [10], [])]),
  ([0, 1, 2, 3, 5, 6, 8, 9], [(81, .istore 11, 2, [], []), (83, .iload 8, 2, [], []), (85, .aload_n 0, 1, [], []), (86, .iconst 0, 1, [], []), (87, .iload 11, 2, [], []), (89, .invokevirtual 96, 3, [2, 1, 2, 10, 57], [697, 0, 484, 485, 68, 0, 0, 0]), (92, .nop, 0, [11], [])]),
  ([0, 1, 2, 3, 5, 6, 8, 9, 11], [(92, .iadd, 1, [], []), (93, .istore 12, 2, [], []), (95, .aload_n 0, 1, [], []), (96, .iconst 1, 1, [], []), (97, .iload 11, 2, [], []), (99, .invokevirtual 96, 3, [2, 1, 2, 10, 57], [697, 0, 484, 485, 68, 0, 0, 0]), (102, .nop, 0, [12], [])]),
  ([0, 1, 2, 3, 5, 6, 8, 9, 12], [(102, .istore 13, 2, [], []), (104, .lload 6, 2, [], []), (106, .lload 9, 2, [], []), (108, .iconst 2, 1, [], []), (109, .iload 13, 2, [], []), (111, .isub, 1, [], []), (112, .i2l, 1, [], []), (113, .lmul, 1, [], []), (114, .bipush 16, 2, [], []), (116, .iload 12, 2, [], []), (118, .iconst 4, 1, [], []), (119, .irem, 1, [], []), (120, .imul, 1, [], []), (121, .lshl, 1, [], []), (122, .ladd, 1, [], []), (123, .lstore 6, 2, [], []), (125, .lload 6, 2, [], []), (127, .lload 9, 2, [], []), (129, .iload 13, 2, [], []), (131, .i2l, 1, [], []), (132, .lmul, 1, [], []), (133, .bipush 16, 2, [], []), (135, .iload 12, 2, [], []), (137, .iconst 1, 1, [], []), (138, .iadd, 1, [], []), (139, .iconst 4, 1, [], []), (140, .irem, 1, [], []), (141, .imul, 1, [], []), (142, .lshl, 1, [], []), (143, .ladd, 1, [], []), (144, .lstore 6, 2, [], []), (146, .nop, 0, [13], [])]),
  ([0, 1, 2, 3, 5, 6, 8], [(146, .iinc 8 1, 3, [], []), (149, .goto (-106), 3, [6], [])]),
  ([0, 1, 2, 5, 6], [(152, .lload 6, 2, [], []), (154, .lstore_n 3, 1, [], []), (155, .iinc 5 1, 3, [], []), (158, .goto (-127), 3, [4], [])]),
  ([3], [(161, .lload_n 3, 1, [], []), (162, .lreturn, 1, [], [])])]
def km_X10_chances : MT := (yX10_chances, cX10_chances, 14, (some .long), kb_X10_chances)
def kb_X10_chanceIn : List (List Nat × List RI) := [
  ([0, 2], [(0, .lload_n 0, 1, [], []), (1, .bipush 16, 2, [], []), (3, .iload_n 2, 1, [], []), (4, .imul, 1, [], []), (5, .lshr, 1, [], []), (6, .ldc2_w 127, 3, [65535], [756]), (9, .land, 1, [], []), (10, .lreturn, 1, [], [])])]
def km_X10_chanceIn : MT := (yX10_chanceIn, cX10_chanceIn, 3, (some .long), kb_X10_chanceIn)
def kb_X11_init : List (List Nat × List RI) := [
  ([0], [(0, .aload_n 0, 1, [], []), (1, .invokespecial 5, 3, [3], [93]), (4, .aload_n 0, 1, [], []), (5, .new 11, 3, [10, 15], [96, 97, 68]), (8, .dup, 1, [], []), (9, .invokespecial 13, 3, [1, 0, 0, 47, 10], [2, 98, 99]), (12, .nop, 0, [1], [])]),
  ([0], [(12, .putfield 14, 3, [0, 2, 11], [214, 0]), (15, .aload_n 0, 1, [], []), (16, .new 11, 3, [10, 15], [96, 97, 68]), (19, .dup, 1, [], []), (20, .invokespecial 13, 3, [1, 0, 0, 47, 10], [2, 98, 99]), (23, .nop, 0, [2], [])]),
  ([0], [(23, .putfield 18, 3, [1, 2, 11], [215, 0]), (26, .aload_n 0, 1, [], []), (27, .new 21, 3, [5, 6], [170, 171, 69]), (30, .dup, 1, [], []), (31, .aload_n 0, 1, [], []), (32, .getfield 14, 3, [0, 2, 11], [214, 0]), (35, .invokespecial 23, 3, [1, 0, 1, 17, 5], [0, 172, 173]), (38, .nop, 0, [3], [])]),
  ([0], [(38, .putfield 26, 3, [2, 2, 11], [216, 0]), (41, .aload_n 0, 1, [], []), (42, .new 30, 3, [9, 2], [199, 200, 70]), (45, .dup, 1, [], []), (46, .invokespecial 32, 3, [1, 0, 0, 45, 9], [2, 201, 202]), (49, .nop, 0, [4], [])]),
  ([0], [(49, .putfield 33, 3, [3, 2, 11], [217, 0]), (52, .aload_n 0, 1, [], []), (53, .iconst 4, 1, [], []), (54, .newarray .long, 2, [21], [236]), (56, .putfield 37, 3, [4, 2, 11], [218, 0]), (59, .aload_n 0, 1, [], []), (60, .sipush 256, 3, [], []), (63, .newarray .boolean, 2, [22], [237]), (65, .putfield 41, 3, [5, 2, 11], [219, 0]), (68, .return_, 1, [], [])])]
def km_X11_init : MT := (yX11_init, cX11_init, 1, none, kb_X11_init)
def kb_X11_feed : List (List Nat × List RI) := [
  ([0, 1], [(0, .iload_n 1, 1, [], []), (1, .ifCond .lt 9, 3, [2, 1], [])]),
  ([0, 1], [(4, .iload_n 1, 1, [], []), (5, .bipush 127, 2, [], []), (7, .if_icmp .le 6, 3, [3, 2], [])]),
  ([], [(10, .bipush (-2), 2, [], []), (12, .ireturn, 1, [0], [])]),
  ([0, 1], [(13, .aload_n 0, 1, [], []), (14, .getfield 14, 3, [0, 2, 11], [214, 0]), (17, .getfield 45, 3, [1, 0, 10], [109, 0]), (20, .aload_n 0, 1, [], []), (21, .getfield 14, 3, [0, 2, 11], [214, 0]), (24, .getfield 49, 3, [0, 2, 10], [107, 0]), (27, .arraylength, 1, [], []), (28, .if_icmp .lt 6, 3, [5, 4], [])]),
  ([], [(31, .bipush (-4), 2, [], []), (33, .ireturn, 1, [0], [])]),
  ([0, 1], [(34, .aload_n 0, 1, [], []), (35, .getfield 14, 3, [0, 2, 11], [214, 0]), (38, .getfield 49, 3, [0, 2, 10], [107, 0]), (41, .aload_n 0, 1, [], []), (42, .getfield 14, 3, [0, 2, 11], [214, 0]), (45, .getfield 45, 3, [1, 0, 10], [109, 0]), (48, .iload_n 1, 1, [], []), (49, .i2b, 1, [], []), (50, .bastore, 1, [1], []), (51, .aload_n 0, 1, [], []), (52, .getfield 14, 3, [0, 2, 11], [214, 0]), (55, .dup, 1, [], []), (56, .getfield 45, 3, [1, 0, 10], [109, 0]), (59, .iconst 1, 1, [], []), (60, .iadd, 1, [], []), (61, .putfield 45, 3, [1, 0, 10], [109, 0]), (64, .aload_n 0, 1, [], []), (65, .getfield 14, 3, [0, 2, 11], [214, 0]), (68, .getfield 45, 3, [1, 0, 10], [109, 0]), (71, .ireturn, 1, [0], [])])]
def km_X11_feed : MT := (yX11_feed, cX11_feed, 2, (some .int), kb_X11_feed)
def kb_X11_coast : List (List Nat × List RI) := [
  ([0], [(0, .aload_n 0, 1, [], []), (1, .getfield 14, 3, [0, 2, 11], [214, 0]), (4, .getfield 53, 3, [3, 0, 10], [115, 0]), (7, .iconst 5, 1, [], []), (8, .if_icmp .lt 6, 3, [2, 1], [])]),
  ([], [(11, .bipush (-4), 2, [], []), (13, .ireturn, 1, [0], [])]),
  ([0], [(14, .aload_n 0, 1, [], []), (15, .getfield 26, 3, [2, 2, 11], [216, 0]), (18, .invokevirtual 56, 3, [2, 3, 0, 5, 18], [246, 0, 247, 248, 69, 0, 0, 0]), (21, .nop, 0, [3], [])]),
  ([0], [(21, .astore_n 1, 1, [], []), (22, .aload_n 0, 1, [], []), (23, .getfield 14, 3, [0, 2, 11], [214, 0]), (26, .iconst 0, 1, [], []), (27, .putfield 45, 3, [1, 0, 10], [109, 0]), (30, .aload_n 1, 1, [], []), (31, .ifnonnull 14, 3, [5, 4], [])]),
  ([0], [(34, .bipush (-10), 2, [], []), (36, .aload_n 0, 1, [], []), (37, .getfield 26, 3, [2, 2, 11], [216, 0]), (40, .getfield 60, 3, [5, 0, 5], [184, 0]), (43, .isub, 1, [], []), (44, .ireturn, 1, [0], [])]),
  ([0, 1], [(45, .aload_n 0, 1, [], []), (46, .getfield 14, 3, [0, 2, 11], [214, 0]), (49, .aload_n 1, 1, [], []), (50, .putfield 63, 3, [2, 2, 10], [113, 0]), (53, .aload_n 0, 1, [], []), (54, .getfield 14, 3, [0, 2, 11], [214, 0]), (57, .dup, 1, [], []), (58, .getfield 53, 3, [3, 0, 10], [115, 0]), (61, .iconst 1, 1, [], []), (62, .iadd, 1, [], []), (63, .putfield 53, 3, [3, 0, 10], [115, 0]), (66, .aload_n 0, 1, [], []), (67, .getfield 14, 3, [0, 2, 11], [214, 0]), (70, .getfield 53, 3, [3, 0, 10], [115, 0]), (73, .iconst 1, 1, [], []), (74, .isub, 1, [], []), (75, .ireturn, 1, [0], [])])]
def km_X11_coast : MT := (yX11_coast, cX11_coast, 2, (some .int), kb_X11_coast)
def kb_X11_saying : List (List Nat × List RI) := [
  ([0], [(0, .aload_n 0, 1, [], []), (1, .getfield 14, 3, [0, 2, 11], [214, 0]), (4, .getfield 67, 3, [5, 0, 10], [119, 0]), (7, .aload_n 0, 1, [], []), (8, .getfield 14, 3, [0, 2, 11], [214, 0]), (11, .getfield 70, 3, [4, 2, 10], [117, 0]), (14, .arraylength, 1, [], []), (15, .if_icmp .lt 6, 3, [2, 1], [])]),
  ([], [(18, .bipush (-4), 2, [], []), (20, .ireturn, 1, [0], [])]),
  ([0], [(21, .aload_n 0, 1, [], []), (22, .getfield 26, 3, [2, 2, 11], [216, 0]), (25, .invokevirtual 73, 3, [2, 3, 0, 5, 20], [449, 0, 450, 451, 69, 0, 0, 0]), (28, .nop, 0, [3], [])]),
  ([0], [(28, .astore_n 1, 1, [], []), (29, .aload_n 0, 1, [], []), (30, .getfield 14, 3, [0, 2, 11], [214, 0]), (33, .iconst 0, 1, [], []), (34, .putfield 45, 3, [1, 0, 10], [109, 0]), (37, .aload_n 1, 1, [], []), (38, .ifnonnull 14, 3, [5, 4], [])]),
  ([0], [(41, .bipush (-10), 2, [], []), (43, .aload_n 0, 1, [], []), (44, .getfield 26, 3, [2, 2, 11], [216, 0]), (47, .getfield 60, 3, [5, 0, 5], [184, 0]), (50, .isub, 1, [], []), (51, .ireturn, 1, [0], [])]),
  ([0, 1], [(52, .aload_n 0, 1, [], []), (53, .getfield 14, 3, [0, 2, 11], [214, 0]), (56, .getfield 70, 3, [4, 2, 10], [117, 0]), (59, .aload_n 0, 1, [], []), (60, .getfield 14, 3, [0, 2, 11], [214, 0]), (63, .getfield 67, 3, [5, 0, 10], [119, 0]), (66, .aload_n 1, 1, [], []), (67, .aastore, 1, [], []), (68, .aload_n 0, 1, [], []), (69, .getfield 14, 3, [0, 2, 11], [214, 0]), (72, .dup, 1, [], []), (73, .getfield 67, 3, [5, 0, 10], [119, 0]), (76, .iconst 1, 1, [], []), (77, .iadd, 1, [], []), (78, .putfield 67, 3, [5, 0, 10], [119, 0]), (81, .aload_n 0, 1, [], []), (82, .getfield 14, 3, [0, 2, 11], [214, 0]), (85, .getfield 67, 3, [5, 0, 10], [119, 0]), (88, .iconst 1, 1, [], []), (89, .isub, 1, [], []), (90, .ireturn, 1, [0], [])])]
def km_X11_saying : MT := (yX11_saying, cX11_saying, 2, (some .int), kb_X11_saying)
def kb_X11_thing : List (List Nat × List RI) := [
  ([0, 1], [(0, .iload_n 1, 1, [], []), (1, .invokestatic 77, 3, [0, 1, 1, 104], [0, 458, 459]), (4, .nop, 0, [1], [])]),
  ([0, 1], [(4, .ifCond .ne 6, 3, [3, 2], [])]),
  ([], [(7, .bipush (-2), 2, [], []), (9, .ireturn, 1, [0], [])]),
  ([0, 1], [(10, .aload_n 0, 1, [], []), (11, .getfield 14, 3, [0, 2, 11], [214, 0]), (14, .getfield 81, 3, [8, 0, 10], [125, 0]), (17, .iconst 4, 1, [], []), (18, .if_icmp .lt 6, 3, [5, 4], [])]),
  ([], [(21, .bipush (-4), 2, [], []), (23, .ireturn, 1, [0], [])]),
  ([0, 1], [(24, .aload_n 0, 1, [], []), (25, .getfield 14, 3, [0, 2, 11], [214, 0]), (28, .dup, 1, [], []), (29, .getfield 81, 3, [8, 0, 10], [125, 0]), (32, .iconst 1, 1, [], []), (33, .iadd, 1, [], []), (34, .putfield 81, 3, [8, 0, 10], [125, 0]), (37, .aload_n 0, 1, [], []), (38, .getfield 14, 3, [0, 2, 11], [214, 0]), (41, .aload_n 0, 1, [], []), (42, .getfield 14, 3, [0, 2, 11], [214, 0]), (45, .getfield 84, 3, [9, 0, 10], [127, 0]), (48, .aload_n 0, 1, [], []), (49, .getfield 14, 3, [0, 2, 11], [214, 0]), (52, .getfield 81, 3, [8, 0, 10], [125, 0]), (55, .iconst 1, 1, [], []), (56, .isub, 1, [], []), (57, .iload_n 1, 1, [], []), (58, .invokestatic 87, 3, [0, 1, 3, 108], [0, 461, 462]), (61, .nop, 0, [6], [])]),
  ([0], [(61, .putfield 84, 3, [9, 0, 10], [127, 0]), (64, .aload_n 0, 1, [], []), (65, .getfield 14, 3, [0, 2, 11], [214, 0]), (68, .getfield 81, 3, [8, 0, 10], [125, 0]), (71, .iconst 1, 1, [], []), (72, .isub, 1, [], []), (73, .ireturn, 1, [0], [])])]
def km_X11_thing : MT := (yX11_thing, cX11_thing, 2, (some .int), kb_X11_thing)
def kb_X11_put : List (List Nat × List RI) := [
  ([0, 1, 2], [(0, .aload_n 0, 1, [], []), (1, .getfield 14, 3, [0, 2, 11], [214, 0]), (4, .iload_n 1, 1, [], []), (5, .invokevirtual 91, 3, [2, 1, 1, 10, 49], [468, 0, 469, 470, 68, 0, 0, 0]), (8, .nop, 0, [1], [])]),
  ([0, 1, 2], [(8, .ifCond .ne 5, 3, [3, 2], [])]),
  ([], [(11, .iconst (-1), 1, [], []), (12, .ireturn, 1, [0], [])]),
  ([0, 1, 2], [(13, .iload_n 2, 1, [], []), (14, .invokestatic 77, 3, [0, 1, 1, 104], [0, 458, 459]), (17, .nop, 0, [4], [])]),
  ([0, 1, 2], [(17, .ifCond .ne 6, 3, [6, 5], [])]),
  ([], [(20, .bipush (-2), 2, [], []), (22, .ireturn, 1, [0], [])]),
  ([0, 1, 2], [(23, .aload_n 0, 1, [], []), (24, .getfield 14, 3, [0, 2, 11], [214, 0]), (27, .getfield 84, 3, [9, 0, 10], [127, 0]), (30, .iload_n 1, 1, [], []), (31, .invokestatic 94, 3, [0, 1, 2, 107], [0, 472, 473]), (34, .nop, 0, [7], [])]),
  ([0, 1, 2], [(34, .istore_n 3, 1, [], []), (35, .aload_n 0, 1, [], []), (36, .getfield 14, 3, [0, 2, 11], [214, 0]), (39, .aload_n 0, 1, [], []), (40, .getfield 14, 3, [0, 2, 11], [214, 0]), (43, .getfield 84, 3, [9, 0, 10], [127, 0]), (46, .iload_n 1, 1, [], []), (47, .iload_n 2, 1, [], []), (48, .invokestatic 87, 3, [0, 1, 3, 108], [0, 461, 462]), (51, .nop, 0, [8], [])]),
  ([3], [(51, .putfield 84, 3, [9, 0, 10], [127, 0]), (54, .iload_n 3, 1, [], []), (55, .ireturn, 1, [0], [])])]
def km_X11_put : MT := (yX11_put, cX11_put, 4, (some .int), kb_X11_put)
def kb_X11_of : List (List Nat × List RI) := [
  ([0, 1, 2], [(0, .aload_n 0, 1, [], []), (1, .getfield 14, 3, [0, 2, 11], [214, 0]), (4, .iload_n 1, 1, [], []), (5, .invokevirtual 91, 3, [2, 1, 1, 10, 49], [468, 0, 469, 470, 68, 0, 0, 0]), (8, .nop, 0, [1], [])]),
  ([0, 1, 2], [(8, .ifCond .ne 5, 3, [3, 2], [])]),
  ([], [(11, .iconst (-1), 1, [], []), (12, .ireturn, 1, [0], [])]),
  ([0, 1, 2], [(13, .aload_n 0, 1, [], []), (14, .getfield 14, 3, [0, 2, 11], [214, 0]), (17, .getfield 84, 3, [9, 0, 10], [127, 0]), (20, .iload_n 1, 1, [], []), (21, .invokestatic 94, 3, [0, 1, 2, 107], [0, 472, 473]), (24, .nop, 0, [4], [])]),
  ([0, 1, 2], [(24, .istore_n 3, 1, [], []), (25, .iload_n 1, 1, [], []), (26, .iload_n 3, 1, [], []), (27, .aload_n 0, 1, [], []), (28, .getfield 14, 3, [0, 2, 11], [214, 0]), (31, .getfield 98, 3, [10, 0, 10], [129, 0]), (34, .invokestatic 101, 3, [0, 1, 3, 110], [0, 479, 480]), (37, .nop, 0, [5], [])]),
  ([0, 2, 3], [(37, .istore 4, 2, [], []), (39, .iload_n 2, 1, [], []), (40, .tableswitch 52 0 2 #[28, 30, 41], 28, [11, 6, 7, 9], [])]),
  ([3], [(68, .iload_n 3, 1, [], []), (69, .ireturn, 1, [0], [])]),
  ([0, 4], [(70, .aload_n 0, 1, [], []), (71, .getfield 14, 3, [0, 2, 11], [214, 0]), (74, .iconst 0, 1, [], []), (75, .iload 4, 2, [], []), (77, .invokevirtual 106, 3, [2, 1, 2, 10, 57], [483, 0, 484, 485, 68, 0, 0, 0]), (80, .nop, 0, [8], [])]),
  ([], [(80, .ireturn, 1, [0], [])]),
  ([0, 4], [(81, .aload_n 0, 1, [], []), (82, .getfield 14, 3, [0, 2, 11], [214, 0]), (85, .iconst 1, 1, [], []), (86, .iload 4, 2, [], []), (88, .invokevirtual 106, 3, [2, 1, 2, 10, 57], [483, 0, 484, 485, 68, 0, 0, 0]), (91, .nop, 0, [10], [])]),
  ([], [(91, .ireturn, 1, [0], [])]),
  ([], [(92, .iconst (-1), 1, [], []), (93, .ireturn, 1, [0], [])])]
def km_X11_of : MT := (yX11_of, cX11_of, 5, (some .int), kb_X11_of)
def kb_X11_way : List (List Nat × List RI) := [
  ([0, 1, 2, 3, 4], [(0, .iload_n 1, 1, [], []), (1, .invokestatic 109, 3, [0, 1, 1, 105], [0, 499, 500]), (4, .nop, 0, [1], [])]),
  ([0, 1, 2, 3, 4], [(4, .ifCond .ne 5, 3, [3, 2], [])]),
  ([], [(7, .iconst (-1), 1, [], []), (8, .ireturn, 1, [0], [])]),
  ([0, 1, 2, 3, 4], [(9, .iload_n 2, 1, [], []), (10, .ifCond .lt 31, 3, [9, 4], [])]),
  ([0, 1, 2, 3, 4], [(13, .iload_n 2, 1, [], []), (14, .bipush 9, 2, [], []), (16, .if_icmp .gt 25, 3, [9, 5], [])]),
  ([0, 1, 2, 3, 4], [(19, .iload_n 3, 1, [], []), (20, .ifCond .lt 21, 3, [9, 6], [])]),
  ([0, 1, 2, 3, 4], [(23, .iload_n 3, 1, [], []), (24, .bipush 6, 2, [], []), (26, .if_icmp .gt 15, 3, [9, 7], [])]),
  ([0, 1, 2, 3, 4], [(29, .iload 4, 2, [], []), (31, .ifCond .lt 10, 3, [9, 8], [])]),
  ([0, 1, 2, 3, 4], [(34, .iload 4, 2, [], []), (36, .bipush 99, 2, [], []), (38, .if_icmp .le 6, 3, [10, 9], [])]),
  ([], [(41, .bipush (-2), 2, [], []), (43, .ireturn, 1, [0], [])]),
  ([0, 1, 2, 3, 4], [(44, .aload_n 0, 1, [], []), (45, .getfield 14, 3, [0, 2, 11], [214, 0]), (48, .getfield 112, 3, [7, 0, 10], [123, 0]), (51, .aload_n 0, 1, [], []), (52, .getfield 14, 3, [0, 2, 11], [214, 0]), (55, .getfield 115, 3, [6, 2, 10], [121, 0]), (58, .arraylength, 1, [], []), (59, .if_icmp .lt 6, 3, [12, 11], [])]),
  ([], [(62, .bipush (-4), 2, [], []), (64, .ireturn, 1, [0], [])]),
  ([0, 1, 2, 3, 4], [(65, .aload_n 0, 1, [], []), (66, .getfield 14, 3, [0, 2, 11], [214, 0]), (69, .getfield 115, 3, [6, 2, 10], [121, 0]), (72, .aload_n 0, 1, [], []), (73, .getfield 14, 3, [0, 2, 11], [214, 0]), (76, .getfield 112, 3, [7, 0, 10], [123, 0]), (79, .aload_n 0, 1, [], []), (80, .iload_n 1, 1, [], []), (81, .iload_n 2, 1, [], []), (82, .iload_n 3, 1, [], []), (83, .iload 4, 2, [], []), (85, .invokevirtual 119, 3, [2, 3, 4, 11, 70], [502, 0, 504, 12, 67, 0, 0, 0]), (88, .nop, 0, [13], [])]),
  ([0], [(88, .aastore, 1, [], []), (89, .aload_n 0, 1, [], []), (90, .getfield 14, 3, [0, 2, 11], [214, 0]), (93, .dup, 1, [], []), (94, .getfield 112, 3, [7, 0, 10], [123, 0]), (97, .iconst 1, 1, [], []), (98, .iadd, 1, [], []), (99, .putfield 112, 3, [7, 0, 10], [123, 0]), (102, .aload_n 0, 1, [], []), (103, .getfield 14, 3, [0, 2, 11], [214, 0]), (106, .getfield 112, 3, [7, 0, 10], [123, 0]), (109, .iconst 1, 1, [], []), (110, .isub, 1, [], []), (111, .ireturn, 1, [0], [])])]
def km_X11_way : MT := (yX11_way, cX11_way, 5, (some .int), kb_X11_way)
def kb_X11_newWay : List (List Nat × List RI) := [
  ([0, 1, 2, 3, 4], [(0, .aload_n 0, 1, [], []), (1, .getfield 14, 3, [0, 2, 11], [214, 0]), (4, .getfield 112, 3, [7, 0, 10], [123, 0]), (7, .istore 5, 2, [], []), (9, .iload_n 1, 1, [], []), (10, .tableswitch 152 1 6 #[38, 57, 76, 95, 114, 133], 38, [13, 1, 3, 5, 7, 9, 11], [])]),
  ([0, 1, 2, 3, 4, 5], [(48, .new 123, 3, [0, 6], [506, 507, 82]), (51, .dup, 1, [], []), (52, .iload_n 1, 1, [], []), (53, .iload 5, 2, [], []), (55, .iload_n 2, 1, [], []), (56, .iload_n 3, 1, [], []), (57, .iload 4, 2, [], []), (59, .aload_n 0, 1, [], []), (60, .getfield 33, 3, [3, 2, 11], [217, 0]), (63, .invokespecial 125, 3, [1, 0, 6, 0, 0, 7], [0, 508, 509]), (66, .nop, 0, [2], [])]),
  ([], [(66, .areturn, 1, [], [])]),
  ([0, 1, 2, 3, 4, 5], [(67, .new 128, 3, [1, 6], [567, 568, 83]), (70, .dup, 1, [], []), (71, .iload_n 1, 1, [], []), (72, .iload 5, 2, [], []), (74, .iload_n 2, 1, [], []), (75, .iload_n 3, 1, [], []), (76, .iload 4, 2, [], []), (78, .aload_n 0, 1, [], []), (79, .getfield 33, 3, [3, 2, 11], [217, 0]), (82, .invokespecial 130, 3, [1, 0, 6, 3, 1, 8], [0, 569, 570]), (85, .nop, 0, [4], [])]),
  ([], [(85, .areturn, 1, [], [])]),
  ([0, 1, 2, 3, 4, 5], [(86, .new 131, 3, [4, 6], [580, 581, 84]), (89, .dup, 1, [], []), (90, .iload_n 1, 1, [], []), (91, .iload 5, 2, [], []), (93, .iload_n 2, 1, [], []), (94, .iload_n 3, 1, [], []), (95, .iload 4, 2, [], []), (97, .aload_n 0, 1, [], []), (98, .getfield 33, 3, [3, 2, 11], [217, 0]), (101, .invokespecial 133, 3, [1, 0, 6, 14, 2, 4], [0, 582, 583]), (104, .nop, 0, [6], [])]),
  ([], [(104, .areturn, 1, [], [])]),
  ([0, 1, 2, 3, 4, 5], [(105, .new 134, 3, [7, 6], [593, 594, 85]), (108, .dup, 1, [], []), (109, .iload_n 1, 1, [], []), (110, .iload 5, 2, [], []), (112, .iload_n 2, 1, [], []), (113, .iload_n 3, 1, [], []), (114, .iload 4, 2, [], []), (116, .aload_n 0, 1, [], []), (117, .getfield 33, 3, [3, 2, 11], [217, 0]), (120, .invokespecial 136, 3, [1, 0, 6, 39, 7], [0, 595, 596]), (123, .nop, 0, [8], [])]),
  ([], [(123, .areturn, 1, [], [])]),
  ([0, 1, 2, 3, 4, 5], [(124, .new 137, 3, [8, 6], [606, 607, 86]), (127, .dup, 1, [], []), (128, .iload_n 1, 1, [], []), (129, .iload 5, 2, [], []), (131, .iload_n 2, 1, [], []), (132, .iload_n 3, 1, [], []), (133, .iload 4, 2, [], []), (135, .aload_n 0, 1, [], []), (136, .getfield 33, 3, [3, 2, 11], [217, 0]), (139, .invokespecial 139, 3, [1, 0, 6, 42, 8], [0, 608, 609]), (142, .nop, 0, [10], [])]),
  ([], [(142, .areturn, 1, [], [])]),
  ([0, 2, 3, 4, 5], [(143, .new 140, 3, [2, 7], [619, 620, 87]), (146, .dup, 1, [], []), (147, .iload 5, 2, [], []), (149, .iload_n 2, 1, [], []), (150, .iload_n 3, 1, [], []), (151, .iload 4, 2, [], []), (153, .iconst 0, 1, [], []), (154, .aload_n 0, 1, [], []), (155, .getfield 33, 3, [3, 2, 11], [217, 0]), (158, .invokespecial 142, 3, [1, 0, 6, 6, 2], [0, 621, 622]), (161, .nop, 0, [12], [])]),
  ([], [(161, .areturn, 1, [], [])]),
  ([0, 2, 3, 4, 5], [(162, .new 143, 3, [6, 6], [635, 636, 81]), (165, .dup, 1, [], []), (166, .iconst 0, 1, [], []), (167, .iload 5, 2, [], []), (169, .iload_n 2, 1, [], []), (170, .iload_n 3, 1, [], []), (171, .iload 4, 2, [], []), (173, .aload_n 0, 1, [], []), (174, .getfield 33, 3, [3, 2, 11], [217, 0]), (177, .invokespecial 145, 3, [1, 0, 6, 32, 0, 1, 2, 4, 6, 7, 8], [0, 637, 512]), (180, .nop, 0, [14], [])]),
  ([], [(180, .areturn, 1, [], [])])]
def km_X11_newWay : MT := (yX11_newWay, cX11_newWay, 6, (some (.object "TrueHeard$Runner")), kb_X11_newWay)
def kb_X11_at : List (List Nat × List RI) := [
  ([0, 1, 2], [(0, .aload_n 0, 1, [], []), (1, .getfield 14, 3, [0, 2, 11], [214, 0]), (4, .iload_n 1, 1, [], []), (5, .invokevirtual 146, 3, [2, 3, 1, 10, 51], [649, 0, 650, 651, 68, 0, 0, 0]), (8, .nop, 0, [1], [])]),
  ([0, 2], [(8, .astore_n 3, 1, [], []), (9, .aload_n 3, 1, [], []), (10, .ifnonnull 5, 3, [3, 2], [])]),
  ([], [(13, .iconst (-1), 1, [], []), (14, .ireturn, 1, [0], [])]),
  ([0, 2, 3], [(15, .iload_n 2, 1, [], []), (16, .tableswitch 90 0 6 #[44, 49, 54, 59, 64, 76, 85], 44, [14, 4, 5, 6, 7, 8, 10, 12], [])]),
  ([3], [(60, .aload_n 3, 1, [], []), (61, .getfield 150, 3, [0, 0, 0, 1, 2, 4, 6, 7, 8], [517, 0]), (64, .ireturn, 1, [0], [])]),
  ([3], [(65, .aload_n 3, 1, [], []), (66, .getfield 153, 3, [2, 0, 0, 1, 2, 4, 6, 7, 8], [529, 0]), (69, .ireturn, 1, [0], [])]),
  ([3], [(70, .aload_n 3, 1, [], []), (71, .getfield 156, 3, [3, 0, 0, 1, 2, 4, 6, 7, 8], [537, 0]), (74, .ireturn, 1, [0], [])]),
  ([3], [(75, .aload_n 3, 1, [], []), (76, .getfield 159, 3, [4, 0, 0, 1, 2, 4, 6, 7, 8], [540, 0]), (79, .ireturn, 1, [0], [])]),
  ([0, 3], [(80, .aload_n 3, 1, [], []), (81, .aload_n 0, 1, [], []), (82, .getfield 14, 3, [0, 2, 11], [214, 0]), (85, .getfield 98, 3, [10, 0, 10], [129, 0]), (88, .invokevirtual 162, 3, [2, 1, 1, 0, 1, 1, 4, 2, 7, 4, 15, 6, 33, 7, 1, 8, 43], [653, 1, 658, 657, 82, 656, 33, 654, 1, 661, 660, 83, 656, 33, 654, 1, 664, 663, 87, 656, 33, 654, 1, 667, 669, 84, 656, 33, 654, 1, 654, 655, 81, 656, 33, 654, 1, 658, 670, 82, 656, 33, 654, 1, 672, 671, 86, 656, 33, 654]), (91, .nop, 0, [9], [])]),
  ([], [(91, .ireturn, 1, [0], [])]),
  ([0, 3], [(92, .aload_n 0, 1, [], []), (93, .getfield 14, 3, [0, 2, 11], [214, 0]), (96, .aload_n 3, 1, [], []), (97, .invokevirtual 166, 3, [2, 1, 1, 10, 56], [677, 0, 678, 679, 68, 0, 0, 0]), (100, .nop, 0, [11], [])]),
  ([], [(100, .ireturn, 1, [0], [])]),
  ([3], [(101, .aload_n 3, 1, [], []), (102, .invokevirtual 170, 3, [2, 1, 0, 0, 34, 1, 34, 2, 8, 4, 34, 6, 34, 7, 34, 8, 34], [698, 1, 699, 702, 81, 701, 34, 699, 1, 699, 703, 81, 701, 34, 699, 1, 705, 704, 87, 701, 34, 699, 1, 699, 707, 81, 701, 34, 699, 1, 699, 700, 81, 701, 34, 699, 1, 699, 708, 81, 701, 34, 699, 1, 699, 709, 81, 701, 34, 699]), (105, .nop, 0, [13], [])]),
  ([], [(105, .ireturn, 1, [0], [])]),
  ([], [(106, .iconst (-1), 1, [], []), (107, .ireturn, 1, [0], [])])]
def km_X11_at : MT := (yX11_at, cX11_at, 4, (some .int), kb_X11_at)
def kb_X11_bribe : List (List Nat × List RI) := [
  ([0, 1, 2], [(0, .aload_n 0, 1, [], []), (1, .getfield 14, 3, [0, 2, 11], [214, 0]), (4, .iload_n 1, 1, [], []), (5, .invokevirtual 146, 3, [2, 3, 1, 10, 51], [649, 0, 650, 651, 68, 0, 0, 0]), (8, .nop, 0, [1], [])]),
  ([0, 1, 2], [(8, .astore_n 3, 1, [], []), (9, .aload_n 3, 1, [], []), (10, .ifnonnull 5, 3, [3, 2], [])]),
  ([], [(13, .iconst (-1), 1, [], []), (14, .ireturn, 1, [0], [])]),
  ([0, 1, 2, 3], [(15, .iload_n 2, 1, [], []), (16, .ifCond .lt 9, 3, [5, 4], [])]),
  ([0, 1, 2, 3], [(19, .iload_n 2, 1, [], []), (20, .bipush 6, 2, [], []), (22, .if_icmp .le 6, 3, [6, 5], [])]),
  ([], [(25, .bipush (-2), 2, [], []), (27, .ireturn, 1, [0], [])]),
  ([0, 1, 2, 3], [(28, .aload_n 3, 1, [], []), (29, .instanceof 140, 3, [1, 2, 0, 1, 4, 6, 7, 8], [619]), (32, .ifCond .ne 6, 3, [8, 7], [])]),
  ([], [(35, .bipush (-3), 2, [], []), (37, .ireturn, 1, [0], [])]),
  ([0, 1, 2, 3], [(38, .aload_n 0, 1, [], []), (39, .getfield 14, 3, [0, 2, 11], [214, 0]), (42, .iload_n 1, 1, [], []), (43, .new 140, 3, [2, 7], [619, 620, 87]), (46, .dup, 1, [], []), (47, .aload_n 3, 1, [], []), (48, .getfield 174, 3, [1, 0, 0, 1, 2, 4, 6, 7, 8], [521, 0]), (51, .aload_n 3, 1, [], []), (52, .getfield 153, 3, [2, 0, 0, 1, 2, 4, 6, 7, 8], [529, 0]), (55, .aload_n 3, 1, [], []), (56, .getfield 156, 3, [3, 0, 0, 1, 2, 4, 6, 7, 8], [537, 0]), (59, .aload_n 3, 1, [], []), (60, .getfield 159, 3, [4, 0, 0, 1, 2, 4, 6, 7, 8], [540, 0]), (63, .iload_n 2, 1, [], []), (64, .aload_n 0, 1, [], []), (65, .getfield 33, 3, [3, 2, 11], [217, 0]), (68, .invokespecial 142, 3, [1, 0, 6, 6, 2], [0, 621, 622]), (71, .nop, 0, [9], [])]),
  ([3], [(71, .invokevirtual 177, 3, [2, 0, 2, 10, 52], [715, 0, 716, 717, 68, 0, 0, 0]), (74, .nop, 0, [10], [])]),
  ([3], [(74, .aload_n 3, 1, [], []), (75, .invokevirtual 170, 3, [2, 1, 0, 0, 34, 1, 34, 2, 8, 4, 34, 6, 34, 7, 34, 8, 34], [698, 1, 699, 702, 81, 701, 34, 699, 1, 699, 703, 81, 701, 34, 699, 1, 705, 704, 87, 701, 34, 699, 1, 699, 707, 81, 701, 34, 699, 1, 699, 700, 81, 701, 34, 699, 1, 699, 708, 81, 701, 34, 699, 1, 699, 709, 81, 701, 34, 699]), (78, .nop, 0, [11], [])]),
  ([], [(78, .ireturn, 1, [0], [])])]
def km_X11_bribe : MT := (yX11_bribe, cX11_bribe, 4, (some .int), kb_X11_bribe)
def kb_X11_now : List (List Nat × List RI) := [
  ([0], [(0, .aload_n 0, 1, [], []), (1, .getfield 14, 3, [0, 2, 11], [214, 0]), (4, .getfield 98, 3, [10, 0, 10], [129, 0]), (7, .ireturn, 1, [0], [])])]
def km_X11_now : MT := (yX11_now, cX11_now, 1, (some .int), kb_X11_now)
def kb_X11_hour : List (List Nat × List RI) := [
  ([0, 1], [(0, .iload_n 1, 1, [], []), (1, .ifCond .lt 9, 3, [2, 1], [])]),
  ([0, 1], [(4, .iload_n 1, 1, [], []), (5, .bipush 15, 2, [], []), (7, .if_icmp .le 6, 3, [3, 2], [])]),
  ([], [(10, .bipush (-2), 2, [], []), (12, .ireturn, 1, [0], [])]),
  ([0, 1], [(13, .aload_n 0, 1, [], []), (14, .getfield 14, 3, [0, 2, 11], [214, 0]), (17, .getfield 98, 3, [10, 0, 10], [129, 0]), (20, .sipush 999, 3, [], []), (23, .if_icmp .lt 6, 3, [5, 4], [])]),
  ([], [(26, .bipush (-3), 2, [], []), (28, .ireturn, 1, [0], [])]),
  ([0, 1], [(29, .iconst 0, 1, [], []), (30, .istore_n 2, 1, [], []), (31, .iconst 0, 1, [], []), (32, .istore_n 3, 1, [], []), (33, .nop, 0, [6], [])]),
  ([0, 1, 2, 3], [(33, .iload_n 3, 1, [], []), (34, .aload_n 0, 1, [], []), (35, .getfield 14, 3, [0, 2, 11], [214, 0]), (38, .getfield 81, 3, [8, 0, 10], [125, 0]), (41, .if_icmp .ge 107, 3, [21, 7], [])]),
  ([0, 1, 2, 3], [(44, .aload_n 0, 1, [], []), (45, .getfield 14, 3, [0, 2, 11], [214, 0]), (48, .getfield 84, 3, [9, 0, 10], [127, 0]), (51, .iload_n 3, 1, [], []), (52, .invokestatic 94, 3, [0, 1, 2, 107], [0, 472, 473]), (55, .nop, 0, [8], [])]),
  ([0, 1, 2, 3], [(55, .istore 4, 2, [], []), (57, .iload_n 3, 1, [], []), (58, .iload 4, 2, [], []), (60, .aload_n 0, 1, [], []), (61, .getfield 14, 3, [0, 2, 11], [214, 0]), (64, .getfield 98, 3, [10, 0, 10], [129, 0]), (67, .invokestatic 101, 3, [0, 1, 3, 110], [0, 479, 480]), (70, .nop, 0, [9], [])]),
  ([0, 1, 2, 3, 4], [(70, .istore 5, 2, [], []), (72, .aload_n 0, 1, [], []), (73, .getfield 14, 3, [0, 2, 11], [214, 0]), (76, .iconst 1, 1, [], []), (77, .iload 5, 2, [], []), (79, .invokevirtual 106, 3, [2, 1, 2, 10, 57], [483, 0, 484, 485, 68, 0, 0, 0]), (82, .nop, 0, [10], [])]),
  ([0, 1, 2, 3, 4, 5], [(82, .istore 6, 2, [], []), (84, .iload 6, 2, [], []), (86, .iconst 2, 1, [], []), (87, .if_icmp .eq 18, 3, [13, 11], [])]),
  ([0, 1, 2, 3, 4, 5, 6], [(90, .iload 6, 2, [], []), (92, .iconst 1, 1, [], []), (93, .if_icmp .ne 16, 3, [14, 12], [])]),
  ([0, 1, 2, 3, 4, 5], [(96, .iload_n 1, 1, [], []), (97, .iload_n 3, 1, [], []), (98, .ishr, 1, [], []), (99, .iconst 1, 1, [], []), (100, .iand, 1, [], []), (101, .iconst 1, 1, [], []), (102, .if_icmp .ne 7, 3, [14, 13], [])]),
  ([0, 1, 2, 3, 4, 5], [(105, .iconst 1, 1, [], []), (106, .goto 4, 3, [15], [])]),
  ([0, 1, 2, 3, 4, 5], [(109, .iconst 0, 1, [], []), (110, .nop, 0, [15], [])]),
  ([0, 1, 2, 3, 4, 5], [(110, .istore 7, 2, [], []), (112, .iload_n 2, 1, [], []), (113, .iload_n 3, 1, [], []), (114, .iload 4, 2, [], []), (116, .aload_n 0, 1, [], []), (117, .getfield 14, 3, [0, 2, 11], [214, 0]), (120, .iconst 0, 1, [], []), (121, .iload 5, 2, [], []), (123, .invokevirtual 106, 3, [2, 1, 2, 10, 57], [483, 0, 484, 485, 68, 0, 0, 0]), (126, .nop, 0, [16], [])]),
  ([0, 1, 3, 7], [(126, .iadd, 1, [], []), (127, .iload 7, 2, [], []), (129, .ifCond .eq 7, 3, [18, 17], [])]),
  ([0, 1, 3], [(132, .iconst 1, 1, [], []), (133, .goto 4, 3, [19], [])]),
  ([0, 1, 3], [(136, .iconst 0, 1, [], []), (137, .nop, 0, [19], [])]),
  ([0, 1, 3], [(137, .iadd, 1, [], []), (138, .invokestatic 87, 3, [0, 1, 3, 108], [0, 461, 462]), (141, .nop, 0, [20], [])]),
  ([0, 1, 3], [(141, .istore_n 2, 1, [], []), (142, .iinc 3 1, 3, [], []), (145, .goto (-112), 3, [6], [])]),
  ([0, 2], [(148, .aload_n 0, 1, [], []), (149, .getfield 14, 3, [0, 2, 11], [214, 0]), (152, .iload_n 2, 1, [], []), (153, .putfield 84, 3, [9, 0, 10], [127, 0]), (156, .aload_n 0, 1, [], []), (157, .getfield 14, 3, [0, 2, 11], [214, 0]), (160, .dup, 1, [], []), (161, .getfield 98, 3, [10, 0, 10], [129, 0]), (164, .iconst 1, 1, [], []), (165, .iadd, 1, [], []), (166, .putfield 98, 3, [10, 0, 10], [129, 0]), (169, .aload_n 0, 1, [], []), (170, .getfield 14, 3, [0, 2, 11], [214, 0]), (173, .getfield 98, 3, [10, 0, 10], [129, 0]), (176, .ireturn, 1, [0], [])])]
def km_X11_hour : MT := (yX11_hour, cX11_hour, 8, (some .int), kb_X11_hour)
def kb_X11_odds : List (List Nat × List RI) := [
  ([0, 1, 2, 3], [(0, .aload_n 0, 1, [], []), (1, .iload_n 1, 1, [], []), (2, .iload_n 2, 1, [], []), (3, .iconst 0, 1, [], []), (4, .iload_n 3, 1, [], []), (5, .invokevirtual 181, 3, [2, 2, 4, 11, 85], [731, 0, 732, 733, 67, 0, 0, 0]), (8, .nop, 0, [1], [])]),
  ([], [(8, .lreturn, 1, [], [])])]
def km_X11_odds : MT := (yX11_odds, cX11_odds, 4, (some .long), kb_X11_odds)
def kb_X11_sure : List (List Nat × List RI) := [
  ([0, 1, 2], [(0, .aload_n 0, 1, [], []), (1, .getfield 14, 3, [0, 2, 11], [214, 0]), (4, .iload_n 1, 1, [], []), (5, .invokevirtual 185, 3, [2, 3, 1, 10, 50], [735, 0, 736, 737, 68, 0, 0, 0]), (8, .nop, 0, [1], [])]),
  ([0, 2], [(8, .astore_n 3, 1, [], []), (9, .aload_n 0, 1, [], []), (10, .getfield 14, 3, [0, 2, 11], [214, 0]), (13, .iload_n 2, 1, [], []), (14, .invokevirtual 146, 3, [2, 3, 1, 10, 51], [649, 0, 650, 651, 68, 0, 0, 0]), (17, .nop, 0, [2], [])]),
  ([0, 3], [(17, .astore 4, 2, [], []), (19, .aload_n 3, 1, [], []), (20, .ifnull 8, 3, [4, 3], [])]),
  ([0, 3, 4], [(23, .aload 4, 2, [], []), (25, .ifnonnull 5, 3, [5, 4], [])]),
  ([], [(28, .iconst (-1), 1, [], []), (29, .ireturn, 1, [0], [])]),
  ([0, 3, 4], [(30, .aload_n 0, 1, [], []), (31, .aload_n 3, 1, [], []), (32, .aload 4, 2, [], []), (34, .iconst 0, 1, [], []), (35, .invokevirtual 189, 3, [2, 2, 3, 11, 87], [743, 0, 745, 13, 67, 0, 0, 0]), (38, .nop, 0, [6], [])]),
  ([], [(38, .lstore 5, 2, [], []), (40, .lload 5, 2, [], []), (42, .ldc2_w 193, 3, [281474976710656], [785]), (45, .lcmp, 1, [], []), (46, .ifCond .ne 5, 3, [8, 7], [])]),
  ([], [(49, .iconst 2, 1, [], []), (50, .ireturn, 1, [0], [])]),
  ([5], [(51, .lload 5, 2, [], []), (53, .lconst 0, 1, [], []), (54, .lcmp, 1, [], []), (55, .ifCond .ne 7, 3, [10, 9], [])]),
  ([], [(58, .iconst 0, 1, [], []), (59, .goto 4, 3, [11], [])]),
  ([], [(62, .iconst 1, 1, [], []), (63, .nop, 0, [11], [])]),
  ([], [(63, .ireturn, 1, [0], [])])]
def km_X11_sure : MT := (yX11_sure, cX11_sure, 7, (some .int), kb_X11_sure)
def kb_X11_tell : List (List Nat × List RI) := [
  ([0, 1, 2], [(0, .aload_n 0, 1, [], []), (1, .getfield 14, 3, [0, 2, 11], [214, 0]), (4, .iload_n 2, 1, [], []), (5, .invokevirtual 146, 3, [2, 3, 1, 10, 51], [649, 0, 650, 651, 68, 0, 0, 0]), (8, .nop, 0, [1], [])]),
  ([0, 1], [(8, .astore_n 3, 1, [], []), (9, .aload_n 0, 1, [], []), (10, .getfield 14, 3, [0, 2, 11], [214, 0]), (13, .iload_n 1, 1, [], []), (14, .invokevirtual 91, 3, [2, 1, 1, 10, 49], [468, 0, 469, 470, 68, 0, 0, 0]), (17, .nop, 0, [2], [])]),
  ([0, 1, 3], [(17, .ifCond .eq 7, 3, [4, 3], [])]),
  ([0, 1, 3], [(20, .aload_n 3, 1, [], []), (21, .ifnonnull 5, 3, [5, 4], [])]),
  ([], [(24, .iconst (-1), 1, [], []), (25, .ireturn, 1, [0], [])]),
  ([0, 1, 3], [(26, .aload_n 0, 1, [], []), (27, .getfield 14, 3, [0, 2, 11], [214, 0]), (30, .iload_n 1, 1, [], []), (31, .aload_n 3, 1, [], []), (32, .aload_n 0, 1, [], []), (33, .getfield 14, 3, [0, 2, 11], [214, 0]), (36, .getfield 98, 3, [10, 0, 10], [129, 0]), (39, .invokevirtual 162, 3, [2, 1, 1, 0, 1, 1, 4, 2, 7, 4, 15, 6, 33, 7, 1, 8, 43], [653, 1, 658, 657, 82, 656, 33, 654, 1, 661, 660, 83, 656, 33, 654, 1, 664, 663, 87, 656, 33, 654, 1, 667, 669, 84, 656, 33, 654, 1, 654, 655, 81, 656, 33, 654, 1, 658, 670, 82, 656, 33, 654, 1, 672, 671, 86, 656, 33, 654]), (42, .nop, 0, [6], [])]),
  ([0, 1], [(42, .invokevirtual 195, 3, [2, 1, 2, 10, 59], [795, 0, 796, 797, 68, 0, 0, 0]), (45, .nop, 0, [7], [])]),
  ([0, 1], [(45, .istore 4, 2, [], []), (47, .iload 4, 2, [], []), (49, .aload_n 0, 1, [], []), (50, .getfield 14, 3, [0, 2, 11], [214, 0]), (53, .getfield 84, 3, [9, 0, 10], [127, 0]), (56, .iload_n 1, 1, [], []), (57, .invokestatic 94, 3, [0, 1, 2, 107], [0, 472, 473]), (60, .nop, 0, [8], [])]),
  ([], [(60, .invokestatic 198, 3, [0, 1, 2, 109], [0, 807, 805]), (63, .nop, 0, [9], [])]),
  ([], [(63, .ireturn, 1, [0], [])])]
def km_X11_tell : MT := (yX11_tell, cX11_tell, 5, (some .int), kb_X11_tell)
def kb_X11_which : List (List Nat × List RI) := [
  ([0, 1], [(0, .aload_n 0, 1, [], []), (1, .getfield 14, 3, [0, 2, 11], [214, 0]), (4, .iload_n 1, 1, [], []), (5, .invokevirtual 185, 3, [2, 3, 1, 10, 50], [735, 0, 736, 737, 68, 0, 0, 0]), (8, .nop, 0, [1], [])]),
  ([0], [(8, .astore_n 2, 1, [], []), (9, .aload_n 2, 1, [], []), (10, .ifnonnull 5, 3, [3, 2], [])]),
  ([], [(13, .iconst (-1), 1, [], []), (14, .ireturn, 1, [0], [])]),
  ([0, 2], [(15, .bipush (-5), 2, [], []), (17, .istore_n 3, 1, [], []), (18, .lconst 0, 1, [], []), (19, .lstore 4, 2, [], []), (21, .iconst 0, 1, [], []), (22, .istore 6, 2, [], []), (24, .iconst 0, 1, [], []), (25, .istore 7, 2, [], []), (27, .nop, 0, [4], [])]),
  ([0, 2, 3, 4, 6, 7], [(27, .iload 7, 2, [], []), (29, .aload_n 0, 1, [], []), (30, .getfield 14, 3, [0, 2, 11], [214, 0]), (33, .getfield 112, 3, [7, 0, 10], [123, 0]), (36, .if_icmp .ge 86, 3, [15, 5], [])]),
  ([0, 2, 3, 4, 6, 7], [(39, .aload_n 0, 1, [], []), (40, .getfield 14, 3, [0, 2, 11], [214, 0]), (43, .iload 7, 2, [], []), (45, .invokevirtual 146, 3, [2, 3, 1, 10, 51], [649, 0, 650, 651, 68, 0, 0, 0]), (48, .nop, 0, [6], [])]),
  ([0, 2, 3, 4, 6, 7], [(48, .astore 8, 2, [], []), (50, .aload 8, 2, [], []), (52, .ifnull 64, 3, [14, 7], [])]),
  ([0, 2, 3, 4, 6, 7, 8], [(55, .aload_n 0, 1, [], []), (56, .aload_n 2, 1, [], []), (57, .aload 8, 2, [], []), (59, .iconst 0, 1, [], []), (60, .invokevirtual 189, 3, [2, 2, 3, 11, 87], [743, 0, 745, 13, 67, 0, 0, 0]), (63, .nop, 0, [8], [])]),
  ([0, 2, 3, 4, 6, 7, 8], [(63, .lstore 9, 2, [], []), (65, .aload_n 0, 1, [], []), (66, .getfield 14, 3, [0, 2, 11], [214, 0]), (69, .aload 8, 2, [], []), (71, .invokevirtual 166, 3, [2, 1, 1, 10, 56], [677, 0, 678, 679, 68, 0, 0, 0]), (74, .nop, 0, [9], [])]),
  ([0, 2, 3, 4, 6, 7, 9], [(74, .istore 11, 2, [], []), (76, .iload_n 3, 1, [], []), (77, .bipush (-5), 2, [], []), (79, .if_icmp .eq 26, 3, [13, 10], [])]),
  ([0, 2, 3, 4, 6, 7, 9, 11], [(82, .lload 9, 2, [], []), (84, .lload 4, 2, [], []), (86, .lcmp, 1, [], []), (87, .ifCond .gt 18, 3, [13, 11], [])]),
  ([0, 2, 3, 4, 6, 7, 9, 11], [(90, .lload 9, 2, [], []), (92, .lload 4, 2, [], []), (94, .lcmp, 1, [], []), (95, .ifCond .ne 21, 3, [14, 12], [])]),
  ([0, 2, 3, 4, 6, 7, 9, 11], [(98, .iload 11, 2, [], []), (100, .iload 6, 2, [], []), (102, .if_icmp .ge 14, 3, [14, 13], [])]),
  ([0, 2, 7, 9, 11], [(105, .iload 7, 2, [], []), (107, .istore_n 3, 1, [], []), (108, .lload 9, 2, [], []), (110, .lstore 4, 2, [], []), (112, .iload 11, 2, [], []), (114, .istore 6, 2, [], []), (116, .nop, 0, [14], [])]),
  ([0, 2, 3, 4, 6, 7], [(116, .iinc 7 1, 3, [], []), (119, .goto (-92), 3, [4], [])]),
  ([3], [(122, .iload_n 3, 1, [], []), (123, .ireturn, 1, [0], [])])]
def km_X11_which : MT := (yX11_which, cX11_which, 12, (some .int), kb_X11_which)
def kb_X11_worth : List (List Nat × List RI) := [
  ([0, 1, 2, 3, 4, 5], [(0, .aload_n 0, 1, [], []), (1, .getfield 14, 3, [0, 2, 11], [214, 0]), (4, .iload_n 1, 1, [], []), (5, .invokevirtual 185, 3, [2, 3, 1, 10, 50], [735, 0, 736, 737, 68, 0, 0, 0]), (8, .nop, 0, [1], [])]),
  ([0, 2, 3, 4, 5], [(8, .astore 6, 2, [], []), (10, .aload_n 0, 1, [], []), (11, .getfield 14, 3, [0, 2, 11], [214, 0]), (14, .iload_n 2, 1, [], []), (15, .invokevirtual 146, 3, [2, 3, 1, 10, 51], [649, 0, 650, 651, 68, 0, 0, 0]), (18, .nop, 0, [2], [])]),
  ([0, 3, 4, 5, 6], [(18, .astore 7, 2, [], []), (20, .aload 6, 2, [], []), (22, .ifnull 38, 3, [10, 3], [])]),
  ([0, 3, 4, 5, 6, 7], [(25, .aload 7, 2, [], []), (27, .ifnull 33, 3, [10, 4], [])]),
  ([0, 3, 4, 5, 6, 7], [(30, .iload_n 3, 1, [], []), (31, .ifCond .lt 29, 3, [10, 5], [])]),
  ([0, 3, 4, 5, 6, 7], [(34, .iload_n 3, 1, [], []), (35, .bipush 99, 2, [], []), (37, .if_icmp .gt 23, 3, [10, 6], [])]),
  ([0, 3, 4, 5, 6, 7], [(40, .iload 4, 2, [], []), (42, .ifCond .lt 18, 3, [10, 7], [])]),
  ([0, 3, 4, 5, 6, 7], [(45, .iload 4, 2, [], []), (47, .bipush 99, 2, [], []), (49, .if_icmp .gt 11, 3, [10, 8], [])]),
  ([0, 3, 4, 5, 6, 7], [(52, .iload 5, 2, [], []), (54, .invokestatic 201, 3, [0, 1, 1, 106], [0, 739, 740]), (57, .nop, 0, [9], [])]),
  ([0, 3, 4, 5, 6, 7], [(57, .ifCond .ne 7, 3, [11, 10], [])]),
  ([], [(60, .ldc2_w 204, 3, [9223372036854775808], [742]), (63, .lreturn, 1, [], [])]),
  ([0, 3, 4, 5, 6, 7], [(64, .aload_n 0, 1, [], []), (65, .aload 6, 2, [], []), (67, .aload 7, 2, [], []), (69, .iconst 0, 1, [], []), (70, .invokevirtual 189, 3, [2, 2, 3, 11, 87], [743, 0, 745, 13, 67, 0, 0, 0]), (73, .nop, 0, [12], [])]),
  ([0, 3, 4, 5, 7], [(73, .lstore 8, 2, [], []), (75, .iload_n 3, 1, [], []), (76, .i2l, 1, [], []), (77, .lload 8, 2, [], []), (79, .lmul, 1, [], []), (80, .iload 4, 2, [], []), (82, .i2l, 1, [], []), (83, .ldc2_w 193, 3, [281474976710656], [785]), (86, .lload 8, 2, [], []), (88, .lsub, 1, [], []), (89, .lmul, 1, [], []), (90, .lsub, 1, [], []), (91, .aload_n 0, 1, [], []), (92, .getfield 14, 3, [0, 2, 11], [214, 0]), (95, .aload 7, 2, [], []), (97, .invokevirtual 166, 3, [2, 1, 1, 10, 56], [677, 0, 678, 679, 68, 0, 0, 0]), (100, .nop, 0, [13], [])]),
  ([5], [(100, .i2l, 1, [], []), (101, .ldc2_w 193, 3, [281474976710656], [785]), (104, .lmul, 1, [], []), (105, .lsub, 1, [], []), (106, .iload 5, 2, [], []), (108, .invokestatic 206, 3, [0, 2, 2, 94], [0, 782, 783]), (111, .nop, 0, [14], [])]),
  ([], [(111, .lreturn, 1, [], [])])]
def km_X11_worth : MT := (yX11_worth, cX11_worth, 10, (some .long), kb_X11_worth)
def kb_X11_sit : List (List Nat × List RI) := [
  ([0, 1, 2], [(0, .aload_n 0, 1, [], []), (1, .getfield 14, 3, [0, 2, 11], [214, 0]), (4, .iload_n 1, 1, [], []), (5, .invokevirtual 185, 3, [2, 3, 1, 10, 50], [735, 0, 736, 737, 68, 0, 0, 0]), (8, .nop, 0, [1], [])]),
  ([0, 2], [(8, .astore_n 3, 1, [], []), (9, .aload_n 0, 1, [], []), (10, .getfield 14, 3, [0, 2, 11], [214, 0]), (13, .iload_n 2, 1, [], []), (14, .invokevirtual 146, 3, [2, 3, 1, 10, 51], [649, 0, 650, 651, 68, 0, 0, 0]), (17, .nop, 0, [2], [])]),
  ([0, 3], [(17, .astore 4, 2, [], []), (19, .aload_n 3, 1, [], []), (20, .ifnull 8, 3, [4, 3], [])]),
  ([0, 3, 4], [(23, .aload 4, 2, [], []), (25, .ifnonnull 5, 3, [5, 4], [])]),
  ([], [(28, .iconst (-1), 1, [], []), (29, .ireturn, 1, [0], [])]),
  ([0, 3, 4], [(30, .aload 4, 2, [], []), (32, .aload_n 0, 1, [], []), (33, .getfield 14, 3, [0, 2, 11], [214, 0]), (36, .getfield 98, 3, [10, 0, 10], [129, 0]), (39, .invokevirtual 162, 3, [2, 1, 1, 0, 1, 1, 4, 2, 7, 4, 15, 6, 33, 7, 1, 8, 43], [653, 1, 658, 657, 82, 656, 33, 654, 1, 661, 660, 83, 656, 33, 654, 1, 664, 663, 87, 656, 33, 654, 1, 667, 669, 84, 656, 33, 654, 1, 654, 655, 81, 656, 33, 654, 1, 658, 670, 82, 656, 33, 654, 1, 672, 671, 86, 656, 33, 654]), (42, .nop, 0, [6], [])]),
  ([0, 3], [(42, .istore 5, 2, [], []), (44, .iconst 0, 1, [], []), (45, .istore 6, 2, [], []), (47, .nop, 0, [7], [])]),
  ([0, 3, 5, 6], [(47, .iload 6, 2, [], []), (49, .bipush 6, 2, [], []), (51, .if_icmp .gt 36, 3, [13, 8], [])]),
  ([0, 3, 5, 6], [(54, .aload_n 0, 1, [], []), (55, .aload_n 3, 1, [], []), (56, .iload 5, 2, [], []), (58, .iload 6, 2, [], []), (60, .iadd, 1, [], []), (61, .invokevirtual 210, 3, [2, 0, 2, 11, 90], [820, 0, 822, 16, 67, 0, 0, 0]), (64, .nop, 0, [9], [])]),
  ([0, 3, 5, 6], [(64, .aload_n 0, 1, [], []), (65, .aload_n 0, 1, [], []), (66, .getfield 14, 3, [0, 2, 11], [214, 0]), (69, .getfield 84, 3, [9, 0, 10], [127, 0]), (72, .invokevirtual 214, 3, [2, 1, 1, 11, 92], [828, 0, 830, 18, 67, 0, 0, 0]), (75, .nop, 0, [10], [])]),
  ([0, 3, 5, 6], [(75, .ifCond .ne 6, 3, [12, 11], [])]),
  ([6], [(78, .iload 6, 2, [], []), (80, .ireturn, 1, [0], [])]),
  ([0, 3, 5, 6], [(81, .iinc 6 1, 3, [], []), (84, .goto (-37), 3, [7], [])]),
  ([], [(87, .bipush (-5), 2, [], []), (89, .ireturn, 1, [0], [])])]
def km_X11_sit : MT := (yX11_sit, cX11_sit, 7, (some .int), kb_X11_sit)
def kb_X11_catches : List (List Nat × List RI) := [
  ([0, 1, 2, 3], [(0, .aload_n 0, 1, [], []), (1, .getfield 14, 3, [0, 2, 11], [214, 0]), (4, .iload_n 1, 1, [], []), (5, .invokevirtual 146, 3, [2, 3, 1, 10, 51], [649, 0, 650, 651, 68, 0, 0, 0]), (8, .nop, 0, [1], [])]),
  ([0, 2, 3], [(8, .astore 4, 2, [], []), (10, .aload_n 0, 1, [], []), (11, .getfield 14, 3, [0, 2, 11], [214, 0]), (14, .iload_n 2, 1, [], []), (15, .invokevirtual 146, 3, [2, 3, 1, 10, 51], [649, 0, 650, 651, 68, 0, 0, 0]), (18, .nop, 0, [2], [])]),
  ([0, 3, 4], [(18, .astore 5, 2, [], []), (20, .aload 4, 2, [], []), (22, .ifnull 8, 3, [4, 3], [])]),
  ([0, 3, 4, 5], [(25, .aload 5, 2, [], []), (27, .ifnonnull 5, 3, [5, 4], [])]),
  ([], [(30, .iconst (-1), 1, [], []), (31, .ireturn, 1, [0], [])]),
  ([0, 3, 4, 5], [(32, .iload_n 3, 1, [], []), (33, .ifCond .lt 9, 3, [7, 6], [])]),
  ([0, 3, 4, 5], [(36, .iload_n 3, 1, [], []), (37, .bipush 6, 2, [], []), (39, .if_icmp .le 6, 3, [8, 7], [])]),
  ([], [(42, .bipush (-2), 2, [], []), (44, .ireturn, 1, [0], [])]),
  ([0, 3, 4, 5], [(45, .iload_n 3, 1, [], []), (46, .aload 5, 2, [], []), (48, .aload_n 0, 1, [], []), (49, .getfield 14, 3, [0, 2, 11], [214, 0]), (52, .getfield 98, 3, [10, 0, 10], [129, 0]), (55, .iload_n 3, 1, [], []), (56, .iadd, 1, [], []), (57, .invokevirtual 162, 3, [2, 1, 1, 0, 1, 1, 4, 2, 7, 4, 15, 6, 33, 7, 1, 8, 43], [653, 1, 658, 657, 82, 656, 33, 654, 1, 661, 660, 83, 656, 33, 654, 1, 664, 663, 87, 656, 33, 654, 1, 667, 669, 84, 656, 33, 654, 1, 654, 655, 81, 656, 33, 654, 1, 658, 670, 82, 656, 33, 654, 1, 672, 671, 86, 656, 33, 654]), (60, .nop, 0, [9], [])]),
  ([0, 4], [(60, .iadd, 1, [], []), (61, .aload 4, 2, [], []), (63, .aload_n 0, 1, [], []), (64, .getfield 14, 3, [0, 2, 11], [214, 0]), (67, .getfield 98, 3, [10, 0, 10], [129, 0]), (70, .invokevirtual 162, 3, [2, 1, 1, 0, 1, 1, 4, 2, 7, 4, 15, 6, 33, 7, 1, 8, 43], [653, 1, 658, 657, 82, 656, 33, 654, 1, 661, 660, 83, 656, 33, 654, 1, 664, 663, 87, 656, 33, 654, 1, 667, 669, 84, 656, 33, 654, 1, 654, 655, 81, 656, 33, 654, 1, 658, 670, 82, 656, 33, 654, 1, 672, 671, 86, 656, 33, 654]), (73, .nop, 0, [10], [])]),
  ([], [(73, .if_icmp .gt 7, 3, [12, 11], [])]),
  ([], [(76, .iconst 1, 1, [], []), (77, .goto 4, 3, [13], [])]),
  ([], [(80, .iconst 0, 1, [], []), (81, .nop, 0, [13], [])]),
  ([], [(81, .ireturn, 1, [0], [])])]
def km_X11_catches : MT := (yX11_catches, cX11_catches, 6, (some .int), kb_X11_catches)
def kb_X11_all : List (List Nat × List RI) := [
  ([0, 1], [(0, .iload_n 1, 1, [], []), (1, .ifCond .lt 8, 3, [2, 1], [])]),
  ([0, 1], [(4, .iload_n 1, 1, [], []), (5, .iconst 1, 1, [], []), (6, .if_icmp .le 5, 3, [3, 2], [])]),
  ([], [(9, .iconst (-1), 1, [], []), (10, .ireturn, 1, [0], [])]),
  ([0, 1], [(11, .iconst 0, 1, [], []), (12, .istore_n 2, 1, [], []), (13, .iconst 0, 1, [], []), (14, .istore_n 3, 1, [], []), (15, .iconst 0, 1, [], []), (16, .istore 4, 2, [], []), (18, .nop, 0, [4], [])]),
  ([0, 1, 2, 3, 4], [(18, .iload 4, 2, [], []), (20, .aload_n 0, 1, [], []), (21, .getfield 14, 3, [0, 2, 11], [214, 0]), (24, .getfield 112, 3, [7, 0, 10], [123, 0]), (27, .if_icmp .ge 54, 3, [11, 5], [])]),
  ([0, 1, 2, 3, 4], [(30, .aload_n 0, 1, [], []), (31, .getfield 14, 3, [0, 2, 11], [214, 0]), (34, .iload 4, 2, [], []), (36, .invokevirtual 146, 3, [2, 3, 1, 10, 51], [649, 0, 650, 651, 68, 0, 0, 0]), (39, .nop, 0, [6], [])]),
  ([0, 1, 2, 3, 4], [(39, .astore 5, 2, [], []), (41, .aload 5, 2, [], []), (43, .ifnull 32, 3, [10, 7], [])]),
  ([0, 1, 2, 3, 4, 5], [(46, .iload_n 2, 1, [], []), (47, .aload 5, 2, [], []), (49, .aload_n 0, 1, [], []), (50, .getfield 14, 3, [0, 2, 11], [214, 0]), (53, .getfield 98, 3, [10, 0, 10], [129, 0]), (56, .invokevirtual 162, 3, [2, 1, 1, 0, 1, 1, 4, 2, 7, 4, 15, 6, 33, 7, 1, 8, 43], [653, 1, 658, 657, 82, 656, 33, 654, 1, 661, 660, 83, 656, 33, 654, 1, 664, 663, 87, 656, 33, 654, 1, 667, 669, 84, 656, 33, 654, 1, 654, 655, 81, 656, 33, 654, 1, 658, 670, 82, 656, 33, 654, 1, 672, 671, 86, 656, 33, 654]), (59, .nop, 0, [8], [])]),
  ([0, 1, 3, 4, 5], [(59, .invokestatic 217, 3, [5], [844, 354, 76, 355]), (62, .istore_n 2, 1, [], []), (63, .iload_n 3, 1, [], []), (64, .aload_n 0, 1, [], []), (65, .getfield 14, 3, [0, 2, 11], [214, 0]), (68, .aload 5, 2, [], []), (70, .invokevirtual 166, 3, [2, 1, 1, 10, 56], [677, 0, 678, 679, 68, 0, 0, 0]), (73, .nop, 0, [9], [])]),
  ([0, 1, 2, 4], [(73, .iadd, 1, [], []), (74, .istore_n 3, 1, [], []), (75, .nop, 0, [10], [])]),
  ([0, 1, 2, 3, 4], [(75, .iinc 4 1, 3, [], []), (78, .goto (-60), 3, [4], [])]),
  ([1, 2, 3], [(81, .iload_n 1, 1, [], []), (82, .ifCond .ne 7, 3, [13, 12], [])]),
  ([2], [(85, .iload_n 2, 1, [], []), (86, .goto 4, 3, [14], [])]),
  ([3], [(89, .iload_n 3, 1, [], []), (90, .nop, 0, [14], [])]),
  ([], [(90, .ireturn, 1, [0], [])])]
def km_X11_all : MT := (yX11_all, cX11_all, 6, (some .int), kb_X11_all)
def kb_X11_begin : List (List Nat × List RI) := [
  ([0, 1, 2, 3], [(0, .aload_n 0, 1, [], []), (1, .getfield 14, 3, [0, 2, 11], [214, 0]), (4, .iload_n 1, 1, [], []), (5, .invokevirtual 185, 3, [2, 3, 1, 10, 50], [735, 0, 736, 737, 68, 0, 0, 0]), (8, .nop, 0, [1], [])]),
  ([0, 2, 3], [(8, .astore 4, 2, [], []), (10, .aload_n 0, 1, [], []), (11, .getfield 14, 3, [0, 2, 11], [214, 0]), (14, .iload_n 2, 1, [], []), (15, .invokevirtual 146, 3, [2, 3, 1, 10, 51], [649, 0, 650, 651, 68, 0, 0, 0]), (18, .nop, 0, [2], [])]),
  ([0, 3, 4], [(18, .astore 5, 2, [], []), (20, .aload 4, 2, [], []), (22, .ifnull 17, 3, [6, 3], [])]),
  ([0, 3, 4, 5], [(25, .aload 5, 2, [], []), (27, .ifnull 12, 3, [6, 4], [])]),
  ([0, 3, 4, 5], [(30, .iload_n 3, 1, [], []), (31, .ifCond .lt 8, 3, [6, 5], [])]),
  ([0, 3, 4, 5], [(34, .iload_n 3, 1, [], []), (35, .iconst 1, 1, [], []), (36, .if_icmp .le 5, 3, [7, 6], [])]),
  ([], [(39, .iconst (-1), 1, [], []), (40, .ireturn, 1, [0], [])]),
  ([0, 3, 4, 5], [(41, .aload_n 0, 1, [], []), (42, .aload 4, 2, [], []), (44, .aload 5, 2, [], []), (46, .aload_n 0, 1, [], []), (47, .getfield 14, 3, [0, 2, 11], [214, 0]), (50, .getfield 98, 3, [10, 0, 10], [129, 0]), (53, .invokevirtual 162, 3, [2, 1, 1, 0, 1, 1, 4, 2, 7, 4, 15, 6, 33, 7, 1, 8, 43], [653, 1, 658, 657, 82, 656, 33, 654, 1, 661, 660, 83, 656, 33, 654, 1, 664, 663, 87, 656, 33, 654, 1, 667, 669, 84, 656, 33, 654, 1, 654, 655, 81, 656, 33, 654, 1, 658, 670, 82, 656, 33, 654, 1, 672, 671, 86, 656, 33, 654]), (56, .nop, 0, [8], [])]),
  ([0, 3], [(56, .invokevirtual 210, 3, [2, 0, 2, 11, 90], [820, 0, 822, 16, 67, 0, 0, 0]), (59, .nop, 0, [9], [])]),
  ([0, 3], [(59, .iconst 0, 1, [], []), (60, .istore 6, 2, [], []), (62, .bipush (-5), 2, [], []), (64, .istore 7, 2, [], []), (66, .aload_n 0, 1, [], []), (67, .getfield 14, 3, [0, 2, 11], [214, 0]), (70, .invokevirtual 222, 3, [2, 1, 0, 10, 53], [759, 0, 760, 761, 68, 0, 0, 0]), (73, .nop, 0, [10], [])]),
  ([0, 3, 6, 7], [(73, .iconst 1, 1, [], []), (74, .isub, 1, [], []), (75, .istore 8, 2, [], []), (77, .nop, 0, [11], [])]),
  ([0, 3, 6, 7, 8], [(77, .iload 8, 2, [], []), (79, .ifCond .lt 25, 3, [16, 12], [])]),
  ([0, 3, 6, 7, 8], [(82, .aload_n 0, 1, [], []), (83, .iload 8, 2, [], []), (85, .invokevirtual 214, 3, [2, 1, 1, 11, 92], [828, 0, 830, 18, 67, 0, 0, 0]), (88, .nop, 0, [13], [])]),
  ([0, 3, 6, 7, 8], [(88, .ifCond .ne 10, 3, [15, 14], [])]),
  ([0, 3, 6, 8], [(91, .iinc 6 1, 3, [], []), (94, .iload 8, 2, [], []), (96, .istore 7, 2, [], []), (98, .nop, 0, [15], [])]),
  ([0, 3, 6, 7, 8], [(98, .iinc 8 (-1), 3, [], []), (101, .goto (-24), 3, [11], [])]),
  ([3, 6, 7], [(104, .iload_n 3, 1, [], []), (105, .ifCond .ne 8, 3, [18, 17], [])]),
  ([6], [(108, .iload 6, 2, [], []), (110, .goto 5, 3, [19], [])]),
  ([7], [(113, .iload 7, 2, [], []), (115, .nop, 0, [19], [])]),
  ([], [(115, .ireturn, 1, [0], [])])]
def km_X11_begin : MT := (yX11_begin, cX11_begin, 9, (some .int), kb_X11_begin)
def kb_X11_heed : List (List Nat × List RI) := [
  ([0, 1, 2], [(0, .iload_n 1, 1, [], []), (1, .iconst (-1), 1, [], []), (2, .if_icmp .eq 16, 3, [4, 1], [])]),
  ([0, 1, 2], [(5, .aload_n 0, 1, [], []), (6, .getfield 14, 3, [0, 2, 11], [214, 0]), (9, .iload_n 1, 1, [], []), (10, .invokevirtual 91, 3, [2, 1, 1, 10, 49], [468, 0, 469, 470, 68, 0, 0, 0]), (13, .nop, 0, [2], [])]),
  ([0, 1, 2], [(13, .ifCond .ne 5, 3, [4, 3], [])]),
  ([], [(16, .iconst (-1), 1, [], []), (17, .ireturn, 1, [0], [])]),
  ([0, 1, 2], [(18, .iload_n 1, 1, [], []), (19, .iconst (-1), 1, [], []), (20, .if_icmp .eq 13, 3, [8, 5], [])]),
  ([0, 1, 2], [(23, .iload_n 2, 1, [], []), (24, .invokestatic 77, 3, [0, 1, 1, 104], [0, 458, 459]), (27, .nop, 0, [6], [])]),
  ([0, 1, 2], [(27, .ifCond .ne 6, 3, [8, 7], [])]),
  ([], [(30, .bipush (-2), 2, [], []), (32, .ireturn, 1, [0], [])]),
  ([0, 1, 2], [(33, .aload_n 0, 1, [], []), (34, .getfield 14, 3, [0, 2, 11], [214, 0]), (37, .iload_n 1, 1, [], []), (38, .putfield 225, 3, [11, 0, 10], [131, 0]), (41, .aload_n 0, 1, [], []), (42, .getfield 14, 3, [0, 2, 11], [214, 0]), (45, .iload_n 1, 1, [], []), (46, .iconst (-1), 1, [], []), (47, .if_icmp .ne 7, 3, [10, 9], [])]),
  ([], [(50, .iconst 0, 1, [], []), (51, .goto 4, 3, [11], [])]),
  ([2], [(54, .iload_n 2, 1, [], []), (55, .nop, 0, [11], [])]),
  ([], [(55, .putfield 228, 3, [12, 0, 10], [133, 0]), (58, .iconst 1, 1, [], []), (59, .ireturn, 1, [0], [])])]
def km_X11_heed : MT := (yX11_heed, cX11_heed, 3, (some .int), kb_X11_heed)
def kb_X11_self : List (List Nat × List RI) := [
  ([0, 1, 2, 3, 4], [(0, .aload_n 0, 1, [], []), (1, .getfield 14, 3, [0, 2, 11], [214, 0]), (4, .iload_n 1, 1, [], []), (5, .invokevirtual 185, 3, [2, 3, 1, 10, 50], [735, 0, 736, 737, 68, 0, 0, 0]), (8, .nop, 0, [1], [])]),
  ([0, 2, 3, 4], [(8, .astore 5, 2, [], []), (10, .aload_n 0, 1, [], []), (11, .getfield 14, 3, [0, 2, 11], [214, 0]), (14, .iload_n 2, 1, [], []), (15, .invokevirtual 146, 3, [2, 3, 1, 10, 51], [649, 0, 650, 651, 68, 0, 0, 0]), (18, .nop, 0, [2], [])]),
  ([0, 3, 4, 5], [(18, .astore 6, 2, [], []), (20, .aload 5, 2, [], []), (22, .ifnull 25, 3, [8, 3], [])]),
  ([0, 3, 4, 5, 6], [(25, .aload 6, 2, [], []), (27, .ifnull 20, 3, [8, 4], [])]),
  ([0, 3, 4, 5, 6], [(30, .iload_n 3, 1, [], []), (31, .ifCond .lt 16, 3, [8, 5], [])]),
  ([0, 3, 4, 5, 6], [(34, .iload_n 3, 1, [], []), (35, .iconst 2, 1, [], []), (36, .if_icmp .gt 11, 3, [8, 6], [])]),
  ([0, 3, 4, 5, 6], [(39, .iload 4, 2, [], []), (41, .invokestatic 201, 3, [0, 1, 1, 106], [0, 739, 740]), (44, .nop, 0, [7], [])]),
  ([0, 3, 4, 5, 6], [(44, .ifCond .ne 7, 3, [9, 8], [])]),
  ([], [(47, .ldc2_w 204, 3, [9223372036854775808], [742]), (50, .lreturn, 1, [], [])]),
  ([0, 3, 4, 5, 6], [(51, .aload_n 0, 1, [], []), (52, .aload 5, 2, [], []), (54, .aload 6, 2, [], []), (56, .iload_n 3, 1, [], []), (57, .invokevirtual 189, 3, [2, 2, 3, 11, 87], [743, 0, 745, 13, 67, 0, 0, 0]), (60, .nop, 0, [10], [])]),
  ([4], [(60, .iload 4, 2, [], []), (62, .invokestatic 206, 3, [0, 2, 2, 94], [0, 782, 783]), (65, .nop, 0, [11], [])]),
  ([], [(65, .lreturn, 1, [], [])])]
def km_X11_self : MT := (yX11_self, cX11_self, 7, (some .long), kb_X11_self)
def kb_X11_back : List (List Nat × List RI) := [
  ([0, 1, 2, 3], [(0, .aload_n 0, 1, [], []), (1, .getfield 14, 3, [0, 2, 11], [214, 0]), (4, .iload_n 1, 1, [], []), (5, .invokevirtual 91, 3, [2, 1, 1, 10, 49], [468, 0, 469, 470, 68, 0, 0, 0]), (8, .nop, 0, [1], [])]),
  ([0, 1, 2, 3], [(8, .ifCond .ne 5, 3, [3, 2], [])]),
  ([], [(11, .iconst (-1), 1, [], []), (12, .ireturn, 1, [0], [])]),
  ([0, 1, 2, 3], [(13, .iload_n 2, 1, [], []), (14, .invokestatic 77, 3, [0, 1, 1, 104], [0, 458, 459]), (17, .nop, 0, [4], [])]),
  ([0, 1, 2, 3], [(17, .ifCond .eq 13, 3, [7, 5], [])]),
  ([0, 1, 2, 3], [(20, .iload_n 3, 1, [], []), (21, .ifCond .lt 9, 3, [7, 6], [])]),
  ([0, 1, 2, 3], [(24, .iload_n 3, 1, [], []), (25, .bipush 6, 2, [], []), (27, .if_icmp .le 6, 3, [8, 7], [])]),
  ([], [(30, .bipush (-2), 2, [], []), (32, .ireturn, 1, [0], [])]),
  ([0, 1, 2, 3], [(33, .aload_n 0, 1, [], []), (34, .getfield 14, 3, [0, 2, 11], [214, 0]), (37, .iload_n 1, 1, [], []), (38, .iload_n 3, 1, [], []), (39, .invokevirtual 195, 3, [2, 1, 2, 10, 59], [795, 0, 796, 797, 68, 0, 0, 0]), (42, .nop, 0, [9], [])]),
  ([2], [(42, .istore 4, 2, [], []), (44, .iconst 0, 1, [], []), (45, .istore 5, 2, [], []), (47, .iconst 0, 1, [], []), (48, .istore 6, 2, [], []), (50, .nop, 0, [10], [])]),
  ([2, 4, 5, 6], [(50, .iload 6, 2, [], []), (52, .iconst 4, 1, [], []), (53, .if_icmp .ge 33, 3, [15, 11], [])]),
  ([2, 4, 5, 6], [(56, .iload 4, 2, [], []), (58, .iload 6, 2, [], []), (60, .invokestatic 198, 3, [0, 1, 2, 109], [0, 807, 805]), (63, .nop, 0, [12], [])]),
  ([2, 4, 5, 6], [(63, .iload_n 2, 1, [], []), (64, .ishr, 1, [], []), (65, .iconst 1, 1, [], []), (66, .iand, 1, [], []), (67, .iconst 1, 1, [], []), (68, .if_icmp .ne 12, 3, [14, 13], [])]),
  ([2, 4, 5, 6], [(71, .iload 5, 2, [], []), (73, .iconst 1, 1, [], []), (74, .iload 6, 2, [], []), (76, .ishl, 1, [], []), (77, .ior, 1, [], []), (78, .istore 5, 2, [], []), (80, .nop, 0, [14], [])]),
  ([2, 4, 5, 6], [(80, .iinc 6 1, 3, [], []), (83, .goto (-33), 3, [10], [])]),
  ([5], [(86, .iload 5, 2, [], []), (88, .ireturn, 1, [0], [])])]
def km_X11_back : MT := (yX11_back, cX11_back, 7, (some .int), kb_X11_back)
def kb_X11_partsSo : List (List Nat × List RI) := [
  ([0, 1, 2, 3], [(0, .aload_n 2, 1, [], []), (1, .aload_n 0, 1, [], []), (2, .getfield 14, 3, [0, 2, 11], [214, 0]), (5, .getfield 98, 3, [10, 0, 10], [129, 0]), (8, .invokevirtual 162, 3, [2, 1, 1, 0, 1, 1, 4, 2, 7, 4, 15, 6, 33, 7, 1, 8, 43], [653, 1, 658, 657, 82, 656, 33, 654, 1, 661, 660, 83, 656, 33, 654, 1, 664, 663, 87, 656, 33, 654, 1, 667, 669, 84, 656, 33, 654, 1, 654, 655, 81, 656, 33, 654, 1, 658, 670, 82, 656, 33, 654, 1, 672, 671, 86, 656, 33, 654]), (11, .nop, 0, [1], [])]),
  ([0, 1, 3], [(11, .istore 4, 2, [], []), (13, .iconst 0, 1, [], []), (14, .istore 5, 2, [], []), (16, .nop, 0, [2], [])]),
  ([0, 1, 3, 4, 5], [(16, .iload 5, 2, [], []), (18, .aload_n 0, 1, [], []), (19, .getfield 37, 3, [4, 2, 11], [218, 0]), (22, .arraylength, 1, [], []), (23, .if_icmp .ge 27, 3, [5, 3], [])]),
  ([0, 1, 3, 4, 5], [(26, .aload_n 0, 1, [], []), (27, .getfield 37, 3, [4, 2, 11], [218, 0]), (30, .iload 5, 2, [], []), (32, .aload_n 0, 1, [], []), (33, .getfield 14, 3, [0, 2, 11], [214, 0]), (36, .iload 5, 2, [], []), (38, .iload 4, 2, [], []), (40, .invokevirtual 231, 3, [2, 2, 2, 10, 60], [747, 0, 748, 749, 68, 0, 0, 0]), (43, .nop, 0, [4], [])]),
  ([0, 1, 3, 4, 5], [(43, .lastore, 1, [], []), (44, .iinc 5 1, 3, [], []), (47, .goto (-31), 3, [2], [])]),
  ([0, 1, 3, 4], [(50, .lconst 0, 1, [], []), (51, .lstore 5, 2, [], []), (53, .iconst 0, 1, [], []), (54, .istore 7, 2, [], []), (56, .nop, 0, [6], [])]),
  ([0, 1, 3, 4, 5, 7], [(56, .iload 7, 2, [], []), (58, .aload_n 0, 1, [], []), (59, .getfield 14, 3, [0, 2, 11], [214, 0]), (62, .invokevirtual 222, 3, [2, 1, 0, 10, 53], [759, 0, 760, 761, 68, 0, 0, 0]), (65, .nop, 0, [7], [])]),
  ([0, 1, 3, 4, 5, 7], [(65, .if_icmp .ge 52, 3, [14, 8], [])]),
  ([0, 1, 3, 4, 5, 7], [(68, .aload_n 0, 1, [], []), (69, .iload 7, 2, [], []), (71, .invokevirtual 234, 3, [2, 2, 1, 11, 88], [763, 0, 765, 14, 67, 0, 0, 0]), (74, .nop, 0, [9], [])]),
  ([0, 1, 3, 4, 5, 7], [(74, .lstore 8, 2, [], []), (76, .lload 8, 2, [], []), (78, .lconst 0, 1, [], []), (79, .lcmp, 1, [], []), (80, .ifCond .eq 31, 3, [13, 10], [])]),
  ([0, 1, 3, 4, 5, 7, 8], [(83, .aload_n 0, 1, [], []), (84, .aload_n 1, 1, [], []), (85, .iload 7, 2, [], []), (87, .aload_n 0, 1, [], []), (88, .getfield 14, 3, [0, 2, 11], [214, 0]), (91, .getfield 98, 3, [10, 0, 10], [129, 0]), (94, .iload 4, 2, [], []), (96, .iadd, 1, [], []), (97, .iload_n 3, 1, [], []), (98, .invokevirtual 238, 3, [2, 1, 4, 11, 89], [768, 0, 770, 15, 67, 0, 0, 0]), (101, .nop, 0, [11], [])]),
  ([0, 1, 3, 4, 5, 7, 8], [(101, .ifCond .eq 10, 3, [13, 12], [])]),
  ([0, 1, 3, 4, 5, 7, 8], [(104, .lload 5, 2, [], []), (106, .lload 8, 2, [], []), (108, .ladd, 1, [], []), (109, .lstore 5, 2, [], []), (111, .nop, 0, [13], [])]),
  ([0, 1, 3, 4, 5, 7], [(111, .iinc 7 1, 3, [], []), (114, .goto (-58), 3, [6], [])]),
  ([5], [(117, .lload 5, 2, [], []), (119, .lreturn, 1, [], [])])]
def km_X11_partsSo : MT := (yX11_partsSo, cX11_partsSo, 10, (some .long), kb_X11_partsSo)
def kb_X11_partsOfRow : List (List Nat × List RI) := [
  ([0, 1], [(0, .lconst 1, 1, [], []), (1, .lstore_n 2, 1, [], []), (2, .iconst 0, 1, [], []), (3, .istore 4, 2, [], []), (5, .nop, 0, [1], [])]),
  ([0, 1, 2, 4], [(5, .iload 4, 2, [], []), (7, .aload_n 0, 1, [], []), (8, .getfield 37, 3, [4, 2, 11], [218, 0]), (11, .arraylength, 1, [], []), (12, .if_icmp .ge 28, 3, [5, 2], [])]),
  ([0, 1, 2, 4], [(15, .lload_n 2, 1, [], []), (16, .aload_n 0, 1, [], []), (17, .getfield 37, 3, [4, 2, 11], [218, 0]), (20, .iload 4, 2, [], []), (22, .laload, 1, [], []), (23, .iload_n 1, 1, [], []), (24, .iload 4, 2, [], []), (26, .invokestatic 94, 3, [0, 1, 2, 107], [0, 472, 473]), (29, .nop, 0, [3], [])]),
  ([0, 1, 4], [(29, .invokestatic 242, 3, [0, 2, 2, 61], [0, 767, 754]), (32, .nop, 0, [4], [])]),
  ([0, 1, 4], [(32, .lmul, 1, [], []), (33, .lstore_n 2, 1, [], []), (34, .iinc 4 1, 3, [], []), (37, .goto (-32), 3, [1], [])]),
  ([2], [(40, .lload_n 2, 1, [], []), (41, .lreturn, 1, [], [])])]
def km_X11_partsOfRow : MT := (yX11_partsOfRow, cX11_partsOfRow, 5, (some .long), kb_X11_partsOfRow)
def kb_X11_isSo : List (List Nat × List RI) := [
  ([0, 1, 2, 3, 4], [(0, .iload 4, 2, [], []), (2, .iconst 1, 1, [], []), (3, .if_icmp .eq 21, 3, [5, 1], [])]),
  ([0, 1, 2, 3, 4], [(6, .aload_n 1, 1, [], []), (7, .aload_n 0, 1, [], []), (8, .getfield 14, 3, [0, 2, 11], [214, 0]), (11, .iload_n 2, 1, [], []), (12, .iload_n 3, 1, [], []), (13, .invokevirtual 245, 3, [2, 1, 2, 10, 55], [772, 0, 773, 774, 68, 0, 0, 0]), (16, .nop, 0, [2], [])]),
  ([0, 1, 2, 3, 4], [(16, .invokevirtual 248, 3, [2, 1, 1, 3, 11], [776, 0, 488, 489, 78, 0, 0, 0]), (19, .nop, 0, [3], [])]),
  ([0, 1, 2, 3, 4], [(19, .ifCond .ne 5, 3, [5, 4], [])]),
  ([], [(22, .iconst 0, 1, [], []), (23, .ireturn, 1, [1], [])]),
  ([0, 1, 2, 3, 4], [(24, .iload 4, 2, [], []), (26, .ifCond .eq 26, 3, [10, 6], [])]),
  ([0, 1, 2, 3], [(29, .aload_n 1, 1, [], []), (30, .aload_n 0, 1, [], []), (31, .getfield 14, 3, [0, 2, 11], [214, 0]), (34, .aload_n 0, 1, [], []), (35, .getfield 14, 3, [0, 2, 11], [214, 0]), (38, .iload_n 2, 1, [], []), (39, .invokevirtual 251, 3, [2, 1, 1, 10, 54], [777, 0, 778, 779, 68, 0, 0, 0]), (42, .nop, 0, [7], [])]),
  ([3], [(42, .iload_n 3, 1, [], []), (43, .invokevirtual 245, 3, [2, 1, 2, 10, 55], [772, 0, 773, 774, 68, 0, 0, 0]), (46, .nop, 0, [8], [])]),
  ([], [(46, .invokevirtual 248, 3, [2, 1, 1, 3, 11], [776, 0, 488, 489, 78, 0, 0, 0]), (49, .nop, 0, [9], [])]),
  ([], [(49, .ifCond .eq 7, 3, [11, 10], [])]),
  ([], [(52, .iconst 1, 1, [], []), (53, .goto 4, 3, [12], [])]),
  ([], [(56, .iconst 0, 1, [], []), (57, .nop, 0, [12], [])]),
  ([], [(57, .ireturn, 1, [1], [])])]
def km_X11_isSo : MT := (yX11_isSo, cX11_isSo, 5, (some .boolean), kb_X11_isSo)
def kb_X11_markFails : List (List Nat × List RI) := [
  ([0, 1, 2], [(0, .iconst 0, 1, [], []), (1, .istore_n 3, 1, [], []), (2, .nop, 0, [1], [])]),
  ([0, 1, 2, 3], [(2, .iload_n 3, 1, [], []), (3, .aload_n 0, 1, [], []), (4, .getfield 14, 3, [0, 2, 11], [214, 0]), (7, .invokevirtual 222, 3, [2, 1, 0, 10, 53], [759, 0, 760, 761, 68, 0, 0, 0]), (10, .nop, 0, [2], [])]),
  ([0, 1, 2, 3], [(10, .if_icmp .ge 53, 3, [10, 3], [])]),
  ([0, 1, 2, 3], [(13, .iload_n 3, 1, [], []), (14, .aload_n 0, 1, [], []), (15, .getfield 41, 3, [5, 2, 11], [219, 0]), (18, .arraylength, 1, [], []), (19, .if_icmp .ge 44, 3, [10, 4], [])]),
  ([0, 1, 2, 3], [(22, .aload_n 0, 1, [], []), (23, .getfield 41, 3, [5, 2, 11], [219, 0]), (26, .iload_n 3, 1, [], []), (27, .aload_n 1, 1, [], []), (28, .aload_n 0, 1, [], []), (29, .getfield 14, 3, [0, 2, 11], [214, 0]), (32, .iload_n 3, 1, [], []), (33, .aload_n 0, 1, [], []), (34, .getfield 14, 3, [0, 2, 11], [214, 0]), (37, .getfield 98, 3, [10, 0, 10], [129, 0]), (40, .iload_n 2, 1, [], []), (41, .iadd, 1, [], []), (42, .invokevirtual 245, 3, [2, 1, 2, 10, 55], [772, 0, 773, 774, 68, 0, 0, 0]), (45, .nop, 0, [5], [])]),
  ([0, 1, 2, 3], [(45, .invokevirtual 248, 3, [2, 1, 1, 3, 11], [776, 0, 488, 489, 78, 0, 0, 0]), (48, .nop, 0, [6], [])]),
  ([0, 1, 2, 3], [(48, .ifCond .ne 7, 3, [8, 7], [])]),
  ([0, 1, 2, 3], [(51, .iconst 1, 1, [], []), (52, .goto 4, 3, [9], [])]),
  ([0, 1, 2, 3], [(55, .iconst 0, 1, [], []), (56, .nop, 0, [9], [])]),
  ([0, 1, 2, 3], [(56, .bastore, 1, [0], []), (57, .iinc 3 1, 3, [], []), (60, .goto (-58), 3, [1], [])]),
  ([0, 2], [(63, .iconst 0, 1, [], []), (64, .istore_n 3, 1, [], []), (65, .nop, 0, [11], [])]),
  ([0, 2, 3], [(65, .iload_n 3, 1, [], []), (66, .aload_n 0, 1, [], []), (67, .getfield 14, 3, [0, 2, 11], [214, 0]), (70, .getfield 81, 3, [8, 0, 10], [125, 0]), (73, .if_icmp .ge 23, 3, [15, 12], [])]),
  ([0, 2, 3], [(76, .aload_n 0, 1, [], []), (77, .iload_n 3, 1, [], []), (78, .aload_n 0, 1, [], []), (79, .getfield 14, 3, [0, 2, 11], [214, 0]), (82, .iload_n 3, 1, [], []), (83, .iload_n 2, 1, [], []), (84, .invokevirtual 195, 3, [2, 1, 2, 10, 59], [795, 0, 796, 797, 68, 0, 0, 0]), (87, .nop, 0, [13], [])]),
  ([0, 2, 3], [(87, .invokevirtual 254, 3, [2, 0, 2, 11, 91], [824, 0, 826, 17, 67, 0, 0, 0]), (90, .nop, 0, [14], [])]),
  ([0, 2, 3], [(90, .iinc 3 1, 3, [], []), (93, .goto (-28), 3, [11], [])]),
  ([], [(96, .return_, 1, [], [])])]
def km_X11_markFails : MT := (yX11_markFails, cX11_markFails, 4, none, kb_X11_markFails)
def kb_X11_carryBack : List (List Nat × List RI) := [
  ([0, 1, 2], [(0, .iconst 0, 1, [], []), (1, .istore_n 3, 1, [], []), (2, .nop, 0, [1], [])]),
  ([0, 1, 2, 3], [(2, .iload_n 3, 1, [], []), (3, .aload_n 0, 1, [], []), (4, .getfield 14, 3, [0, 2, 11], [214, 0]), (7, .invokevirtual 222, 3, [2, 1, 0, 10, 53], [759, 0, 760, 761, 68, 0, 0, 0]), (10, .nop, 0, [2], [])]),
  ([0, 1, 2, 3], [(10, .if_icmp .ge 105, 3, [23, 3], [])]),
  ([0, 1, 2, 3], [(13, .iload_n 3, 1, [], []), (14, .iload_n 1, 1, [], []), (15, .invokestatic 94, 3, [0, 1, 2, 107], [0, 472, 473]), (18, .nop, 0, [4], [])]),
  ([0, 1, 2, 3], [(18, .ifCond .ne 91, 3, [22, 5], [])]),
  ([0, 1, 2, 3], [(21, .iconst 0, 1, [], []), (22, .istore 4, 2, [], []), (24, .iconst 0, 1, [], []), (25, .istore 5, 2, [], []), (27, .nop, 0, [6], [])]),
  ([0, 1, 2, 3, 4, 5], [(27, .iload 5, 2, [], []), (29, .iconst 4, 1, [], []), (30, .if_icmp .ge 36, 3, [13, 7], [])]),
  ([0, 1, 2, 3, 4, 5], [(33, .iload 4, 2, [], []), (35, .aload_n 0, 1, [], []), (36, .iload_n 3, 1, [], []), (37, .iload_n 1, 1, [], []), (38, .iload 5, 2, [], []), (40, .invokestatic 87, 3, [0, 1, 3, 108], [0, 461, 462]), (43, .nop, 0, [8], [])]),
  ([0, 1, 2, 3, 5], [(43, .invokevirtual 214, 3, [2, 1, 1, 11, 92], [828, 0, 830, 18, 67, 0, 0, 0]), (46, .nop, 0, [9], [])]),
  ([0, 1, 2, 3, 5], [(46, .ifCond .eq 10, 3, [11, 10], [])]),
  ([0, 1, 2, 3, 5], [(49, .iconst 1, 1, [], []), (50, .iload 5, 2, [], []), (52, .ishl, 1, [], []), (53, .goto 4, 3, [12], [])]),
  ([0, 1, 2, 3, 5], [(56, .iconst 0, 1, [], []), (57, .nop, 0, [12], [])]),
  ([0, 1, 2, 3, 5], [(57, .ior, 1, [], []), (58, .istore 4, 2, [], []), (60, .iinc 5 1, 3, [], []), (63, .goto (-36), 3, [6], [])]),
  ([0, 1, 2, 3, 4], [(66, .iconst 0, 1, [], []), (67, .istore 5, 2, [], []), (69, .nop, 0, [14], [])]),
  ([0, 1, 2, 3, 4, 5], [(69, .iload 5, 2, [], []), (71, .iconst 4, 1, [], []), (72, .if_icmp .ge 37, 3, [22, 15], [])]),
  ([0, 1, 2, 3, 4, 5], [(75, .aload_n 0, 1, [], []), (76, .iload_n 3, 1, [], []), (77, .iload_n 1, 1, [], []), (78, .iload 5, 2, [], []), (80, .invokestatic 87, 3, [0, 1, 3, 108], [0, 461, 462]), (83, .nop, 0, [16], [])]),
  ([0, 1, 2, 3, 4, 5], [(83, .iload_n 2, 1, [], []), (84, .iload 5, 2, [], []), (86, .invokestatic 198, 3, [0, 1, 2, 109], [0, 807, 805]), (89, .nop, 0, [17], [])]),
  ([0, 1, 2, 3, 4, 5], [(89, .iload 4, 2, [], []), (91, .iand, 1, [], []), (92, .ifCond .eq 7, 3, [19, 18], [])]),
  ([0, 1, 2, 3, 4, 5], [(95, .iconst 1, 1, [], []), (96, .goto 4, 3, [20], [])]),
  ([0, 1, 2, 3, 4, 5], [(99, .iconst 0, 1, [], []), (100, .nop, 0, [20], [])]),
  ([0, 1, 2, 3, 4, 5], [(100, .invokevirtual 258, 3, [2, 0, 2, 11, 93], [832, 0, 834, 19, 67, 0, 0, 0]), (103, .nop, 0, [21], [])]),
  ([0, 1, 2, 3, 4, 5], [(103, .iinc 5 1, 3, [], []), (106, .goto (-37), 3, [14], [])]),
  ([0, 1, 2, 3], [(109, .iinc 3 1, 3, [], []), (112, .goto (-110), 3, [1], [])]),
  ([], [(115, .return_, 1, [], [])])]
def km_X11_carryBack : MT := (yX11_carryBack, cX11_carryBack, 6, none, kb_X11_carryBack)
def kb_X11_failsFrom : List (List Nat × List RI) := [
  ([0, 1], [(0, .iload_n 1, 1, [], []), (1, .ifCond .lt 25, 3, [4, 1], [])]),
  ([0, 1], [(4, .iload_n 1, 1, [], []), (5, .aload_n 0, 1, [], []), (6, .getfield 41, 3, [5, 2, 11], [219, 0]), (9, .arraylength, 1, [], []), (10, .if_icmp .ge 16, 3, [4, 2], [])]),
  ([0, 1], [(13, .aload_n 0, 1, [], []), (14, .getfield 41, 3, [5, 2, 11], [219, 0]), (17, .iload_n 1, 1, [], []), (18, .baload, 1, [], []), (19, .ifCond .eq 7, 3, [4, 3], [])]),
  ([], [(22, .iconst 1, 1, [], []), (23, .goto 4, 3, [5], [])]),
  ([], [(26, .iconst 0, 1, [], []), (27, .nop, 0, [5], [])]),
  ([], [(27, .ireturn, 1, [1], [])])]
def km_X11_failsFrom : MT := (yX11_failsFrom, cX11_failsFrom, 2, (some .boolean), kb_X11_failsFrom)
def kb_X11_setFails : List (List Nat × List RI) := [
  ([0, 1, 2], [(0, .iload_n 1, 1, [], []), (1, .ifCond .lt 19, 3, [3, 1], [])]),
  ([0, 1, 2], [(4, .iload_n 1, 1, [], []), (5, .aload_n 0, 1, [], []), (6, .getfield 41, 3, [5, 2, 11], [219, 0]), (9, .arraylength, 1, [], []), (10, .if_icmp .ge 10, 3, [3, 2], [])]),
  ([0, 1, 2], [(13, .aload_n 0, 1, [], []), (14, .getfield 41, 3, [5, 2, 11], [219, 0]), (17, .iload_n 1, 1, [], []), (18, .iload_n 2, 1, [], []), (19, .bastore, 1, [0], []), (20, .nop, 0, [3], [])]),
  ([], [(20, .return_, 1, [], [])])]
def km_X11_setFails : MT := (yX11_setFails, cX11_setFails, 3, none, kb_X11_setFails)
def kb_X11_partOf : List (List Nat × List RI) := [
  ([0, 2], [(0, .lload_n 0, 1, [], []), (1, .lstore_n 3, 1, [], []), (2, .ldc2_w 193, 3, [281474976710656], [785]), (5, .lstore 5, 2, [], []), (7, .iconst 0, 1, [], []), (8, .istore 7, 2, [], []), (10, .nop, 0, [1], [])]),
  ([2, 3, 5, 7], [(10, .iload 7, 2, [], []), (12, .bipush 48, 2, [], []), (14, .if_icmp .ge 33, 3, [4, 2], [])]),
  ([2, 3, 5, 7], [(17, .lload_n 3, 1, [], []), (18, .ldc2_w 262, 3, [2], [786]), (21, .lrem, 1, [], []), (22, .lconst 0, 1, [], []), (23, .lcmp, 1, [], []), (24, .ifCond .ne 23, 3, [4, 3], [])]),
  ([2, 3, 5, 7], [(27, .lload_n 3, 1, [], []), (28, .ldc2_w 262, 3, [2], [786]), (31, .ldiv, 1, [], []), (32, .lstore_n 3, 1, [], []), (33, .lload 5, 2, [], []), (35, .ldc2_w 262, 3, [2], [786]), (38, .ldiv, 1, [], []), (39, .lstore 5, 2, [], []), (41, .iinc 7 1, 3, [], []), (44, .goto (-34), 3, [1], [])]),
  ([2, 3, 5], [(47, .iload_n 2, 1, [], []), (48, .ifCond .ne 7, 3, [6, 5], [])]),
  ([3], [(51, .lload_n 3, 1, [], []), (52, .goto 5, 3, [7], [])]),
  ([5], [(55, .lload 5, 2, [], []), (57, .nop, 0, [7], [])]),
  ([], [(57, .lreturn, 1, [], [])])]
def km_X11_partOf : MT := (yX11_partOf, cX11_partOf, 8, (some .long), kb_X11_partOf)
def kb_X11_row : List (List Nat × List RI) := [
  ([0, 1], [(0, .iload_n 1, 1, [], []), (1, .iconst (-1), 1, [], []), (2, .if_icmp .ne 21, 3, [2, 1], [])]),
  ([0], [(5, .aload_n 0, 1, [], []), (6, .getfield 14, 3, [0, 2, 11], [214, 0]), (9, .iconst 0, 1, [], []), (10, .putfield 264, 3, [13, 0, 10], [135, 0]), (13, .aload_n 0, 1, [], []), (14, .getfield 14, 3, [0, 2, 11], [214, 0]), (17, .iconst 0, 1, [], []), (18, .putfield 267, 3, [14, 0, 10], [137, 0]), (21, .iconst 0, 1, [], []), (22, .ireturn, 1, [0], [])]),
  ([0, 1], [(23, .iload_n 1, 1, [], []), (24, .invokestatic 77, 3, [0, 1, 1, 104], [0, 458, 459]), (27, .nop, 0, [3], [])]),
  ([0, 1], [(27, .ifCond .ne 6, 3, [5, 4], [])]),
  ([], [(30, .bipush (-2), 2, [], []), (32, .ireturn, 1, [0], [])]),
  ([0, 1], [(33, .aload_n 0, 1, [], []), (34, .getfield 14, 3, [0, 2, 11], [214, 0]), (37, .getfield 267, 3, [14, 0, 10], [137, 0]), (40, .bipush 12, 2, [], []), (42, .if_icmp .lt 6, 3, [7, 6], [])]),
  ([], [(45, .bipush (-4), 2, [], []), (47, .ireturn, 1, [0], [])]),
  ([0, 1], [(48, .aload_n 0, 1, [], []), (49, .getfield 14, 3, [0, 2, 11], [214, 0]), (52, .aload_n 0, 1, [], []), (53, .getfield 14, 3, [0, 2, 11], [214, 0]), (56, .getfield 264, 3, [13, 0, 10], [135, 0]), (59, .aload_n 0, 1, [], []), (60, .getfield 14, 3, [0, 2, 11], [214, 0]), (63, .getfield 267, 3, [14, 0, 10], [137, 0]), (66, .iload_n 1, 1, [], []), (67, .invokestatic 87, 3, [0, 1, 3, 108], [0, 461, 462]), (70, .nop, 0, [8], [])]),
  ([0], [(70, .putfield 264, 3, [13, 0, 10], [135, 0]), (73, .aload_n 0, 1, [], []), (74, .getfield 14, 3, [0, 2, 11], [214, 0]), (77, .dup, 1, [], []), (78, .getfield 267, 3, [14, 0, 10], [137, 0]), (81, .iconst 1, 1, [], []), (82, .iadd, 1, [], []), (83, .putfield 267, 3, [14, 0, 10], [137, 0]), (86, .aload_n 0, 1, [], []), (87, .getfield 14, 3, [0, 2, 11], [214, 0]), (90, .getfield 267, 3, [14, 0, 10], [137, 0]), (93, .ireturn, 1, [0], [])])]
def km_X11_row : MT := (yX11_row, cX11_row, 2, (some .int), kb_X11_row)
def kb_X11_looked : List (List Nat × List RI) := [
  ([0], [(0, .aload_n 0, 1, [], []), (1, .getfield 14, 3, [0, 2, 11], [214, 0]), (4, .iconst 0, 1, [], []), (5, .invokevirtual 91, 3, [2, 1, 1, 10, 49], [468, 0, 469, 470, 68, 0, 0, 0]), (8, .nop, 0, [1], [])]),
  ([0], [(8, .ifCond .ne 6, 3, [3, 2], [])]),
  ([], [(11, .bipush (-3), 2, [], []), (13, .ireturn, 1, [0], [])]),
  ([0], [(14, .iconst 1, 1, [], []), (15, .aload_n 0, 1, [], []), (16, .getfield 14, 3, [0, 2, 11], [214, 0]), (19, .getfield 84, 3, [9, 0, 10], [127, 0]), (22, .iconst 0, 1, [], []), (23, .invokestatic 94, 3, [0, 1, 2, 107], [0, 472, 473]), (26, .nop, 0, [4], [])]),
  ([0], [(26, .ishl, 1, [], []), (27, .istore_n 1, 1, [], []), (28, .iconst 0, 1, [], []), (29, .istore_n 2, 1, [], []), (30, .nop, 0, [5], [])]),
  ([0, 1, 2], [(30, .iload_n 2, 1, [], []), (31, .aload_n 0, 1, [], []), (32, .getfield 14, 3, [0, 2, 11], [214, 0]), (35, .getfield 267, 3, [14, 0, 10], [137, 0]), (38, .if_icmp .ge 53, 3, [12, 6], [])]),
  ([0, 1, 2], [(41, .aload_n 0, 1, [], []), (42, .getfield 14, 3, [0, 2, 11], [214, 0]), (45, .getfield 264, 3, [13, 0, 10], [135, 0]), (48, .iload_n 2, 1, [], []), (49, .invokestatic 94, 3, [0, 1, 2, 107], [0, 472, 473]), (52, .nop, 0, [7], [])]),
  ([0, 1, 2], [(52, .istore_n 3, 1, [], []), (53, .iload_n 1, 1, [], []), (54, .iload_n 3, 1, [], []), (55, .ishr, 1, [], []), (56, .iconst 1, 1, [], []), (57, .iand, 1, [], []), (58, .ifCond .ne 5, 3, [9, 8], [])]),
  ([2], [(61, .iload_n 2, 1, [], []), (62, .ireturn, 1, [0], [])]),
  ([0, 2, 3], [(63, .aload_n 0, 1, [], []), (64, .getfield 14, 3, [0, 2, 11], [214, 0]), (67, .iconst 0, 1, [], []), (68, .aload_n 0, 1, [], []), (69, .getfield 14, 3, [0, 2, 11], [214, 0]), (72, .getfield 98, 3, [10, 0, 10], [129, 0]), (75, .iload_n 2, 1, [], []), (76, .iadd, 1, [], []), (77, .invokevirtual 270, 3, [2, 1, 2, 10, 58], [866, 0, 801, 802, 68, 0, 0, 0]), (80, .nop, 0, [10], [])]),
  ([0, 2, 3], [(80, .iload_n 3, 1, [], []), (81, .invokestatic 198, 3, [0, 1, 2, 109], [0, 807, 805]), (84, .nop, 0, [11], [])]),
  ([0, 2], [(84, .istore_n 1, 1, [], []), (85, .iinc 2 1, 3, [], []), (88, .goto (-58), 3, [5], [])]),
  ([], [(91, .bipush (-5), 2, [], []), (93, .ireturn, 1, [0], [])])]
def km_X11_looked : MT := (yX11_looked, cX11_looked, 4, (some .int), kb_X11_looked)
def kb_X11_act : List (List Nat × List RI) := [
  ([0, 1, 2, 3], [(0, .aload_n 0, 1, [], []), (1, .getfield 33, 3, [3, 2, 11], [217, 0]), (4, .iconst 0, 1, [], []), (5, .putfield 273, 3, [1, 0, 9], [208, 0]), (8, .aload_n 0, 1, [], []), (9, .getfield 14, 3, [0, 2, 11], [214, 0]), (12, .iload_n 1, 1, [], []), (13, .invokevirtual 146, 3, [2, 3, 1, 10, 51], [649, 0, 650, 651, 68, 0, 0, 0]), (16, .nop, 0, [1], [])]),
  ([2, 3], [(16, .astore 4, 2, [], []), (18, .aload 4, 2, [], []), (20, .ifnonnull 5, 3, [3, 2], [])]),
  ([], [(23, .iconst 0, 1, [], []), (24, .ireturn, 1, [0], [])]),
  ([2, 3, 4], [(25, .iload_n 2, 1, [], []), (26, .tableswitch 47 0 2 #[26, 33, 40], 26, [10, 4, 6, 8], [])]),
  ([3, 4], [(52, .aload 4, 2, [], []), (54, .iload_n 3, 1, [], []), (55, .invokevirtual 276, 3, [2, 1, 1, 0, 2, 1, 36, 2, 36, 4, 36, 6, 36, 7, 2, 8, 44], [871, 1, 876, 875, 82, 874, 36, 872, 1, 872, 883, 81, 874, 36, 872, 1, 872, 884, 81, 874, 36, 872, 1, 872, 885, 81, 874, 36, 872, 1, 872, 873, 81, 874, 36, 872, 1, 876, 886, 82, 874, 36, 872, 1, 888, 887, 86, 874, 36, 872]), (58, .nop, 0, [5], [])]),
  ([], [(58, .ireturn, 1, [0], [])]),
  ([3, 4], [(59, .aload 4, 2, [], []), (61, .iload_n 3, 1, [], []), (62, .invokevirtual 279, 3, [2, 1, 1, 0, 37, 1, 5, 2, 9, 4, 37, 6, 37, 7, 37, 8, 5], [896, 1, 897, 900, 81, 899, 37, 897, 1, 902, 901, 83, 899, 37, 897, 1, 907, 906, 87, 899, 37, 897, 1, 897, 913, 81, 899, 37, 897, 1, 897, 898, 81, 899, 37, 897, 1, 897, 914, 81, 899, 37, 897, 1, 902, 915, 83, 899, 37, 897]), (65, .nop, 0, [7], [])]),
  ([], [(65, .ireturn, 1, [0], [])]),
  ([3, 4], [(66, .aload 4, 2, [], []), (68, .iload_n 3, 1, [], []), (69, .invokevirtual 282, 3, [2, 1, 1, 0, 38, 1, 38, 2, 16, 4, 16, 6, 38, 7, 41, 8, 38], [918, 1, 919, 922, 81, 921, 38, 919, 1, 919, 923, 81, 921, 38, 919, 1, 925, 924, 84, 921, 38, 919, 1, 925, 929, 84, 921, 38, 919, 1, 919, 920, 81, 921, 38, 919, 1, 931, 930, 85, 921, 38, 919, 1, 919, 941, 81, 921, 38, 919]), (72, .nop, 0, [9], [])]),
  ([], [(72, .ireturn, 1, [0], [])]),
  ([], [(73, .iconst 0, 1, [], []), (74, .ireturn, 1, [0], [])])]
def km_X11_act : MT := (yX11_act, cX11_act, 5, (some .int), kb_X11_act)
def kb_X11_trace : List (List Nat × List RI) := [
  ([0, 1], [(0, .iload_n 1, 1, [], []), (1, .ifCond .lt 26, 3, [3, 1], [])]),
  ([0, 1], [(4, .iload_n 1, 1, [], []), (5, .aload_n 0, 1, [], []), (6, .getfield 33, 3, [3, 2, 11], [217, 0]), (9, .getfield 273, 3, [1, 0, 9], [208, 0]), (12, .if_icmp .ge 15, 3, [3, 2], [])]),
  ([0, 1], [(15, .iload_n 1, 1, [], []), (16, .aload_n 0, 1, [], []), (17, .getfield 33, 3, [3, 2, 11], [217, 0]), (20, .getfield 285, 3, [0, 2, 9], [206, 0]), (23, .arraylength, 1, [], []), (24, .if_icmp .lt 5, 3, [4, 3], [])]),
  ([], [(27, .iconst (-1), 1, [], []), (28, .ireturn, 1, [0], [])]),
  ([0, 1], [(29, .aload_n 0, 1, [], []), (30, .getfield 33, 3, [3, 2, 11], [217, 0]), (33, .getfield 285, 3, [0, 2, 9], [206, 0]), (36, .iload_n 1, 1, [], []), (37, .iaload, 1, [], []), (38, .ireturn, 1, [0], [])])]
def km_X11_trace : MT := (yX11_trace, cX11_trace, 2, (some .int), kb_X11_trace)
def kb_X11_as : List (List Nat × List RI) := [
  ([0, 1, 2], [(0, .aload_n 0, 1, [], []), (1, .getfield 14, 3, [0, 2, 11], [214, 0]), (4, .iload_n 1, 1, [], []), (5, .invokevirtual 146, 3, [2, 3, 1, 10, 51], [649, 0, 650, 651, 68, 0, 0, 0]), (8, .nop, 0, [1], [])]),
  ([2], [(8, .astore_n 3, 1, [], []), (9, .aload_n 3, 1, [], []), (10, .ifnull 10, 3, [4, 2], [])]),
  ([2, 3], [(13, .iload_n 2, 1, [], []), (14, .invokestatic 109, 3, [0, 1, 1, 105], [0, 499, 500]), (17, .nop, 0, [3], [])]),
  ([2, 3], [(17, .ifCond .ne 5, 3, [5, 4], [])]),
  ([], [(20, .iconst (-1), 1, [], []), (21, .ireturn, 1, [0], [])]),
  ([2, 3], [(22, .aload_n 3, 1, [], []), (23, .iload_n 2, 1, [], []), (24, .invokestatic 289, 3, [0, 1, 2, 100], [0, 952, 953]), (27, .nop, 0, [6], [])]),
  ([3], [(27, .ifCond .eq 10, 3, [8, 7], [])]),
  ([3], [(30, .aload_n 3, 1, [], []), (31, .getfield 153, 3, [2, 0, 0, 1, 2, 4, 6, 7, 8], [529, 0]), (34, .goto 5, 3, [9], [])]),
  ([], [(37, .bipush (-6), 2, [], []), (39, .nop, 0, [9], [])]),
  ([], [(39, .ireturn, 1, [0], [])])]
def km_X11_as : MT := (yX11_as, cX11_as, 4, (some .int), kb_X11_as)
def kb_X11_isOf : List (List Nat × List RI) := [
  ([0, 1], [(0, .iload_n 1, 1, [], []), (1, .tableswitch 69 1 6 #[39, 44, 49, 54, 59, 64], 39, [7, 1, 2, 3, 4, 5, 6], [])]),
  ([0], [(40, .aload_n 0, 1, [], []), (41, .instanceof 123, 3, [2, 0, 7, 1, 2, 4, 6, 8], [506]), (44, .ireturn, 1, [1], [])]),
  ([0], [(45, .aload_n 0, 1, [], []), (46, .instanceof 128, 3, [2, 1, 8, 0, 2, 4, 6, 7], [567]), (49, .ireturn, 1, [1], [])]),
  ([0], [(50, .aload_n 0, 1, [], []), (51, .instanceof 131, 3, [2, 2, 4, 0, 1, 6, 7, 8], [580]), (54, .ireturn, 1, [1], [])]),
  ([0], [(55, .aload_n 0, 1, [], []), (56, .instanceof 134, 3, [1, 7, 0, 1, 2, 4, 6, 8], [593]), (59, .ireturn, 1, [1], [])]),
  ([0], [(60, .aload_n 0, 1, [], []), (61, .instanceof 137, 3, [1, 8, 0, 1, 2, 4, 6, 7], [606]), (64, .ireturn, 1, [1], [])]),
  ([0], [(65, .aload_n 0, 1, [], []), (66, .instanceof 140, 3, [1, 2, 0, 1, 4, 6, 7, 8], [619]), (69, .ireturn, 1, [1], [])]),
  ([], [(70, .iconst 1, 1, [], []), (71, .ireturn, 1, [1], [])])]
def km_X11_isOf : MT := (yX11_isOf, cX11_isOf, 2, (some .boolean), kb_X11_isOf)
def kb_X11_image : List (List Nat × List RI) := [
  ([0], [(0, .aload_n 0, 1, [], []), (1, .getfield 18, 3, [1, 2, 11], [215, 0]), (4, .aload_n 0, 1, [], []), (5, .getfield 14, 3, [0, 2, 11], [214, 0]), (8, .invokevirtual 293, 3, [2, 0, 1, 10, 48], [959, 0, 960, 961, 68, 0, 0, 0]), (11, .nop, 0, [1], [])]),
  ([0], [(11, .aload_n 0, 1, [], []), (12, .iconst 1, 1, [], []), (13, .putfield 296, 3, [6, 1, 11], [220, 0]), (16, .aload_n 0, 1, [], []), (17, .getfield 18, 3, [1, 2, 11], [215, 0]), (20, .getfield 81, 3, [8, 0, 10], [125, 0]), (23, .ireturn, 1, [0], [])])]
def km_X11_image : MT := (yX11_image, cX11_image, 1, (some .int), kb_X11_image)
def kb_X11_undo : List (List Nat × List RI) := [
  ([0], [(0, .aload_n 0, 1, [], []), (1, .getfield 296, 3, [6, 1, 11], [220, 0]), (4, .ifCond .ne 6, 3, [2, 1], [])]),
  ([], [(7, .bipush (-3), 2, [], []), (9, .ireturn, 1, [0], [])]),
  ([0], [(10, .aload_n 0, 1, [], []), (11, .getfield 14, 3, [0, 2, 11], [214, 0]), (14, .aload_n 0, 1, [], []), (15, .getfield 18, 3, [1, 2, 11], [215, 0]), (18, .invokevirtual 293, 3, [2, 0, 1, 10, 48], [959, 0, 960, 961, 68, 0, 0, 0]), (21, .nop, 0, [3], [])]),
  ([0], [(21, .aload_n 0, 1, [], []), (22, .getfield 14, 3, [0, 2, 11], [214, 0]), (25, .getfield 81, 3, [8, 0, 10], [125, 0]), (28, .ireturn, 1, [0], [])])]
def km_X11_undo : MT := (yX11_undo, cX11_undo, 1, (some .int), kb_X11_undo)
def kb_X11_count : List (List Nat × List RI) := [
  ([0, 1], [(0, .iload_n 1, 1, [], []), (1, .tableswitch 99 0 6 #[43, 51, 59, 67, 75, 83, 91], 43, [8, 1, 2, 3, 4, 5, 6, 7], [])]),
  ([0], [(44, .aload_n 0, 1, [], []), (45, .getfield 14, 3, [0, 2, 11], [214, 0]), (48, .getfield 81, 3, [8, 0, 10], [125, 0]), (51, .ireturn, 1, [0], [])]),
  ([0], [(52, .aload_n 0, 1, [], []), (53, .getfield 14, 3, [0, 2, 11], [214, 0]), (56, .getfield 112, 3, [7, 0, 10], [123, 0]), (59, .ireturn, 1, [0], [])]),
  ([0], [(60, .aload_n 0, 1, [], []), (61, .getfield 14, 3, [0, 2, 11], [214, 0]), (64, .getfield 67, 3, [5, 0, 10], [119, 0]), (67, .ireturn, 1, [0], [])]),
  ([0], [(68, .aload_n 0, 1, [], []), (69, .getfield 14, 3, [0, 2, 11], [214, 0]), (72, .getfield 53, 3, [3, 0, 10], [115, 0]), (75, .ireturn, 1, [0], [])]),
  ([0], [(76, .aload_n 0, 1, [], []), (77, .getfield 14, 3, [0, 2, 11], [214, 0]), (80, .getfield 267, 3, [14, 0, 10], [137, 0]), (83, .ireturn, 1, [0], [])]),
  ([0], [(84, .aload_n 0, 1, [], []), (85, .getfield 14, 3, [0, 2, 11], [214, 0]), (88, .getfield 45, 3, [1, 0, 10], [109, 0]), (91, .ireturn, 1, [0], [])]),
  ([0], [(92, .aload_n 0, 1, [], []), (93, .getfield 33, 3, [3, 2, 11], [217, 0]), (96, .getfield 273, 3, [1, 0, 9], [208, 0]), (99, .ireturn, 1, [0], [])]),
  ([], [(100, .iconst (-1), 1, [], []), (101, .ireturn, 1, [0], [])])]
def km_X11_count : MT := (yX11_count, cX11_count, 2, (some .int), kb_X11_count)
def kb_X11_isState : List (List Nat × List RI) := [
  ([0], [(0, .iload_n 0, 1, [], []), (1, .ifCond .lt 12, 3, [3, 1], [])]),
  ([0], [(4, .iload_n 0, 1, [], []), (5, .iconst 4, 1, [], []), (6, .if_icmp .ge 7, 3, [3, 2], [])]),
  ([], [(9, .iconst 1, 1, [], []), (10, .goto 4, 3, [4], [])]),
  ([], [(13, .iconst 0, 1, [], []), (14, .nop, 0, [4], [])]),
  ([], [(14, .ireturn, 1, [1], [])])]
def km_X11_isState : MT := (yX11_isState, cX11_isState, 1, (some .boolean), kb_X11_isState)
def kb_X11_isKind : List (List Nat × List RI) := [
  ([0], [(0, .iload_n 0, 1, [], []), (1, .ifCond .lt 13, 3, [3, 1], [])]),
  ([0], [(4, .iload_n 0, 1, [], []), (5, .bipush 6, 2, [], []), (7, .if_icmp .gt 7, 3, [3, 2], [])]),
  ([], [(10, .iconst 1, 1, [], []), (11, .goto 4, 3, [4], [])]),
  ([], [(14, .iconst 0, 1, [], []), (15, .nop, 0, [4], [])]),
  ([], [(15, .ireturn, 1, [1], [])])]
def km_X11_isKind : MT := (yX11_isKind, cX11_isKind, 1, (some .boolean), kb_X11_isKind)
def kb_X11_isPart : List (List Nat × List RI) := [
  ([0], [(0, .iload_n 0, 1, [], []), (1, .ifCond .eq 8, 3, [2, 1], [])]),
  ([0], [(4, .iload_n 0, 1, [], []), (5, .iconst 1, 1, [], []), (6, .if_icmp .ne 7, 3, [3, 2], [])]),
  ([], [(9, .iconst 1, 1, [], []), (10, .goto 4, 3, [4], [])]),
  ([], [(13, .iconst 0, 1, [], []), (14, .nop, 0, [4], [])]),
  ([], [(14, .ireturn, 1, [1], [])])]
def km_X11_isPart : MT := (yX11_isPart, cX11_isPart, 1, (some .boolean), kb_X11_isPart)
def kb_X11_stateIn : List (List Nat × List RI) := [
  ([0, 1], [(0, .iload_n 0, 1, [], []), (1, .iconst 2, 1, [], []), (2, .iload_n 1, 1, [], []), (3, .imul, 1, [], []), (4, .ishr, 1, [], []), (5, .iconst 3, 1, [], []), (6, .iand, 1, [], []), (7, .ireturn, 1, [0], [])])]
def km_X11_stateIn : MT := (yX11_stateIn, cX11_stateIn, 2, (some .int), kb_X11_stateIn)
def kb_X11_withState : List (List Nat × List RI) := [
  ([0, 1, 2], [(0, .iload_n 0, 1, [], []), (1, .iconst 3, 1, [], []), (2, .iconst 2, 1, [], []), (3, .iload_n 1, 1, [], []), (4, .imul, 1, [], []), (5, .ishl, 1, [], []), (6, .iconst (-1), 1, [], []), (7, .ixor, 1, [], []), (8, .iand, 1, [], []), (9, .iload_n 2, 1, [], []), (10, .iconst 3, 1, [], []), (11, .iand, 1, [], []), (12, .iconst 2, 1, [], []), (13, .iload_n 1, 1, [], []), (14, .imul, 1, [], []), (15, .ishl, 1, [], []), (16, .ior, 1, [], []), (17, .ireturn, 1, [0], [])])]
def km_X11_withState : MT := (yX11_withState, cX11_withState, 3, (some .int), kb_X11_withState)
def kb_X11_reached : List (List Nat × List RI) := [
  ([0, 1], [(0, .iload_n 0, 1, [], []), (1, .iconst 4, 1, [], []), (2, .iload_n 1, 1, [], []), (3, .imul, 1, [], []), (4, .ishr, 1, [], []), (5, .bipush 15, 2, [], []), (7, .iand, 1, [], []), (8, .ireturn, 1, [0], [])])]
def km_X11_reached : MT := (yX11_reached, cX11_reached, 2, (some .int), kb_X11_reached)
def kb_X11_factsOfThing : List (List Nat × List RI) := [
  ([0, 1, 2], [(0, .iload_n 0, 1, [], []), (1, .iload_n 1, 1, [], []), (2, .iconst 4, 1, [], []), (3, .ishl, 1, [], []), (4, .ior, 1, [], []), (5, .iload_n 2, 1, [], []), (6, .bipush 12, 2, [], []), (8, .irem, 1, [], []), (9, .bipush 8, 2, [], []), (11, .ishl, 1, [], []), (12, .ior, 1, [], []), (13, .ldc_w 300, 3, [0, 36864], [482]), (16, .ior, 1, [], []), (17, .ireturn, 1, [0], [])])]
def km_X11_factsOfThing : MT := (yX11_factsOfThing, cX11_factsOfThing, 3, (some .int), kb_X11_factsOfThing)
def kb_X11_factsOfWay : List (List Nat × List RI) := [
  ([0, 1], [(0, .sipush 153, 3, [], []), (3, .iload_n 1, 1, [], []), (4, .bipush 12, 2, [], []), (6, .irem, 1, [], []), (7, .bipush 8, 2, [], []), (9, .ishl, 1, [], []), (10, .ior, 1, [], []), (11, .iload_n 0, 1, [], []), (12, .bipush 12, 2, [], []), (14, .ishl, 1, [], []), (15, .ior, 1, [], []), (16, .ireturn, 1, [0], [])])]
def km_X11_factsOfWay : MT := (yX11_factsOfWay, cX11_factsOfWay, 2, (some .int), kb_X11_factsOfWay)
def kb_X12_init : List (List Nat × List RI) := [
  ([0], [(0, .aload_n 0, 1, [], []), (1, .invokespecial 3, 3, [3], [977]), (4, .aload_n 0, 1, [], []), (5, .sipush 1562, 3, [], []), (8, .newarray .int, 2, [20], [198]), (10, .putfield 9, 3, [1, 2, 12], [978, 0]), (13, .aload_n 0, 1, [], []), (14, .sipush 1562, 3, [], []), (17, .newarray .int, 2, [20], [198]), (19, .putfield 15, 3, [2, 2, 12], [979, 0]), (22, .aload_n 0, 1, [], []), (23, .iconst 5, 1, [], []), (24, .newarray .int, 2, [20], [198]), (26, .putfield 18, 3, [10, 2, 12], [987, 0]), (29, .aload_n 0, 1, [], []), (30, .bipush 64, 2, [], []), (32, .newarray .boolean, 2, [22], [237]), (34, .putfield 21, 3, [11, 2, 12], [988, 0]), (37, .aload_n 0, 1, [], []), (38, .bipush 16, 2, [], []), (40, .newarray .long, 2, [21], [236]), (42, .putfield 25, 3, [15, 2, 12], [992, 0]), (45, .aload_n 0, 1, [], []), (46, .iconst 4, 1, [], []), (47, .newarray .long, 2, [21], [236]), (49, .putfield 29, 3, [16, 2, 12], [993, 0]), (52, .aload_n 0, 1, [], []), (53, .iconst 4, 1, [], []), (54, .newarray .int, 2, [20], [198]), (56, .putfield 32, 3, [17, 2, 12], [994, 0]), (59, .aload_n 0, 1, [], []), (60, .bipush 16, 2, [], []), (62, .newarray .int, 2, [20], [198]), (64, .putfield 35, 3, [18, 2, 12], [995, 0]), (67, .aload_n 0, 1, [], []), (68, .sipush 256, 3, [], []), (71, .newarray .boolean, 2, [22], [237]), (73, .putfield 38, 3, [19, 2, 12], [996, 0]), (76, .aload_n 0, 1, [], []), (77, .bipush 20, 2, [], []), (79, .newarray .int, 2, [20], [198]), (81, .putfield 41, 3, [20, 2, 12], [997, 0]), (84, .aload_n 0, 1, [], []), (85, .getfield 9, 3, [1, 2, 12], [978, 0]), (88, .bipush 6, 2, [], []), (90, .iconst (-1), 1, [], []), (91, .iastore, 1, [], []), (92, .aload_n 0, 1, [], []), (93, .getfield 9, 3, [1, 2, 12], [978, 0]), (96, .bipush 8, 2, [], []), (98, .iconst (-1), 1, [], []), (99, .iastore, 1, [], []), (100, .return_, 1, [], [])])]
def km_X12_init : MT := (yX12_init, cX12_init, 1, none, kb_X12_init)
def kb_X12_in : List (List Nat × List RI) := [
  ([0, 1, 2], [(0, .iload_n 0, 1, [], []), (1, .iload_n 1, 1, [], []), (2, .if_icmp .lt 12, 3, [3, 1], [])]),
  ([0, 2], [(5, .iload_n 0, 1, [], []), (6, .iload_n 2, 1, [], []), (7, .if_icmp .gt 7, 3, [3, 2], [])]),
  ([], [(10, .iconst 1, 1, [], []), (11, .goto 4, 3, [4], [])]),
  ([], [(14, .iconst 0, 1, [], []), (15, .nop, 0, [4], [])]),
  ([], [(15, .ireturn, 1, [1], [])])]
def km_X12_in : MT := (yX12_in, cX12_in, 3, (some .boolean), kb_X12_in)
def kb_X12_isThing : List (List Nat × List RI) := [
  ([0, 1], [(0, .iload_n 1, 1, [], []), (1, .iconst 0, 1, [], []), (2, .aload_n 0, 1, [], []), (3, .getfield 9, 3, [1, 2, 12], [978, 0]), (6, .iconst 0, 1, [], []), (7, .iaload, 1, [], []), (8, .iconst 1, 1, [], []), (9, .isub, 1, [], []), (10, .invokestatic 48, 3, [0, 1, 3, 113], [0, 1057, 1058]), (13, .nop, 0, [1], [])]),
  ([], [(13, .ireturn, 1, [1], [])])]
def km_X12_isThing : MT := (yX12_isThing, cX12_isThing, 2, (some .boolean), kb_X12_isThing)
def kb_X12_isWay : List (List Nat × List RI) := [
  ([0, 1], [(0, .iload_n 1, 1, [], []), (1, .iconst 0, 1, [], []), (2, .aload_n 0, 1, [], []), (3, .getfield 9, 3, [1, 2, 12], [978, 0]), (6, .iconst 1, 1, [], []), (7, .iaload, 1, [], []), (8, .iconst 1, 1, [], []), (9, .isub, 1, [], []), (10, .invokestatic 48, 3, [0, 1, 3, 113], [0, 1057, 1058]), (13, .nop, 0, [1], [])]),
  ([], [(13, .ireturn, 1, [1], [])])]
def km_X12_isWay : MT := (yX12_isWay, cX12_isWay, 2, (some .boolean), kb_X12_isWay)
def kb_X12_isSaying : List (List Nat × List RI) := [
  ([0, 1], [(0, .iload_n 1, 1, [], []), (1, .iconst 0, 1, [], []), (2, .aload_n 0, 1, [], []), (3, .getfield 9, 3, [1, 2, 12], [978, 0]), (6, .iconst 2, 1, [], []), (7, .iaload, 1, [], []), (8, .iconst 1, 1, [], []), (9, .isub, 1, [], []), (10, .invokestatic 48, 3, [0, 1, 3, 113], [0, 1057, 1058]), (13, .nop, 0, [1], [])]),
  ([], [(13, .ireturn, 1, [1], [])])]
def km_X12_isSaying : MT := (yX12_isSaying, cX12_isSaying, 2, (some .boolean), kb_X12_isSaying)
def kb_X12_feed : List (List Nat × List RI) := [
  ([0, 1], [(0, .iload_n 1, 1, [], []), (1, .iconst 0, 1, [], []), (2, .bipush 127, 2, [], []), (4, .invokestatic 48, 3, [0, 1, 3, 113], [0, 1057, 1058]), (7, .nop, 0, [1], [])]),
  ([0, 1], [(7, .ifCond .ne 6, 3, [3, 2], [])]),
  ([], [(10, .bipush (-2), 2, [], []), (12, .ireturn, 1, [0], [])]),
  ([0, 1], [(13, .aload_n 0, 1, [], []), (14, .getfield 9, 3, [1, 2, 12], [978, 0]), (17, .iconst 5, 1, [], []), (18, .iaload, 1, [], []), (19, .bipush 100, 2, [], []), (21, .if_icmp .ne 6, 3, [5, 4], [])]),
  ([], [(24, .bipush (-4), 2, [], []), (26, .ireturn, 1, [0], [])]),
  ([0, 1], [(27, .aload_n 0, 1, [], []), (28, .getfield 9, 3, [1, 2, 12], [978, 0]), (31, .bipush 52, 2, [], []), (33, .aload_n 0, 1, [], []), (34, .getfield 9, 3, [1, 2, 12], [978, 0]), (37, .iconst 5, 1, [], []), (38, .iaload, 1, [], []), (39, .iadd, 1, [], []), (40, .iload_n 1, 1, [], []), (41, .iastore, 1, [], []), (42, .aload_n 0, 1, [], []), (43, .getfield 9, 3, [1, 2, 12], [978, 0]), (46, .iconst 5, 1, [], []), (47, .dup2, 1, [], []), (48, .iaload, 1, [], []), (49, .iconst 1, 1, [], []), (50, .iadd, 1, [], []), (51, .iastore, 1, [], []), (52, .aload_n 0, 1, [], []), (53, .getfield 9, 3, [1, 2, 12], [978, 0]), (56, .iconst 5, 1, [], []), (57, .iaload, 1, [], []), (58, .ireturn, 1, [0], [])])]
def km_X12_feed : MT := (yX12_feed, cX12_feed, 2, (some .int), kb_X12_feed)
def kb_X12_here : List (List Nat × List RI) := [
  ([0], [(0, .aload_n 0, 1, [], []), (1, .getfield 52, 3, [6, 0, 12], [983, 0]), (4, .aload_n 0, 1, [], []), (5, .getfield 55, 3, [7, 0, 12], [984, 0]), (8, .if_icmp .ge 18, 3, [2, 1], [])]),
  ([0], [(11, .aload_n 0, 1, [], []), (12, .getfield 9, 3, [1, 2, 12], [978, 0]), (15, .bipush 52, 2, [], []), (17, .aload_n 0, 1, [], []), (18, .getfield 52, 3, [6, 0, 12], [983, 0]), (21, .iadd, 1, [], []), (22, .iaload, 1, [], []), (23, .goto 4, 3, [3], [])]),
  ([], [(26, .iconst (-1), 1, [], []), (27, .nop, 0, [3], [])]),
  ([], [(27, .ireturn, 1, [0], [])])]
def km_X12_here : MT := (yX12_here, cX12_here, 1, (some .int), kb_X12_here)
def kb_X12_must : List (List Nat × List RI) := [
  ([0, 1], [(0, .aload_n 0, 1, [], []), (1, .aload_n 0, 1, [], []), (2, .getfield 58, 3, [8, 1, 12], [985, 0]), (5, .ifCond .ne 11, 3, [3, 1], [])]),
  ([0, 1], [(8, .aload_n 0, 1, [], []), (9, .invokevirtual 62, 3, [2, 1, 0, 12, 118], [1073, 0, 1075, 22, 71, 0, 0, 0]), (12, .nop, 0, [2], [])]),
  ([0, 1], [(12, .iload_n 1, 1, [], []), (13, .if_icmp .eq 7, 3, [4, 3], [])]),
  ([0], [(16, .iconst 1, 1, [], []), (17, .goto 4, 3, [5], [])]),
  ([0], [(20, .iconst 0, 1, [], []), (21, .nop, 0, [5], [])]),
  ([0], [(21, .putfield 58, 3, [8, 1, 12], [985, 0]), (24, .aload_n 0, 1, [], []), (25, .dup, 1, [], []), (26, .getfield 52, 3, [6, 0, 12], [983, 0]), (29, .aload_n 0, 1, [], []), (30, .getfield 58, 3, [8, 1, 12], [985, 0]), (33, .ifCond .eq 7, 3, [7, 6], [])]),
  ([], [(36, .iconst 0, 1, [], []), (37, .goto 4, 3, [8], [])]),
  ([], [(40, .iconst 1, 1, [], []), (41, .nop, 0, [8], [])]),
  ([], [(41, .iadd, 1, [], []), (42, .putfield 52, 3, [6, 0, 12], [983, 0]), (45, .return_, 1, [], [])])]
def km_X12_must : MT := (yX12_must, cX12_must, 2, none, kb_X12_must)
def kb_X12_spells : List (List Nat × List RI) := [
  ([0, 1], [(0, .iconst 0, 1, [], []), (1, .istore_n 2, 1, [], []), (2, .nop, 0, [1], [])]),
  ([0, 1, 2], [(2, .iload_n 2, 1, [], []), (3, .aload_n 1, 1, [], []), (4, .invokevirtual 66, 3, [2, 1, 0, 30, 196], [1086, 0, 269, 270, 72, 0, 0, 0]), (7, .nop, 0, [2], [])]),
  ([0, 1, 2], [(7, .if_icmp .ge 18, 3, [6, 3], [])]),
  ([0, 1, 2], [(10, .aload_n 0, 1, [], []), (11, .aload_n 1, 1, [], []), (12, .iload_n 2, 1, [], []), (13, .invokevirtual 71, 3, [2, 1, 1, 30, 197], [1087, 0, 279, 280, 72, 0, 0, 0]), (16, .nop, 0, [4], [])]),
  ([0, 1, 2], [(16, .invokevirtual 75, 3, [2, 0, 1, 12, 119], [1088, 0, 1090, 25, 71, 0, 0, 0]), (19, .nop, 0, [5], [])]),
  ([0, 1, 2], [(19, .iinc 2 1, 3, [], []), (22, .goto (-20), 3, [1], [])]),
  ([], [(25, .return_, 1, [], [])])]
def km_X12_spells : MT := (yX12_spells, cX12_spells, 3, none, kb_X12_spells)
def kb_X12_figures : List (List Nat × List RI) := [
  ([0], [(0, .aload_n 0, 1, [], []), (1, .aload_n 0, 1, [], []), (2, .getfield 58, 3, [8, 1, 12], [985, 0]), (5, .ifCond .ne 17, 3, [4, 1], [])]),
  ([0], [(8, .aload_n 0, 1, [], []), (9, .invokevirtual 62, 3, [2, 1, 0, 12, 118], [1073, 0, 1075, 22, 71, 0, 0, 0]), (12, .nop, 0, [2], [])]),
  ([0], [(12, .bipush 48, 2, [], []), (14, .bipush 57, 2, [], []), (16, .invokestatic 48, 3, [0, 1, 3, 113], [0, 1057, 1058]), (19, .nop, 0, [3], [])]),
  ([0], [(19, .ifCond .ne 7, 3, [5, 4], [])]),
  ([0], [(22, .iconst 1, 1, [], []), (23, .goto 4, 3, [6], [])]),
  ([0], [(26, .iconst 0, 1, [], []), (27, .nop, 0, [6], [])]),
  ([0], [(27, .putfield 58, 3, [8, 1, 12], [985, 0]), (30, .iconst 0, 1, [], []), (31, .istore_n 1, 1, [], []), (32, .iconst 0, 1, [], []), (33, .istore_n 2, 1, [], []), (34, .nop, 0, [7], [])]),
  ([0, 1, 2], [(34, .iload_n 2, 1, [], []), (35, .iconst 2, 1, [], []), (36, .if_icmp .ge 61, 3, [16, 8], [])]),
  ([0, 1, 2], [(39, .aload_n 0, 1, [], []), (40, .getfield 58, 3, [8, 1, 12], [985, 0]), (43, .ifCond .ne 54, 3, [16, 9], [])]),
  ([0, 1, 2], [(46, .aload_n 0, 1, [], []), (47, .invokevirtual 62, 3, [2, 1, 0, 12, 118], [1073, 0, 1075, 22, 71, 0, 0, 0]), (50, .nop, 0, [10], [])]),
  ([0, 1, 2], [(50, .bipush 48, 2, [], []), (52, .bipush 57, 2, [], []), (54, .invokestatic 48, 3, [0, 1, 3, 113], [0, 1057, 1058]), (57, .nop, 0, [11], [])]),
  ([0, 1, 2], [(57, .ifCond .eq 40, 3, [16, 12], [])]),
  ([0, 1, 2], [(60, .iload_n 2, 1, [], []), (61, .ifCond .eq 7, 3, [14, 13], [])]),
  ([0, 1, 2], [(64, .iload_n 1, 1, [], []), (65, .ifCond .le 32, 3, [16, 14], [])]),
  ([0, 1, 2], [(68, .bipush 10, 2, [], []), (70, .iload_n 1, 1, [], []), (71, .imul, 1, [], []), (72, .aload_n 0, 1, [], []), (73, .invokevirtual 62, 3, [2, 1, 0, 12, 118], [1073, 0, 1075, 22, 71, 0, 0, 0]), (76, .nop, 0, [15], [])]),
  ([0, 2], [(76, .iadd, 1, [], []), (77, .bipush 48, 2, [], []), (79, .isub, 1, [], []), (80, .istore_n 1, 1, [], []), (81, .aload_n 0, 1, [], []), (82, .dup, 1, [], []), (83, .getfield 52, 3, [6, 0, 12], [983, 0]), (86, .iconst 1, 1, [], []), (87, .iadd, 1, [], []), (88, .putfield 52, 3, [6, 0, 12], [983, 0]), (91, .iinc 2 1, 3, [], []), (94, .goto (-60), 3, [7], [])]),
  ([1], [(97, .iload_n 1, 1, [], []), (98, .ireturn, 1, [0], [])])]
def km_X12_figures : MT := (yX12_figures, cX12_figures, 3, (some .int), kb_X12_figures)
def kb_X12_among : List (List Nat × List RI) := [
  ([0, 1], [(0, .iconst 0, 1, [], []), (1, .istore_n 2, 1, [], []), (2, .nop, 0, [1], [])]),
  ([0, 1, 2], [(2, .iload_n 2, 1, [], []), (3, .aload_n 1, 1, [], []), (4, .invokevirtual 66, 3, [2, 1, 0, 30, 196], [1086, 0, 269, 270, 72, 0, 0, 0]), (7, .nop, 0, [2], [])]),
  ([0, 1, 2], [(7, .if_icmp .ge 33, 3, [8, 3], [])]),
  ([0, 1, 2], [(10, .aload_n 0, 1, [], []), (11, .invokevirtual 62, 3, [2, 1, 0, 12, 118], [1073, 0, 1075, 22, 71, 0, 0, 0]), (14, .nop, 0, [4], [])]),
  ([0, 1, 2], [(14, .aload_n 1, 1, [], []), (15, .iload_n 2, 1, [], []), (16, .invokevirtual 71, 3, [2, 1, 1, 30, 197], [1087, 0, 279, 280, 72, 0, 0, 0]), (19, .nop, 0, [5], [])]),
  ([0, 1, 2], [(19, .if_icmp .ne 15, 3, [7, 6], [])]),
  ([0, 2], [(22, .aload_n 0, 1, [], []), (23, .dup, 1, [], []), (24, .getfield 52, 3, [6, 0, 12], [983, 0]), (27, .iconst 1, 1, [], []), (28, .iadd, 1, [], []), (29, .putfield 52, 3, [6, 0, 12], [983, 0]), (32, .iload_n 2, 1, [], []), (33, .ireturn, 1, [0], [])]),
  ([0, 1, 2], [(34, .iinc 2 1, 3, [], []), (37, .goto (-35), 3, [1], [])]),
  ([], [(40, .iconst (-1), 1, [], []), (41, .ireturn, 1, [0], [])])]
def km_X12_among : MT := (yX12_among, cX12_among, 3, (some .int), kb_X12_among)
def kb_X12_emits : List (List Nat × List RI) := [
  ([0, 1], [(0, .aload_n 0, 1, [], []), (1, .getfield 58, 3, [8, 1, 12], [985, 0]), (4, .ifCond .ne 52, 3, [2, 1], [])]),
  ([0, 1], [(7, .aload_n 0, 1, [], []), (8, .getfield 9, 3, [1, 2, 12], [978, 0]), (11, .sipush 162, 3, [], []), (14, .sipush 140, 3, [], []), (17, .aload_n 0, 1, [], []), (18, .getfield 79, 3, [4, 0, 12], [981, 0]), (21, .imul, 1, [], []), (22, .iadd, 1, [], []), (23, .aload_n 0, 1, [], []), (24, .getfield 9, 3, [1, 2, 12], [978, 0]), (27, .sipush 152, 3, [], []), (30, .aload_n 0, 1, [], []), (31, .getfield 79, 3, [4, 0, 12], [981, 0]), (34, .iadd, 1, [], []), (35, .iaload, 1, [], []), (36, .iadd, 1, [], []), (37, .iload_n 1, 1, [], []), (38, .iastore, 1, [], []), (39, .aload_n 0, 1, [], []), (40, .getfield 9, 3, [1, 2, 12], [978, 0]), (43, .sipush 152, 3, [], []), (46, .aload_n 0, 1, [], []), (47, .getfield 79, 3, [4, 0, 12], [981, 0]), (50, .iadd, 1, [], []), (51, .dup2, 1, [], []), (52, .iaload, 1, [], []), (53, .iconst 1, 1, [], []), (54, .iadd, 1, [], []), (55, .iastore, 1, [], []), (56, .nop, 0, [2], [])]),
  ([], [(56, .return_, 1, [], [])])]
def km_X12_emits : MT := (yX12_emits, cX12_emits, 2, none, kb_X12_emits)
def kb_X12_factor : List (List Nat × List RI) := [
  ([0], [(0, .aload_n 0, 1, [], []), (1, .getfield 58, 3, [8, 1, 12], [985, 0]), (4, .ifCond .eq 4, 3, [2, 1], [])]),
  ([], [(7, .return_, 1, [], [])]),
  ([0], [(8, .aload_n 0, 1, [], []), (9, .invokevirtual 62, 3, [2, 1, 0, 12, 118], [1073, 0, 1075, 22, 71, 0, 0, 0]), (12, .nop, 0, [3], [])]),
  ([0], [(12, .istore_n 1, 1, [], []), (13, .iload_n 1, 1, [], []), (14, .bipush 33, 2, [], []), (16, .if_icmp .eq 9, 3, [5, 4], [])]),
  ([0, 1], [(19, .iload_n 1, 1, [], []), (20, .bipush 40, 2, [], []), (22, .if_icmp .ne 90, 3, [18, 5], [])]),
  ([0, 1], [(25, .aload_n 0, 1, [], []), (26, .aload_n 0, 1, [], []), (27, .getfield 82, 3, [9, 0, 12], [986, 0]), (30, .iconst 5, 1, [], []), (31, .if_icmp .ne 7, 3, [7, 6], [])]),
  ([0, 1], [(34, .iconst 1, 1, [], []), (35, .goto 4, 3, [8], [])]),
  ([0, 1], [(38, .iconst 0, 1, [], []), (39, .nop, 0, [8], [])]),
  ([0, 1], [(39, .putfield 58, 3, [8, 1, 12], [985, 0]), (42, .aload_n 0, 1, [], []), (43, .dup, 1, [], []), (44, .getfield 82, 3, [9, 0, 12], [986, 0]), (47, .iconst 1, 1, [], []), (48, .iadd, 1, [], []), (49, .putfield 82, 3, [9, 0, 12], [986, 0]), (52, .aload_n 0, 1, [], []), (53, .dup, 1, [], []), (54, .getfield 52, 3, [6, 0, 12], [983, 0]), (57, .aload_n 0, 1, [], []), (58, .getfield 58, 3, [8, 1, 12], [985, 0]), (61, .ifCond .eq 7, 3, [10, 9], [])]),
  ([0, 1], [(64, .iconst 0, 1, [], []), (65, .goto 4, 3, [11], [])]),
  ([0, 1], [(68, .iconst 1, 1, [], []), (69, .nop, 0, [11], [])]),
  ([0, 1], [(69, .iadd, 1, [], []), (70, .putfield 52, 3, [6, 0, 12], [983, 0]), (73, .iload_n 1, 1, [], []), (74, .bipush 33, 2, [], []), (76, .if_icmp .ne 15, 3, [15, 12], [])]),
  ([0], [(79, .aload_n 0, 1, [], []), (80, .invokevirtual 85, 3, [2, 0, 0, 12, 124], [1104, 0, 1106, 29, 71, 0, 0, 0]), (83, .nop, 0, [13], [])]),
  ([0], [(83, .aload_n 0, 1, [], []), (84, .iconst (-1), 1, [], []), (85, .invokevirtual 88, 3, [2, 0, 1, 12, 123], [1108, 0, 1110, 30, 71, 0, 0, 0]), (88, .nop, 0, [14], [])]),
  ([0], [(88, .goto 13, 3, [17], [])]),
  ([0], [(91, .aload_n 0, 1, [], []), (92, .invokevirtual 91, 3, [2, 0, 0, 12, 126], [1096, 0, 1098, 27, 71, 0, 0, 0]), (95, .nop, 0, [16], [])]),
  ([0], [(95, .aload_n 0, 1, [], []), (96, .bipush 41, 2, [], []), (98, .invokevirtual 75, 3, [2, 0, 1, 12, 119], [1088, 0, 1090, 25, 71, 0, 0, 0]), (101, .nop, 0, [17], [])]),
  ([0], [(101, .aload_n 0, 1, [], []), (102, .dup, 1, [], []), (103, .getfield 82, 3, [9, 0, 12], [986, 0]), (106, .iconst 1, 1, [], []), (107, .isub, 1, [], []), (108, .putfield 82, 3, [9, 0, 12], [986, 0]), (111, .return_, 1, [], [])]),
  ([0], [(112, .aload_n 0, 1, [], []), (113, .aload_n 0, 1, [], []), (114, .getfield 94, 3, [5, 2, 12], [982, 0]), (117, .invokevirtual 98, 3, [2, 1, 1, 12, 122], [1112, 0, 1114, 31, 71, 0, 0, 0]), (120, .nop, 0, [19], [])]),
  ([0], [(120, .istore_n 2, 1, [], []), (121, .aload_n 0, 1, [], []), (122, .iload_n 2, 1, [], []), (123, .iconst (-1), 1, [], []), (124, .if_icmp .ne 7, 3, [21, 20], [])]),
  ([0, 2], [(127, .iconst 1, 1, [], []), (128, .goto 4, 3, [22], [])]),
  ([0, 2], [(131, .iconst 0, 1, [], []), (132, .nop, 0, [22], [])]),
  ([0, 2], [(132, .putfield 58, 3, [8, 1, 12], [985, 0]), (135, .aload_n 0, 1, [], []), (136, .getfield 58, 3, [8, 1, 12], [985, 0]), (139, .ifCond .eq 7, 3, [24, 23], [])]),
  ([0, 2], [(142, .iconst 0, 1, [], []), (143, .goto 9, 3, [25], [])]),
  ([0, 2], [(146, .aload_n 0, 1, [], []), (147, .ldc 102, 2, [1, 9], []), (149, .invokevirtual 98, 3, [2, 1, 1, 12, 122], [1112, 0, 1114, 31, 71, 0, 0, 0]), (152, .nop, 0, [25], [])]),
  ([0, 2], [(152, .istore_n 3, 1, [], []), (153, .aload_n 0, 1, [], []), (154, .aload_n 0, 1, [], []), (155, .getfield 58, 3, [8, 1, 12], [985, 0]), (158, .ifCond .ne 8, 3, [27, 26], [])]),
  ([0, 2, 3], [(161, .iload_n 3, 1, [], []), (162, .iconst (-1), 1, [], []), (163, .if_icmp .ne 7, 3, [28, 27], [])]),
  ([0, 2, 3], [(166, .iconst 1, 1, [], []), (167, .goto 4, 3, [29], [])]),
  ([0, 2, 3], [(170, .iconst 0, 1, [], []), (171, .nop, 0, [29], [])]),
  ([0, 2, 3], [(171, .putfield 58, 3, [8, 1, 12], [985, 0]), (174, .aload_n 0, 1, [], []), (175, .invokevirtual 104, 3, [2, 1, 0, 12, 121], [1092, 0, 1094, 26, 71, 0, 0, 0]), (178, .nop, 0, [30], [])]),
  ([0, 2, 3], [(178, .istore 4, 2, [], []), (180, .aload_n 0, 1, [], []), (181, .iload_n 2, 1, [], []), (182, .bipush 8, 2, [], []), (184, .iload_n 3, 1, [], []), (185, .imul, 1, [], []), (186, .iadd, 1, [], []), (187, .bipush 32, 2, [], []), (189, .iload 4, 2, [], []), (191, .imul, 1, [], []), (192, .iadd, 1, [], []), (193, .invokevirtual 88, 3, [2, 0, 1, 12, 123], [1108, 0, 1110, 30, 71, 0, 0, 0]), (196, .nop, 0, [31], [])]),
  ([], [(196, .return_, 1, [], [])])]
def km_X12_factor : MT := (yX12_factor, cX12_factor, 5, none, kb_X12_factor)
def kb_X12_every : List (List Nat × List RI) := [
  ([0], [(0, .aload_n 0, 1, [], []), (1, .invokevirtual 85, 3, [2, 0, 0, 12, 124], [1104, 0, 1106, 29, 71, 0, 0, 0]), (4, .nop, 0, [1], [])]),
  ([0], [(4, .aload_n 0, 1, [], []), (5, .getfield 58, 3, [8, 1, 12], [985, 0]), (8, .ifCond .ne 35, 3, [7, 2], [])]),
  ([0], [(11, .aload_n 0, 1, [], []), (12, .invokevirtual 62, 3, [2, 1, 0, 12, 118], [1073, 0, 1075, 22, 71, 0, 0, 0]), (15, .nop, 0, [3], [])]),
  ([0], [(15, .bipush 38, 2, [], []), (17, .if_icmp .ne 26, 3, [7, 4], [])]),
  ([0], [(20, .aload_n 0, 1, [], []), (21, .dup, 1, [], []), (22, .getfield 52, 3, [6, 0, 12], [983, 0]), (25, .iconst 1, 1, [], []), (26, .iadd, 1, [], []), (27, .putfield 52, 3, [6, 0, 12], [983, 0]), (30, .aload_n 0, 1, [], []), (31, .invokevirtual 85, 3, [2, 0, 0, 12, 124], [1104, 0, 1106, 29, 71, 0, 0, 0]), (34, .nop, 0, [5], [])]),
  ([0], [(34, .aload_n 0, 1, [], []), (35, .bipush (-2), 2, [], []), (37, .invokevirtual 88, 3, [2, 0, 1, 12, 123], [1108, 0, 1110, 30, 71, 0, 0, 0]), (40, .nop, 0, [6], [])]),
  ([0], [(40, .goto (-36), 3, [1], [])]),
  ([], [(43, .return_, 1, [], [])])]
def km_X12_every : MT := (yX12_every, cX12_every, 1, none, kb_X12_every)
def kb_X12_some : List (List Nat × List RI) := [
  ([0], [(0, .aload_n 0, 1, [], []), (1, .invokevirtual 107, 3, [2, 0, 0, 12, 125], [1100, 0, 1102, 28, 71, 0, 0, 0]), (4, .nop, 0, [1], [])]),
  ([0], [(4, .aload_n 0, 1, [], []), (5, .getfield 58, 3, [8, 1, 12], [985, 0]), (8, .ifCond .ne 35, 3, [7, 2], [])]),
  ([0], [(11, .aload_n 0, 1, [], []), (12, .invokevirtual 62, 3, [2, 1, 0, 12, 118], [1073, 0, 1075, 22, 71, 0, 0, 0]), (15, .nop, 0, [3], [])]),
  ([0], [(15, .bipush 124, 2, [], []), (17, .if_icmp .ne 26, 3, [7, 4], [])]),
  ([0], [(20, .aload_n 0, 1, [], []), (21, .dup, 1, [], []), (22, .getfield 52, 3, [6, 0, 12], [983, 0]), (25, .iconst 1, 1, [], []), (26, .iadd, 1, [], []), (27, .putfield 52, 3, [6, 0, 12], [983, 0]), (30, .aload_n 0, 1, [], []), (31, .invokevirtual 107, 3, [2, 0, 0, 12, 125], [1100, 0, 1102, 28, 71, 0, 0, 0]), (34, .nop, 0, [5], [])]),
  ([0], [(34, .aload_n 0, 1, [], []), (35, .bipush (-3), 2, [], []), (37, .invokevirtual 88, 3, [2, 0, 1, 12, 123], [1108, 0, 1110, 30, 71, 0, 0, 0]), (40, .nop, 0, [6], [])]),
  ([0], [(40, .goto (-36), 3, [1], [])]),
  ([], [(43, .return_, 1, [], [])])]
def km_X12_some : MT := (yX12_some, cX12_some, 1, none, kb_X12_some)
def kb_X12_much : List (List Nat × List RI) := [
  ([0, 1, 2], [(0, .aload_n 0, 1, [], []), (1, .aload_n 2, 1, [], []), (2, .invokevirtual 110, 3, [2, 0, 1, 12, 120], [1082, 0, 1084, 24, 71, 0, 0, 0]), (5, .nop, 0, [1], [])]),
  ([0, 1], [(5, .aload_n 0, 1, [], []), (6, .invokevirtual 104, 3, [2, 1, 0, 12, 121], [1092, 0, 1094, 26, 71, 0, 0, 0]), (9, .nop, 0, [2], [])]),
  ([0, 1], [(9, .istore_n 3, 1, [], []), (10, .aload_n 0, 1, [], []), (11, .bipush 32, 2, [], []), (13, .invokevirtual 75, 3, [2, 0, 1, 12, 119], [1088, 0, 1090, 25, 71, 0, 0, 0]), (16, .nop, 0, [3], [])]),
  ([0, 1, 3], [(16, .aload_n 0, 1, [], []), (17, .invokevirtual 91, 3, [2, 0, 0, 12, 126], [1096, 0, 1098, 27, 71, 0, 0, 0]), (20, .nop, 0, [4], [])]),
  ([0, 1, 3], [(20, .aload_n 0, 1, [], []), (21, .iload_n 1, 1, [], []), (22, .iload_n 3, 1, [], []), (23, .isub, 1, [], []), (24, .invokevirtual 88, 3, [2, 0, 1, 12, 123], [1108, 0, 1110, 30, 71, 0, 0, 0]), (27, .nop, 0, [5], [])]),
  ([], [(27, .return_, 1, [], [])])]
def km_X12_much : MT := (yX12_much, cX12_much, 4, none, kb_X12_much)
def kb_X12_clauseOfD : List (List Nat × List RI) := [
  ([0], [(0, .aload_n 0, 1, [], []), (1, .bipush 100, 2, [], []), (3, .invokevirtual 75, 3, [2, 0, 1, 12, 119], [1088, 0, 1090, 25, 71, 0, 0, 0]), (6, .nop, 0, [1], [])]),
  ([0], [(6, .aload_n 0, 1, [], []), (7, .invokevirtual 62, 3, [2, 1, 0, 12, 118], [1073, 0, 1075, 22, 71, 0, 0, 0]), (10, .nop, 0, [2], [])]),
  ([0], [(10, .bipush 114, 2, [], []), (12, .if_icmp .ne 15, 3, [5, 3], [])]),
  ([0], [(15, .aload_n 0, 1, [], []), (16, .sipush (-200), 3, [], []), (19, .ldc 114, 2, [1, 10], []), (21, .invokevirtual 116, 3, [2, 0, 2, 12, 127], [1078, 0, 1080, 23, 71, 0, 0, 0]), (24, .nop, 0, [4], [])]),
  ([], [(24, .goto 12, 3, [6], [])]),
  ([0], [(27, .aload_n 0, 1, [], []), (28, .sipush (-400), 3, [], []), (31, .ldc 120, 2, [1, 11], []), (33, .invokevirtual 116, 3, [2, 0, 2, 12, 127], [1078, 0, 1080, 23, 71, 0, 0, 0]), (36, .nop, 0, [6], [])]),
  ([], [(36, .return_, 1, [], [])])]
def km_X12_clauseOfD : MT := (yX12_clauseOfD, cX12_clauseOfD, 1, none, kb_X12_clauseOfD)
def kb_X12_clauseHere : List (List Nat × List RI) := [
  ([0], [(0, .aload_n 0, 1, [], []), (1, .invokevirtual 62, 3, [2, 1, 0, 12, 118], [1073, 0, 1075, 22, 71, 0, 0, 0]), (4, .nop, 0, [1], [])]),
  ([0], [(4, .lookupswitch 46 #[(100, 39), (116, 28)], 28, [6, 4, 2], [])]),
  ([0], [(32, .aload_n 0, 1, [], []), (33, .bipush (-10), 2, [], []), (35, .ldc 122, 2, [1, 8], []), (37, .invokevirtual 116, 3, [2, 0, 2, 12, 127], [1078, 0, 1080, 23, 71, 0, 0, 0]), (40, .nop, 0, [3], [])]),
  ([], [(40, .goto 15, 3, [7], [])]),
  ([0], [(43, .aload_n 0, 1, [], []), (44, .invokevirtual 124, 3, [2, 0, 0, 12, 128], [1117, 0, 1119, 32, 71, 0, 0, 0]), (47, .nop, 0, [5], [])]),
  ([], [(47, .goto 8, 3, [7], [])]),
  ([0], [(50, .aload_n 0, 1, [], []), (51, .iconst 1, 1, [], []), (52, .putfield 58, 3, [8, 1, 12], [985, 0]), (55, .nop, 0, [7], [])]),
  ([], [(55, .return_, 1, [], [])])]
def km_X12_clauseHere : MT := (yX12_clauseHere, cX12_clauseHere, 1, none, kb_X12_clauseHere)
def kb_X12_begins : List (List Nat × List RI) := [
  ([0, 1, 2], [(0, .aload_n 0, 1, [], []), (1, .iload_n 1, 1, [], []), (2, .putfield 79, 3, [4, 0, 12], [981, 0]), (5, .aload_n 0, 1, [], []), (6, .aload_n 2, 1, [], []), (7, .putfield 94, 3, [5, 2, 12], [982, 0]), (10, .aload_n 0, 1, [], []), (11, .aload_n 0, 1, [], []), (12, .getfield 9, 3, [1, 2, 12], [978, 0]), (15, .iconst 5, 1, [], []), (16, .iaload, 1, [], []), (17, .putfield 55, 3, [7, 0, 12], [984, 0]), (20, .aload_n 0, 1, [], []), (21, .getfield 9, 3, [1, 2, 12], [978, 0]), (24, .iconst 5, 1, [], []), (25, .iconst 0, 1, [], []), (26, .iastore, 1, [], []), (27, .aload_n 0, 1, [], []), (28, .getfield 9, 3, [1, 2, 12], [978, 0]), (31, .sipush 152, 3, [], []), (34, .aload_n 0, 1, [], []), (35, .getfield 79, 3, [4, 0, 12], [981, 0]), (38, .iadd, 1, [], []), (39, .iconst 0, 1, [], []), (40, .iastore, 1, [], []), (41, .aload_n 0, 1, [], []), (42, .iconst 0, 1, [], []), (43, .putfield 52, 3, [6, 0, 12], [983, 0]), (46, .aload_n 0, 1, [], []), (47, .iconst 0, 1, [], []), (48, .putfield 58, 3, [8, 1, 12], [985, 0]), (51, .aload_n 0, 1, [], []), (52, .iconst 0, 1, [], []), (53, .putfield 82, 3, [9, 0, 12], [986, 0]), (56, .return_, 1, [], [])])]
def km_X12_begins : MT := (yX12_begins, cX12_begins, 3, none, kb_X12_begins)
def kb_X12_coast : List (List Nat × List RI) := [
  ([0], [(0, .aload_n 0, 1, [], []), (1, .getfield 9, 3, [1, 2, 12], [978, 0]), (4, .iconst 3, 1, [], []), (5, .iaload, 1, [], []), (6, .iconst 5, 1, [], []), (7, .if_icmp .ne 6, 3, [2, 1], [])]),
  ([], [(10, .bipush (-4), 2, [], []), (12, .ireturn, 1, [0], [])]),
  ([0], [(13, .aload_n 0, 1, [], []), (14, .aload_n 0, 1, [], []), (15, .getfield 9, 3, [1, 2, 12], [978, 0]), (18, .iconst 3, 1, [], []), (19, .iaload, 1, [], []), (20, .ldc 127, 2, [1, 7], []), (22, .invokevirtual 129, 3, [2, 0, 2, 12, 130], [1065, 0, 1067, 20, 71, 0, 0, 0]), (25, .nop, 0, [3], [])]),
  ([0], [(25, .iconst 1, 1, [], []), (26, .istore_n 1, 1, [], []), (27, .aload_n 0, 1, [], []), (28, .invokevirtual 132, 3, [2, 0, 0, 12, 129], [1069, 0, 1071, 21, 71, 0, 0, 0]), (31, .nop, 0, [4], [])]),
  ([0, 1], [(31, .aload_n 0, 1, [], []), (32, .getfield 58, 3, [8, 1, 12], [985, 0]), (35, .ifCond .ne 38, 3, [10, 5], [])]),
  ([0, 1], [(38, .iload_n 1, 1, [], []), (39, .bipush 10, 2, [], []), (41, .if_icmp .ge 32, 3, [10, 6], [])]),
  ([0, 1], [(44, .aload_n 0, 1, [], []), (45, .invokevirtual 62, 3, [2, 1, 0, 12, 118], [1073, 0, 1075, 22, 71, 0, 0, 0]), (48, .nop, 0, [7], [])]),
  ([0, 1], [(48, .bipush 59, 2, [], []), (50, .if_icmp .ne 23, 3, [10, 8], [])]),
  ([0, 1], [(53, .aload_n 0, 1, [], []), (54, .dup, 1, [], []), (55, .getfield 52, 3, [6, 0, 12], [983, 0]), (58, .iconst 1, 1, [], []), (59, .iadd, 1, [], []), (60, .putfield 52, 3, [6, 0, 12], [983, 0]), (63, .aload_n 0, 1, [], []), (64, .invokevirtual 132, 3, [2, 0, 0, 12, 129], [1069, 0, 1071, 21, 71, 0, 0, 0]), (67, .nop, 0, [9], [])]),
  ([0, 1], [(67, .iinc 1 1, 3, [], []), (70, .goto (-39), 3, [4], [])]),
  ([0], [(73, .aload_n 0, 1, [], []), (74, .getfield 58, 3, [8, 1, 12], [985, 0]), (77, .ifCond .ne 14, 3, [12, 11], [])]),
  ([0], [(80, .aload_n 0, 1, [], []), (81, .getfield 52, 3, [6, 0, 12], [983, 0]), (84, .aload_n 0, 1, [], []), (85, .getfield 55, 3, [7, 0, 12], [984, 0]), (88, .if_icmp .eq 11, 3, [13, 12], [])]),
  ([0], [(91, .bipush (-10), 2, [], []), (93, .aload_n 0, 1, [], []), (94, .getfield 52, 3, [6, 0, 12], [983, 0]), (97, .isub, 1, [], []), (98, .ireturn, 1, [0], [])]),
  ([0], [(99, .aload_n 0, 1, [], []), (100, .getfield 9, 3, [1, 2, 12], [978, 0]), (103, .iconst 3, 1, [], []), (104, .dup2, 1, [], []), (105, .iaload, 1, [], []), (106, .iconst 1, 1, [], []), (107, .iadd, 1, [], []), (108, .iastore, 1, [], []), (109, .aload_n 0, 1, [], []), (110, .getfield 9, 3, [1, 2, 12], [978, 0]), (113, .bipush 6, 2, [], []), (115, .aload_n 0, 1, [], []), (116, .getfield 79, 3, [4, 0, 12], [981, 0]), (119, .iastore, 1, [], []), (120, .aload_n 0, 1, [], []), (121, .getfield 79, 3, [4, 0, 12], [981, 0]), (124, .ireturn, 1, [0], [])])]
def km_X12_coast : MT := (yX12_coast, cX12_coast, 2, (some .int), kb_X12_coast)
def kb_X12_saying : List (List Nat × List RI) := [
  ([0], [(0, .aload_n 0, 1, [], []), (1, .getfield 9, 3, [1, 2, 12], [978, 0]), (4, .iconst 2, 1, [], []), (5, .iaload, 1, [], []), (6, .iconst 5, 1, [], []), (7, .if_icmp .ne 6, 3, [2, 1], [])]),
  ([], [(10, .bipush (-4), 2, [], []), (12, .ireturn, 1, [0], [])]),
  ([0], [(13, .aload_n 0, 1, [], []), (14, .iconst 5, 1, [], []), (15, .aload_n 0, 1, [], []), (16, .getfield 9, 3, [1, 2, 12], [978, 0]), (19, .iconst 2, 1, [], []), (20, .iaload, 1, [], []), (21, .iadd, 1, [], []), (22, .ldc 135, 2, [1, 12], []), (24, .invokevirtual 129, 3, [2, 0, 2, 12, 130], [1065, 0, 1067, 20, 71, 0, 0, 0]), (27, .nop, 0, [3], [])]),
  ([0], [(27, .aload_n 0, 1, [], []), (28, .invokevirtual 91, 3, [2, 0, 0, 12, 126], [1096, 0, 1098, 27, 71, 0, 0, 0]), (31, .nop, 0, [4], [])]),
  ([0], [(31, .aload_n 0, 1, [], []), (32, .getfield 58, 3, [8, 1, 12], [985, 0]), (35, .ifCond .ne 14, 3, [6, 5], [])]),
  ([0], [(38, .aload_n 0, 1, [], []), (39, .getfield 52, 3, [6, 0, 12], [983, 0]), (42, .aload_n 0, 1, [], []), (43, .getfield 55, 3, [7, 0, 12], [984, 0]), (46, .if_icmp .eq 11, 3, [7, 6], [])]),
  ([0], [(49, .bipush (-10), 2, [], []), (51, .aload_n 0, 1, [], []), (52, .getfield 52, 3, [6, 0, 12], [983, 0]), (55, .isub, 1, [], []), (56, .ireturn, 1, [0], [])]),
  ([0], [(57, .aload_n 0, 1, [], []), (58, .getfield 9, 3, [1, 2, 12], [978, 0]), (61, .iconst 2, 1, [], []), (62, .dup2, 1, [], []), (63, .iaload, 1, [], []), (64, .iconst 1, 1, [], []), (65, .iadd, 1, [], []), (66, .iastore, 1, [], []), (67, .aload_n 0, 1, [], []), (68, .getfield 9, 3, [1, 2, 12], [978, 0]), (71, .iconst 2, 1, [], []), (72, .iaload, 1, [], []), (73, .iconst 1, 1, [], []), (74, .isub, 1, [], []), (75, .ireturn, 1, [0], [])])]
def km_X12_saying : MT := (yX12_saying, cX12_saying, 1, (some .int), kb_X12_saying)
def kb_X12_isSo : List (List Nat × List RI) := [
  ([0, 1], [(0, .iload_n 0, 1, [], []), (1, .bipush 8, 2, [], []), (3, .idiv, 1, [], []), (4, .iconst 4, 1, [], []), (5, .irem, 1, [], []), (6, .istore_n 2, 1, [], []), (7, .iload_n 0, 1, [], []), (8, .bipush 32, 2, [], []), (10, .idiv, 1, [], []), (11, .istore_n 3, 1, [], []), (12, .iload_n 2, 1, [], []), (13, .ifCond .ne 16, 3, [4, 1], [])]),
  ([1, 3], [(16, .iload_n 1, 1, [], []), (17, .iload_n 3, 1, [], []), (18, .if_icmp .ge 7, 3, [3, 2], [])]),
  ([], [(21, .iconst 1, 1, [], []), (22, .goto 35, 3, [11], [])]),
  ([], [(25, .iconst 0, 1, [], []), (26, .goto 31, 3, [11], [])]),
  ([1, 2, 3], [(29, .iload_n 2, 1, [], []), (30, .iconst 1, 1, [], []), (31, .if_icmp .ne 16, 3, [8, 5], [])]),
  ([1, 3], [(34, .iload_n 1, 1, [], []), (35, .iload_n 3, 1, [], []), (36, .if_icmp .ne 7, 3, [7, 6], [])]),
  ([], [(39, .iconst 1, 1, [], []), (40, .goto 17, 3, [11], [])]),
  ([], [(43, .iconst 0, 1, [], []), (44, .goto 13, 3, [11], [])]),
  ([1, 3], [(47, .iload_n 1, 1, [], []), (48, .iload_n 3, 1, [], []), (49, .if_icmp .le 7, 3, [10, 9], [])]),
  ([], [(52, .iconst 1, 1, [], []), (53, .goto 4, 3, [11], [])]),
  ([], [(56, .iconst 0, 1, [], []), (57, .nop, 0, [11], [])]),
  ([], [(57, .ireturn, 1, [1], [])])]
def km_X12_isSo : MT := (yX12_isSo, cX12_isSo, 4, (some .boolean), kb_X12_isSo)
def kb_X12_goesThrough : List (List Nat × List RI) := [
  ([0, 1], [(0, .aload_n 0, 1, [], []), (1, .iconst 0, 1, [], []), (2, .putfield 137, 3, [12, 0, 12], [989, 0]), (5, .aload_n 0, 1, [], []), (6, .iconst 0, 1, [], []), (7, .putfield 140, 3, [13, 0, 12], [990, 0]), (10, .aload_n 0, 1, [], []), (11, .iconst 0, 1, [], []), (12, .putfield 143, 3, [14, 0, 12], [991, 0]), (15, .sipush 162, 3, [], []), (18, .sipush 140, 3, [], []), (21, .iload_n 1, 1, [], []), (22, .imul, 1, [], []), (23, .iadd, 1, [], []), (24, .istore_n 2, 1, [], []), (25, .iload_n 1, 1, [], []), (26, .iconst (-1), 1, [], []), (27, .if_icmp .ne 7, 3, [2, 1], [])]),
  ([0, 2], [(30, .iconst 0, 1, [], []), (31, .goto 13, 3, [3], [])]),
  ([0, 1, 2], [(34, .aload_n 0, 1, [], []), (35, .getfield 9, 3, [1, 2, 12], [978, 0]), (38, .sipush 152, 3, [], []), (41, .iload_n 1, 1, [], []), (42, .iadd, 1, [], []), (43, .iaload, 1, [], []), (44, .nop, 0, [3], [])]),
  ([0, 2], [(44, .istore_n 3, 1, [], []), (45, .iconst 0, 1, [], []), (46, .istore 4, 2, [], []), (48, .iload_n 2, 1, [], []), (49, .istore 5, 2, [], []), (51, .nop, 0, [4], [])]),
  ([0, 2, 3, 4, 5], [(51, .iload 5, 2, [], []), (53, .iload_n 2, 1, [], []), (54, .iload_n 3, 1, [], []), (55, .iadd, 1, [], []), (56, .if_icmp .ge 286, 3, [39, 5], [])]),
  ([0, 2, 3, 4, 5], [(59, .aload_n 0, 1, [], []), (60, .getfield 9, 3, [1, 2, 12], [978, 0]), (63, .iload 5, 2, [], []), (65, .iaload, 1, [], []), (66, .istore 6, 2, [], []), (68, .iload 6, 2, [], []), (70, .ifCond .lt 31, 3, [8, 6], [])]),
  ([0, 2, 3, 4, 5, 6], [(73, .aload_n 0, 1, [], []), (74, .getfield 21, 3, [11, 2, 12], [988, 0]), (77, .iload 4, 2, [], []), (79, .iload 6, 2, [], []), (81, .aload_n 0, 1, [], []), (82, .getfield 18, 3, [10, 2, 12], [987, 0]), (85, .iload 6, 2, [], []), (87, .bipush 8, 2, [], []), (89, .irem, 1, [], []), (90, .iaload, 1, [], []), (91, .invokestatic 146, 3, [0, 1, 2, 133], [0, 1152, 1153]), (94, .nop, 0, [7], [])]),
  ([0, 2, 3, 4, 5], [(94, .bastore, 1, [0], []), (95, .iinc 4 1, 3, [], []), (98, .goto 238, 3, [38], [])]),
  ([0, 2, 3, 4, 5, 6], [(101, .iload 6, 2, [], []), (103, .iconst (-1), 1, [], []), (104, .if_icmp .ne 32, 3, [13, 9], [])]),
  ([0, 2, 3, 4, 5], [(107, .aload_n 0, 1, [], []), (108, .getfield 21, 3, [11, 2, 12], [988, 0]), (111, .iload 4, 2, [], []), (113, .iconst 1, 1, [], []), (114, .isub, 1, [], []), (115, .aload_n 0, 1, [], []), (116, .getfield 21, 3, [11, 2, 12], [988, 0]), (119, .iload 4, 2, [], []), (121, .iconst 1, 1, [], []), (122, .isub, 1, [], []), (123, .baload, 1, [], []), (124, .ifCond .ne 7, 3, [11, 10], [])]),
  ([0, 2, 3, 4, 5], [(127, .iconst 1, 1, [], []), (128, .goto 4, 3, [12], [])]),
  ([0, 2, 3, 4, 5], [(131, .iconst 0, 1, [], []), (132, .nop, 0, [12], [])]),
  ([0, 2, 3, 4, 5], [(132, .bastore, 1, [0], []), (133, .goto 203, 3, [38], [])]),
  ([0, 2, 3, 4, 5, 6], [(136, .iload 6, 2, [], []), (138, .bipush (-10), 2, [], []), (140, .if_icmp .le 82, 3, [24, 14], [])]),
  ([0, 2, 3, 4, 5, 6], [(143, .iinc 4 (-1), 3, [], []), (146, .aload_n 0, 1, [], []), (147, .getfield 21, 3, [11, 2, 12], [988, 0]), (150, .iload 4, 2, [], []), (152, .iconst 1, 1, [], []), (153, .isub, 1, [], []), (154, .iload 6, 2, [], []), (156, .bipush (-2), 2, [], []), (158, .if_icmp .ne 33, 3, [19, 15], [])]),
  ([0, 2, 3, 4, 5], [(161, .aload_n 0, 1, [], []), (162, .getfield 21, 3, [11, 2, 12], [988, 0]), (165, .iload 4, 2, [], []), (167, .iconst 1, 1, [], []), (168, .isub, 1, [], []), (169, .baload, 1, [], []), (170, .ifCond .eq 17, 3, [18, 16], [])]),
  ([0, 2, 3, 4, 5], [(173, .aload_n 0, 1, [], []), (174, .getfield 21, 3, [11, 2, 12], [988, 0]), (177, .iload 4, 2, [], []), (179, .baload, 1, [], []), (180, .ifCond .eq 7, 3, [18, 17], [])]),
  ([0, 2, 3, 4, 5], [(183, .iconst 1, 1, [], []), (184, .goto 34, 3, [23], [])]),
  ([0, 2, 3, 4, 5], [(187, .iconst 0, 1, [], []), (188, .goto 30, 3, [23], [])]),
  ([0, 2, 3, 4, 5], [(191, .aload_n 0, 1, [], []), (192, .getfield 21, 3, [11, 2, 12], [988, 0]), (195, .iload 4, 2, [], []), (197, .iconst 1, 1, [], []), (198, .isub, 1, [], []), (199, .baload, 1, [], []), (200, .ifCond .ne 13, 3, [21, 20], [])]),
  ([0, 2, 3, 4, 5], [(203, .aload_n 0, 1, [], []), (204, .getfield 21, 3, [11, 2, 12], [988, 0]), (207, .iload 4, 2, [], []), (209, .baload, 1, [], []), (210, .ifCond .eq 7, 3, [22, 21], [])]),
  ([0, 2, 3, 4, 5], [(213, .iconst 1, 1, [], []), (214, .goto 4, 3, [23], [])]),
  ([0, 2, 3, 4, 5], [(217, .iconst 0, 1, [], []), (218, .nop, 0, [23], [])]),
  ([0, 2, 3, 4, 5], [(218, .bastore, 1, [0], []), (219, .goto 117, 3, [38], [])]),
  ([0, 2, 3, 5, 6], [(222, .iconst 0, 1, [], []), (223, .istore 4, 2, [], []), (225, .aload_n 0, 1, [], []), (226, .getfield 21, 3, [11, 2, 12], [988, 0]), (229, .iconst 0, 1, [], []), (230, .baload, 1, [], []), (231, .istore 7, 2, [], []), (233, .aload_n 0, 1, [], []), (234, .dup, 1, [], []), (235, .getfield 137, 3, [12, 0, 12], [989, 0]), (238, .iload 7, 2, [], []), (240, .ifCond .eq 19, 3, [27, 25], [])]),
  ([0, 2, 3, 4, 5, 6, 7], [(243, .iload 6, 2, [], []), (245, .sipush (-200), 3, [], []), (248, .if_icmp .le 11, 3, [27, 26], [])]),
  ([0, 2, 3, 4, 5, 6, 7], [(251, .bipush (-10), 2, [], []), (253, .iload 6, 2, [], []), (255, .isub, 1, [], []), (256, .goto 4, 3, [28], [])]),
  ([0, 2, 3, 4, 5, 6, 7], [(259, .iconst 0, 1, [], []), (260, .nop, 0, [28], [])]),
  ([0, 2, 3, 4, 5, 6, 7], [(260, .iadd, 1, [], []), (261, .putfield 137, 3, [12, 0, 12], [989, 0]), (264, .aload_n 0, 1, [], []), (265, .dup, 1, [], []), (266, .getfield 140, 3, [13, 0, 12], [990, 0]), (269, .iload 7, 2, [], []), (271, .ifCond .eq 28, 3, [32, 29], [])]),
  ([0, 2, 3, 4, 5, 6, 7], [(274, .iload 6, 2, [], []), (276, .sipush (-200), 3, [], []), (279, .if_icmp .gt 20, 3, [32, 30], [])]),
  ([0, 2, 3, 4, 5, 6, 7], [(282, .iload 6, 2, [], []), (284, .sipush (-400), 3, [], []), (287, .if_icmp .le 12, 3, [32, 31], [])]),
  ([0, 2, 3, 4, 5, 6, 7], [(290, .sipush (-200), 3, [], []), (293, .iload 6, 2, [], []), (295, .isub, 1, [], []), (296, .goto 4, 3, [33], [])]),
  ([0, 2, 3, 4, 5, 6, 7], [(299, .iconst 0, 1, [], []), (300, .nop, 0, [33], [])]),
  ([0, 2, 3, 4, 5, 6, 7], [(300, .iadd, 1, [], []), (301, .putfield 140, 3, [13, 0, 12], [990, 0]), (304, .aload_n 0, 1, [], []), (305, .dup, 1, [], []), (306, .getfield 143, 3, [14, 0, 12], [991, 0]), (309, .iload 7, 2, [], []), (311, .ifCond .eq 20, 3, [36, 34], [])]),
  ([0, 2, 3, 4, 5, 6], [(314, .iload 6, 2, [], []), (316, .sipush (-400), 3, [], []), (319, .if_icmp .gt 12, 3, [36, 35], [])]),
  ([0, 2, 3, 4, 5, 6], [(322, .sipush (-400), 3, [], []), (325, .iload 6, 2, [], []), (327, .isub, 1, [], []), (328, .goto 4, 3, [37], [])]),
  ([0, 2, 3, 4, 5], [(331, .iconst 0, 1, [], []), (332, .nop, 0, [37], [])]),
  ([0, 2, 3, 4, 5], [(332, .iadd, 1, [], []), (333, .putfield 143, 3, [14, 0, 12], [991, 0]), (336, .nop, 0, [38], [])]),
  ([0, 2, 3, 4, 5], [(336, .iinc 5 1, 3, [], []), (339, .goto (-288), 3, [4], [])]),
  ([0], [(342, .aload_n 0, 1, [], []), (343, .aload_n 0, 1, [], []), (344, .getfield 140, 3, [13, 0, 12], [990, 0]), (347, .iconst 2, 1, [], []), (348, .if_icmp .le 7, 3, [41, 40], [])]),
  ([0], [(351, .iconst 2, 1, [], []), (352, .goto 7, 3, [42], [])]),
  ([0], [(355, .aload_n 0, 1, [], []), (356, .getfield 140, 3, [13, 0, 12], [990, 0]), (359, .nop, 0, [42], [])]),
  ([0], [(359, .putfield 140, 3, [13, 0, 12], [990, 0]), (362, .aload_n 0, 1, [], []), (363, .getfield 21, 3, [11, 2, 12], [988, 0]), (366, .iconst 0, 1, [], []), (367, .baload, 1, [], []), (368, .ireturn, 1, [1], [])])]
def km_X12_goesThrough : MT := (yX12_goesThrough, cX12_goesThrough, 8, (some .boolean), kb_X12_goesThrough)
def kb_X12_looks : List (List Nat × List RI) := [
  ([0, 1, 2, 3, 4], [(0, .aload_n 0, 1, [], []), (1, .getfield 18, 3, [10, 2, 12], [987, 0]), (4, .iconst 0, 1, [], []), (5, .iload_n 1, 1, [], []), (6, .iastore, 1, [], []), (7, .aload_n 0, 1, [], []), (8, .getfield 18, 3, [10, 2, 12], [987, 0]), (11, .iconst 1, 1, [], []), (12, .iload_n 2, 1, [], []), (13, .iastore, 1, [], []), (14, .aload_n 0, 1, [], []), (15, .getfield 18, 3, [10, 2, 12], [987, 0]), (18, .iconst 2, 1, [], []), (19, .iload_n 3, 1, [], []), (20, .bipush 12, 2, [], []), (22, .irem, 1, [], []), (23, .iastore, 1, [], []), (24, .aload_n 0, 1, [], []), (25, .getfield 18, 3, [10, 2, 12], [987, 0]), (28, .iconst 3, 1, [], []), (29, .iload 4, 2, [], []), (31, .iastore, 1, [], []), (32, .aload_n 0, 1, [], []), (33, .aload_n 0, 1, [], []), (34, .getfield 9, 3, [1, 2, 12], [978, 0]), (37, .bipush 6, 2, [], []), (39, .iaload, 1, [], []), (40, .invokevirtual 150, 3, [2, 1, 1, 12, 134], [1148, 0, 1150, 35, 71, 0, 0, 0]), (43, .nop, 0, [1], [])]),
  ([], [(43, .pop, 1, [], []), (44, .return_, 1, [], [])])]
def km_X12_looks : MT := (yX12_looks, cX12_looks, 5, none, kb_X12_looks)
def kb_X12_stateOf : List (List Nat × List RI) := [
  ([0, 1], [(0, .iload_n 0, 1, [], []), (1, .iconst 2, 1, [], []), (2, .iload_n 1, 1, [], []), (3, .imul, 1, [], []), (4, .ishr, 1, [], []), (5, .iconst 3, 1, [], []), (6, .iand, 1, [], []), (7, .ireturn, 1, [0], [])])]
def km_X12_stateOf : MT := (yX12_stateOf, cX12_stateOf, 2, (some .int), kb_X12_stateOf)
def kb_X12_isTrue : List (List Nat × List RI) := [
  ([0, 1, 2, 3], [(0, .iconst 0, 1, [], []), (1, .istore 4, 2, [], []), (3, .nop, 0, [1], [])]),
  ([0, 1, 2, 3, 4], [(3, .iload 4, 2, [], []), (5, .iconst 4, 1, [], []), (6, .if_icmp .ge 36, 3, [8, 2], [])]),
  ([0, 1, 2, 3, 4], [(9, .aload_n 0, 1, [], []), (10, .getfield 18, 3, [10, 2, 12], [987, 0]), (13, .iload 4, 2, [], []), (15, .aload_n 0, 1, [], []), (16, .iload 4, 2, [], []), (18, .invokevirtual 154, 3, [2, 1, 1, 12, 114], [1136, 0, 1138, 33, 71, 0, 0, 0]), (21, .nop, 0, [3], [])]),
  ([0, 1, 2, 3, 4], [(21, .ifCond .eq 12, 3, [6, 4], [])]),
  ([0, 1, 2, 3, 4], [(24, .iload_n 2, 1, [], []), (25, .iload 4, 2, [], []), (27, .invokestatic 157, 3, [0, 1, 2, 136], [0, 1212, 1213]), (30, .nop, 0, [5], [])]),
  ([0, 1, 2, 3, 4], [(30, .goto 5, 3, [7], [])]),
  ([0, 1, 2, 3, 4], [(33, .bipush 9, 2, [], []), (35, .nop, 0, [7], [])]),
  ([0, 1, 2, 3, 4], [(35, .iastore, 1, [], []), (36, .iinc 4 1, 3, [], []), (39, .goto (-36), 3, [1], [])]),
  ([0, 1, 3], [(42, .aload_n 0, 1, [], []), (43, .getfield 18, 3, [10, 2, 12], [987, 0]), (46, .iconst 4, 1, [], []), (47, .iload_n 3, 1, [], []), (48, .bipush 12, 2, [], []), (50, .irem, 1, [], []), (51, .iastore, 1, [], []), (52, .aload_n 0, 1, [], []), (53, .iconst 5, 1, [], []), (54, .iload_n 1, 1, [], []), (55, .iadd, 1, [], []), (56, .invokevirtual 150, 3, [2, 1, 1, 12, 134], [1148, 0, 1150, 35, 71, 0, 0, 0]), (59, .nop, 0, [9], [])]),
  ([], [(59, .ireturn, 1, [1], [])])]
def km_X12_isTrue : MT := (yX12_isTrue, cX12_isTrue, 5, (some .boolean), kb_X12_isTrue)
def kb_X12_thing : List (List Nat × List RI) := [
  ([0, 1], [(0, .iload_n 1, 1, [], []), (1, .iconst 0, 1, [], []), (2, .iconst 3, 1, [], []), (3, .invokestatic 48, 3, [0, 1, 3, 113], [0, 1057, 1058]), (6, .nop, 0, [1], [])]),
  ([0, 1], [(6, .ifCond .ne 6, 3, [3, 2], [])]),
  ([], [(9, .bipush (-2), 2, [], []), (11, .ireturn, 1, [0], [])]),
  ([0, 1], [(12, .aload_n 0, 1, [], []), (13, .getfield 9, 3, [1, 2, 12], [978, 0]), (16, .iconst 0, 1, [], []), (17, .iaload, 1, [], []), (18, .iconst 4, 1, [], []), (19, .if_icmp .ne 6, 3, [5, 4], [])]),
  ([], [(22, .bipush (-4), 2, [], []), (24, .ireturn, 1, [0], [])]),
  ([0, 1], [(25, .aload_n 0, 1, [], []), (26, .getfield 9, 3, [1, 2, 12], [978, 0]), (29, .iconst 0, 1, [], []), (30, .iaload, 1, [], []), (31, .istore_n 2, 1, [], []), (32, .aload_n 0, 1, [], []), (33, .getfield 9, 3, [1, 2, 12], [978, 0]), (36, .bipush 10, 2, [], []), (38, .iload_n 2, 1, [], []), (39, .iadd, 1, [], []), (40, .iload_n 1, 1, [], []), (41, .iastore, 1, [], []), (42, .aload_n 0, 1, [], []), (43, .getfield 9, 3, [1, 2, 12], [978, 0]), (46, .iconst 0, 1, [], []), (47, .dup2, 1, [], []), (48, .iaload, 1, [], []), (49, .iconst 1, 1, [], []), (50, .iadd, 1, [], []), (51, .iastore, 1, [], []), (52, .iload_n 2, 1, [], []), (53, .ireturn, 1, [0], [])])]
def km_X12_thing : MT := (yX12_thing, cX12_thing, 3, (some .int), kb_X12_thing)
def kb_X12_put : List (List Nat × List RI) := [
  ([0, 1, 2], [(0, .aload_n 0, 1, [], []), (1, .iload_n 1, 1, [], []), (2, .invokevirtual 154, 3, [2, 1, 1, 12, 114], [1136, 0, 1138, 33, 71, 0, 0, 0]), (5, .nop, 0, [1], [])]),
  ([0, 1, 2], [(5, .ifCond .ne 5, 3, [3, 2], [])]),
  ([], [(8, .iconst (-1), 1, [], []), (9, .ireturn, 1, [0], [])]),
  ([0, 1, 2], [(10, .iload_n 2, 1, [], []), (11, .iconst 0, 1, [], []), (12, .iconst 3, 1, [], []), (13, .invokestatic 48, 3, [0, 1, 3, 113], [0, 1057, 1058]), (16, .nop, 0, [4], [])]),
  ([0, 1, 2], [(16, .ifCond .ne 6, 3, [6, 5], [])]),
  ([], [(19, .bipush (-2), 2, [], []), (21, .ireturn, 1, [0], [])]),
  ([0, 1, 2], [(22, .aload_n 0, 1, [], []), (23, .getfield 9, 3, [1, 2, 12], [978, 0]), (26, .bipush 10, 2, [], []), (28, .iload_n 1, 1, [], []), (29, .iadd, 1, [], []), (30, .iaload, 1, [], []), (31, .istore_n 3, 1, [], []), (32, .aload_n 0, 1, [], []), (33, .getfield 9, 3, [1, 2, 12], [978, 0]), (36, .bipush 10, 2, [], []), (38, .iload_n 1, 1, [], []), (39, .iadd, 1, [], []), (40, .iload_n 2, 1, [], []), (41, .iastore, 1, [], []), (42, .iload_n 3, 1, [], []), (43, .ireturn, 1, [0], [])])]
def km_X12_put : MT := (yX12_put, cX12_put, 4, (some .int), kb_X12_put)
def kb_X12_of : List (List Nat × List RI) := [
  ([0, 1, 2], [(0, .aload_n 0, 1, [], []), (1, .iload_n 1, 1, [], []), (2, .invokevirtual 154, 3, [2, 1, 1, 12, 114], [1136, 0, 1138, 33, 71, 0, 0, 0]), (5, .nop, 0, [1], [])]),
  ([0, 1, 2], [(5, .ifCond .eq 12, 3, [4, 2], [])]),
  ([0, 1, 2], [(8, .iload_n 2, 1, [], []), (9, .iconst 0, 1, [], []), (10, .iconst 2, 1, [], []), (11, .invokestatic 48, 3, [0, 1, 3, 113], [0, 1057, 1058]), (14, .nop, 0, [3], [])]),
  ([0, 1, 2], [(14, .ifCond .ne 5, 3, [5, 4], [])]),
  ([], [(17, .iconst (-1), 1, [], []), (18, .ireturn, 1, [0], [])]),
  ([0, 1, 2], [(19, .aload_n 0, 1, [], []), (20, .iload_n 1, 1, [], []), (21, .aload_n 0, 1, [], []), (22, .getfield 9, 3, [1, 2, 12], [978, 0]), (25, .bipush 10, 2, [], []), (27, .iload_n 1, 1, [], []), (28, .iadd, 1, [], []), (29, .iaload, 1, [], []), (30, .aload_n 0, 1, [], []), (31, .getfield 9, 3, [1, 2, 12], [978, 0]), (34, .bipush 7, 2, [], []), (36, .iaload, 1, [], []), (37, .bipush 9, 2, [], []), (39, .invokevirtual 161, 3, [2, 0, 4, 12, 135], [1144, 0, 1146, 34, 71, 0, 0, 0]), (42, .nop, 0, [6], [])]),
  ([0, 1, 2], [(42, .iload_n 2, 1, [], []), (43, .ifCond .ne 15, 3, [8, 7], [])]),
  ([0, 1], [(46, .aload_n 0, 1, [], []), (47, .getfield 9, 3, [1, 2, 12], [978, 0]), (50, .bipush 10, 2, [], []), (52, .iload_n 1, 1, [], []), (53, .iadd, 1, [], []), (54, .iaload, 1, [], []), (55, .goto 19, 3, [11], [])]),
  ([0, 2], [(58, .iload_n 2, 1, [], []), (59, .iconst 1, 1, [], []), (60, .if_icmp .ne 10, 3, [10, 9], [])]),
  ([0], [(63, .aload_n 0, 1, [], []), (64, .getfield 137, 3, [12, 0, 12], [989, 0]), (67, .goto 7, 3, [11], [])]),
  ([0], [(70, .aload_n 0, 1, [], []), (71, .getfield 140, 3, [13, 0, 12], [990, 0]), (74, .nop, 0, [11], [])]),
  ([], [(74, .ireturn, 1, [0], [])])]
def km_X12_of : MT := (yX12_of, cX12_of, 3, (some .int), kb_X12_of)
def kb_X12_way : List (List Nat × List RI) := [
  ([0, 1, 2, 3, 4], [(0, .iload_n 1, 1, [], []), (1, .iconst 0, 1, [], []), (2, .bipush 6, 2, [], []), (4, .invokestatic 48, 3, [0, 1, 3, 113], [0, 1057, 1058]), (7, .nop, 0, [1], [])]),
  ([0, 1, 2, 3, 4], [(7, .ifCond .ne 5, 3, [3, 2], [])]),
  ([], [(10, .iconst (-1), 1, [], []), (11, .ireturn, 1, [0], [])]),
  ([0, 1, 2, 3, 4], [(12, .iload_n 2, 1, [], []), (13, .iconst 0, 1, [], []), (14, .bipush 9, 2, [], []), (16, .invokestatic 48, 3, [0, 1, 3, 113], [0, 1057, 1058]), (19, .nop, 0, [4], [])]),
  ([0, 1, 2, 3, 4], [(19, .ifCond .eq 24, 3, [9, 5], [])]),
  ([0, 1, 2, 3, 4], [(22, .iload_n 3, 1, [], []), (23, .iconst 0, 1, [], []), (24, .bipush 6, 2, [], []), (26, .invokestatic 48, 3, [0, 1, 3, 113], [0, 1057, 1058]), (29, .nop, 0, [6], [])]),
  ([0, 1, 2, 3, 4], [(29, .ifCond .eq 14, 3, [9, 7], [])]),
  ([0, 1, 2, 3, 4], [(32, .iload 4, 2, [], []), (34, .iconst 0, 1, [], []), (35, .bipush 99, 2, [], []), (37, .invokestatic 48, 3, [0, 1, 3, 113], [0, 1057, 1058]), (40, .nop, 0, [8], [])]),
  ([0, 1, 2, 3, 4], [(40, .ifCond .ne 6, 3, [10, 9], [])]),
  ([], [(43, .bipush (-2), 2, [], []), (45, .ireturn, 1, [0], [])]),
  ([0, 1, 2, 3, 4], [(46, .aload_n 0, 1, [], []), (47, .getfield 9, 3, [1, 2, 12], [978, 0]), (50, .iconst 1, 1, [], []), (51, .iaload, 1, [], []), (52, .iconst 5, 1, [], []), (53, .if_icmp .ne 6, 3, [12, 11], [])]),
  ([], [(56, .bipush (-4), 2, [], []), (58, .ireturn, 1, [0], [])]),
  ([0, 1, 2, 3, 4], [(59, .aload_n 0, 1, [], []), (60, .getfield 9, 3, [1, 2, 12], [978, 0]), (63, .iconst 1, 1, [], []), (64, .iaload, 1, [], []), (65, .istore 5, 2, [], []), (67, .aload_n 0, 1, [], []), (68, .getfield 9, 3, [1, 2, 12], [978, 0]), (71, .bipush 14, 2, [], []), (73, .iload 5, 2, [], []), (75, .iadd, 1, [], []), (76, .iload_n 1, 1, [], []), (77, .iastore, 1, [], []), (78, .aload_n 0, 1, [], []), (79, .getfield 9, 3, [1, 2, 12], [978, 0]), (82, .bipush 19, 2, [], []), (84, .iload 5, 2, [], []), (86, .iadd, 1, [], []), (87, .iload_n 2, 1, [], []), (88, .iastore, 1, [], []), (89, .aload_n 0, 1, [], []), (90, .getfield 9, 3, [1, 2, 12], [978, 0]), (93, .bipush 24, 2, [], []), (95, .iload 5, 2, [], []), (97, .iadd, 1, [], []), (98, .iload_n 3, 1, [], []), (99, .iastore, 1, [], []), (100, .aload_n 0, 1, [], []), (101, .getfield 9, 3, [1, 2, 12], [978, 0]), (104, .bipush 29, 2, [], []), (106, .iload 5, 2, [], []), (108, .iadd, 1, [], []), (109, .iload 4, 2, [], []), (111, .iastore, 1, [], []), (112, .aload_n 0, 1, [], []), (113, .getfield 9, 3, [1, 2, 12], [978, 0]), (116, .bipush 34, 2, [], []), (118, .iload 5, 2, [], []), (120, .iadd, 1, [], []), (121, .iconst 0, 1, [], []), (122, .iastore, 1, [], []), (123, .aload_n 0, 1, [], []), (124, .getfield 9, 3, [1, 2, 12], [978, 0]), (127, .iconst 1, 1, [], []), (128, .dup2, 1, [], []), (129, .iaload, 1, [], []), (130, .iconst 1, 1, [], []), (131, .iadd, 1, [], []), (132, .iastore, 1, [], []), (133, .iload 5, 2, [], []), (135, .ireturn, 1, [0], [])])]
def km_X12_way : MT := (yX12_way, cX12_way, 6, (some .int), kb_X12_way)
def kb_X12_takesAt : List (List Nat × List RI) := [
  ([0, 1, 2], [(0, .aload_n 0, 1, [], []), (1, .getfield 9, 3, [1, 2, 12], [978, 0]), (4, .bipush 24, 2, [], []), (6, .iload_n 1, 1, [], []), (7, .iadd, 1, [], []), (8, .iaload, 1, [], []), (9, .istore_n 3, 1, [], []), (10, .iload_n 3, 1, [], []), (11, .iload_n 2, 1, [], []), (12, .iconst 2, 1, [], []), (13, .irem, 1, [], []), (14, .iconst 1, 1, [], []), (15, .if_icmp .ne 17, 3, [2, 1], [])]),
  ([0, 1, 2, 3], [(18, .aload_n 0, 1, [], []), (19, .getfield 9, 3, [1, 2, 12], [978, 0]), (22, .bipush 19, 2, [], []), (24, .iload_n 1, 1, [], []), (25, .iadd, 1, [], []), (26, .iaload, 1, [], []), (27, .iconst 3, 1, [], []), (28, .irem, 1, [], []), (29, .goto 4, 3, [3], [])]),
  ([0, 1, 2, 3], [(32, .iconst 0, 1, [], []), (33, .nop, 0, [3], [])]),
  ([0, 1, 2, 3], [(33, .iadd, 1, [], []), (34, .istore 4, 2, [], []), (36, .iload_n 2, 1, [], []), (37, .bipush 12, 2, [], []), (39, .irem, 1, [], []), (40, .bipush 6, 2, [], []), (42, .if_icmp .lt 7, 3, [5, 4], [])]),
  ([0, 1, 3, 4], [(45, .iconst 1, 1, [], []), (46, .goto 4, 3, [6], [])]),
  ([0, 1, 3, 4], [(49, .iload_n 3, 1, [], []), (50, .nop, 0, [6], [])]),
  ([0, 1, 3, 4], [(50, .istore 5, 2, [], []), (52, .aload_n 0, 1, [], []), (53, .getfield 9, 3, [1, 2, 12], [978, 0]), (56, .bipush 14, 2, [], []), (58, .iload_n 1, 1, [], []), (59, .iadd, 1, [], []), (60, .iaload, 1, [], []), (61, .tableswitch 78 1 6 #[39, 45, 62, 39, 48, 65], 39, [15, 7, 8, 13, 7, 9, 14], [])]),
  ([3], [(100, .iload_n 3, 1, [], []), (101, .iconst 1, 1, [], []), (102, .iadd, 1, [], []), (103, .iconst 2, 1, [], []), (104, .idiv, 1, [], []), (105, .ireturn, 1, [0], [])]),
  ([4], [(106, .iload 4, 2, [], []), (108, .ireturn, 1, [0], [])]),
  ([4], [(109, .iload 4, 2, [], []), (111, .ifCond .ne 7, 3, [11, 10], [])]),
  ([], [(114, .iconst 0, 1, [], []), (115, .goto 7, 3, [12], [])]),
  ([4], [(118, .iload 4, 2, [], []), (120, .iconst 1, 1, [], []), (121, .isub, 1, [], []), (122, .nop, 0, [12], [])]),
  ([], [(122, .ireturn, 1, [0], [])]),
  ([5], [(123, .iload 5, 2, [], []), (125, .ireturn, 1, [0], [])]),
  ([0, 1, 5], [(126, .iload 5, 2, [], []), (128, .aload_n 0, 1, [], []), (129, .getfield 9, 3, [1, 2, 12], [978, 0]), (132, .bipush 34, 2, [], []), (134, .iload_n 1, 1, [], []), (135, .iadd, 1, [], []), (136, .iaload, 1, [], []), (137, .iadd, 1, [], []), (138, .ireturn, 1, [0], [])]),
  ([3], [(139, .iload_n 3, 1, [], []), (140, .ireturn, 1, [0], [])])]
def km_X12_takesAt : MT := (yX12_takesAt, cX12_takesAt, 6, (some .int), kb_X12_takesAt)
def kb_X12_takes : List (List Nat × List RI) := [
  ([0, 1], [(0, .aload_n 0, 1, [], []), (1, .iload_n 1, 1, [], []), (2, .aload_n 0, 1, [], []), (3, .getfield 9, 3, [1, 2, 12], [978, 0]), (6, .bipush 7, 2, [], []), (8, .iaload, 1, [], []), (9, .invokevirtual 165, 3, [2, 1, 2, 12, 142], [1171, 0, 1173, 38, 71, 0, 0, 0]), (12, .nop, 0, [1], [])]),
  ([], [(12, .ireturn, 1, [0], [])])]
def km_X12_takes : MT := (yX12_takes, cX12_takes, 2, (some .int), kb_X12_takes)
def kb_X12_costsOf : List (List Nat × List RI) := [
  ([0, 1], [(0, .aload_n 0, 1, [], []), (1, .bipush 9, 2, [], []), (3, .bipush 9, 2, [], []), (5, .aload_n 0, 1, [], []), (6, .getfield 9, 3, [1, 2, 12], [978, 0]), (9, .bipush 7, 2, [], []), (11, .iaload, 1, [], []), (12, .aload_n 0, 1, [], []), (13, .getfield 9, 3, [1, 2, 12], [978, 0]), (16, .bipush 14, 2, [], []), (18, .iload_n 1, 1, [], []), (19, .iadd, 1, [], []), (20, .iaload, 1, [], []), (21, .invokevirtual 161, 3, [2, 0, 4, 12, 135], [1144, 0, 1146, 34, 71, 0, 0, 0]), (24, .nop, 0, [1], [])]),
  ([0, 1], [(24, .aload_n 0, 1, [], []), (25, .getfield 9, 3, [1, 2, 12], [978, 0]), (28, .bipush 29, 2, [], []), (30, .iload_n 1, 1, [], []), (31, .iadd, 1, [], []), (32, .iaload, 1, [], []), (33, .aload_n 0, 1, [], []), (34, .getfield 143, 3, [14, 0, 12], [991, 0]), (37, .iadd, 1, [], []), (38, .aload_n 0, 1, [], []), (39, .getfield 9, 3, [1, 2, 12], [978, 0]), (42, .bipush 14, 2, [], []), (44, .iload_n 1, 1, [], []), (45, .iadd, 1, [], []), (46, .iaload, 1, [], []), (47, .iconst 4, 1, [], []), (48, .if_icmp .ne 15, 3, [3, 2], [])]),
  ([0, 1], [(51, .aload_n 0, 1, [], []), (52, .getfield 9, 3, [1, 2, 12], [978, 0]), (55, .bipush 19, 2, [], []), (57, .iload_n 1, 1, [], []), (58, .iadd, 1, [], []), (59, .iaload, 1, [], []), (60, .goto 4, 3, [4], [])]),
  ([], [(63, .iconst 0, 1, [], []), (64, .nop, 0, [4], [])]),
  ([], [(64, .iadd, 1, [], []), (65, .ireturn, 1, [0], [])])]
def km_X12_costsOf : MT := (yX12_costsOf, cX12_costsOf, 2, (some .int), kb_X12_costsOf)
def kb_X12_at : List (List Nat × List RI) := [
  ([0, 1, 2], [(0, .aload_n 0, 1, [], []), (1, .iload_n 1, 1, [], []), (2, .invokevirtual 168, 3, [2, 1, 1, 12, 115], [1163, 0, 1165, 36, 71, 0, 0, 0]), (5, .nop, 0, [1], [])]),
  ([0, 1, 2], [(5, .ifCond .eq 13, 3, [4, 2], [])]),
  ([0, 1, 2], [(8, .iload_n 2, 1, [], []), (9, .iconst 0, 1, [], []), (10, .bipush 6, 2, [], []), (12, .invokestatic 48, 3, [0, 1, 3, 113], [0, 1057, 1058]), (15, .nop, 0, [3], [])]),
  ([0, 1, 2], [(15, .ifCond .ne 5, 3, [5, 4], [])]),
  ([], [(18, .iconst (-1), 1, [], []), (19, .ireturn, 1, [0], [])]),
  ([0, 1, 2], [(20, .iload_n 2, 1, [], []), (21, .iconst 4, 1, [], []), (22, .if_icmp .ge 17, 3, [7, 6], [])]),
  ([0, 1, 2], [(25, .aload_n 0, 1, [], []), (26, .getfield 9, 3, [1, 2, 12], [978, 0]), (29, .bipush 14, 2, [], []), (31, .iconst 5, 1, [], []), (32, .iload_n 2, 1, [], []), (33, .imul, 1, [], []), (34, .iadd, 1, [], []), (35, .iload_n 1, 1, [], []), (36, .iadd, 1, [], []), (37, .iaload, 1, [], []), (38, .ireturn, 1, [0], [])]),
  ([0, 1, 2], [(39, .iload_n 2, 1, [], []), (40, .iconst 4, 1, [], []), (41, .if_icmp .ne 11, 3, [10, 8], [])]),
  ([0, 1], [(44, .aload_n 0, 1, [], []), (45, .iload_n 1, 1, [], []), (46, .invokevirtual 171, 3, [2, 1, 1, 12, 143], [1167, 0, 1169, 37, 71, 0, 0, 0]), (49, .nop, 0, [9], [])]),
  ([], [(49, .goto 25, 3, [14], [])]),
  ([0, 1, 2], [(52, .iload_n 2, 1, [], []), (53, .iconst 5, 1, [], []), (54, .if_icmp .ne 11, 3, [13, 11], [])]),
  ([0, 1], [(57, .aload_n 0, 1, [], []), (58, .iload_n 1, 1, [], []), (59, .invokevirtual 175, 3, [2, 1, 1, 12, 144], [1175, 0, 1177, 39, 71, 0, 0, 0]), (62, .nop, 0, [12], [])]),
  ([], [(62, .goto 12, 3, [14], [])]),
  ([0, 1], [(65, .aload_n 0, 1, [], []), (66, .getfield 9, 3, [1, 2, 12], [978, 0]), (69, .bipush 34, 2, [], []), (71, .iload_n 1, 1, [], []), (72, .iadd, 1, [], []), (73, .iaload, 1, [], []), (74, .nop, 0, [14], [])]),
  ([], [(74, .ireturn, 1, [0], [])])]
def km_X12_at : MT := (yX12_at, cX12_at, 3, (some .int), kb_X12_at)
def kb_X12_bribe : List (List Nat × List RI) := [
  ([0, 1, 2], [(0, .aload_n 0, 1, [], []), (1, .iload_n 1, 1, [], []), (2, .invokevirtual 168, 3, [2, 1, 1, 12, 115], [1163, 0, 1165, 36, 71, 0, 0, 0]), (5, .nop, 0, [1], [])]),
  ([0, 1, 2], [(5, .ifCond .ne 5, 3, [3, 2], [])]),
  ([], [(8, .iconst (-1), 1, [], []), (9, .ireturn, 1, [0], [])]),
  ([0, 1, 2], [(10, .iload_n 2, 1, [], []), (11, .iconst 0, 1, [], []), (12, .bipush 6, 2, [], []), (14, .invokestatic 48, 3, [0, 1, 3, 113], [0, 1057, 1058]), (17, .nop, 0, [4], [])]),
  ([0, 1, 2], [(17, .ifCond .ne 6, 3, [6, 5], [])]),
  ([], [(20, .bipush (-2), 2, [], []), (22, .ireturn, 1, [0], [])]),
  ([0, 1, 2], [(23, .aload_n 0, 1, [], []), (24, .getfield 9, 3, [1, 2, 12], [978, 0]), (27, .bipush 14, 2, [], []), (29, .iload_n 1, 1, [], []), (30, .iadd, 1, [], []), (31, .iaload, 1, [], []), (32, .bipush 6, 2, [], []), (34, .if_icmp .eq 6, 3, [8, 7], [])]),
  ([], [(37, .bipush (-3), 2, [], []), (39, .ireturn, 1, [0], [])]),
  ([0, 1, 2], [(40, .aload_n 0, 1, [], []), (41, .getfield 9, 3, [1, 2, 12], [978, 0]), (44, .bipush 34, 2, [], []), (46, .iload_n 1, 1, [], []), (47, .iadd, 1, [], []), (48, .iaload, 1, [], []), (49, .istore_n 3, 1, [], []), (50, .aload_n 0, 1, [], []), (51, .getfield 9, 3, [1, 2, 12], [978, 0]), (54, .bipush 34, 2, [], []), (56, .iload_n 1, 1, [], []), (57, .iadd, 1, [], []), (58, .iload_n 2, 1, [], []), (59, .iastore, 1, [], []), (60, .iload_n 3, 1, [], []), (61, .ireturn, 1, [0], [])])]
def km_X12_bribe : MT := (yX12_bribe, cX12_bribe, 4, (some .int), kb_X12_bribe)
def kb_X12_now : List (List Nat × List RI) := [
  ([0], [(0, .aload_n 0, 1, [], []), (1, .getfield 9, 3, [1, 2, 12], [978, 0]), (4, .bipush 7, 2, [], []), (6, .iaload, 1, [], []), (7, .ireturn, 1, [0], [])])]
def km_X12_now : MT := (yX12_now, cX12_now, 1, (some .int), kb_X12_now)
def kb_X12_hour : List (List Nat × List RI) := [
  ([0, 1], [(0, .iload_n 1, 1, [], []), (1, .iconst 0, 1, [], []), (2, .bipush 15, 2, [], []), (4, .invokestatic 48, 3, [0, 1, 3, 113], [0, 1057, 1058]), (7, .nop, 0, [1], [])]),
  ([0, 1], [(7, .ifCond .ne 6, 3, [3, 2], [])]),
  ([], [(10, .bipush (-2), 2, [], []), (12, .ireturn, 1, [0], [])]),
  ([0, 1], [(13, .aload_n 0, 1, [], []), (14, .getfield 9, 3, [1, 2, 12], [978, 0]), (17, .bipush 7, 2, [], []), (19, .iaload, 1, [], []), (20, .sipush 999, 3, [], []), (23, .if_icmp .ne 6, 3, [5, 4], [])]),
  ([], [(26, .bipush (-3), 2, [], []), (28, .ireturn, 1, [0], [])]),
  ([0, 1], [(29, .iconst 0, 1, [], []), (30, .istore_n 2, 1, [], []), (31, .nop, 0, [6], [])]),
  ([0, 1, 2], [(31, .iload_n 2, 1, [], []), (32, .aload_n 0, 1, [], []), (33, .getfield 9, 3, [1, 2, 12], [978, 0]), (36, .iconst 0, 1, [], []), (37, .iaload, 1, [], []), (38, .if_icmp .ge 90, 3, [14, 7], [])]),
  ([0, 1, 2], [(41, .aload_n 0, 1, [], []), (42, .iload_n 2, 1, [], []), (43, .aload_n 0, 1, [], []), (44, .getfield 9, 3, [1, 2, 12], [978, 0]), (47, .bipush 10, 2, [], []), (49, .iload_n 2, 1, [], []), (50, .iadd, 1, [], []), (51, .iaload, 1, [], []), (52, .aload_n 0, 1, [], []), (53, .getfield 9, 3, [1, 2, 12], [978, 0]), (56, .bipush 7, 2, [], []), (58, .iaload, 1, [], []), (59, .bipush 9, 2, [], []), (61, .invokevirtual 161, 3, [2, 0, 4, 12, 135], [1144, 0, 1146, 34, 71, 0, 0, 0]), (64, .nop, 0, [8], [])]),
  ([0, 1, 2], [(64, .aload_n 0, 1, [], []), (65, .getfield 140, 3, [13, 0, 12], [990, 0]), (68, .iconst 2, 1, [], []), (69, .if_icmp .eq 20, 3, [11, 9], [])]),
  ([0, 1, 2], [(72, .aload_n 0, 1, [], []), (73, .getfield 140, 3, [13, 0, 12], [990, 0]), (76, .iconst 1, 1, [], []), (77, .if_icmp .ne 16, 3, [12, 10], [])]),
  ([0, 1, 2], [(80, .iload_n 1, 1, [], []), (81, .iload_n 2, 1, [], []), (82, .ishr, 1, [], []), (83, .iconst 1, 1, [], []), (84, .iand, 1, [], []), (85, .iconst 1, 1, [], []), (86, .if_icmp .ne 7, 3, [12, 11], [])]),
  ([0, 1, 2], [(89, .iconst 1, 1, [], []), (90, .goto 4, 3, [13], [])]),
  ([0, 1, 2], [(93, .iconst 0, 1, [], []), (94, .nop, 0, [13], [])]),
  ([0, 1, 2], [(94, .istore_n 3, 1, [], []), (95, .aload_n 0, 1, [], []), (96, .getfield 9, 3, [1, 2, 12], [978, 0]), (99, .bipush 10, 2, [], []), (101, .iload_n 2, 1, [], []), (102, .iadd, 1, [], []), (103, .aload_n 0, 1, [], []), (104, .getfield 9, 3, [1, 2, 12], [978, 0]), (107, .bipush 10, 2, [], []), (109, .iload_n 2, 1, [], []), (110, .iadd, 1, [], []), (111, .iaload, 1, [], []), (112, .aload_n 0, 1, [], []), (113, .getfield 137, 3, [12, 0, 12], [989, 0]), (116, .iadd, 1, [], []), (117, .iload_n 3, 1, [], []), (118, .iadd, 1, [], []), (119, .iconst 4, 1, [], []), (120, .irem, 1, [], []), (121, .iastore, 1, [], []), (122, .iinc 2 1, 3, [], []), (125, .goto (-94), 3, [6], [])]),
  ([0], [(128, .aload_n 0, 1, [], []), (129, .getfield 9, 3, [1, 2, 12], [978, 0]), (132, .bipush 7, 2, [], []), (134, .dup2, 1, [], []), (135, .iaload, 1, [], []), (136, .iconst 1, 1, [], []), (137, .iadd, 1, [], []), (138, .iastore, 1, [], []), (139, .aload_n 0, 1, [], []), (140, .getfield 9, 3, [1, 2, 12], [978, 0]), (143, .bipush 7, 2, [], []), (145, .iaload, 1, [], []), (146, .ireturn, 1, [0], [])])]
def km_X12_hour : MT := (yX12_hour, cX12_hour, 4, (some .int), kb_X12_hour)
def kb_X12_beginsAll : List (List Nat × List RI) := [
  ([0, 1], [(0, .iconst 0, 1, [], []), (1, .istore_n 2, 1, [], []), (2, .nop, 0, [1], [])]),
  ([0, 1, 2], [(2, .iload_n 2, 1, [], []), (3, .iconst 4, 1, [], []), (4, .if_icmp .ge 46, 3, [10, 2], [])]),
  ([0, 1, 2], [(7, .iconst 0, 1, [], []), (8, .istore_n 3, 1, [], []), (9, .nop, 0, [3], [])]),
  ([0, 1, 2, 3], [(9, .iload_n 3, 1, [], []), (10, .iconst 4, 1, [], []), (11, .if_icmp .ge 33, 3, [9, 4], [])]),
  ([0, 1, 2, 3], [(14, .aload_n 0, 1, [], []), (15, .getfield 25, 3, [15, 2, 12], [992, 0]), (18, .iconst 4, 1, [], []), (19, .iload_n 2, 1, [], []), (20, .imul, 1, [], []), (21, .iload_n 3, 1, [], []), (22, .iadd, 1, [], []), (23, .iload_n 1, 1, [], []), (24, .iload_n 2, 1, [], []), (25, .invokestatic 157, 3, [0, 1, 2, 136], [0, 1212, 1213]), (28, .nop, 0, [5], [])]),
  ([0, 1, 2, 3], [(28, .iload_n 3, 1, [], []), (29, .if_icmp .ne 7, 3, [7, 6], [])]),
  ([0, 1, 2, 3], [(32, .lconst 1, 1, [], []), (33, .goto 4, 3, [8], [])]),
  ([0, 1, 2, 3], [(36, .lconst 0, 1, [], []), (37, .nop, 0, [8], [])]),
  ([0, 1, 2, 3], [(37, .lastore, 1, [], []), (38, .iinc 3 1, 3, [], []), (41, .goto (-32), 3, [3], [])]),
  ([0, 1, 2], [(44, .iinc 2 1, 3, [], []), (47, .goto (-45), 3, [1], [])]),
  ([], [(50, .return_, 1, [], [])])]
def km_X12_beginsAll : MT := (yX12_beginsAll, cX12_beginsAll, 4, none, kb_X12_beginsAll)
def kb_X12_statesNow : List (List Nat × List RI) := [
  ([0], [(0, .iconst 0, 1, [], []), (1, .istore_n 1, 1, [], []), (2, .iconst 0, 1, [], []), (3, .istore_n 2, 1, [], []), (4, .nop, 0, [1], [])]),
  ([0, 1, 2], [(4, .iload_n 2, 1, [], []), (5, .aload_n 0, 1, [], []), (6, .getfield 9, 3, [1, 2, 12], [978, 0]), (9, .iconst 0, 1, [], []), (10, .iaload, 1, [], []), (11, .if_icmp .ge 25, 3, [3, 2], [])]),
  ([0, 1, 2], [(14, .iload_n 1, 1, [], []), (15, .aload_n 0, 1, [], []), (16, .getfield 9, 3, [1, 2, 12], [978, 0]), (19, .bipush 10, 2, [], []), (21, .iload_n 2, 1, [], []), (22, .iadd, 1, [], []), (23, .iaload, 1, [], []), (24, .iconst 2, 1, [], []), (25, .iload_n 2, 1, [], []), (26, .imul, 1, [], []), (27, .ishl, 1, [], []), (28, .ior, 1, [], []), (29, .istore_n 1, 1, [], []), (30, .iinc 2 1, 3, [], []), (33, .goto (-29), 3, [1], [])]),
  ([1], [(36, .iload_n 1, 1, [], []), (37, .ireturn, 1, [0], [])])]
def km_X12_statesNow : MT := (yX12_statesNow, cX12_statesNow, 3, (some .int), kb_X12_statesNow)
def kb_X12_goesOn : List (List Nat × List RI) := [
  ([0, 1, 2], [(0, .iconst 0, 1, [], []), (1, .istore_n 3, 1, [], []), (2, .nop, 0, [1], [])]),
  ([0, 1, 2, 3], [(2, .iload_n 3, 1, [], []), (3, .iconst 4, 1, [], []), (4, .if_icmp .ge 16, 3, [3, 2], [])]),
  ([0, 1, 2, 3], [(7, .aload_n 0, 1, [], []), (8, .getfield 29, 3, [16, 2, 12], [993, 0]), (11, .iload_n 3, 1, [], []), (12, .lconst 0, 1, [], []), (13, .lastore, 1, [], []), (14, .iinc 3 1, 3, [], []), (17, .goto (-15), 3, [1], [])]),
  ([0, 1, 2], [(20, .iconst 0, 1, [], []), (21, .istore_n 3, 1, [], []), (22, .nop, 0, [4], [])]),
  ([0, 1, 2, 3], [(22, .iload_n 3, 1, [], []), (23, .iconst 4, 1, [], []), (24, .if_icmp .ge 86, 3, [7, 5], [])]),
  ([0, 1, 2, 3], [(27, .aload_n 0, 1, [], []), (28, .iload_n 1, 1, [], []), (29, .iload_n 3, 1, [], []), (30, .iload_n 2, 1, [], []), (31, .bipush 9, 2, [], []), (33, .invokevirtual 161, 3, [2, 0, 4, 12, 135], [1144, 0, 1146, 34, 71, 0, 0, 0]), (36, .nop, 0, [6], [])]),
  ([0, 1, 2, 3], [(36, .iload_n 3, 1, [], []), (37, .aload_n 0, 1, [], []), (38, .getfield 137, 3, [12, 0, 12], [989, 0]), (41, .iadd, 1, [], []), (42, .iconst 4, 1, [], []), (43, .irem, 1, [], []), (44, .istore 4, 2, [], []), (46, .aload_n 0, 1, [], []), (47, .getfield 29, 3, [16, 2, 12], [993, 0]), (50, .iload 4, 2, [], []), (52, .dup2, 1, [], []), (53, .laload, 1, [], []), (54, .iconst 2, 1, [], []), (55, .aload_n 0, 1, [], []), (56, .getfield 140, 3, [13, 0, 12], [990, 0]), (59, .isub, 1, [], []), (60, .i2l, 1, [], []), (61, .aload_n 0, 1, [], []), (62, .getfield 25, 3, [15, 2, 12], [992, 0]), (65, .iconst 4, 1, [], []), (66, .iload_n 1, 1, [], []), (67, .imul, 1, [], []), (68, .iload_n 3, 1, [], []), (69, .iadd, 1, [], []), (70, .laload, 1, [], []), (71, .lmul, 1, [], []), (72, .ladd, 1, [], []), (73, .lastore, 1, [], []), (74, .aload_n 0, 1, [], []), (75, .getfield 29, 3, [16, 2, 12], [993, 0]), (78, .iload 4, 2, [], []), (80, .iconst 1, 1, [], []), (81, .iadd, 1, [], []), (82, .iconst 4, 1, [], []), (83, .irem, 1, [], []), (84, .dup2, 1, [], []), (85, .laload, 1, [], []), (86, .aload_n 0, 1, [], []), (87, .getfield 140, 3, [13, 0, 12], [990, 0]), (90, .i2l, 1, [], []), (91, .aload_n 0, 1, [], []), (92, .getfield 25, 3, [15, 2, 12], [992, 0]), (95, .iconst 4, 1, [], []), (96, .iload_n 1, 1, [], []), (97, .imul, 1, [], []), (98, .iload_n 3, 1, [], []), (99, .iadd, 1, [], []), (100, .laload, 1, [], []), (101, .lmul, 1, [], []), (102, .ladd, 1, [], []), (103, .lastore, 1, [], []), (104, .iinc 3 1, 3, [], []), (107, .goto (-85), 3, [4], [])]),
  ([0, 1], [(110, .iconst 0, 1, [], []), (111, .istore_n 3, 1, [], []), (112, .nop, 0, [8], [])]),
  ([0, 1, 3], [(112, .iload_n 3, 1, [], []), (113, .iconst 4, 1, [], []), (114, .if_icmp .ge 25, 3, [10, 9], [])]),
  ([0, 1, 3], [(117, .aload_n 0, 1, [], []), (118, .getfield 25, 3, [15, 2, 12], [992, 0]), (121, .iconst 4, 1, [], []), (122, .iload_n 1, 1, [], []), (123, .imul, 1, [], []), (124, .iload_n 3, 1, [], []), (125, .iadd, 1, [], []), (126, .aload_n 0, 1, [], []), (127, .getfield 29, 3, [16, 2, 12], [993, 0]), (130, .iload_n 3, 1, [], []), (131, .laload, 1, [], []), (132, .lastore, 1, [], []), (133, .iinc 3 1, 3, [], []), (136, .goto (-24), 3, [8], [])]),
  ([], [(139, .return_, 1, [], [])])]
def km_X12_goesOn : MT := (yX12_goesOn, cX12_goesOn, 5, none, kb_X12_goesOn)
def kb_X12_goesAll : List (List Nat × List RI) := [
  ([0, 1], [(0, .iconst 0, 1, [], []), (1, .istore_n 2, 1, [], []), (2, .nop, 0, [1], [])]),
  ([0, 1, 2], [(2, .iload_n 2, 1, [], []), (3, .iload_n 1, 1, [], []), (4, .if_icmp .ge 41, 3, [7, 2], [])]),
  ([0, 1, 2], [(7, .iconst 0, 1, [], []), (8, .istore_n 3, 1, [], []), (9, .nop, 0, [3], [])]),
  ([0, 1, 2, 3], [(9, .iload_n 3, 1, [], []), (10, .aload_n 0, 1, [], []), (11, .getfield 9, 3, [1, 2, 12], [978, 0]), (14, .iconst 0, 1, [], []), (15, .iaload, 1, [], []), (16, .if_icmp .ge 23, 3, [6, 4], [])]),
  ([0, 1, 2, 3], [(19, .aload_n 0, 1, [], []), (20, .iload_n 3, 1, [], []), (21, .aload_n 0, 1, [], []), (22, .getfield 9, 3, [1, 2, 12], [978, 0]), (25, .bipush 7, 2, [], []), (27, .iaload, 1, [], []), (28, .iload_n 2, 1, [], []), (29, .iadd, 1, [], []), (30, .invokevirtual 178, 3, [2, 0, 2, 12, 151], [1219, 0, 1221, 45, 71, 0, 0, 0]), (33, .nop, 0, [5], [])]),
  ([0, 1, 2, 3], [(33, .iinc 3 1, 3, [], []), (36, .goto (-27), 3, [3], [])]),
  ([0, 1, 2], [(39, .iinc 2 1, 3, [], []), (42, .goto (-40), 3, [1], [])]),
  ([], [(45, .return_, 1, [], [])])]
def km_X12_goesAll : MT := (yX12_goesAll, cX12_goesAll, 4, none, kb_X12_goesAll)
def kb_X12_oftenOf : List (List Nat × List RI) := [
  ([0, 1], [(0, .lconst 1, 1, [], []), (1, .lstore_n 2, 1, [], []), (2, .iconst 0, 1, [], []), (3, .istore 4, 2, [], []), (5, .nop, 0, [1], [])]),
  ([0, 1, 2, 4], [(5, .iload 4, 2, [], []), (7, .aload_n 0, 1, [], []), (8, .getfield 9, 3, [1, 2, 12], [978, 0]), (11, .iconst 0, 1, [], []), (12, .iaload, 1, [], []), (13, .if_icmp .ge 28, 3, [4, 2], [])]),
  ([0, 1, 2, 4], [(16, .lload_n 2, 1, [], []), (17, .aload_n 0, 1, [], []), (18, .getfield 25, 3, [15, 2, 12], [992, 0]), (21, .iconst 4, 1, [], []), (22, .iload 4, 2, [], []), (24, .imul, 1, [], []), (25, .iload_n 1, 1, [], []), (26, .iload 4, 2, [], []), (28, .invokestatic 157, 3, [0, 1, 2, 136], [0, 1212, 1213]), (31, .nop, 0, [3], [])]),
  ([0, 1, 4], [(31, .iadd, 1, [], []), (32, .laload, 1, [], []), (33, .lmul, 1, [], []), (34, .lstore_n 2, 1, [], []), (35, .iinc 4 1, 3, [], []), (38, .goto (-33), 3, [1], [])]),
  ([2], [(41, .lload_n 2, 1, [], []), (42, .lreturn, 1, [], [])])]
def km_X12_oftenOf : MT := (yX12_oftenOf, cX12_oftenOf, 5, (some .long), kb_X12_oftenOf)
def kb_X12_allStates : List (List Nat × List RI) := [
  ([0], [(0, .iconst 1, 1, [], []), (1, .iconst 2, 1, [], []), (2, .aload_n 0, 1, [], []), (3, .getfield 9, 3, [1, 2, 12], [978, 0]), (6, .iconst 0, 1, [], []), (7, .iaload, 1, [], []), (8, .imul, 1, [], []), (9, .ishl, 1, [], []), (10, .ireturn, 1, [0], [])])]
def km_X12_allStates : MT := (yX12_allStates, cX12_allStates, 1, (some .int), kb_X12_allStates)
def kb_X12_twos : List (List Nat × List RI) := [
  ([0], [(0, .lconst 1, 1, [], []), (1, .iload_n 0, 1, [], []), (2, .lshl, 1, [], []), (3, .lreturn, 1, [], [])])]
def km_X12_twos : MT := (yX12_twos, cX12_twos, 1, (some .long), kb_X12_twos)
def kb_X12_allOften : List (List Nat × List RI) := [
  ([0, 1], [(0, .iload_n 1, 1, [], []), (1, .aload_n 0, 1, [], []), (2, .getfield 9, 3, [1, 2, 12], [978, 0]), (5, .iconst 0, 1, [], []), (6, .iaload, 1, [], []), (7, .imul, 1, [], []), (8, .invokestatic 182, 3, [0, 2, 1, 155], [0, 1243, 1244]), (11, .nop, 0, [1], [])]),
  ([], [(11, .lreturn, 1, [], [])])]
def km_X12_allOften : MT := (yX12_allOften, cX12_allOften, 2, (some .long), kb_X12_allOften)
def kb_X12_oftenTrue : List (List Nat × List RI) := [
  ([0, 1, 2], [(0, .lconst 0, 1, [], []), (1, .lstore_n 3, 1, [], []), (2, .iconst 0, 1, [], []), (3, .istore 5, 2, [], []), (5, .nop, 0, [1], [])]),
  ([0, 1, 2, 3, 5], [(5, .iload 5, 2, [], []), (7, .aload_n 0, 1, [], []), (8, .invokevirtual 186, 3, [2, 1, 0, 12, 154], [1227, 0, 1229, 47, 71, 0, 0, 0]), (11, .nop, 0, [2], [])]),
  ([0, 1, 2, 3, 5], [(11, .if_icmp .ge 52, 3, [10, 3], [])]),
  ([0, 1, 2, 3, 5], [(14, .aload_n 0, 1, [], []), (15, .iload 5, 2, [], []), (17, .invokevirtual 189, 3, [2, 2, 1, 12, 153], [1231, 0, 1233, 48, 71, 0, 0, 0]), (20, .nop, 0, [4], [])]),
  ([0, 1, 2, 3, 5], [(20, .lstore 6, 2, [], []), (22, .lload_n 3, 1, [], []), (23, .lload 6, 2, [], []), (25, .lconst 0, 1, [], []), (26, .lcmp, 1, [], []), (27, .ifCond .le 27, 3, [8, 5], [])]),
  ([0, 1, 2, 5, 6], [(30, .aload_n 0, 1, [], []), (31, .iload_n 1, 1, [], []), (32, .iload 5, 2, [], []), (34, .aload_n 0, 1, [], []), (35, .getfield 9, 3, [1, 2, 12], [978, 0]), (38, .bipush 7, 2, [], []), (40, .iaload, 1, [], []), (41, .iload_n 2, 1, [], []), (42, .iadd, 1, [], []), (43, .invokevirtual 192, 3, [2, 1, 3, 12, 137], [1235, 0, 1237, 49, 71, 0, 0, 0]), (46, .nop, 0, [6], [])]),
  ([0, 1, 2, 5, 6], [(46, .ifCond .eq 8, 3, [8, 7], [])]),
  ([0, 1, 2, 5, 6], [(49, .lload 6, 2, [], []), (51, .goto 4, 3, [9], [])]),
  ([0, 1, 2, 5], [(54, .lconst 0, 1, [], []), (55, .nop, 0, [9], [])]),
  ([0, 1, 2, 5], [(55, .ladd, 1, [], []), (56, .lstore_n 3, 1, [], []), (57, .iinc 5 1, 3, [], []), (60, .goto (-55), 3, [1], [])]),
  ([3], [(63, .lload_n 3, 1, [], []), (64, .lreturn, 1, [], [])])]
def km_X12_oftenTrue : MT := (yX12_oftenTrue, cX12_oftenTrue, 8, (some .long), kb_X12_oftenTrue)
def kb_X12_heardTrue : List (List Nat × List RI) := [
  ([0, 1, 2], [(0, .aload_n 0, 1, [], []), (1, .aload_n 0, 1, [], []), (2, .invokevirtual 195, 3, [2, 1, 0, 12, 150], [1204, 0, 1206, 42, 71, 0, 0, 0]), (5, .nop, 0, [1], [])]),
  ([0, 1, 2], [(5, .invokevirtual 198, 3, [2, 0, 1, 12, 149], [1208, 0, 1210, 43, 71, 0, 0, 0]), (8, .nop, 0, [2], [])]),
  ([0, 1, 2], [(8, .aload_n 0, 1, [], []), (9, .aload_n 0, 1, [], []), (10, .iload_n 2, 1, [], []), (11, .invokevirtual 171, 3, [2, 1, 1, 12, 143], [1167, 0, 1169, 37, 71, 0, 0, 0]), (14, .nop, 0, [3], [])]),
  ([0, 1, 2], [(14, .invokevirtual 201, 3, [2, 0, 1, 12, 152], [1215, 0, 1217, 44, 71, 0, 0, 0]), (17, .nop, 0, [4], [])]),
  ([0, 1, 2], [(17, .aload_n 0, 1, [], []), (18, .iload_n 1, 1, [], []), (19, .aload_n 0, 1, [], []), (20, .iload_n 2, 1, [], []), (21, .invokevirtual 171, 3, [2, 1, 1, 12, 143], [1167, 0, 1169, 37, 71, 0, 0, 0]), (24, .nop, 0, [5], [])]),
  ([], [(24, .invokevirtual 204, 3, [2, 2, 2, 12, 157], [1223, 0, 1225, 46, 71, 0, 0, 0]), (27, .nop, 0, [6], [])]),
  ([], [(27, .lreturn, 1, [], [])])]
def km_X12_heardTrue : MT := (yX12_heardTrue, cX12_heardTrue, 3, (some .long), kb_X12_heardTrue)
def kb_X12_lowest : List (List Nat × List RI) := [
  ([0, 2, 4], [(0, .lload_n 0, 1, [], []), (1, .lconst 0, 1, [], []), (2, .lcmp, 1, [], []), (3, .ifCond .ge 8, 3, [2, 1], [])]),
  ([0, 2, 4], [(6, .lload_n 0, 1, [], []), (7, .lneg, 1, [], []), (8, .goto 4, 3, [3], [])]),
  ([0, 2, 4], [(11, .lload_n 0, 1, [], []), (12, .nop, 0, [3], [])]),
  ([0, 2, 4], [(12, .lstore 5, 2, [], []), (14, .lload_n 2, 1, [], []), (15, .lstore 7, 2, [], []), (17, .nop, 0, [4], [])]),
  ([0, 2, 4, 5, 7], [(17, .lload 7, 2, [], []), (19, .lconst 0, 1, [], []), (20, .lcmp, 1, [], []), (21, .ifCond .eq 21, 3, [6, 5], [])]),
  ([0, 2, 4, 5, 7], [(24, .lload 5, 2, [], []), (26, .lload 7, 2, [], []), (28, .lrem, 1, [], []), (29, .lstore 9, 2, [], []), (31, .lload 7, 2, [], []), (33, .lstore 5, 2, [], []), (35, .lload 9, 2, [], []), (37, .lstore 7, 2, [], []), (39, .goto (-22), 3, [4], [])]),
  ([0, 2, 4, 5], [(42, .iload 4, 2, [], []), (44, .ifCond .ne 7, 3, [8, 7], [])]),
  ([0, 5], [(47, .lload_n 0, 1, [], []), (48, .goto 4, 3, [9], [])]),
  ([2, 5], [(51, .lload_n 2, 1, [], []), (52, .nop, 0, [9], [])]),
  ([5], [(52, .lload 5, 2, [], []), (54, .ldiv, 1, [], []), (55, .lreturn, 1, [], [])])]
def km_X12_lowest : MT := (yX12_lowest, cX12_lowest, 11, (some .long), kb_X12_lowest)
def kb_X12_odds : List (List Nat × List RI) := [
  ([0, 1, 2, 3], [(0, .aload_n 0, 1, [], []), (1, .iload_n 1, 1, [], []), (2, .invokevirtual 208, 3, [2, 1, 1, 12, 116], [1195, 0, 1197, 40, 71, 0, 0, 0]), (5, .nop, 0, [1], [])]),
  ([0, 1, 2, 3], [(5, .ifCond .eq 20, 3, [6, 2], [])]),
  ([0, 1, 2, 3], [(8, .aload_n 0, 1, [], []), (9, .iload_n 2, 1, [], []), (10, .invokevirtual 168, 3, [2, 1, 1, 12, 115], [1163, 0, 1165, 36, 71, 0, 0, 0]), (13, .nop, 0, [3], [])]),
  ([0, 1, 2, 3], [(13, .ifCond .eq 12, 3, [6, 4], [])]),
  ([0, 1, 2, 3], [(16, .iload_n 3, 1, [], []), (17, .iconst 0, 1, [], []), (18, .iconst 1, 1, [], []), (19, .invokestatic 48, 3, [0, 1, 3, 113], [0, 1057, 1058]), (22, .nop, 0, [5], [])]),
  ([0, 1, 2, 3], [(22, .ifCond .ne 7, 3, [7, 6], [])]),
  ([], [(25, .ldc2_w 211, 3, [9223372036854775808], [1199]), (28, .lreturn, 1, [], [])]),
  ([0, 1, 2, 3], [(29, .aload_n 0, 1, [], []), (30, .iload_n 1, 1, [], []), (31, .iload_n 2, 1, [], []), (32, .invokevirtual 213, 3, [2, 2, 2, 12, 158], [1200, 0, 1202, 41, 71, 0, 0, 0]), (35, .nop, 0, [8], [])]),
  ([0, 2, 3], [(35, .aload_n 0, 1, [], []), (36, .aload_n 0, 1, [], []), (37, .iload_n 2, 1, [], []), (38, .invokevirtual 171, 3, [2, 1, 1, 12, 143], [1167, 0, 1169, 37, 71, 0, 0, 0]), (41, .nop, 0, [9], [])]),
  ([3], [(41, .invokevirtual 216, 3, [2, 2, 1, 12, 156], [1239, 0, 1241, 50, 71, 0, 0, 0]), (44, .nop, 0, [10], [])]),
  ([3], [(44, .iload_n 3, 1, [], []), (45, .invokestatic 219, 3, [0, 2, 3, 159], [0, 1246, 1247]), (48, .nop, 0, [11], [])]),
  ([], [(48, .lreturn, 1, [], [])])]
def km_X12_odds : MT := (yX12_odds, cX12_odds, 4, (some .long), kb_X12_odds)
def kb_X12_sure : List (List Nat × List RI) := [
  ([0, 1, 2], [(0, .aload_n 0, 1, [], []), (1, .iload_n 1, 1, [], []), (2, .invokevirtual 208, 3, [2, 1, 1, 12, 116], [1195, 0, 1197, 40, 71, 0, 0, 0]), (5, .nop, 0, [1], [])]),
  ([0, 1, 2], [(5, .ifCond .eq 11, 3, [4, 2], [])]),
  ([0, 1, 2], [(8, .aload_n 0, 1, [], []), (9, .iload_n 2, 1, [], []), (10, .invokevirtual 168, 3, [2, 1, 1, 12, 115], [1163, 0, 1165, 36, 71, 0, 0, 0]), (13, .nop, 0, [3], [])]),
  ([0, 1, 2], [(13, .ifCond .ne 5, 3, [5, 4], [])]),
  ([], [(16, .iconst (-1), 1, [], []), (17, .ireturn, 1, [0], [])]),
  ([0, 1, 2], [(18, .aload_n 0, 1, [], []), (19, .iload_n 1, 1, [], []), (20, .iload_n 2, 1, [], []), (21, .invokevirtual 213, 3, [2, 2, 2, 12, 158], [1200, 0, 1202, 41, 71, 0, 0, 0]), (24, .nop, 0, [6], [])]),
  ([0, 2], [(24, .lstore_n 3, 1, [], []), (25, .lload_n 3, 1, [], []), (26, .lconst 0, 1, [], []), (27, .lcmp, 1, [], []), (28, .ifCond .ne 7, 3, [8, 7], [])]),
  ([], [(31, .iconst 0, 1, [], []), (32, .goto 22, 3, [13], [])]),
  ([0, 2, 3], [(35, .lload_n 3, 1, [], []), (36, .aload_n 0, 1, [], []), (37, .aload_n 0, 1, [], []), (38, .iload_n 2, 1, [], []), (39, .invokevirtual 171, 3, [2, 1, 1, 12, 143], [1167, 0, 1169, 37, 71, 0, 0, 0]), (42, .nop, 0, [9], [])]),
  ([], [(42, .invokevirtual 216, 3, [2, 2, 1, 12, 156], [1239, 0, 1241, 50, 71, 0, 0, 0]), (45, .nop, 0, [10], [])]),
  ([], [(45, .lcmp, 1, [], []), (46, .ifCond .ne 7, 3, [12, 11], [])]),
  ([], [(49, .iconst 2, 1, [], []), (50, .goto 4, 3, [13], [])]),
  ([], [(53, .iconst 1, 1, [], []), (54, .nop, 0, [13], [])]),
  ([], [(54, .ireturn, 1, [0], [])])]
def km_X12_sure : MT := (yX12_sure, cX12_sure, 5, (some .int), kb_X12_sure)
def kb_X12_tell : List (List Nat × List RI) := [
  ([0, 1, 2], [(0, .aload_n 0, 1, [], []), (1, .iload_n 1, 1, [], []), (2, .invokevirtual 154, 3, [2, 1, 1, 12, 114], [1136, 0, 1138, 33, 71, 0, 0, 0]), (5, .nop, 0, [1], [])]),
  ([0, 1, 2], [(5, .ifCond .eq 11, 3, [4, 2], [])]),
  ([0, 1, 2], [(8, .aload_n 0, 1, [], []), (9, .iload_n 2, 1, [], []), (10, .invokevirtual 168, 3, [2, 1, 1, 12, 115], [1163, 0, 1165, 36, 71, 0, 0, 0]), (13, .nop, 0, [3], [])]),
  ([0, 1, 2], [(13, .ifCond .ne 5, 3, [5, 4], [])]),
  ([], [(16, .iconst (-1), 1, [], []), (17, .ireturn, 1, [0], [])]),
  ([0, 1, 2], [(18, .aload_n 0, 1, [], []), (19, .aload_n 0, 1, [], []), (20, .invokevirtual 195, 3, [2, 1, 0, 12, 150], [1204, 0, 1206, 42, 71, 0, 0, 0]), (23, .nop, 0, [6], [])]),
  ([0, 1, 2], [(23, .invokevirtual 198, 3, [2, 0, 1, 12, 149], [1208, 0, 1210, 43, 71, 0, 0, 0]), (26, .nop, 0, [7], [])]),
  ([0, 1, 2], [(26, .aload_n 0, 1, [], []), (27, .aload_n 0, 1, [], []), (28, .iload_n 2, 1, [], []), (29, .invokevirtual 171, 3, [2, 1, 1, 12, 143], [1167, 0, 1169, 37, 71, 0, 0, 0]), (32, .nop, 0, [8], [])]),
  ([0, 1], [(32, .invokevirtual 201, 3, [2, 0, 1, 12, 152], [1215, 0, 1217, 44, 71, 0, 0, 0]), (35, .nop, 0, [9], [])]),
  ([0, 1], [(35, .iconst 0, 1, [], []), (36, .istore_n 3, 1, [], []), (37, .iconst 0, 1, [], []), (38, .istore 4, 2, [], []), (40, .nop, 0, [10], [])]),
  ([0, 1, 3, 4], [(40, .iload 4, 2, [], []), (42, .iconst 4, 1, [], []), (43, .if_icmp .ge 36, 3, [15, 11], [])]),
  ([0, 1, 3, 4], [(46, .iload_n 3, 1, [], []), (47, .aload_n 0, 1, [], []), (48, .getfield 25, 3, [15, 2, 12], [992, 0]), (51, .iconst 4, 1, [], []), (52, .iload_n 1, 1, [], []), (53, .imul, 1, [], []), (54, .iload 4, 2, [], []), (56, .iadd, 1, [], []), (57, .laload, 1, [], []), (58, .lconst 0, 1, [], []), (59, .lcmp, 1, [], []), (60, .ifCond .le 10, 3, [13, 12], [])]),
  ([0, 1, 4], [(63, .iconst 1, 1, [], []), (64, .iload 4, 2, [], []), (66, .ishl, 1, [], []), (67, .goto 4, 3, [14], [])]),
  ([0, 1, 4], [(70, .iconst 0, 1, [], []), (71, .nop, 0, [14], [])]),
  ([0, 1, 4], [(71, .ior, 1, [], []), (72, .istore_n 3, 1, [], []), (73, .iinc 4 1, 3, [], []), (76, .goto (-36), 3, [10], [])]),
  ([3], [(79, .iload_n 3, 1, [], []), (80, .ireturn, 1, [0], [])])]
def km_X12_tell : MT := (yX12_tell, cX12_tell, 5, (some .int), kb_X12_tell)
def kb_X12_isBetter : List (List Nat × List RI) := [
  ([0, 1, 2, 3], [(0, .aload_n 0, 1, [], []), (1, .iload_n 2, 1, [], []), (2, .invokevirtual 171, 3, [2, 1, 1, 12, 143], [1167, 0, 1169, 37, 71, 0, 0, 0]), (5, .nop, 0, [1], [])]),
  ([0, 1, 2, 3], [(5, .aload_n 0, 1, [], []), (6, .iload_n 3, 1, [], []), (7, .invokevirtual 171, 3, [2, 1, 1, 12, 143], [1167, 0, 1169, 37, 71, 0, 0, 0]), (10, .nop, 0, [2], [])]),
  ([0, 1, 2, 3], [(10, .if_icmp .le 11, 3, [5, 3], [])]),
  ([0, 1, 2, 3], [(13, .aload_n 0, 1, [], []), (14, .iload_n 2, 1, [], []), (15, .invokevirtual 171, 3, [2, 1, 1, 12, 143], [1167, 0, 1169, 37, 71, 0, 0, 0]), (18, .nop, 0, [4], [])]),
  ([0, 1, 2, 3], [(18, .goto 8, 3, [6], [])]),
  ([0, 1, 2, 3], [(21, .aload_n 0, 1, [], []), (22, .iload_n 3, 1, [], []), (23, .invokevirtual 171, 3, [2, 1, 1, 12, 143], [1167, 0, 1169, 37, 71, 0, 0, 0]), (26, .nop, 0, [6], [])]),
  ([0, 1, 2, 3], [(26, .istore 4, 2, [], []), (28, .aload_n 0, 1, [], []), (29, .iload_n 1, 1, [], []), (30, .iload_n 2, 1, [], []), (31, .invokevirtual 213, 3, [2, 2, 2, 12, 158], [1200, 0, 1202, 41, 71, 0, 0, 0]), (34, .nop, 0, [7], [])]),
  ([0, 1, 2, 3, 4], [(34, .aload_n 0, 1, [], []), (35, .iload 4, 2, [], []), (37, .invokevirtual 216, 3, [2, 2, 1, 12, 156], [1239, 0, 1241, 50, 71, 0, 0, 0]), (40, .nop, 0, [8], [])]),
  ([0, 1, 2, 3, 4], [(40, .aload_n 0, 1, [], []), (41, .aload_n 0, 1, [], []), (42, .iload_n 2, 1, [], []), (43, .invokevirtual 171, 3, [2, 1, 1, 12, 143], [1167, 0, 1169, 37, 71, 0, 0, 0]), (46, .nop, 0, [9], [])]),
  ([0, 1, 2, 3, 4], [(46, .invokevirtual 216, 3, [2, 2, 1, 12, 156], [1239, 0, 1241, 50, 71, 0, 0, 0]), (49, .nop, 0, [10], [])]),
  ([0, 1, 2, 3, 4], [(49, .ldiv, 1, [], []), (50, .lmul, 1, [], []), (51, .lstore 5, 2, [], []), (53, .aload_n 0, 1, [], []), (54, .iload_n 1, 1, [], []), (55, .iload_n 3, 1, [], []), (56, .invokevirtual 213, 3, [2, 2, 2, 12, 158], [1200, 0, 1202, 41, 71, 0, 0, 0]), (59, .nop, 0, [11], [])]),
  ([0, 2, 3, 4, 5], [(59, .aload_n 0, 1, [], []), (60, .iload 4, 2, [], []), (62, .invokevirtual 216, 3, [2, 2, 1, 12, 156], [1239, 0, 1241, 50, 71, 0, 0, 0]), (65, .nop, 0, [12], [])]),
  ([0, 2, 3, 5], [(65, .aload_n 0, 1, [], []), (66, .aload_n 0, 1, [], []), (67, .iload_n 3, 1, [], []), (68, .invokevirtual 171, 3, [2, 1, 1, 12, 143], [1167, 0, 1169, 37, 71, 0, 0, 0]), (71, .nop, 0, [13], [])]),
  ([0, 2, 3, 5], [(71, .invokevirtual 216, 3, [2, 2, 1, 12, 156], [1239, 0, 1241, 50, 71, 0, 0, 0]), (74, .nop, 0, [14], [])]),
  ([0, 2, 3, 5], [(74, .ldiv, 1, [], []), (75, .lmul, 1, [], []), (76, .lstore 7, 2, [], []), (78, .lload 5, 2, [], []), (80, .lload 7, 2, [], []), (82, .lcmp, 1, [], []), (83, .ifCond .gt 24, 3, [19, 15], [])]),
  ([0, 2, 3, 5, 7], [(86, .lload 5, 2, [], []), (88, .lload 7, 2, [], []), (90, .lcmp, 1, [], []), (91, .ifCond .ne 20, 3, [20, 16], [])]),
  ([0, 2, 3], [(94, .aload_n 0, 1, [], []), (95, .iload_n 2, 1, [], []), (96, .invokevirtual 175, 3, [2, 1, 1, 12, 144], [1175, 0, 1177, 39, 71, 0, 0, 0]), (99, .nop, 0, [17], [])]),
  ([0, 3], [(99, .aload_n 0, 1, [], []), (100, .iload_n 3, 1, [], []), (101, .invokevirtual 175, 3, [2, 1, 1, 12, 144], [1175, 0, 1177, 39, 71, 0, 0, 0]), (104, .nop, 0, [18], [])]),
  ([], [(104, .if_icmp .ge 7, 3, [20, 19], [])]),
  ([], [(107, .iconst 1, 1, [], []), (108, .goto 4, 3, [21], [])]),
  ([], [(111, .iconst 0, 1, [], []), (112, .nop, 0, [21], [])]),
  ([], [(112, .ireturn, 1, [1], [])])]
def km_X12_isBetter : MT := (yX12_isBetter, cX12_isBetter, 9, (some .boolean), kb_X12_isBetter)
def kb_X12_which : List (List Nat × List RI) := [
  ([0, 1], [(0, .aload_n 0, 1, [], []), (1, .iload_n 1, 1, [], []), (2, .invokevirtual 208, 3, [2, 1, 1, 12, 116], [1195, 0, 1197, 40, 71, 0, 0, 0]), (5, .nop, 0, [1], [])]),
  ([0, 1], [(5, .ifCond .ne 5, 3, [3, 2], [])]),
  ([], [(8, .iconst (-1), 1, [], []), (9, .ireturn, 1, [0], [])]),
  ([0, 1], [(10, .bipush (-5), 2, [], []), (12, .istore_n 2, 1, [], []), (13, .iconst 0, 1, [], []), (14, .istore_n 3, 1, [], []), (15, .nop, 0, [4], [])]),
  ([0, 1, 2, 3], [(15, .iload_n 3, 1, [], []), (16, .aload_n 0, 1, [], []), (17, .getfield 9, 3, [1, 2, 12], [978, 0]), (20, .iconst 1, 1, [], []), (21, .iaload, 1, [], []), (22, .if_icmp .ge 31, 3, [11, 5], [])]),
  ([0, 1, 2, 3], [(25, .iload_n 2, 1, [], []), (26, .bipush (-5), 2, [], []), (28, .if_icmp .eq 13, 3, [8, 6], [])]),
  ([0, 1, 2, 3], [(31, .aload_n 0, 1, [], []), (32, .iload_n 1, 1, [], []), (33, .iload_n 3, 1, [], []), (34, .iload_n 2, 1, [], []), (35, .invokevirtual 223, 3, [2, 1, 3, 12, 163], [1261, 0, 1263, 51, 71, 0, 0, 0]), (38, .nop, 0, [7], [])]),
  ([0, 1, 2, 3], [(38, .ifCond .eq 7, 3, [9, 8], [])]),
  ([0, 1, 3], [(41, .iload_n 3, 1, [], []), (42, .goto 4, 3, [10], [])]),
  ([0, 1, 2, 3], [(45, .iload_n 2, 1, [], []), (46, .nop, 0, [10], [])]),
  ([0, 1, 3], [(46, .istore_n 2, 1, [], []), (47, .iinc 3 1, 3, [], []), (50, .goto (-35), 3, [4], [])]),
  ([2], [(53, .iload_n 2, 1, [], []), (54, .ireturn, 1, [0], [])])]
def km_X12_which : MT := (yX12_which, cX12_which, 4, (some .int), kb_X12_which)
def kb_X12_worth : List (List Nat × List RI) := [
  ([0, 1, 2, 3, 4, 5], [(0, .aload_n 0, 1, [], []), (1, .iload_n 1, 1, [], []), (2, .invokevirtual 208, 3, [2, 1, 1, 12, 116], [1195, 0, 1197, 40, 71, 0, 0, 0]), (5, .nop, 0, [1], [])]),
  ([0, 1, 2, 3, 4, 5], [(5, .ifCond .eq 42, 3, [10, 2], [])]),
  ([0, 1, 2, 3, 4, 5], [(8, .aload_n 0, 1, [], []), (9, .iload_n 2, 1, [], []), (10, .invokevirtual 168, 3, [2, 1, 1, 12, 115], [1163, 0, 1165, 36, 71, 0, 0, 0]), (13, .nop, 0, [3], [])]),
  ([0, 1, 2, 3, 4, 5], [(13, .ifCond .eq 34, 3, [10, 4], [])]),
  ([0, 1, 2, 3, 4, 5], [(16, .iload_n 3, 1, [], []), (17, .iconst 0, 1, [], []), (18, .bipush 99, 2, [], []), (20, .invokestatic 48, 3, [0, 1, 3, 113], [0, 1057, 1058]), (23, .nop, 0, [5], [])]),
  ([0, 1, 2, 3, 4, 5], [(23, .ifCond .eq 24, 3, [10, 6], [])]),
  ([0, 1, 2, 3, 4, 5], [(26, .iload 4, 2, [], []), (28, .iconst 0, 1, [], []), (29, .bipush 99, 2, [], []), (31, .invokestatic 48, 3, [0, 1, 3, 113], [0, 1057, 1058]), (34, .nop, 0, [7], [])]),
  ([0, 1, 2, 3, 4, 5], [(34, .ifCond .eq 13, 3, [10, 8], [])]),
  ([0, 1, 2, 3, 4, 5], [(37, .iload 5, 2, [], []), (39, .iconst 0, 1, [], []), (40, .iconst 1, 1, [], []), (41, .invokestatic 48, 3, [0, 1, 3, 113], [0, 1057, 1058]), (44, .nop, 0, [9], [])]),
  ([0, 1, 2, 3, 4, 5], [(44, .ifCond .ne 7, 3, [11, 10], [])]),
  ([], [(47, .ldc2_w 211, 3, [9223372036854775808], [1199]), (50, .lreturn, 1, [], [])]),
  ([0, 1, 2, 3, 4, 5], [(51, .aload_n 0, 1, [], []), (52, .iload_n 1, 1, [], []), (53, .iload_n 2, 1, [], []), (54, .invokevirtual 213, 3, [2, 2, 2, 12, 158], [1200, 0, 1202, 41, 71, 0, 0, 0]), (57, .nop, 0, [12], [])]),
  ([0, 2, 3, 4, 5], [(57, .lstore 6, 2, [], []), (59, .aload_n 0, 1, [], []), (60, .aload_n 0, 1, [], []), (61, .iload_n 2, 1, [], []), (62, .invokevirtual 171, 3, [2, 1, 1, 12, 143], [1167, 0, 1169, 37, 71, 0, 0, 0]), (65, .nop, 0, [13], [])]),
  ([0, 2, 3, 4, 5, 6], [(65, .invokevirtual 216, 3, [2, 2, 1, 12, 156], [1239, 0, 1241, 50, 71, 0, 0, 0]), (68, .nop, 0, [14], [])]),
  ([0, 2, 3, 4, 5, 6], [(68, .lstore 8, 2, [], []), (70, .iload_n 3, 1, [], []), (71, .i2l, 1, [], []), (72, .lload 6, 2, [], []), (74, .lmul, 1, [], []), (75, .iload 4, 2, [], []), (77, .i2l, 1, [], []), (78, .lload 8, 2, [], []), (80, .lload 6, 2, [], []), (82, .lsub, 1, [], []), (83, .lmul, 1, [], []), (84, .lsub, 1, [], []), (85, .aload_n 0, 1, [], []), (86, .iload_n 2, 1, [], []), (87, .invokevirtual 175, 3, [2, 1, 1, 12, 144], [1175, 0, 1177, 39, 71, 0, 0, 0]), (90, .nop, 0, [15], [])]),
  ([5, 8], [(90, .i2l, 1, [], []), (91, .lload 8, 2, [], []), (93, .lmul, 1, [], []), (94, .lsub, 1, [], []), (95, .lload 8, 2, [], []), (97, .iload 5, 2, [], []), (99, .invokestatic 219, 3, [0, 2, 3, 159], [0, 1246, 1247]), (102, .nop, 0, [16], [])]),
  ([], [(102, .lreturn, 1, [], [])])]
def km_X12_worth : MT := (yX12_worth, cX12_worth, 10, (some .long), kb_X12_worth)
def kb_X12_mayBegin : List (List Nat × List RI) := [
  ([0, 1], [(0, .iconst 0, 1, [], []), (1, .istore_n 2, 1, [], []), (2, .nop, 0, [1], [])]),
  ([0, 1, 2], [(2, .iload_n 2, 1, [], []), (3, .iconst 4, 1, [], []), (4, .if_icmp .ge 22, 3, [4, 2], [])]),
  ([0, 1, 2], [(7, .aload_n 0, 1, [], []), (8, .getfield 32, 3, [17, 2, 12], [994, 0]), (11, .iload_n 2, 1, [], []), (12, .iconst 1, 1, [], []), (13, .iload_n 1, 1, [], []), (14, .iload_n 2, 1, [], []), (15, .invokestatic 157, 3, [0, 1, 2, 136], [0, 1212, 1213]), (18, .nop, 0, [3], [])]),
  ([0, 1, 2], [(18, .ishl, 1, [], []), (19, .iastore, 1, [], []), (20, .iinc 2 1, 3, [], []), (23, .goto (-21), 3, [1], [])]),
  ([], [(26, .return_, 1, [], [])])]
def km_X12_mayBegin : MT := (yX12_mayBegin, cX12_mayBegin, 3, none, kb_X12_mayBegin)
def kb_X12_mayBecome : List (List Nat × List RI) := [
  ([0, 1, 2, 3], [(0, .iconst 0, 1, [], []), (1, .istore 4, 2, [], []), (3, .iconst 0, 1, [], []), (4, .istore 5, 2, [], []), (6, .nop, 0, [1], [])]),
  ([0, 1, 2, 3, 4, 5], [(6, .iload 5, 2, [], []), (8, .iconst 4, 1, [], []), (9, .if_icmp .ge 86, 3, [12, 2], [])]),
  ([0, 1, 2, 3, 4, 5], [(12, .iload_n 2, 1, [], []), (13, .iload 5, 2, [], []), (15, .ishr, 1, [], []), (16, .iconst 1, 1, [], []), (17, .iand, 1, [], []), (18, .iconst 1, 1, [], []), (19, .if_icmp .ne 70, 3, [11, 3], [])]),
  ([0, 1, 2, 3, 4, 5], [(22, .aload_n 0, 1, [], []), (23, .iload_n 1, 1, [], []), (24, .iload 5, 2, [], []), (26, .iload_n 3, 1, [], []), (27, .bipush 9, 2, [], []), (29, .invokevirtual 161, 3, [2, 0, 4, 12, 135], [1144, 0, 1146, 34, 71, 0, 0, 0]), (32, .nop, 0, [4], [])]),
  ([0, 1, 2, 3, 4, 5], [(32, .iload 4, 2, [], []), (34, .aload_n 0, 1, [], []), (35, .getfield 140, 3, [13, 0, 12], [990, 0]), (38, .iconst 2, 1, [], []), (39, .if_icmp .ge 17, 3, [6, 5], [])]),
  ([0, 1, 2, 3, 5], [(42, .iconst 1, 1, [], []), (43, .iload 5, 2, [], []), (45, .aload_n 0, 1, [], []), (46, .getfield 137, 3, [12, 0, 12], [989, 0]), (49, .iadd, 1, [], []), (50, .iconst 4, 1, [], []), (51, .irem, 1, [], []), (52, .ishl, 1, [], []), (53, .goto 4, 3, [7], [])]),
  ([0, 1, 2, 3, 5], [(56, .iconst 0, 1, [], []), (57, .nop, 0, [7], [])]),
  ([0, 1, 2, 3, 5], [(57, .ior, 1, [], []), (58, .istore 4, 2, [], []), (60, .iload 4, 2, [], []), (62, .aload_n 0, 1, [], []), (63, .getfield 140, 3, [13, 0, 12], [990, 0]), (66, .ifCond .le 19, 3, [9, 8], [])]),
  ([0, 1, 2, 3, 5], [(69, .iconst 1, 1, [], []), (70, .iload 5, 2, [], []), (72, .aload_n 0, 1, [], []), (73, .getfield 137, 3, [12, 0, 12], [989, 0]), (76, .iadd, 1, [], []), (77, .iconst 1, 1, [], []), (78, .iadd, 1, [], []), (79, .iconst 4, 1, [], []), (80, .irem, 1, [], []), (81, .ishl, 1, [], []), (82, .goto 4, 3, [10], [])]),
  ([0, 1, 2, 3, 5], [(85, .iconst 0, 1, [], []), (86, .nop, 0, [10], [])]),
  ([0, 1, 2, 3, 5], [(86, .ior, 1, [], []), (87, .istore 4, 2, [], []), (89, .nop, 0, [11], [])]),
  ([0, 1, 2, 3, 4, 5], [(89, .iinc 5 1, 3, [], []), (92, .goto (-86), 3, [1], [])]),
  ([4], [(95, .iload 4, 2, [], []), (97, .ireturn, 1, [0], [])])]
def km_X12_mayBecome : MT := (yX12_mayBecome, cX12_mayBecome, 6, (some .int), kb_X12_mayBecome)
def kb_X12_mayGo : List (List Nat × List RI) := [
  ([0, 1], [(0, .iconst 0, 1, [], []), (1, .istore_n 2, 1, [], []), (2, .nop, 0, [1], [])]),
  ([0, 1, 2], [(2, .iload_n 2, 1, [], []), (3, .iload_n 1, 1, [], []), (4, .if_icmp .ge 53, 3, [7, 2], [])]),
  ([0, 1, 2], [(7, .iconst 0, 1, [], []), (8, .istore_n 3, 1, [], []), (9, .nop, 0, [3], [])]),
  ([0, 1, 2, 3], [(9, .iload_n 3, 1, [], []), (10, .aload_n 0, 1, [], []), (11, .getfield 9, 3, [1, 2, 12], [978, 0]), (14, .iconst 0, 1, [], []), (15, .iaload, 1, [], []), (16, .if_icmp .ge 35, 3, [6, 4], [])]),
  ([0, 1, 2, 3], [(19, .aload_n 0, 1, [], []), (20, .getfield 32, 3, [17, 2, 12], [994, 0]), (23, .iload_n 3, 1, [], []), (24, .aload_n 0, 1, [], []), (25, .iload_n 3, 1, [], []), (26, .aload_n 0, 1, [], []), (27, .getfield 32, 3, [17, 2, 12], [994, 0]), (30, .iload_n 3, 1, [], []), (31, .iaload, 1, [], []), (32, .aload_n 0, 1, [], []), (33, .getfield 9, 3, [1, 2, 12], [978, 0]), (36, .bipush 7, 2, [], []), (38, .iaload, 1, [], []), (39, .iload_n 2, 1, [], []), (40, .iadd, 1, [], []), (41, .invokevirtual 226, 3, [2, 1, 3, 12, 167], [1281, 0, 1283, 54, 71, 0, 0, 0]), (44, .nop, 0, [5], [])]),
  ([0, 1, 2, 3], [(44, .iastore, 1, [], []), (45, .iinc 3 1, 3, [], []), (48, .goto (-39), 3, [3], [])]),
  ([0, 1, 2], [(51, .iinc 2 1, 3, [], []), (54, .goto (-52), 3, [1], [])]),
  ([], [(57, .return_, 1, [], [])])]
def km_X12_mayGo : MT := (yX12_mayGo, cX12_mayGo, 4, none, kb_X12_mayGo)
def kb_X12_isSurely : List (List Nat × List RI) := [
  ([0, 1, 2], [(0, .iconst 0, 1, [], []), (1, .istore_n 3, 1, [], []), (2, .nop, 0, [1], [])]),
  ([0, 1, 2, 3], [(2, .iload_n 3, 1, [], []), (3, .aload_n 0, 1, [], []), (4, .invokevirtual 186, 3, [2, 1, 0, 12, 154], [1227, 0, 1229, 47, 71, 0, 0, 0]), (7, .nop, 0, [2], [])]),
  ([0, 1, 2, 3], [(7, .if_icmp .ge 89, 3, [16, 3], [])]),
  ([0, 1, 2, 3], [(10, .iconst 1, 1, [], []), (11, .istore 4, 2, [], []), (13, .iconst 0, 1, [], []), (14, .istore 5, 2, [], []), (16, .nop, 0, [4], [])]),
  ([0, 1, 2, 3, 4, 5], [(16, .iload 5, 2, [], []), (18, .aload_n 0, 1, [], []), (19, .getfield 9, 3, [1, 2, 12], [978, 0]), (22, .iconst 0, 1, [], []), (23, .iaload, 1, [], []), (24, .if_icmp .ge 41, 3, [11, 5], [])]),
  ([0, 1, 2, 3, 4, 5], [(27, .iload 4, 2, [], []), (29, .ifCond .eq 27, 3, [9, 6], [])]),
  ([0, 1, 2, 3, 5], [(32, .aload_n 0, 1, [], []), (33, .getfield 32, 3, [17, 2, 12], [994, 0]), (36, .iload 5, 2, [], []), (38, .iaload, 1, [], []), (39, .iload_n 3, 1, [], []), (40, .iload 5, 2, [], []), (42, .invokestatic 157, 3, [0, 1, 2, 136], [0, 1212, 1213]), (45, .nop, 0, [7], [])]),
  ([0, 1, 2, 3, 5], [(45, .ishr, 1, [], []), (46, .iconst 1, 1, [], []), (47, .iand, 1, [], []), (48, .iconst 1, 1, [], []), (49, .if_icmp .ne 7, 3, [9, 8], [])]),
  ([0, 1, 2, 3, 5], [(52, .iconst 1, 1, [], []), (53, .goto 4, 3, [10], [])]),
  ([0, 1, 2, 3, 5], [(56, .iconst 0, 1, [], []), (57, .nop, 0, [10], [])]),
  ([0, 1, 2, 3, 5], [(57, .istore 4, 2, [], []), (59, .iinc 5 1, 3, [], []), (62, .goto (-46), 3, [4], [])]),
  ([0, 1, 2, 3, 4], [(65, .iload 4, 2, [], []), (67, .ifCond .eq 23, 3, [15, 12], [])]),
  ([0, 1, 2, 3], [(70, .aload_n 0, 1, [], []), (71, .iload_n 1, 1, [], []), (72, .iload_n 3, 1, [], []), (73, .aload_n 0, 1, [], []), (74, .getfield 9, 3, [1, 2, 12], [978, 0]), (77, .bipush 7, 2, [], []), (79, .iaload, 1, [], []), (80, .iload_n 2, 1, [], []), (81, .iadd, 1, [], []), (82, .invokevirtual 192, 3, [2, 1, 3, 12, 137], [1235, 0, 1237, 49, 71, 0, 0, 0]), (85, .nop, 0, [13], [])]),
  ([0, 1, 2, 3], [(85, .ifCond .ne 5, 3, [15, 14], [])]),
  ([], [(88, .iconst 0, 1, [], []), (89, .ireturn, 1, [1], [])]),
  ([0, 1, 2, 3], [(90, .iinc 3 1, 3, [], []), (93, .goto (-91), 3, [1], [])]),
  ([], [(96, .iconst 1, 1, [], []), (97, .ireturn, 1, [1], [])])]
def km_X12_isSurely : MT := (yX12_isSurely, cX12_isSurely, 6, (some .boolean), kb_X12_isSurely)
def kb_X12_sit : List (List Nat × List RI) := [
  ([0, 1, 2], [(0, .aload_n 0, 1, [], []), (1, .iload_n 1, 1, [], []), (2, .invokevirtual 208, 3, [2, 1, 1, 12, 116], [1195, 0, 1197, 40, 71, 0, 0, 0]), (5, .nop, 0, [1], [])]),
  ([0, 1, 2], [(5, .ifCond .eq 11, 3, [4, 2], [])]),
  ([0, 1, 2], [(8, .aload_n 0, 1, [], []), (9, .iload_n 2, 1, [], []), (10, .invokevirtual 168, 3, [2, 1, 1, 12, 115], [1163, 0, 1165, 36, 71, 0, 0, 0]), (13, .nop, 0, [3], [])]),
  ([0, 1, 2], [(13, .ifCond .ne 5, 3, [5, 4], [])]),
  ([], [(16, .iconst (-1), 1, [], []), (17, .ireturn, 1, [0], [])]),
  ([0, 1, 2], [(18, .iconst 0, 1, [], []), (19, .istore_n 3, 1, [], []), (20, .nop, 0, [6], [])]),
  ([0, 1, 2, 3], [(20, .iload_n 3, 1, [], []), (21, .bipush 7, 2, [], []), (23, .if_icmp .ge 45, 3, [16, 7], [])]),
  ([0, 1, 2, 3], [(26, .aload_n 0, 1, [], []), (27, .aload_n 0, 1, [], []), (28, .invokevirtual 195, 3, [2, 1, 0, 12, 150], [1204, 0, 1206, 42, 71, 0, 0, 0]), (31, .nop, 0, [8], [])]),
  ([0, 1, 2, 3], [(31, .invokevirtual 230, 3, [2, 0, 1, 12, 166], [1273, 0, 1275, 52, 71, 0, 0, 0]), (34, .nop, 0, [9], [])]),
  ([0, 1, 2, 3], [(34, .aload_n 0, 1, [], []), (35, .aload_n 0, 1, [], []), (36, .iload_n 2, 1, [], []), (37, .invokevirtual 171, 3, [2, 1, 1, 12, 143], [1167, 0, 1169, 37, 71, 0, 0, 0]), (40, .nop, 0, [10], [])]),
  ([0, 1, 2, 3], [(40, .iload_n 3, 1, [], []), (41, .iadd, 1, [], []), (42, .invokevirtual 233, 3, [2, 0, 1, 12, 168], [1277, 0, 1279, 53, 71, 0, 0, 0]), (45, .nop, 0, [11], [])]),
  ([0, 1, 2, 3], [(45, .aload_n 0, 1, [], []), (46, .iload_n 1, 1, [], []), (47, .aload_n 0, 1, [], []), (48, .iload_n 2, 1, [], []), (49, .invokevirtual 171, 3, [2, 1, 1, 12, 143], [1167, 0, 1169, 37, 71, 0, 0, 0]), (52, .nop, 0, [12], [])]),
  ([0, 1, 2, 3], [(52, .iload_n 3, 1, [], []), (53, .iadd, 1, [], []), (54, .invokevirtual 236, 3, [2, 1, 2, 12, 169], [1285, 0, 1287, 55, 71, 0, 0, 0]), (57, .nop, 0, [13], [])]),
  ([0, 1, 2, 3], [(57, .ifCond .eq 5, 3, [15, 14], [])]),
  ([3], [(60, .iload_n 3, 1, [], []), (61, .ireturn, 1, [0], [])]),
  ([0, 1, 2, 3], [(62, .iinc 3 1, 3, [], []), (65, .goto (-45), 3, [6], [])]),
  ([], [(68, .bipush (-5), 2, [], []), (70, .ireturn, 1, [0], [])])]
def km_X12_sit : MT := (yX12_sit, cX12_sit, 4, (some .int), kb_X12_sit)
def kb_X12_catches : List (List Nat × List RI) := [
  ([0, 1, 2, 3], [(0, .aload_n 0, 1, [], []), (1, .iload_n 1, 1, [], []), (2, .invokevirtual 168, 3, [2, 1, 1, 12, 115], [1163, 0, 1165, 36, 71, 0, 0, 0]), (5, .nop, 0, [1], [])]),
  ([0, 1, 2, 3], [(5, .ifCond .eq 11, 3, [4, 2], [])]),
  ([0, 1, 2, 3], [(8, .aload_n 0, 1, [], []), (9, .iload_n 2, 1, [], []), (10, .invokevirtual 168, 3, [2, 1, 1, 12, 115], [1163, 0, 1165, 36, 71, 0, 0, 0]), (13, .nop, 0, [3], [])]),
  ([0, 1, 2, 3], [(13, .ifCond .ne 5, 3, [5, 4], [])]),
  ([], [(16, .iconst (-1), 1, [], []), (17, .ireturn, 1, [0], [])]),
  ([0, 1, 2, 3], [(18, .iload_n 3, 1, [], []), (19, .iconst 0, 1, [], []), (20, .bipush 6, 2, [], []), (22, .invokestatic 48, 3, [0, 1, 3, 113], [0, 1057, 1058]), (25, .nop, 0, [6], [])]),
  ([0, 1, 2, 3], [(25, .ifCond .ne 6, 3, [8, 7], [])]),
  ([], [(28, .bipush (-2), 2, [], []), (30, .ireturn, 1, [0], [])]),
  ([0, 1, 2, 3], [(31, .iload_n 3, 1, [], []), (32, .aload_n 0, 1, [], []), (33, .iload_n 2, 1, [], []), (34, .aload_n 0, 1, [], []), (35, .getfield 9, 3, [1, 2, 12], [978, 0]), (38, .bipush 7, 2, [], []), (40, .iaload, 1, [], []), (41, .iload_n 3, 1, [], []), (42, .iadd, 1, [], []), (43, .invokevirtual 165, 3, [2, 1, 2, 12, 142], [1171, 0, 1173, 38, 71, 0, 0, 0]), (46, .nop, 0, [9], [])]),
  ([0, 1], [(46, .iadd, 1, [], []), (47, .aload_n 0, 1, [], []), (48, .iload_n 1, 1, [], []), (49, .invokevirtual 171, 3, [2, 1, 1, 12, 143], [1167, 0, 1169, 37, 71, 0, 0, 0]), (52, .nop, 0, [10], [])]),
  ([], [(52, .if_icmp .gt 7, 3, [12, 11], [])]),
  ([], [(55, .iconst 1, 1, [], []), (56, .goto 4, 3, [13], [])]),
  ([], [(59, .iconst 0, 1, [], []), (60, .nop, 0, [13], [])]),
  ([], [(60, .ireturn, 1, [0], [])])]
def km_X12_catches : MT := (yX12_catches, cX12_catches, 4, (some .int), kb_X12_catches)
def kb_X12_all : List (List Nat × List RI) := [
  ([0, 1], [(0, .iload_n 1, 1, [], []), (1, .iconst 0, 1, [], []), (2, .iconst 1, 1, [], []), (3, .invokestatic 48, 3, [0, 1, 3, 113], [0, 1057, 1058]), (6, .nop, 0, [1], [])]),
  ([0, 1], [(6, .ifCond .ne 5, 3, [3, 2], [])]),
  ([], [(9, .iconst (-1), 1, [], []), (10, .ireturn, 1, [0], [])]),
  ([0, 1], [(11, .iconst 0, 1, [], []), (12, .istore_n 2, 1, [], []), (13, .iconst 0, 1, [], []), (14, .istore_n 3, 1, [], []), (15, .iconst 0, 1, [], []), (16, .istore 4, 2, [], []), (18, .nop, 0, [4], [])]),
  ([0, 1, 2, 3, 4], [(18, .iload 4, 2, [], []), (20, .aload_n 0, 1, [], []), (21, .getfield 9, 3, [1, 2, 12], [978, 0]), (24, .iconst 1, 1, [], []), (25, .iaload, 1, [], []), (26, .if_icmp .ge 39, 3, [12, 5], [])]),
  ([0, 1, 2, 3, 4], [(29, .aload_n 0, 1, [], []), (30, .iload 4, 2, [], []), (32, .invokevirtual 171, 3, [2, 1, 1, 12, 143], [1167, 0, 1169, 37, 71, 0, 0, 0]), (35, .nop, 0, [6], [])]),
  ([0, 1, 2, 3, 4], [(35, .iload_n 2, 1, [], []), (36, .if_icmp .le 12, 3, [9, 7], [])]),
  ([0, 1, 3, 4], [(39, .aload_n 0, 1, [], []), (40, .iload 4, 2, [], []), (42, .invokevirtual 171, 3, [2, 1, 1, 12, 143], [1167, 0, 1169, 37, 71, 0, 0, 0]), (45, .nop, 0, [8], [])]),
  ([0, 1, 3, 4], [(45, .goto 4, 3, [10], [])]),
  ([0, 1, 2, 3, 4], [(48, .iload_n 2, 1, [], []), (49, .nop, 0, [10], [])]),
  ([0, 1, 3, 4], [(49, .istore_n 2, 1, [], []), (50, .iload_n 3, 1, [], []), (51, .aload_n 0, 1, [], []), (52, .iload 4, 2, [], []), (54, .invokevirtual 175, 3, [2, 1, 1, 12, 144], [1175, 0, 1177, 39, 71, 0, 0, 0]), (57, .nop, 0, [11], [])]),
  ([0, 1, 2, 4], [(57, .iadd, 1, [], []), (58, .istore_n 3, 1, [], []), (59, .iinc 4 1, 3, [], []), (62, .goto (-44), 3, [4], [])]),
  ([1, 2, 3], [(65, .iload_n 1, 1, [], []), (66, .ifCond .ne 7, 3, [14, 13], [])]),
  ([2], [(69, .iload_n 2, 1, [], []), (70, .goto 4, 3, [15], [])]),
  ([3], [(73, .iload_n 3, 1, [], []), (74, .nop, 0, [15], [])]),
  ([], [(74, .ireturn, 1, [0], [])])]
def km_X12_all : MT := (yX12_all, cX12_all, 5, (some .int), kb_X12_all)
def kb_X12_begin : List (List Nat × List RI) := [
  ([0, 1, 2, 3], [(0, .aload_n 0, 1, [], []), (1, .iload_n 1, 1, [], []), (2, .invokevirtual 208, 3, [2, 1, 1, 12, 116], [1195, 0, 1197, 40, 71, 0, 0, 0]), (5, .nop, 0, [1], [])]),
  ([0, 1, 2, 3], [(5, .ifCond .eq 20, 3, [6, 2], [])]),
  ([0, 1, 2, 3], [(8, .aload_n 0, 1, [], []), (9, .iload_n 2, 1, [], []), (10, .invokevirtual 168, 3, [2, 1, 1, 12, 115], [1163, 0, 1165, 36, 71, 0, 0, 0]), (13, .nop, 0, [3], [])]),
  ([0, 1, 2, 3], [(13, .ifCond .eq 12, 3, [6, 4], [])]),
  ([0, 1, 2, 3], [(16, .iload_n 3, 1, [], []), (17, .iconst 0, 1, [], []), (18, .iconst 1, 1, [], []), (19, .invokestatic 48, 3, [0, 1, 3, 113], [0, 1057, 1058]), (22, .nop, 0, [5], [])]),
  ([0, 1, 2, 3], [(22, .ifCond .ne 5, 3, [7, 6], [])]),
  ([], [(25, .iconst (-1), 1, [], []), (26, .ireturn, 1, [0], [])]),
  ([0, 1, 2, 3], [(27, .aload_n 0, 1, [], []), (28, .iload_n 1, 1, [], []), (29, .aload_n 0, 1, [], []), (30, .iload_n 2, 1, [], []), (31, .invokevirtual 171, 3, [2, 1, 1, 12, 143], [1167, 0, 1169, 37, 71, 0, 0, 0]), (34, .nop, 0, [8], [])]),
  ([0, 3], [(34, .invokevirtual 239, 3, [2, 0, 2, 12, 174], [1301, 0, 1303, 56, 71, 0, 0, 0]), (37, .nop, 0, [9], [])]),
  ([0, 3], [(37, .iconst 0, 1, [], []), (38, .istore 4, 2, [], []), (40, .bipush (-5), 2, [], []), (42, .istore 5, 2, [], []), (44, .iconst 0, 1, [], []), (45, .istore 6, 2, [], []), (47, .nop, 0, [10], [])]),
  ([0, 3, 4, 5, 6], [(47, .iload 6, 2, [], []), (49, .aload_n 0, 1, [], []), (50, .invokevirtual 186, 3, [2, 1, 0, 12, 154], [1227, 0, 1229, 47, 71, 0, 0, 0]), (53, .nop, 0, [11], [])]),
  ([0, 3, 4, 5, 6], [(53, .if_icmp .ge 35, 3, [19, 12], [])]),
  ([0, 3, 4, 5, 6], [(56, .aload_n 0, 1, [], []), (57, .iload 6, 2, [], []), (59, .invokevirtual 242, 3, [2, 1, 1, 12, 175], [1305, 0, 1307, 57, 71, 0, 0, 0]), (62, .nop, 0, [13], [])]),
  ([0, 3, 4, 5, 6], [(62, .ifCond .eq 20, 3, [18, 14], [])]),
  ([0, 3, 4, 5, 6], [(65, .iload 4, 2, [], []), (67, .ifCond .ne 8, 3, [16, 15], [])]),
  ([0, 3, 4, 6], [(70, .iload 6, 2, [], []), (72, .goto 5, 3, [17], [])]),
  ([0, 3, 4, 5, 6], [(75, .iload 5, 2, [], []), (77, .nop, 0, [17], [])]),
  ([0, 3, 4, 6], [(77, .istore 5, 2, [], []), (79, .iinc 4 1, 3, [], []), (82, .nop, 0, [18], [])]),
  ([0, 3, 4, 5, 6], [(82, .iinc 6 1, 3, [], []), (85, .goto (-38), 3, [10], [])]),
  ([3, 4, 5], [(88, .iload_n 3, 1, [], []), (89, .ifCond .ne 8, 3, [21, 20], [])]),
  ([4], [(92, .iload 4, 2, [], []), (94, .goto 5, 3, [22], [])]),
  ([5], [(97, .iload 5, 2, [], []), (99, .nop, 0, [22], [])]),
  ([], [(99, .ireturn, 1, [0], [])])]
def km_X12_begin : MT := (yX12_begin, cX12_begin, 7, (some .int), kb_X12_begin)
def kb_X12_looksForReach : List (List Nat × List RI) := [
  ([0, 1, 2], [(0, .iconst 0, 1, [], []), (1, .istore_n 3, 1, [], []), (2, .nop, 0, [1], [])]),
  ([0, 1, 2, 3], [(2, .iload_n 3, 1, [], []), (3, .iconst 4, 1, [], []), (4, .if_icmp .ge 55, 3, [8, 2], [])]),
  ([0, 1, 2, 3], [(7, .aload_n 0, 1, [], []), (8, .bipush 85, 2, [], []), (10, .iload_n 3, 1, [], []), (11, .imul, 1, [], []), (12, .invokevirtual 230, 3, [2, 0, 1, 12, 166], [1273, 0, 1275, 52, 71, 0, 0, 0]), (15, .nop, 0, [3], [])]),
  ([0, 1, 2, 3], [(15, .aload_n 0, 1, [], []), (16, .iload_n 2, 1, [], []), (17, .invokevirtual 233, 3, [2, 0, 1, 12, 168], [1277, 0, 1279, 53, 71, 0, 0, 0]), (20, .nop, 0, [4], [])]),
  ([0, 1, 2, 3], [(20, .iconst 0, 1, [], []), (21, .istore 4, 2, [], []), (23, .nop, 0, [5], [])]),
  ([0, 1, 2, 3, 4], [(23, .iload 4, 2, [], []), (25, .iconst 4, 1, [], []), (26, .if_icmp .ge 27, 3, [7, 6], [])]),
  ([0, 1, 2, 3, 4], [(29, .aload_n 0, 1, [], []), (30, .getfield 35, 3, [18, 2, 12], [995, 0]), (33, .iconst 4, 1, [], []), (34, .iload 4, 2, [], []), (36, .imul, 1, [], []), (37, .iload_n 3, 1, [], []), (38, .iadd, 1, [], []), (39, .aload_n 0, 1, [], []), (40, .getfield 32, 3, [17, 2, 12], [994, 0]), (43, .iload 4, 2, [], []), (45, .iaload, 1, [], []), (46, .iastore, 1, [], []), (47, .iinc 4 1, 3, [], []), (50, .goto (-27), 3, [5], [])]),
  ([0, 1, 2, 3], [(53, .iinc 3 1, 3, [], []), (56, .goto (-54), 3, [1], [])]),
  ([0, 1, 2], [(59, .iconst 0, 1, [], []), (60, .istore_n 3, 1, [], []), (61, .nop, 0, [9], [])]),
  ([0, 1, 2, 3], [(61, .iload_n 3, 1, [], []), (62, .aload_n 0, 1, [], []), (63, .invokevirtual 186, 3, [2, 1, 0, 12, 154], [1227, 0, 1229, 47, 71, 0, 0, 0]), (66, .nop, 0, [10], [])]),
  ([0, 1, 2, 3], [(66, .if_icmp .ge 30, 3, [13, 11], [])]),
  ([0, 1, 2, 3], [(69, .aload_n 0, 1, [], []), (70, .getfield 38, 3, [19, 2, 12], [996, 0]), (73, .iload_n 3, 1, [], []), (74, .aload_n 0, 1, [], []), (75, .iload_n 1, 1, [], []), (76, .iload_n 3, 1, [], []), (77, .aload_n 0, 1, [], []), (78, .getfield 9, 3, [1, 2, 12], [978, 0]), (81, .bipush 7, 2, [], []), (83, .iaload, 1, [], []), (84, .iload_n 2, 1, [], []), (85, .iadd, 1, [], []), (86, .invokevirtual 192, 3, [2, 1, 3, 12, 137], [1235, 0, 1237, 49, 71, 0, 0, 0]), (89, .nop, 0, [12], [])]),
  ([0, 1, 2, 3], [(89, .bastore, 1, [0], []), (90, .iinc 3 1, 3, [], []), (93, .goto (-32), 3, [9], [])]),
  ([], [(96, .return_, 1, [], [])])]
def km_X12_looksForReach : MT := (yX12_looksForReach, cX12_looksForReach, 5, none, kb_X12_looksForReach)
def kb_X12_reachesTruth : List (List Nat × List RI) := [
  ([0, 1], [(0, .iconst 0, 1, [], []), (1, .istore_n 2, 1, [], []), (2, .nop, 0, [1], [])]),
  ([0, 1, 2], [(2, .iload_n 2, 1, [], []), (3, .aload_n 0, 1, [], []), (4, .invokevirtual 186, 3, [2, 1, 0, 12, 154], [1227, 0, 1229, 47, 71, 0, 0, 0]), (7, .nop, 0, [2], [])]),
  ([0, 1, 2], [(7, .if_icmp .ge 89, 3, [18, 3], [])]),
  ([0, 1, 2], [(10, .aload_n 0, 1, [], []), (11, .getfield 38, 3, [19, 2, 12], [996, 0]), (14, .iload_n 2, 1, [], []), (15, .baload, 1, [], []), (16, .ifCond .ne 7, 3, [5, 4], [])]),
  ([0, 1, 2], [(19, .iconst 1, 1, [], []), (20, .goto 4, 3, [6], [])]),
  ([0, 1, 2], [(23, .iconst 0, 1, [], []), (24, .nop, 0, [6], [])]),
  ([0, 1, 2], [(24, .istore_n 3, 1, [], []), (25, .iconst 0, 1, [], []), (26, .istore 4, 2, [], []), (28, .nop, 0, [7], [])]),
  ([0, 1, 2, 3, 4], [(28, .iload 4, 2, [], []), (30, .aload_n 0, 1, [], []), (31, .getfield 9, 3, [1, 2, 12], [978, 0]), (34, .iconst 0, 1, [], []), (35, .iaload, 1, [], []), (36, .if_icmp .ge 48, 3, [15, 8], [])]),
  ([0, 1, 2, 3, 4], [(39, .iload_n 3, 1, [], []), (40, .ifCond .eq 44, 3, [15, 9], [])]),
  ([0, 1, 2, 4], [(43, .aload_n 0, 1, [], []), (44, .getfield 35, 3, [18, 2, 12], [995, 0]), (47, .iconst 4, 1, [], []), (48, .iload 4, 2, [], []), (50, .imul, 1, [], []), (51, .iload_n 1, 1, [], []), (52, .iload 4, 2, [], []), (54, .invokestatic 157, 3, [0, 1, 2, 136], [0, 1212, 1213]), (57, .nop, 0, [10], [])]),
  ([0, 1, 2, 4], [(57, .iadd, 1, [], []), (58, .iaload, 1, [], []), (59, .iload_n 2, 1, [], []), (60, .iload 4, 2, [], []), (62, .invokestatic 157, 3, [0, 1, 2, 136], [0, 1212, 1213]), (65, .nop, 0, [11], [])]),
  ([0, 1, 2, 4], [(65, .ishr, 1, [], []), (66, .iconst 1, 1, [], []), (67, .iand, 1, [], []), (68, .iconst 1, 1, [], []), (69, .if_icmp .ne 7, 3, [13, 12], [])]),
  ([0, 1, 2, 4], [(72, .iconst 1, 1, [], []), (73, .goto 4, 3, [14], [])]),
  ([0, 1, 2, 4], [(76, .iconst 0, 1, [], []), (77, .nop, 0, [14], [])]),
  ([0, 1, 2, 4], [(77, .istore_n 3, 1, [], []), (78, .iinc 4 1, 3, [], []), (81, .goto (-53), 3, [7], [])]),
  ([0, 1, 2, 3], [(84, .iload_n 3, 1, [], []), (85, .ifCond .eq 5, 3, [17, 16], [])]),
  ([], [(88, .iconst 0, 1, [], []), (89, .ireturn, 1, [1], [])]),
  ([0, 1, 2], [(90, .iinc 2 1, 3, [], []), (93, .goto (-91), 3, [1], [])]),
  ([], [(96, .iconst 1, 1, [], []), (97, .ireturn, 1, [1], [])])]
def km_X12_reachesTruth : MT := (yX12_reachesTruth, cX12_reachesTruth, 5, (some .boolean), kb_X12_reachesTruth)
def kb_X12_heed : List (List Nat × List RI) := [
  ([0, 1, 2], [(0, .iload_n 1, 1, [], []), (1, .iconst (-1), 1, [], []), (2, .if_icmp .eq 13, 3, [4, 1], [])]),
  ([0, 1, 2], [(5, .aload_n 0, 1, [], []), (6, .iload_n 1, 1, [], []), (7, .invokevirtual 154, 3, [2, 1, 1, 12, 114], [1136, 0, 1138, 33, 71, 0, 0, 0]), (10, .nop, 0, [2], [])]),
  ([0, 1, 2], [(10, .ifCond .ne 5, 3, [4, 3], [])]),
  ([], [(13, .iconst (-1), 1, [], []), (14, .ireturn, 1, [0], [])]),
  ([0, 1, 2], [(15, .iload_n 1, 1, [], []), (16, .iconst (-1), 1, [], []), (17, .if_icmp .eq 15, 3, [8, 5], [])]),
  ([0, 1, 2], [(20, .iload_n 2, 1, [], []), (21, .iconst 0, 1, [], []), (22, .iconst 3, 1, [], []), (23, .invokestatic 48, 3, [0, 1, 3, 113], [0, 1057, 1058]), (26, .nop, 0, [6], [])]),
  ([0, 1, 2], [(26, .ifCond .ne 6, 3, [8, 7], [])]),
  ([], [(29, .bipush (-2), 2, [], []), (31, .ireturn, 1, [0], [])]),
  ([0, 1, 2], [(32, .aload_n 0, 1, [], []), (33, .getfield 9, 3, [1, 2, 12], [978, 0]), (36, .bipush 8, 2, [], []), (38, .iload_n 1, 1, [], []), (39, .iastore, 1, [], []), (40, .aload_n 0, 1, [], []), (41, .getfield 9, 3, [1, 2, 12], [978, 0]), (44, .bipush 9, 2, [], []), (46, .iload_n 1, 1, [], []), (47, .iconst (-1), 1, [], []), (48, .if_icmp .ne 7, 3, [10, 9], [])]),
  ([], [(51, .iconst 0, 1, [], []), (52, .goto 4, 3, [11], [])]),
  ([2], [(55, .iload_n 2, 1, [], []), (56, .nop, 0, [11], [])]),
  ([], [(56, .iastore, 1, [], []), (57, .iconst 1, 1, [], []), (58, .ireturn, 1, [0], [])])]
def km_X12_heed : MT := (yX12_heed, cX12_heed, 3, (some .int), kb_X12_heed)
def kb_X12_heededBy : List (List Nat × List RI) := [
  ([0, 1], [(0, .aload_n 0, 1, [], []), (1, .getfield 9, 3, [1, 2, 12], [978, 0]), (4, .bipush 8, 2, [], []), (6, .iaload, 1, [], []), (7, .istore_n 2, 1, [], []), (8, .iload_n 2, 1, [], []), (9, .iconst (-1), 1, [], []), (10, .if_icmp .ne 7, 3, [2, 1], [])]),
  ([1], [(13, .iload_n 1, 1, [], []), (14, .goto 24, 3, [3], [])]),
  ([0, 1, 2], [(17, .iload_n 1, 1, [], []), (18, .iconst 3, 1, [], []), (19, .iconst 2, 1, [], []), (20, .iload_n 2, 1, [], []), (21, .imul, 1, [], []), (22, .ishl, 1, [], []), (23, .iconst (-1), 1, [], []), (24, .ixor, 1, [], []), (25, .iand, 1, [], []), (26, .aload_n 0, 1, [], []), (27, .getfield 9, 3, [1, 2, 12], [978, 0]), (30, .bipush 9, 2, [], []), (32, .iaload, 1, [], []), (33, .iconst 2, 1, [], []), (34, .iload_n 2, 1, [], []), (35, .imul, 1, [], []), (36, .ishl, 1, [], []), (37, .ior, 1, [], []), (38, .nop, 0, [3], [])]),
  ([], [(38, .ireturn, 1, [0], [])])]
def km_X12_heededBy : MT := (yX12_heededBy, cX12_heededBy, 3, (some .int), kb_X12_heededBy)
def kb_X12_self : List (List Nat × List RI) := [
  ([0, 1, 2, 3, 4], [(0, .aload_n 0, 1, [], []), (1, .iload_n 1, 1, [], []), (2, .invokevirtual 208, 3, [2, 1, 1, 12, 116], [1195, 0, 1197, 40, 71, 0, 0, 0]), (5, .nop, 0, [1], [])]),
  ([0, 1, 2, 3, 4], [(5, .ifCond .eq 30, 3, [8, 2], [])]),
  ([0, 1, 2, 3, 4], [(8, .aload_n 0, 1, [], []), (9, .iload_n 2, 1, [], []), (10, .invokevirtual 168, 3, [2, 1, 1, 12, 115], [1163, 0, 1165, 36, 71, 0, 0, 0]), (13, .nop, 0, [3], [])]),
  ([0, 1, 2, 3, 4], [(13, .ifCond .eq 22, 3, [8, 4], [])]),
  ([0, 1, 2, 3, 4], [(16, .iload_n 3, 1, [], []), (17, .iconst 0, 1, [], []), (18, .iconst 2, 1, [], []), (19, .invokestatic 48, 3, [0, 1, 3, 113], [0, 1057, 1058]), (22, .nop, 0, [5], [])]),
  ([0, 1, 2, 3, 4], [(22, .ifCond .eq 13, 3, [8, 6], [])]),
  ([0, 1, 2, 3, 4], [(25, .iload 4, 2, [], []), (27, .iconst 0, 1, [], []), (28, .iconst 1, 1, [], []), (29, .invokestatic 48, 3, [0, 1, 3, 113], [0, 1057, 1058]), (32, .nop, 0, [7], [])]),
  ([0, 1, 2, 3, 4], [(32, .ifCond .ne 7, 3, [9, 8], [])]),
  ([], [(35, .ldc2_w 211, 3, [9223372036854775808], [1199]), (38, .lreturn, 1, [], [])]),
  ([0, 1, 2, 3, 4], [(39, .aload_n 0, 1, [], []), (40, .iload_n 2, 1, [], []), (41, .invokevirtual 171, 3, [2, 1, 1, 12, 143], [1167, 0, 1169, 37, 71, 0, 0, 0]), (44, .nop, 0, [10], [])]),
  ([0, 1, 3, 4], [(44, .istore 5, 2, [], []), (46, .aload_n 0, 1, [], []), (47, .aload_n 0, 1, [], []), (48, .invokevirtual 195, 3, [2, 1, 0, 12, 150], [1204, 0, 1206, 42, 71, 0, 0, 0]), (51, .nop, 0, [11], [])]),
  ([0, 1, 3, 4, 5], [(51, .invokevirtual 198, 3, [2, 0, 1, 12, 149], [1208, 0, 1210, 43, 71, 0, 0, 0]), (54, .nop, 0, [12], [])]),
  ([0, 1, 3, 4, 5], [(54, .aload_n 0, 1, [], []), (55, .iload 5, 2, [], []), (57, .invokevirtual 201, 3, [2, 0, 1, 12, 152], [1215, 0, 1217, 44, 71, 0, 0, 0]), (60, .nop, 0, [13], [])]),
  ([0, 1, 3, 4, 5], [(60, .lconst 0, 1, [], []), (61, .lstore 6, 2, [], []), (63, .iconst 0, 1, [], []), (64, .istore 8, 2, [], []), (66, .nop, 0, [14], [])]),
  ([0, 1, 3, 4, 5, 6, 8], [(66, .iload 8, 2, [], []), (68, .aload_n 0, 1, [], []), (69, .invokevirtual 186, 3, [2, 1, 0, 12, 154], [1227, 0, 1229, 47, 71, 0, 0, 0]), (72, .nop, 0, [15], [])]),
  ([0, 1, 3, 4, 5, 6, 8], [(72, .if_icmp .ge 101, 3, [33, 16], [])]),
  ([0, 1, 3, 4, 5, 6, 8], [(75, .iload_n 3, 1, [], []), (76, .iconst 1, 1, [], []), (77, .if_icmp .eq 23, 3, [19, 17], [])]),
  ([0, 1, 3, 4, 5, 6, 8], [(80, .aload_n 0, 1, [], []), (81, .iload_n 1, 1, [], []), (82, .iload 8, 2, [], []), (84, .aload_n 0, 1, [], []), (85, .getfield 9, 3, [1, 2, 12], [978, 0]), (88, .bipush 7, 2, [], []), (90, .iaload, 1, [], []), (91, .iload 5, 2, [], []), (93, .iadd, 1, [], []), (94, .invokevirtual 192, 3, [2, 1, 3, 12, 137], [1235, 0, 1237, 49, 71, 0, 0, 0]), (97, .nop, 0, [18], [])]),
  ([0, 1, 3, 4, 5, 6, 8], [(97, .ifCond .eq 7, 3, [20, 19], [])]),
  ([0, 1, 3, 4, 5, 6, 8], [(100, .iconst 1, 1, [], []), (101, .goto 4, 3, [21], [])]),
  ([0, 1, 3, 4, 5, 6, 8], [(104, .iconst 0, 1, [], []), (105, .nop, 0, [21], [])]),
  ([0, 1, 3, 4, 5, 6, 8], [(105, .istore 9, 2, [], []), (107, .iload_n 3, 1, [], []), (108, .ifCond .eq 27, 3, [25, 22], [])]),
  ([0, 1, 3, 4, 5, 6, 8, 9], [(111, .aload_n 0, 1, [], []), (112, .iload_n 1, 1, [], []), (113, .aload_n 0, 1, [], []), (114, .iload 8, 2, [], []), (116, .invokevirtual 245, 3, [2, 1, 1, 12, 177], [1317, 0, 1319, 58, 71, 0, 0, 0]), (119, .nop, 0, [23], [])]),
  ([0, 1, 3, 4, 5, 6, 8, 9], [(119, .aload_n 0, 1, [], []), (120, .getfield 9, 3, [1, 2, 12], [978, 0]), (123, .bipush 7, 2, [], []), (125, .iaload, 1, [], []), (126, .iload 5, 2, [], []), (128, .iadd, 1, [], []), (129, .invokevirtual 192, 3, [2, 1, 3, 12, 137], [1235, 0, 1237, 49, 71, 0, 0, 0]), (132, .nop, 0, [24], [])]),
  ([0, 1, 3, 4, 5, 6, 8, 9], [(132, .ifCond .eq 7, 3, [26, 25], [])]),
  ([0, 1, 3, 4, 5, 6, 8, 9], [(135, .iconst 1, 1, [], []), (136, .goto 4, 3, [27], [])]),
  ([0, 1, 3, 4, 5, 6, 8, 9], [(139, .iconst 0, 1, [], []), (140, .nop, 0, [27], [])]),
  ([0, 1, 3, 4, 5, 6, 8, 9], [(140, .istore 10, 2, [], []), (142, .lload 6, 2, [], []), (144, .iload 9, 2, [], []), (146, .ifCond .eq 17, 3, [31, 28], [])]),
  ([0, 1, 3, 4, 5, 8, 10], [(149, .iload 10, 2, [], []), (151, .ifCond .eq 12, 3, [31, 29], [])]),
  ([0, 1, 3, 4, 5, 8], [(154, .aload_n 0, 1, [], []), (155, .iload 8, 2, [], []), (157, .invokevirtual 189, 3, [2, 2, 1, 12, 153], [1231, 0, 1233, 48, 71, 0, 0, 0]), (160, .nop, 0, [30], [])]),
  ([0, 1, 3, 4, 5, 8], [(160, .goto 4, 3, [32], [])]),
  ([0, 1, 3, 4, 5, 8], [(163, .lconst 0, 1, [], []), (164, .nop, 0, [32], [])]),
  ([0, 1, 3, 4, 5, 8], [(164, .ladd, 1, [], []), (165, .lstore 6, 2, [], []), (167, .iinc 8 1, 3, [], []), (170, .goto (-104), 3, [14], [])]),
  ([0, 4, 5, 6], [(173, .lload 6, 2, [], []), (175, .aload_n 0, 1, [], []), (176, .iload 5, 2, [], []), (178, .invokevirtual 216, 3, [2, 2, 1, 12, 156], [1239, 0, 1241, 50, 71, 0, 0, 0]), (181, .nop, 0, [34], [])]),
  ([4], [(181, .iload 4, 2, [], []), (183, .invokestatic 219, 3, [0, 2, 3, 159], [0, 1246, 1247]), (186, .nop, 0, [35], [])]),
  ([], [(186, .lreturn, 1, [], [])])]
def km_X12_self : MT := (yX12_self, cX12_self, 11, (some .long), kb_X12_self)
def kb_X12_back : List (List Nat × List RI) := [
  ([0, 1, 2, 3], [(0, .aload_n 0, 1, [], []), (1, .iload_n 1, 1, [], []), (2, .invokevirtual 154, 3, [2, 1, 1, 12, 114], [1136, 0, 1138, 33, 71, 0, 0, 0]), (5, .nop, 0, [1], [])]),
  ([0, 1, 2, 3], [(5, .ifCond .ne 5, 3, [3, 2], [])]),
  ([], [(8, .iconst (-1), 1, [], []), (9, .ireturn, 1, [0], [])]),
  ([0, 1, 2, 3], [(10, .iload_n 2, 1, [], []), (11, .iconst 0, 1, [], []), (12, .iconst 3, 1, [], []), (13, .invokestatic 48, 3, [0, 1, 3, 113], [0, 1057, 1058]), (16, .nop, 0, [4], [])]),
  ([0, 1, 2, 3], [(16, .ifCond .eq 13, 3, [7, 5], [])]),
  ([0, 1, 2, 3], [(19, .iload_n 3, 1, [], []), (20, .iconst 0, 1, [], []), (21, .bipush 6, 2, [], []), (23, .invokestatic 48, 3, [0, 1, 3, 113], [0, 1057, 1058]), (26, .nop, 0, [6], [])]),
  ([0, 1, 2, 3], [(26, .ifCond .ne 6, 3, [8, 7], [])]),
  ([], [(29, .bipush (-2), 2, [], []), (31, .ireturn, 1, [0], [])]),
  ([0, 1, 2, 3], [(32, .iconst 0, 1, [], []), (33, .istore 4, 2, [], []), (35, .iconst 0, 1, [], []), (36, .istore 5, 2, [], []), (38, .nop, 0, [9], [])]),
  ([0, 1, 2, 3, 4, 5], [(38, .iload 5, 2, [], []), (40, .iconst 4, 1, [], []), (41, .if_icmp .ge 72, 3, [18, 10], [])]),
  ([0, 1, 2, 3, 4, 5], [(44, .iconst 1, 1, [], []), (45, .iload 5, 2, [], []), (47, .ishl, 1, [], []), (48, .istore 6, 2, [], []), (50, .iconst 0, 1, [], []), (51, .istore 7, 2, [], []), (53, .nop, 0, [11], [])]),
  ([0, 1, 2, 3, 4, 5, 6, 7], [(53, .iload 7, 2, [], []), (55, .iload_n 3, 1, [], []), (56, .if_icmp .ge 28, 3, [14, 12], [])]),
  ([0, 1, 2, 3, 4, 5, 6, 7], [(59, .aload_n 0, 1, [], []), (60, .iload_n 1, 1, [], []), (61, .iload 6, 2, [], []), (63, .aload_n 0, 1, [], []), (64, .getfield 9, 3, [1, 2, 12], [978, 0]), (67, .bipush 7, 2, [], []), (69, .iaload, 1, [], []), (70, .iload 7, 2, [], []), (72, .iadd, 1, [], []), (73, .invokevirtual 226, 3, [2, 1, 3, 12, 167], [1281, 0, 1283, 54, 71, 0, 0, 0]), (76, .nop, 0, [13], [])]),
  ([0, 1, 2, 3, 4, 5, 7], [(76, .istore 6, 2, [], []), (78, .iinc 7 1, 3, [], []), (81, .goto (-28), 3, [11], [])]),
  ([0, 1, 2, 3, 4, 5, 6], [(84, .iload 4, 2, [], []), (86, .iload 6, 2, [], []), (88, .iload_n 2, 1, [], []), (89, .ishr, 1, [], []), (90, .iconst 1, 1, [], []), (91, .iand, 1, [], []), (92, .iconst 1, 1, [], []), (93, .if_icmp .ne 10, 3, [16, 15], [])]),
  ([0, 1, 2, 3, 5], [(96, .iconst 1, 1, [], []), (97, .iload 5, 2, [], []), (99, .ishl, 1, [], []), (100, .goto 4, 3, [17], [])]),
  ([0, 1, 2, 3, 5], [(103, .iconst 0, 1, [], []), (104, .nop, 0, [17], [])]),
  ([0, 1, 2, 3, 5], [(104, .ior, 1, [], []), (105, .istore 4, 2, [], []), (107, .iinc 5 1, 3, [], []), (110, .goto (-72), 3, [9], [])]),
  ([4], [(113, .iload 4, 2, [], []), (115, .ireturn, 1, [0], [])])]
def km_X12_back : MT := (yX12_back, cX12_back, 8, (some .int), kb_X12_back)
def kb_X12_row : List (List Nat × List RI) := [
  ([0, 1], [(0, .iload_n 1, 1, [], []), (1, .iconst (-1), 1, [], []), (2, .if_icmp .ne 12, 3, [2, 1], [])]),
  ([0], [(5, .aload_n 0, 1, [], []), (6, .getfield 9, 3, [1, 2, 12], [978, 0]), (9, .iconst 4, 1, [], []), (10, .iconst 0, 1, [], []), (11, .iastore, 1, [], []), (12, .iconst 0, 1, [], []), (13, .ireturn, 1, [0], [])]),
  ([0, 1], [(14, .iload_n 1, 1, [], []), (15, .iconst 0, 1, [], []), (16, .iconst 3, 1, [], []), (17, .invokestatic 48, 3, [0, 1, 3, 113], [0, 1057, 1058]), (20, .nop, 0, [3], [])]),
  ([0, 1], [(20, .ifCond .ne 6, 3, [5, 4], [])]),
  ([], [(23, .bipush (-2), 2, [], []), (25, .ireturn, 1, [0], [])]),
  ([0, 1], [(26, .aload_n 0, 1, [], []), (27, .getfield 9, 3, [1, 2, 12], [978, 0]), (30, .iconst 4, 1, [], []), (31, .iaload, 1, [], []), (32, .bipush 12, 2, [], []), (34, .if_icmp .ne 6, 3, [7, 6], [])]),
  ([], [(37, .bipush (-4), 2, [], []), (39, .ireturn, 1, [0], [])]),
  ([0, 1], [(40, .aload_n 0, 1, [], []), (41, .getfield 9, 3, [1, 2, 12], [978, 0]), (44, .bipush 40, 2, [], []), (46, .aload_n 0, 1, [], []), (47, .getfield 9, 3, [1, 2, 12], [978, 0]), (50, .iconst 4, 1, [], []), (51, .iaload, 1, [], []), (52, .iadd, 1, [], []), (53, .iload_n 1, 1, [], []), (54, .iastore, 1, [], []), (55, .aload_n 0, 1, [], []), (56, .getfield 9, 3, [1, 2, 12], [978, 0]), (59, .iconst 4, 1, [], []), (60, .dup2, 1, [], []), (61, .iaload, 1, [], []), (62, .iconst 1, 1, [], []), (63, .iadd, 1, [], []), (64, .iastore, 1, [], []), (65, .aload_n 0, 1, [], []), (66, .getfield 9, 3, [1, 2, 12], [978, 0]), (69, .iconst 4, 1, [], []), (70, .iaload, 1, [], []), (71, .ireturn, 1, [0], [])])]
def km_X12_row : MT := (yX12_row, cX12_row, 2, (some .int), kb_X12_row)
def kb_X12_looked : List (List Nat × List RI) := [
  ([0], [(0, .aload_n 0, 1, [], []), (1, .getfield 9, 3, [1, 2, 12], [978, 0]), (4, .iconst 0, 1, [], []), (5, .iaload, 1, [], []), (6, .ifCond .ne 6, 3, [2, 1], [])]),
  ([], [(9, .bipush (-3), 2, [], []), (11, .ireturn, 1, [0], [])]),
  ([0], [(12, .iconst 0, 1, [], []), (13, .istore_n 1, 1, [], []), (14, .nop, 0, [3], [])]),
  ([0, 1], [(14, .iload_n 1, 1, [], []), (15, .aload_n 0, 1, [], []), (16, .getfield 9, 3, [1, 2, 12], [978, 0]), (19, .iconst 4, 1, [], []), (20, .iaload, 1, [], []), (21, .if_icmp .ge 73, 3, [10, 4], [])]),
  ([0, 1], [(24, .iload_n 1, 1, [], []), (25, .ifCond .ne 15, 3, [6, 5], [])]),
  ([0, 1], [(28, .iconst 1, 1, [], []), (29, .aload_n 0, 1, [], []), (30, .getfield 9, 3, [1, 2, 12], [978, 0]), (33, .bipush 10, 2, [], []), (35, .iaload, 1, [], []), (36, .ishl, 1, [], []), (37, .goto 32, 3, [7], [])]),
  ([0, 1], [(40, .aload_n 0, 1, [], []), (41, .iconst 0, 1, [], []), (42, .iconst 1, 1, [], []), (43, .aload_n 0, 1, [], []), (44, .getfield 9, 3, [1, 2, 12], [978, 0]), (47, .bipush 40, 2, [], []), (49, .iload_n 1, 1, [], []), (50, .iadd, 1, [], []), (51, .iconst 1, 1, [], []), (52, .isub, 1, [], []), (53, .iaload, 1, [], []), (54, .ishl, 1, [], []), (55, .aload_n 0, 1, [], []), (56, .getfield 9, 3, [1, 2, 12], [978, 0]), (59, .bipush 7, 2, [], []), (61, .iaload, 1, [], []), (62, .iload_n 1, 1, [], []), (63, .iadd, 1, [], []), (64, .iconst 1, 1, [], []), (65, .isub, 1, [], []), (66, .invokevirtual 226, 3, [2, 1, 3, 12, 167], [1281, 0, 1283, 54, 71, 0, 0, 0]), (69, .nop, 0, [7], [])]),
  ([0, 1], [(69, .istore_n 2, 1, [], []), (70, .iload_n 2, 1, [], []), (71, .aload_n 0, 1, [], []), (72, .getfield 9, 3, [1, 2, 12], [978, 0]), (75, .bipush 40, 2, [], []), (77, .iload_n 1, 1, [], []), (78, .iadd, 1, [], []), (79, .iaload, 1, [], []), (80, .ishr, 1, [], []), (81, .iconst 1, 1, [], []), (82, .iand, 1, [], []), (83, .ifCond .ne 5, 3, [9, 8], [])]),
  ([1], [(86, .iload_n 1, 1, [], []), (87, .ireturn, 1, [0], [])]),
  ([0, 1], [(88, .iinc 1 1, 3, [], []), (91, .goto (-77), 3, [3], [])]),
  ([], [(94, .bipush (-5), 2, [], []), (96, .ireturn, 1, [0], [])])]
def km_X12_looked : MT := (yX12_looked, cX12_looked, 3, (some .int), kb_X12_looked)
def kb_X12_ranBody : List (List Nat × List RI) := [
  ([0, 1], [(0, .aload_n 0, 1, [], []), (1, .getfield 248, 3, [21, 0, 12], [998, 0]), (4, .bipush 20, 2, [], []), (6, .if_icmp .ge 13, 3, [2, 1], [])]),
  ([0, 1], [(9, .aload_n 0, 1, [], []), (10, .getfield 41, 3, [20, 2, 12], [997, 0]), (13, .aload_n 0, 1, [], []), (14, .getfield 248, 3, [21, 0, 12], [998, 0]), (17, .iload_n 1, 1, [], []), (18, .iastore, 1, [], []), (19, .nop, 0, [2], [])]),
  ([0], [(19, .aload_n 0, 1, [], []), (20, .dup, 1, [], []), (21, .getfield 248, 3, [21, 0, 12], [998, 0]), (24, .iconst 1, 1, [], []), (25, .iadd, 1, [], []), (26, .putfield 248, 3, [21, 0, 12], [998, 0]), (29, .return_, 1, [], [])])]
def km_X12_ranBody : MT := (yX12_ranBody, cX12_ranBody, 2, none, kb_X12_ranBody)
def kb_X12_isUnder : List (List Nat × List RI) := [
  ([0, 1], [(0, .iload_n 1, 1, [], []), (1, .ifCond .eq 24, 3, [5, 1], [])]),
  ([0, 1], [(4, .iload_n 1, 1, [], []), (5, .iload_n 0, 1, [], []), (6, .if_icmp .eq 19, 3, [5, 2], [])]),
  ([0, 1], [(9, .iload_n 1, 1, [], []), (10, .ifCond .le 19, 3, [6, 3], [])]),
  ([0, 1], [(13, .iload_n 1, 1, [], []), (14, .iconst 4, 1, [], []), (15, .if_icmp .ge 14, 3, [6, 4], [])]),
  ([0, 1], [(18, .iload_n 0, 1, [], []), (19, .iload_n 1, 1, [], []), (20, .iconst 3, 1, [], []), (21, .iadd, 1, [], []), (22, .if_icmp .ne 7, 3, [6, 5], [])]),
  ([], [(25, .iconst 1, 1, [], []), (26, .goto 4, 3, [7], [])]),
  ([], [(29, .iconst 0, 1, [], []), (30, .nop, 0, [7], [])]),
  ([], [(30, .ireturn, 1, [1], [])])]
def km_X12_isUnder : MT := (yX12_isUnder, cX12_isUnder, 2, (some .boolean), kb_X12_isUnder)
def kb_X12_plainSends : List (List Nat × List RI) := [
  ([0, 1], [(0, .aload_n 0, 1, [], []), (1, .iconst 1, 1, [], []), (2, .invokevirtual 251, 3, [2, 0, 1, 12, 182], [1344, 0, 1346, 60, 71, 0, 0, 0]), (5, .nop, 0, [1], [])]),
  ([0, 1], [(5, .iload_n 1, 1, [], []), (6, .aload_n 0, 1, [], []), (7, .getfield 254, 3, [23, 0, 12], [1000, 0]), (10, .iadd, 1, [], []), (11, .ireturn, 1, [0], [])])]
def km_X12_plainSends : MT := (yX12_plainSends, cX12_plainSends, 2, (some .int), kb_X12_plainSends)
def kb_X12_sendsActs : List (List Nat × List RI) := [
  ([0, 1], [(0, .aload_n 0, 1, [], []), (1, .getfield 257, 3, [22, 0, 12], [999, 0]), (4, .iconst 1, 1, [], []), (5, .invokestatic 260, 3, [0, 1, 2, 183], [0, 1341, 1342]), (8, .nop, 0, [1], [])]),
  ([0, 1], [(8, .ifCond .eq 17, 3, [5, 2], [])]),
  ([0, 1], [(11, .aload_n 0, 1, [], []), (12, .bipush 11, 2, [], []), (14, .invokevirtual 251, 3, [2, 0, 1, 12, 182], [1344, 0, 1346, 60, 71, 0, 0, 0]), (17, .nop, 0, [3], [])]),
  ([0, 1], [(17, .aload_n 0, 1, [], []), (18, .iload_n 1, 1, [], []), (19, .iconst 3, 1, [], []), (20, .imul, 1, [], []), (21, .invokevirtual 263, 3, [2, 1, 1, 12, 184], [1348, 0, 1350, 61, 71, 0, 0, 0]), (24, .nop, 0, [4], [])]),
  ([], [(24, .ireturn, 1, [0], [])]),
  ([0, 1], [(25, .aload_n 0, 1, [], []), (26, .getfield 257, 3, [22, 0, 12], [999, 0]), (29, .iconst 5, 1, [], []), (30, .if_icmp .ne 20, 3, [9, 6], [])]),
  ([0, 1], [(33, .aload_n 0, 1, [], []), (34, .bipush 51, 2, [], []), (36, .invokevirtual 251, 3, [2, 0, 1, 12, 182], [1344, 0, 1346, 60, 71, 0, 0, 0]), (39, .nop, 0, [7], [])]),
  ([0, 1], [(39, .aload_n 0, 1, [], []), (40, .iload_n 1, 1, [], []), (41, .invokevirtual 263, 3, [2, 1, 1, 12, 184], [1348, 0, 1350, 61, 71, 0, 0, 0]), (44, .nop, 0, [8], [])]),
  ([0], [(44, .aload_n 0, 1, [], []), (45, .getfield 254, 3, [23, 0, 12], [1000, 0]), (48, .ixor, 1, [], []), (49, .ireturn, 1, [0], [])]),
  ([0, 1], [(50, .aload_n 0, 1, [], []), (51, .iload_n 1, 1, [], []), (52, .invokevirtual 263, 3, [2, 1, 1, 12, 184], [1348, 0, 1350, 61, 71, 0, 0, 0]), (55, .nop, 0, [10], [])]),
  ([], [(55, .ireturn, 1, [0], [])])]
def km_X12_sendsActs : MT := (yX12_sendsActs, cX12_sendsActs, 2, (some .int), kb_X12_sendsActs)
def kb_X12_plainTakes : List (List Nat × List RI) := [
  ([0, 1], [(0, .aload_n 0, 1, [], []), (1, .iconst 2, 1, [], []), (2, .invokevirtual 251, 3, [2, 0, 1, 12, 182], [1344, 0, 1346, 60, 71, 0, 0, 0]), (5, .nop, 0, [1], [])]),
  ([0, 1], [(5, .aload_n 0, 1, [], []), (6, .iload_n 1, 1, [], []), (7, .invokevirtual 266, 3, [2, 1, 1, 12, 185], [1337, 0, 1339, 59, 71, 0, 0, 0]), (10, .nop, 0, [2], [])]),
  ([0], [(10, .aload_n 0, 1, [], []), (11, .getfield 269, 3, [24, 0, 12], [1001, 0]), (14, .isub, 1, [], []), (15, .ireturn, 1, [0], [])])]
def km_X12_plainTakes : MT := (yX12_plainTakes, cX12_plainTakes, 2, (some .int), kb_X12_plainTakes)
def kb_X12_takesActs : List (List Nat × List RI) := [
  ([0, 1], [(0, .aload_n 0, 1, [], []), (1, .getfield 257, 3, [22, 0, 12], [999, 0]), (4, .iconst 2, 1, [], []), (5, .invokestatic 260, 3, [0, 1, 2, 183], [0, 1341, 1342]), (8, .nop, 0, [1], [])]),
  ([0, 1], [(8, .ifCond .eq 16, 3, [5, 2], [])]),
  ([0, 1], [(11, .aload_n 0, 1, [], []), (12, .bipush 21, 2, [], []), (14, .invokevirtual 251, 3, [2, 0, 1, 12, 182], [1344, 0, 1346, 60, 71, 0, 0, 0]), (17, .nop, 0, [3], [])]),
  ([0, 1], [(17, .aload_n 0, 1, [], []), (18, .iload_n 1, 1, [], []), (19, .invokevirtual 272, 3, [2, 1, 1, 12, 186], [1356, 0, 1358, 63, 71, 0, 0, 0]), (22, .nop, 0, [4], [])]),
  ([], [(22, .ineg, 1, [], []), (23, .ireturn, 1, [0], [])]),
  ([0, 1], [(24, .aload_n 0, 1, [], []), (25, .getfield 257, 3, [22, 0, 12], [999, 0]), (28, .bipush 6, 2, [], []), (30, .if_icmp .ne 20, 3, [9, 6], [])]),
  ([0, 1], [(33, .aload_n 0, 1, [], []), (34, .bipush 61, 2, [], []), (36, .invokevirtual 251, 3, [2, 0, 1, 12, 182], [1344, 0, 1346, 60, 71, 0, 0, 0]), (39, .nop, 0, [7], [])]),
  ([0, 1], [(39, .aload_n 0, 1, [], []), (40, .iload_n 1, 1, [], []), (41, .invokevirtual 272, 3, [2, 1, 1, 12, 186], [1356, 0, 1358, 63, 71, 0, 0, 0]), (44, .nop, 0, [8], [])]),
  ([0], [(44, .aload_n 0, 1, [], []), (45, .getfield 269, 3, [24, 0, 12], [1001, 0]), (48, .iadd, 1, [], []), (49, .ireturn, 1, [0], [])]),
  ([0, 1], [(50, .aload_n 0, 1, [], []), (51, .iload_n 1, 1, [], []), (52, .invokevirtual 272, 3, [2, 1, 1, 12, 186], [1356, 0, 1358, 63, 71, 0, 0, 0]), (55, .nop, 0, [10], [])]),
  ([], [(55, .ireturn, 1, [0], [])])]
def km_X12_takesActs : MT := (yX12_takesActs, cX12_takesActs, 2, (some .int), kb_X12_takesActs)
def kb_X12_plainTells : List (List Nat × List RI) := [
  ([0, 1], [(0, .aload_n 0, 1, [], []), (1, .iconst 3, 1, [], []), (2, .invokevirtual 251, 3, [2, 0, 1, 12, 182], [1344, 0, 1346, 60, 71, 0, 0, 0]), (5, .nop, 0, [1], [])]),
  ([0, 1], [(5, .aload_n 0, 1, [], []), (6, .iload_n 1, 1, [], []), (7, .invokevirtual 275, 3, [2, 1, 1, 12, 187], [1352, 0, 1354, 62, 71, 0, 0, 0]), (10, .nop, 0, [2], [])]),
  ([], [(10, .iconst 2, 1, [], []), (11, .imul, 1, [], []), (12, .ireturn, 1, [0], [])])]
def km_X12_plainTells : MT := (yX12_plainTells, cX12_plainTells, 2, (some .int), kb_X12_plainTells)
def kb_X12_tellsActs : List (List Nat × List RI) := [
  ([0, 1], [(0, .aload_n 0, 1, [], []), (1, .getfield 257, 3, [22, 0, 12], [999, 0]), (4, .iconst 3, 1, [], []), (5, .invokestatic 260, 3, [0, 1, 2, 183], [0, 1341, 1342]), (8, .nop, 0, [1], [])]),
  ([0, 1], [(8, .ifCond .eq 18, 3, [5, 2], [])]),
  ([0, 1], [(11, .aload_n 0, 1, [], []), (12, .bipush 31, 2, [], []), (14, .invokevirtual 251, 3, [2, 0, 1, 12, 182], [1344, 0, 1346, 60, 71, 0, 0, 0]), (17, .nop, 0, [3], [])]),
  ([0, 1], [(17, .aload_n 0, 1, [], []), (18, .iload_n 1, 1, [], []), (19, .invokevirtual 278, 3, [2, 1, 1, 12, 188], [1364, 0, 1366, 65, 71, 0, 0, 0]), (22, .nop, 0, [4], [])]),
  ([], [(22, .bipush 7, 2, [], []), (24, .ixor, 1, [], []), (25, .ireturn, 1, [0], [])]),
  ([0, 1], [(26, .aload_n 0, 1, [], []), (27, .getfield 257, 3, [22, 0, 12], [999, 0]), (30, .iconst 4, 1, [], []), (31, .if_icmp .ne 25, 3, [10, 6], [])]),
  ([0, 1], [(34, .aload_n 0, 1, [], []), (35, .bipush 41, 2, [], []), (37, .invokevirtual 251, 3, [2, 0, 1, 12, 182], [1344, 0, 1346, 60, 71, 0, 0, 0]), (40, .nop, 0, [7], [])]),
  ([0, 1], [(40, .aload_n 0, 1, [], []), (41, .iload_n 1, 1, [], []), (42, .iconst 1, 1, [], []), (43, .isub, 1, [], []), (44, .invokevirtual 278, 3, [2, 1, 1, 12, 188], [1364, 0, 1366, 65, 71, 0, 0, 0]), (47, .nop, 0, [8], [])]),
  ([0], [(47, .istore_n 2, 1, [], []), (48, .iload_n 2, 1, [], []), (49, .aload_n 0, 1, [], []), (50, .iconst 2, 1, [], []), (51, .invokevirtual 266, 3, [2, 1, 1, 12, 185], [1337, 0, 1339, 59, 71, 0, 0, 0]), (54, .nop, 0, [9], [])]),
  ([], [(54, .iadd, 1, [], []), (55, .ireturn, 1, [0], [])]),
  ([0, 1], [(56, .aload_n 0, 1, [], []), (57, .iload_n 1, 1, [], []), (58, .invokevirtual 278, 3, [2, 1, 1, 12, 188], [1364, 0, 1366, 65, 71, 0, 0, 0]), (61, .nop, 0, [11], [])]),
  ([], [(61, .ireturn, 1, [0], [])])]
def km_X12_tellsActs : MT := (yX12_tellsActs, cX12_tellsActs, 3, (some .int), kb_X12_tellsActs)
def kb_X12_act : List (List Nat × List RI) := [
  ([0, 1, 2, 3], [(0, .aload_n 0, 1, [], []), (1, .iconst 0, 1, [], []), (2, .putfield 248, 3, [21, 0, 12], [998, 0]), (5, .aload_n 0, 1, [], []), (6, .iload_n 1, 1, [], []), (7, .invokevirtual 168, 3, [2, 1, 1, 12, 115], [1163, 0, 1165, 36, 71, 0, 0, 0]), (10, .nop, 0, [1], [])]),
  ([0, 1, 2, 3], [(10, .ifCond .eq 12, 3, [4, 2], [])]),
  ([0, 1, 2, 3], [(13, .iload_n 2, 1, [], []), (14, .iconst 0, 1, [], []), (15, .iconst 2, 1, [], []), (16, .invokestatic 48, 3, [0, 1, 3, 113], [0, 1057, 1058]), (19, .nop, 0, [3], [])]),
  ([0, 1, 2, 3], [(19, .ifCond .ne 5, 3, [5, 4], [])]),
  ([], [(22, .iconst 0, 1, [], []), (23, .ireturn, 1, [0], [])]),
  ([0, 1, 2, 3], [(24, .aload_n 0, 1, [], []), (25, .aload_n 0, 1, [], []), (26, .getfield 9, 3, [1, 2, 12], [978, 0]), (29, .bipush 14, 2, [], []), (31, .iload_n 1, 1, [], []), (32, .iadd, 1, [], []), (33, .iaload, 1, [], []), (34, .putfield 257, 3, [22, 0, 12], [999, 0]), (37, .aload_n 0, 1, [], []), (38, .iload_n 1, 1, [], []), (39, .putfield 254, 3, [23, 0, 12], [1000, 0]), (42, .aload_n 0, 1, [], []), (43, .aload_n 0, 1, [], []), (44, .getfield 9, 3, [1, 2, 12], [978, 0]), (47, .bipush 19, 2, [], []), (49, .iload_n 1, 1, [], []), (50, .iadd, 1, [], []), (51, .iaload, 1, [], []), (52, .putfield 269, 3, [24, 0, 12], [1001, 0]), (55, .iload_n 2, 1, [], []), (56, .ifCond .ne 11, 3, [8, 6], [])]),
  ([0, 3], [(59, .aload_n 0, 1, [], []), (60, .iload_n 3, 1, [], []), (61, .invokevirtual 266, 3, [2, 1, 1, 12, 185], [1337, 0, 1339, 59, 71, 0, 0, 0]), (64, .nop, 0, [7], [])]),
  ([], [(64, .goto 21, 3, [12], [])]),
  ([0, 2, 3], [(67, .iload_n 2, 1, [], []), (68, .iconst 1, 1, [], []), (69, .if_icmp .ne 11, 3, [11, 9], [])]),
  ([0, 3], [(72, .aload_n 0, 1, [], []), (73, .iload_n 3, 1, [], []), (74, .invokevirtual 275, 3, [2, 1, 1, 12, 187], [1352, 0, 1354, 62, 71, 0, 0, 0]), (77, .nop, 0, [10], [])]),
  ([], [(77, .goto 8, 3, [12], [])]),
  ([0, 3], [(80, .aload_n 0, 1, [], []), (81, .iload_n 3, 1, [], []), (82, .invokevirtual 281, 3, [2, 1, 1, 12, 189], [1360, 0, 1362, 64, 71, 0, 0, 0]), (85, .nop, 0, [12], [])]),
  ([], [(85, .ireturn, 1, [0], [])])]
def km_X12_act : MT := (yX12_act, cX12_act, 4, (some .int), kb_X12_act)
def kb_X12_trace : List (List Nat × List RI) := [
  ([0, 1], [(0, .iload_n 1, 1, [], []), (1, .iconst 0, 1, [], []), (2, .aload_n 0, 1, [], []), (3, .getfield 248, 3, [21, 0, 12], [998, 0]), (6, .bipush 20, 2, [], []), (8, .if_icmp .ge 10, 3, [2, 1], [])]),
  ([0, 1], [(11, .aload_n 0, 1, [], []), (12, .getfield 248, 3, [21, 0, 12], [998, 0]), (15, .goto 5, 3, [3], [])]),
  ([0, 1], [(18, .bipush 20, 2, [], []), (20, .nop, 0, [3], [])]),
  ([0, 1], [(20, .iconst 1, 1, [], []), (21, .isub, 1, [], []), (22, .invokestatic 48, 3, [0, 1, 3, 113], [0, 1057, 1058]), (25, .nop, 0, [4], [])]),
  ([0, 1], [(25, .ifCond .eq 12, 3, [6, 5], [])]),
  ([0, 1], [(28, .aload_n 0, 1, [], []), (29, .getfield 41, 3, [20, 2, 12], [997, 0]), (32, .iload_n 1, 1, [], []), (33, .iaload, 1, [], []), (34, .goto 4, 3, [7], [])]),
  ([], [(37, .iconst (-1), 1, [], []), (38, .nop, 0, [7], [])]),
  ([], [(38, .ireturn, 1, [0], [])])]
def km_X12_trace : MT := (yX12_trace, cX12_trace, 2, (some .int), kb_X12_trace)
def kb_X12_as : List (List Nat × List RI) := [
  ([0, 1, 2], [(0, .aload_n 0, 1, [], []), (1, .iload_n 1, 1, [], []), (2, .invokevirtual 168, 3, [2, 1, 1, 12, 115], [1163, 0, 1165, 36, 71, 0, 0, 0]), (5, .nop, 0, [1], [])]),
  ([0, 1, 2], [(5, .ifCond .eq 13, 3, [4, 2], [])]),
  ([0, 1, 2], [(8, .iload_n 2, 1, [], []), (9, .iconst 0, 1, [], []), (10, .bipush 6, 2, [], []), (12, .invokestatic 48, 3, [0, 1, 3, 113], [0, 1057, 1058]), (15, .nop, 0, [3], [])]),
  ([0, 1, 2], [(15, .ifCond .ne 5, 3, [5, 4], [])]),
  ([], [(18, .iconst (-1), 1, [], []), (19, .ireturn, 1, [0], [])]),
  ([0, 1, 2], [(20, .aload_n 0, 1, [], []), (21, .getfield 9, 3, [1, 2, 12], [978, 0]), (24, .bipush 14, 2, [], []), (26, .iload_n 1, 1, [], []), (27, .iadd, 1, [], []), (28, .iaload, 1, [], []), (29, .iload_n 2, 1, [], []), (30, .invokestatic 260, 3, [0, 1, 2, 183], [0, 1341, 1342]), (33, .nop, 0, [6], [])]),
  ([0, 1], [(33, .ifCond .eq 15, 3, [8, 7], [])]),
  ([0, 1], [(36, .aload_n 0, 1, [], []), (37, .getfield 9, 3, [1, 2, 12], [978, 0]), (40, .bipush 19, 2, [], []), (42, .iload_n 1, 1, [], []), (43, .iadd, 1, [], []), (44, .iaload, 1, [], []), (45, .goto 5, 3, [9], [])]),
  ([], [(48, .bipush (-6), 2, [], []), (50, .nop, 0, [9], [])]),
  ([], [(50, .ireturn, 1, [0], [])])]
def km_X12_as : MT := (yX12_as, cX12_as, 3, (some .int), kb_X12_as)
def kb_X12_image : List (List Nat × List RI) := [
  ([0], [(0, .iconst 0, 1, [], []), (1, .istore_n 1, 1, [], []), (2, .nop, 0, [1], [])]),
  ([0, 1], [(2, .iload_n 1, 1, [], []), (3, .sipush 1562, 3, [], []), (6, .if_icmp .ge 21, 3, [3, 2], [])]),
  ([0, 1], [(9, .aload_n 0, 1, [], []), (10, .getfield 15, 3, [2, 2, 12], [979, 0]), (13, .iload_n 1, 1, [], []), (14, .aload_n 0, 1, [], []), (15, .getfield 9, 3, [1, 2, 12], [978, 0]), (18, .iload_n 1, 1, [], []), (19, .iaload, 1, [], []), (20, .iastore, 1, [], []), (21, .iinc 1 1, 3, [], []), (24, .goto (-22), 3, [1], [])]),
  ([0], [(27, .aload_n 0, 1, [], []), (28, .iconst 1, 1, [], []), (29, .putfield 284, 3, [3, 1, 12], [980, 0]), (32, .aload_n 0, 1, [], []), (33, .getfield 9, 3, [1, 2, 12], [978, 0]), (36, .iconst 0, 1, [], []), (37, .iaload, 1, [], []), (38, .ireturn, 1, [0], [])])]
def km_X12_image : MT := (yX12_image, cX12_image, 2, (some .int), kb_X12_image)
def kb_X12_undo : List (List Nat × List RI) := [
  ([0], [(0, .aload_n 0, 1, [], []), (1, .getfield 284, 3, [3, 1, 12], [980, 0]), (4, .ifCond .ne 6, 3, [2, 1], [])]),
  ([], [(7, .bipush (-3), 2, [], []), (9, .ireturn, 1, [0], [])]),
  ([0], [(10, .iconst 0, 1, [], []), (11, .istore_n 1, 1, [], []), (12, .nop, 0, [3], [])]),
  ([0, 1], [(12, .iload_n 1, 1, [], []), (13, .sipush 1562, 3, [], []), (16, .if_icmp .ge 21, 3, [5, 4], [])]),
  ([0, 1], [(19, .aload_n 0, 1, [], []), (20, .getfield 9, 3, [1, 2, 12], [978, 0]), (23, .iload_n 1, 1, [], []), (24, .aload_n 0, 1, [], []), (25, .getfield 15, 3, [2, 2, 12], [979, 0]), (28, .iload_n 1, 1, [], []), (29, .iaload, 1, [], []), (30, .iastore, 1, [], []), (31, .iinc 1 1, 3, [], []), (34, .goto (-22), 3, [3], [])]),
  ([0], [(37, .aload_n 0, 1, [], []), (38, .getfield 9, 3, [1, 2, 12], [978, 0]), (41, .iconst 0, 1, [], []), (42, .iaload, 1, [], []), (43, .ireturn, 1, [0], [])])]
def km_X12_undo : MT := (yX12_undo, cX12_undo, 2, (some .int), kb_X12_undo)
def kb_X12_count : List (List Nat × List RI) := [
  ([0, 1], [(0, .iload_n 1, 1, [], []), (1, .tableswitch 90 0 6 #[43, 50, 57, 64, 71, 78, 85], 43, [8, 1, 2, 3, 4, 5, 6, 7], [])]),
  ([0], [(44, .aload_n 0, 1, [], []), (45, .getfield 9, 3, [1, 2, 12], [978, 0]), (48, .iconst 0, 1, [], []), (49, .iaload, 1, [], []), (50, .ireturn, 1, [0], [])]),
  ([0], [(51, .aload_n 0, 1, [], []), (52, .getfield 9, 3, [1, 2, 12], [978, 0]), (55, .iconst 1, 1, [], []), (56, .iaload, 1, [], []), (57, .ireturn, 1, [0], [])]),
  ([0], [(58, .aload_n 0, 1, [], []), (59, .getfield 9, 3, [1, 2, 12], [978, 0]), (62, .iconst 2, 1, [], []), (63, .iaload, 1, [], []), (64, .ireturn, 1, [0], [])]),
  ([0], [(65, .aload_n 0, 1, [], []), (66, .getfield 9, 3, [1, 2, 12], [978, 0]), (69, .iconst 3, 1, [], []), (70, .iaload, 1, [], []), (71, .ireturn, 1, [0], [])]),
  ([0], [(72, .aload_n 0, 1, [], []), (73, .getfield 9, 3, [1, 2, 12], [978, 0]), (76, .iconst 4, 1, [], []), (77, .iaload, 1, [], []), (78, .ireturn, 1, [0], [])]),
  ([0], [(79, .aload_n 0, 1, [], []), (80, .getfield 9, 3, [1, 2, 12], [978, 0]), (83, .iconst 5, 1, [], []), (84, .iaload, 1, [], []), (85, .ireturn, 1, [0], [])]),
  ([0], [(86, .aload_n 0, 1, [], []), (87, .getfield 248, 3, [21, 0, 12], [998, 0]), (90, .ireturn, 1, [0], [])]),
  ([], [(91, .iconst (-1), 1, [], []), (92, .ireturn, 1, [0], [])])]
def km_X12_count : MT := (yX12_count, cX12_count, 2, (some .int), kb_X12_count)
def kb_J0_length_8abf5 : List (List Nat × List RI) := [
  ([0], [(0, .aload_n 0, 1, [], []), (1, .getfield 9, 3, [0, 2, 30], [1399, 0]), (4, .arraylength, 1, [], []), (5, .aload_n 0, 1, [], []), (6, .invokevirtual 335, 3, [2, 1, 0, 30, 200], [272, 0, 273, 274, 72, 0, 0, 0]), (9, .nop, 0, [1], [])]),
  ([], [(9, .ishr, 1, [], []), (10, .ireturn, 1, [0], [])])]
def km_J0_length_8abf5 : MT := (yJ0_length_8abf5, cJ0_length_8abf5, 1, (some .int), kb_J0_length_8abf5)
def kb_J0_charAt_5068e : List (List Nat × List RI) := [
  ([0, 1], [(0, .aload_n 0, 1, [], []), (1, .invokevirtual 492, 3, [2, 1, 0, 30, 201], [282, 0, 283, 284, 72, 0, 0, 0]), (4, .nop, 0, [1], [])]),
  ([0, 1], [(4, .ifCond .eq 12, 3, [4, 2], [])]),
  ([0, 1], [(7, .aload_n 0, 1, [], []), (8, .getfield 9, 3, [0, 2, 30], [1399, 0]), (11, .iload_n 1, 1, [], []), (12, .invokestatic 495, 3, [0, 1, 2, 203], [0, 286, 287]), (15, .nop, 0, [3], [])]),
  ([], [(15, .ireturn, 1, [3], [])]),
  ([], [(16, .athrow, 1, [], [])])]
def km_J0_charAt_5068e : MT := (yJ0_charAt_5068e, cJ0_charAt_5068e, 2, (some .char), kb_J0_charAt_5068e)
def kb_J0_indexOf_0f7a4 : List (List Nat × List RI) := [
  ([0, 1], [(0, .aload_n 0, 1, [], []), (1, .iload_n 1, 1, [], []), (2, .iconst 0, 1, [], []), (3, .invokevirtual 633, 3, [2, 1, 2, 30, 199], [342, 0, 343, 344, 72, 0, 0, 0]), (6, .nop, 0, [1], [])]),
  ([], [(6, .ireturn, 1, [0], [])])]
def km_J0_indexOf_0f7a4 : MT := (yJ0_indexOf_0f7a4, cJ0_indexOf_0f7a4, 2, (some .int), kb_J0_indexOf_0f7a4)
def kb_J0_indexOf_7cf53 : List (List Nat × List RI) := [
  ([0, 1, 2], [(0, .aload_n 0, 1, [], []), (1, .invokevirtual 492, 3, [2, 1, 0, 30, 201], [282, 0, 283, 284, 72, 0, 0, 0]), (4, .nop, 0, [1], [])]),
  ([0, 1, 2], [(4, .ifCond .eq 19, 3, [5, 2], [])]),
  ([0, 1, 2], [(7, .aload_n 0, 1, [], []), (8, .getfield 9, 3, [0, 2, 30], [1399, 0]), (11, .iload_n 1, 1, [], []), (12, .iload_n 2, 1, [], []), (13, .aload_n 0, 1, [], []), (14, .invokevirtual 505, 3, [2, 1, 0, 30, 196], [346, 0, 269, 270, 72, 0, 0, 0]), (17, .nop, 0, [3], [])]),
  ([], [(17, .invokestatic 637, 3, [0, 1, 4, 205], [0, 347, 348]), (20, .nop, 0, [4], [])]),
  ([], [(20, .goto 16, 3, [7], [])]),
  ([0, 1, 2], [(23, .aload_n 0, 1, [], []), (24, .getfield 9, 3, [0, 2, 30], [1399, 0]), (27, .iload_n 1, 1, [], []), (28, .iload_n 2, 1, [], []), (29, .aload_n 0, 1, [], []), (30, .invokevirtual 505, 3, [2, 1, 0, 30, 196], [346, 0, 269, 270, 72, 0, 0, 0]), (33, .nop, 0, [6], [])]),
  ([], [(33, .athrow, 1, [], [])]),
  ([], [(36, .ireturn, 1, [0], [])])]
def km_J0_indexOf_7cf53 : MT := (yJ0_indexOf_7cf53, cJ0_indexOf_7cf53, 3, (some .int), kb_J0_indexOf_7cf53)
def kb_J0_coder_7d493 : List (List Nat × List RI) := [
  ([0], [(0, .getstatic 38, 3, [0], [276]), (3, .ifCond .eq 10, 3, [2, 1], [])]),
  ([0], [(6, .aload_n 0, 1, [], []), (7, .getfield 15, 3, [1, 0, 30], [1400, 0]), (10, .goto 4, 3, [3], [])]),
  ([], [(13, .iconst 1, 1, [], []), (14, .nop, 0, [3], [])]),
  ([], [(14, .ireturn, 1, [2], [])])]
def km_J0_coder_7d493 : MT := (yJ0_coder_7d493, cJ0_coder_7d493, 1, (some .byte), kb_J0_coder_7d493)
def kb_J0_isLatin1_aae02 : List (List Nat × List RI) := [
  ([0], [(0, .getstatic 38, 3, [0], [276]), (3, .ifCond .eq 14, 3, [3, 1], [])]),
  ([0], [(6, .aload_n 0, 1, [], []), (7, .getfield 15, 3, [1, 0, 30], [1400, 0]), (10, .ifCond .ne 7, 3, [3, 2], [])]),
  ([], [(13, .iconst 1, 1, [], []), (14, .goto 4, 3, [4], [])]),
  ([], [(17, .iconst 0, 1, [], []), (18, .nop, 0, [4], [])]),
  ([], [(18, .ireturn, 1, [1], [])])]
def km_J0_isLatin1_aae02 : MT := (yJ0_isLatin1_aae02, cJ0_isLatin1_aae02, 1, (some .boolean), kb_J0_isLatin1_aae02)
def kb_J0_checkIndex_df160 : List (List Nat × List RI) := [
  ([0, 1], [(0, .iload_n 0, 1, [], []), (1, .iload_n 1, 1, [], []), (2, .getstatic 1053, 3, [1], [292]), (5, .invokestatic 1059, 3, [0, 1, 3, 208], [0, 294, 295]), (8, .nop, 0, [1], [])]),
  ([], [(8, .pop, 1, [], []), (9, .return_, 1, [], [])])]
def km_J0_checkIndex_df160 : MT := (yJ0_checkIndex_df160, cJ0_checkIndex_df160, 2, none, kb_J0_checkIndex_df160)
def kb_J1_charAt_3b067 : List (List Nat × List RI) := [
  ([0, 1], [(0, .iload_n 1, 1, [], []), (1, .aload_n 0, 1, [], []), (2, .arraylength, 1, [], []), (3, .invokestatic 9, 3, [0, 0, 2, 202], [0, 289, 290]), (6, .nop, 0, [1], [])]),
  ([0, 1], [(6, .aload_n 0, 1, [], []), (7, .iload_n 1, 1, [], []), (8, .baload, 1, [], []), (9, .sipush 255, 3, [], []), (12, .iand, 1, [], []), (13, .i2c, 1, [], []), (14, .ireturn, 1, [3], [])])]
def km_J1_charAt_3b067 : MT := (yJ1_charAt_3b067, cJ1_charAt_3b067, 2, (some .char), kb_J1_charAt_3b067)
def kb_J1_canEncode_9a6ad : List (List Nat × List RI) := [
  ([0], [(0, .iload_n 0, 1, [], []), (1, .ifCond .lt 14, 3, [3, 1], [])]),
  ([0], [(4, .iload_n 0, 1, [], []), (5, .sipush 255, 3, [], []), (8, .if_icmp .gt 7, 3, [3, 2], [])]),
  ([], [(11, .iconst 1, 1, [], []), (12, .goto 4, 3, [4], [])]),
  ([], [(15, .iconst 0, 1, [], []), (16, .nop, 0, [4], [])]),
  ([], [(16, .ireturn, 1, [1], [])])]
def km_J1_canEncode_9a6ad : MT := (yJ1_canEncode_9a6ad, cJ1_canEncode_9a6ad, 1, (some .boolean), kb_J1_canEncode_9a6ad)
def kb_J1_indexOf_4cfef : List (List Nat × List RI) := [
  ([0, 1, 2, 3], [(0, .iload_n 1, 1, [], []), (1, .invokestatic 88, 3, [0, 1, 1, 204], [0, 350, 351]), (4, .nop, 0, [1], [])]),
  ([0, 1, 2, 3], [(4, .ifCond .ne 5, 3, [3, 2], [])]),
  ([], [(7, .iconst (-1), 1, [], []), (8, .ireturn, 1, [0], [])]),
  ([0, 1, 2, 3], [(9, .iload_n 2, 1, [], []), (10, .iconst 0, 1, [], []), (11, .invokestatic 92, 3, [5], [353, 354, 76, 355]), (14, .istore_n 2, 1, [], []), (15, .iload_n 3, 1, [], []), (16, .aload_n 0, 1, [], []), (17, .arraylength, 1, [], []), (18, .invokestatic 38, 3, [6], [356, 357, 76, 358]), (21, .istore_n 3, 1, [], []), (22, .iload_n 2, 1, [], []), (23, .iload_n 3, 1, [], []), (24, .if_icmp .lt 5, 3, [5, 4], [])]),
  ([], [(27, .iconst (-1), 1, [], []), (28, .ireturn, 1, [0], [])]),
  ([0, 1, 2, 3], [(29, .aload_n 0, 1, [], []), (30, .iload_n 1, 1, [], []), (31, .iload_n 2, 1, [], []), (32, .iload_n 3, 1, [], []), (33, .invokestatic 95, 3, [0, 1, 4, 206], [0, 359, 360]), (36, .nop, 0, [6], [])]),
  ([], [(36, .ireturn, 1, [0], [])])]
def km_J1_indexOf_4cfef : MT := (yJ1_indexOf_4cfef, cJ1_indexOf_4cfef, 4, (some .int), kb_J1_indexOf_4cfef)
def kb_J1_indexOfChar_4cfef : List (List Nat × List RI) := [
  ([0, 1, 2, 3], [(0, .iload_n 1, 1, [], []), (1, .i2b, 1, [], []), (2, .istore 4, 2, [], []), (4, .iload_n 2, 1, [], []), (5, .istore 5, 2, [], []), (7, .nop, 0, [1], [])]),
  ([0, 3, 4, 5], [(7, .iload 5, 2, [], []), (9, .iload_n 3, 1, [], []), (10, .if_icmp .ge 21, 3, [5, 2], [])]),
  ([0, 3, 4, 5], [(13, .aload_n 0, 1, [], []), (14, .iload 5, 2, [], []), (16, .baload, 1, [], []), (17, .iload 4, 2, [], []), (19, .if_icmp .ne 6, 3, [4, 3], [])]),
  ([5], [(22, .iload 5, 2, [], []), (24, .ireturn, 1, [0], [])]),
  ([0, 3, 4, 5], [(25, .iinc 5 1, 3, [], []), (28, .goto (-21), 3, [1], [])]),
  ([], [(31, .iconst (-1), 1, [], []), (32, .ireturn, 1, [0], [])])]
def km_J1_indexOfChar_4cfef : MT := (yJ1_indexOfChar_4cfef, cJ1_indexOfChar_4cfef, 6, (some .int), kb_J1_indexOfChar_4cfef)
def kb_J7_copyOf_59c91 : List (List Nat × List RI) := [
  ([0, 1], [(0, .iload_n 1, 1, [], []), (1, .aload_n 0, 1, [], []), (2, .arraylength, 1, [], []), (3, .if_icmp .ne 11, 3, [2, 1], [])]),
  ([], [(6, .athrow, 1, [], [])]),
  ([0, 1], [(14, .iload_n 1, 1, [], []), (15, .newarray .int, 2, [20], [198]), (17, .astore_n 2, 1, [], []), (18, .aload_n 0, 1, [], []), (19, .iconst 0, 1, [], []), (20, .aload_n 2, 1, [], []), (21, .iconst 0, 1, [], []), (22, .aload_n 0, 1, [], []), (23, .arraylength, 1, [], []), (24, .iload_n 1, 1, [], []), (25, .invokestatic 304, 3, [6], [421, 357, 76, 358]), (28, .invokestatic 150, 3, [4], [422, 424, 423, 80]), (31, .aload_n 2, 1, [], []), (32, .areturn, 1, [], [])])]
def km_J7_copyOf_59c91 : MT := (yJ7_copyOf_59c91, cJ7_copyOf_59c91, 3, (some (.array .int)), kb_J7_copyOf_59c91)
def kb_J3_checkIndex_8e157 : List (List Nat × List RI) := [
  ([0, 1], [(0, .iload_n 0, 1, [], []), (1, .ifCond .lt 8, 3, [2, 1], [])]),
  ([0, 1], [(4, .iload_n 0, 1, [], []), (5, .iload_n 1, 1, [], []), (6, .if_icmp .lt 10, 3, [3, 2], [])]),
  ([], [(9, .athrow, 1, [], [])]),
  ([0], [(16, .iload_n 0, 1, [], []), (17, .ireturn, 1, [0], [])])]
def km_J3_checkIndex_8e157 : MT := (yJ3_checkIndex_8e157, cJ3_checkIndex_8e157, 3, (some .int), kb_J3_checkIndex_8e157)
def kb_L_law_0 : List (List Nat × List RI) := [
  ([0], [(0, .new 7, 3, [11, 7], [88, 89, 67]), (3, .dup, 1, [], []), (4, .invokespecial 9, 3, [1, 0, 0, 62, 11], [0, 90, 91]), (7, .nop, 0, [1], [])]),
  ([0], [(7, .astore_n 1, 1, [], []), (8, .new 10, 3, [12, 25], [972, 973, 71]), (11, .dup, 1, [], []), (12, .invokespecial 12, 3, [1, 0, 0, 112, 12], [0, 974, 975]), (15, .nop, 0, [2], [])]),
  ([0, 1], [(15, .astore_n 2, 1, [], []), (16, .iconst 0, 1, [], []), (17, .istore_n 3, 1, [], []), (18, .nop, 0, [3], [])]),
  ([0, 1, 2, 3], [(18, .iload_n 3, 1, [], []), (19, .aload_n 0, 1, [], []), (20, .arraylength, 1, [], []), (21, .bipush 6, 2, [], []), (23, .isub, 1, [], []), (24, .if_icmp .gt 1100, 3, [130, 4], [])]),
  ([0, 1, 2, 3], [(27, .aload_n 0, 1, [], []), (28, .iload_n 3, 1, [], []), (29, .iaload, 1, [], []), (30, .bipush 31, 2, [], []), (32, .iand, 1, [], []), (33, .tableswitch 1085 0 30 #[139, 162, 175, 188, 211, 244, 277, 330, 363, 396, 409, 432, 476, 509, 542, 565, 629, 662, 705, 728, 771, 804, 858, 901, 924, 937, 980, 1003, 1036, 1049, 1062], 139, [129, 5, 9, 13, 17, 21, 25, 29, 33, 37, 41, 45, 49, 53, 57, 61, 65, 69, 73, 77, 81, 85, 89, 93, 97, 101, 105, 109, 113, 117, 121, 125], [])]),
  ([0, 1, 2, 3], [(172, .aload_n 1, 1, [], []), (173, .aload_n 0, 1, [], []), (174, .iload_n 3, 1, [], []), (175, .iconst 1, 1, [], []), (176, .iadd, 1, [], []), (177, .iaload, 1, [], []), (178, .invokevirtual 13, 3, [2, 1, 1, 11, 63], [238, 0, 239, 240, 67, 0, 0, 0]), (181, .nop, 0, [6], [])]),
  ([0, 1, 2, 3], [(181, .aload_n 2, 1, [], []), (182, .aload_n 0, 1, [], []), (183, .iload_n 3, 1, [], []), (184, .iconst 1, 1, [], []), (185, .iadd, 1, [], []), (186, .iaload, 1, [], []), (187, .invokevirtual 17, 3, [2, 1, 1, 12, 117], [1053, 0, 1054, 1055, 71, 0, 0, 0]), (190, .nop, 0, [7], [])]),
  ([0, 1, 2, 3], [(190, .if_icmp .eq 928, 3, [129, 8], [])]),
  ([], [(193, .iconst 0, 1, [], []), (194, .ireturn, 1, [1], [])]),
  ([0, 1, 2, 3], [(195, .aload_n 1, 1, [], []), (196, .invokevirtual 18, 3, [2, 1, 0, 11, 64], [242, 0, 243, 244, 67, 0, 0, 0]), (199, .nop, 0, [10], [])]),
  ([0, 1, 2, 3], [(199, .aload_n 2, 1, [], []), (200, .invokevirtual 22, 3, [2, 1, 0, 12, 131], [1060, 0, 1061, 1062, 71, 0, 0, 0]), (203, .nop, 0, [11], [])]),
  ([0, 1, 2, 3], [(203, .if_icmp .eq 915, 3, [129, 12], [])]),
  ([], [(206, .iconst 0, 1, [], []), (207, .ireturn, 1, [1], [])]),
  ([0, 1, 2, 3], [(208, .aload_n 1, 1, [], []), (209, .invokevirtual 23, 3, [2, 1, 0, 11, 65], [445, 0, 446, 447, 67, 0, 0, 0]), (212, .nop, 0, [14], [])]),
  ([0, 1, 2, 3], [(212, .aload_n 2, 1, [], []), (213, .invokevirtual 26, 3, [2, 1, 0, 12, 132], [1123, 0, 1124, 1125, 71, 0, 0, 0]), (216, .nop, 0, [15], [])]),
  ([0, 1, 2, 3], [(216, .if_icmp .eq 902, 3, [129, 16], [])])]
def kb_L_law_1 : List (List Nat × List RI) := [
  ([], [(219, .iconst 0, 1, [], []), (220, .ireturn, 1, [1], [])]),
  ([0, 1, 2, 3], [(221, .aload_n 1, 1, [], []), (222, .aload_n 0, 1, [], []), (223, .iload_n 3, 1, [], []), (224, .iconst 1, 1, [], []), (225, .iadd, 1, [], []), (226, .iaload, 1, [], []), (227, .invokevirtual 27, 3, [2, 1, 1, 11, 66], [454, 0, 455, 456, 67, 0, 0, 0]), (230, .nop, 0, [18], [])]),
  ([0, 1, 2, 3], [(230, .aload_n 2, 1, [], []), (231, .aload_n 0, 1, [], []), (232, .iload_n 3, 1, [], []), (233, .iconst 1, 1, [], []), (234, .iadd, 1, [], []), (235, .iaload, 1, [], []), (236, .invokevirtual 30, 3, [2, 1, 1, 12, 138], [1128, 0, 1129, 1130, 71, 0, 0, 0]), (239, .nop, 0, [19], [])]),
  ([0, 1, 2, 3], [(239, .if_icmp .eq 879, 3, [129, 20], [])]),
  ([], [(242, .iconst 0, 1, [], []), (243, .ireturn, 1, [1], [])]),
  ([0, 1, 2, 3], [(244, .aload_n 1, 1, [], []), (245, .aload_n 0, 1, [], []), (246, .iload_n 3, 1, [], []), (247, .iconst 1, 1, [], []), (248, .iadd, 1, [], []), (249, .iaload, 1, [], []), (250, .aload_n 0, 1, [], []), (251, .iload_n 3, 1, [], []), (252, .iconst 2, 1, [], []), (253, .iadd, 1, [], []), (254, .iaload, 1, [], []), (255, .invokevirtual 31, 3, [2, 1, 2, 11, 67], [464, 0, 465, 466, 67, 0, 0, 0]), (258, .nop, 0, [22], [])]),
  ([0, 1, 2, 3], [(258, .aload_n 2, 1, [], []), (259, .aload_n 0, 1, [], []), (260, .iload_n 3, 1, [], []), (261, .iconst 1, 1, [], []), (262, .iadd, 1, [], []), (263, .iaload, 1, [], []), (264, .aload_n 0, 1, [], []), (265, .iload_n 3, 1, [], []), (266, .iconst 2, 1, [], []), (267, .iadd, 1, [], []), (268, .iaload, 1, [], []), (269, .invokevirtual 35, 3, [2, 1, 2, 12, 139], [1132, 0, 1133, 1134, 71, 0, 0, 0]), (272, .nop, 0, [23], [])]),
  ([0, 1, 2, 3], [(272, .if_icmp .eq 846, 3, [129, 24], [])]),
  ([], [(275, .iconst 0, 1, [], []), (276, .ireturn, 1, [1], [])])]
def kb_L_law_2 : List (List Nat × List RI) := [
  ([0, 1, 2, 3], [(277, .aload_n 1, 1, [], []), (278, .aload_n 0, 1, [], []), (279, .iload_n 3, 1, [], []), (280, .iconst 1, 1, [], []), (281, .iadd, 1, [], []), (282, .iaload, 1, [], []), (283, .aload_n 0, 1, [], []), (284, .iload_n 3, 1, [], []), (285, .iconst 2, 1, [], []), (286, .iadd, 1, [], []), (287, .iaload, 1, [], []), (288, .invokevirtual 36, 3, [2, 1, 2, 11, 68], [475, 0, 476, 477, 67, 0, 0, 0]), (291, .nop, 0, [26], [])]),
  ([0, 1, 2, 3], [(291, .aload_n 2, 1, [], []), (292, .aload_n 0, 1, [], []), (293, .iload_n 3, 1, [], []), (294, .iconst 1, 1, [], []), (295, .iadd, 1, [], []), (296, .iaload, 1, [], []), (297, .aload_n 0, 1, [], []), (298, .iload_n 3, 1, [], []), (299, .iconst 2, 1, [], []), (300, .iadd, 1, [], []), (301, .iaload, 1, [], []), (302, .invokevirtual 39, 3, [2, 1, 2, 12, 140], [1140, 0, 1141, 1142, 71, 0, 0, 0]), (305, .nop, 0, [27], [])]),
  ([0, 1, 2, 3], [(305, .if_icmp .eq 813, 3, [129, 28], [])]),
  ([], [(308, .iconst 0, 1, [], []), (309, .ireturn, 1, [1], [])]),
  ([0, 1, 2, 3], [(310, .aload_n 1, 1, [], []), (311, .aload_n 0, 1, [], []), (312, .iload_n 3, 1, [], []), (313, .iconst 1, 1, [], []), (314, .iadd, 1, [], []), (315, .iaload, 1, [], []), (316, .aload_n 0, 1, [], []), (317, .iload_n 3, 1, [], []), (318, .iconst 2, 1, [], []), (319, .iadd, 1, [], []), (320, .iaload, 1, [], []), (321, .aload_n 0, 1, [], []), (322, .iload_n 3, 1, [], []), (323, .iconst 3, 1, [], []), (324, .iadd, 1, [], []), (325, .iaload, 1, [], []), (326, .aload_n 0, 1, [], []), (327, .iload_n 3, 1, [], []), (328, .iconst 4, 1, [], []), (329, .iadd, 1, [], []), (330, .iaload, 1, [], []), (331, .invokevirtual 40, 3, [2, 1, 4, 11, 69], [495, 0, 496, 497, 67, 0, 0, 0]), (334, .nop, 0, [30], [])])]
def kb_L_law_3 : List (List Nat × List RI) := [
  ([0, 1, 2, 3], [(334, .aload_n 2, 1, [], []), (335, .aload_n 0, 1, [], []), (336, .iload_n 3, 1, [], []), (337, .iconst 1, 1, [], []), (338, .iadd, 1, [], []), (339, .iaload, 1, [], []), (340, .aload_n 0, 1, [], []), (341, .iload_n 3, 1, [], []), (342, .iconst 2, 1, [], []), (343, .iadd, 1, [], []), (344, .iaload, 1, [], []), (345, .aload_n 0, 1, [], []), (346, .iload_n 3, 1, [], []), (347, .iconst 3, 1, [], []), (348, .iadd, 1, [], []), (349, .iaload, 1, [], []), (350, .aload_n 0, 1, [], []), (351, .iload_n 3, 1, [], []), (352, .iconst 4, 1, [], []), (353, .iadd, 1, [], []), (354, .iaload, 1, [], []), (355, .invokevirtual 44, 3, [2, 1, 4, 12, 141], [1155, 0, 1156, 1157, 71, 0, 0, 0]), (358, .nop, 0, [31], [])]),
  ([0, 1, 2, 3], [(358, .if_icmp .eq 760, 3, [129, 32], [])]),
  ([], [(361, .iconst 0, 1, [], []), (362, .ireturn, 1, [1], [])]),
  ([0, 1, 2, 3], [(363, .aload_n 1, 1, [], []), (364, .aload_n 0, 1, [], []), (365, .iload_n 3, 1, [], []), (366, .iconst 1, 1, [], []), (367, .iadd, 1, [], []), (368, .iaload, 1, [], []), (369, .aload_n 0, 1, [], []), (370, .iload_n 3, 1, [], []), (371, .iconst 2, 1, [], []), (372, .iadd, 1, [], []), (373, .iaload, 1, [], []), (374, .invokevirtual 45, 3, [2, 1, 2, 11, 71], [645, 0, 646, 647, 67, 0, 0, 0]), (377, .nop, 0, [34], [])]),
  ([0, 1, 2, 3], [(377, .aload_n 2, 1, [], []), (378, .aload_n 0, 1, [], []), (379, .iload_n 3, 1, [], []), (380, .iconst 1, 1, [], []), (381, .iadd, 1, [], []), (382, .iaload, 1, [], []), (383, .aload_n 0, 1, [], []), (384, .iload_n 3, 1, [], []), (385, .iconst 2, 1, [], []), (386, .iadd, 1, [], []), (387, .iaload, 1, [], []), (388, .invokevirtual 48, 3, [2, 1, 2, 12, 145], [1159, 0, 1160, 1161, 71, 0, 0, 0]), (391, .nop, 0, [35], [])]),
  ([0, 1, 2, 3], [(391, .if_icmp .eq 727, 3, [129, 36], [])]),
  ([], [(394, .iconst 0, 1, [], []), (395, .ireturn, 1, [1], [])])]
def kb_L_law_4 : List (List Nat × List RI) := [
  ([0, 1, 2, 3], [(396, .aload_n 1, 1, [], []), (397, .aload_n 0, 1, [], []), (398, .iload_n 3, 1, [], []), (399, .iconst 1, 1, [], []), (400, .iadd, 1, [], []), (401, .iaload, 1, [], []), (402, .aload_n 0, 1, [], []), (403, .iload_n 3, 1, [], []), (404, .iconst 2, 1, [], []), (405, .iadd, 1, [], []), (406, .iaload, 1, [], []), (407, .invokevirtual 49, 3, [2, 1, 2, 11, 72], [711, 0, 712, 713, 67, 0, 0, 0]), (410, .nop, 0, [38], [])]),
  ([0, 1, 2, 3], [(410, .aload_n 2, 1, [], []), (411, .aload_n 0, 1, [], []), (412, .iload_n 3, 1, [], []), (413, .iconst 1, 1, [], []), (414, .iadd, 1, [], []), (415, .iaload, 1, [], []), (416, .aload_n 0, 1, [], []), (417, .iload_n 3, 1, [], []), (418, .iconst 2, 1, [], []), (419, .iadd, 1, [], []), (420, .iaload, 1, [], []), (421, .invokevirtual 52, 3, [2, 1, 2, 12, 146], [1179, 0, 1180, 1181, 71, 0, 0, 0]), (424, .nop, 0, [39], [])]),
  ([0, 1, 2, 3], [(424, .if_icmp .eq 694, 3, [129, 40], [])]),
  ([], [(427, .iconst 0, 1, [], []), (428, .ireturn, 1, [1], [])]),
  ([0, 1, 2, 3], [(429, .aload_n 1, 1, [], []), (430, .invokevirtual 53, 3, [2, 1, 0, 11, 73], [719, 0, 720, 721, 67, 0, 0, 0]), (433, .nop, 0, [42], [])]),
  ([0, 1, 2, 3], [(433, .aload_n 2, 1, [], []), (434, .invokevirtual 56, 3, [2, 1, 0, 12, 147], [1183, 0, 1184, 1185, 71, 0, 0, 0]), (437, .nop, 0, [43], [])]),
  ([0, 1, 2, 3], [(437, .if_icmp .eq 681, 3, [129, 44], [])]),
  ([], [(440, .iconst 0, 1, [], []), (441, .ireturn, 1, [1], [])]),
  ([0, 1, 2, 3], [(442, .aload_n 1, 1, [], []), (443, .aload_n 0, 1, [], []), (444, .iload_n 3, 1, [], []), (445, .iconst 1, 1, [], []), (446, .iadd, 1, [], []), (447, .iaload, 1, [], []), (448, .invokevirtual 57, 3, [2, 1, 1, 11, 74], [723, 0, 724, 725, 67, 0, 0, 0]), (451, .nop, 0, [46], [])]),
  ([0, 1, 2, 3], [(451, .aload_n 2, 1, [], []), (452, .aload_n 0, 1, [], []), (453, .iload_n 3, 1, [], []), (454, .iconst 1, 1, [], []), (455, .iadd, 1, [], []), (456, .iaload, 1, [], []), (457, .invokevirtual 60, 3, [2, 1, 1, 12, 148], [1187, 0, 1188, 1189, 71, 0, 0, 0]), (460, .nop, 0, [47], [])]),
  ([0, 1, 2, 3], [(460, .if_icmp .eq 658, 3, [129, 48], [])]),
  ([], [(463, .iconst 0, 1, [], []), (464, .ireturn, 1, [1], [])])]
def kb_L_law_5 : List (List Nat × List RI) := [
  ([0, 1, 2, 3], [(465, .aload_n 1, 1, [], []), (466, .aload_n 0, 1, [], []), (467, .iload_n 3, 1, [], []), (468, .iconst 1, 1, [], []), (469, .iadd, 1, [], []), (470, .iaload, 1, [], []), (471, .aload_n 0, 1, [], []), (472, .iload_n 3, 1, [], []), (473, .iconst 2, 1, [], []), (474, .iadd, 1, [], []), (475, .iaload, 1, [], []), (476, .aload_n 0, 1, [], []), (477, .iload_n 3, 1, [], []), (478, .iconst 3, 1, [], []), (479, .iadd, 1, [], []), (480, .iaload, 1, [], []), (481, .invokevirtual 61, 3, [2, 2, 3, 11, 75], [727, 0, 728, 729, 67, 0, 0, 0]), (484, .nop, 0, [50], [])]),
  ([0, 1, 2, 3], [(484, .aload_n 2, 1, [], []), (485, .aload_n 0, 1, [], []), (486, .iload_n 3, 1, [], []), (487, .iconst 1, 1, [], []), (488, .iadd, 1, [], []), (489, .iaload, 1, [], []), (490, .aload_n 0, 1, [], []), (491, .iload_n 3, 1, [], []), (492, .iconst 2, 1, [], []), (493, .iadd, 1, [], []), (494, .iaload, 1, [], []), (495, .aload_n 0, 1, [], []), (496, .iload_n 3, 1, [], []), (497, .iconst 3, 1, [], []), (498, .iadd, 1, [], []), (499, .iaload, 1, [], []), (500, .invokevirtual 65, 3, [2, 2, 3, 12, 160], [1191, 0, 1192, 1193, 71, 0, 0, 0]), (503, .nop, 0, [51], [])]),
  ([0, 1, 2, 3], [(503, .lcmp, 1, [], []), (504, .ifCond .eq 614, 3, [129, 52], [])]),
  ([], [(507, .iconst 0, 1, [], []), (508, .ireturn, 1, [1], [])]),
  ([0, 1, 2, 3], [(509, .aload_n 1, 1, [], []), (510, .aload_n 0, 1, [], []), (511, .iload_n 3, 1, [], []), (512, .iconst 1, 1, [], []), (513, .iadd, 1, [], []), (514, .iaload, 1, [], []), (515, .aload_n 0, 1, [], []), (516, .iload_n 3, 1, [], []), (517, .iconst 2, 1, [], []), (518, .iadd, 1, [], []), (519, .iaload, 1, [], []), (520, .invokevirtual 66, 3, [2, 1, 2, 11, 76], [787, 0, 788, 789, 67, 0, 0, 0]), (523, .nop, 0, [54], [])])]
def kb_L_law_6 : List (List Nat × List RI) := [
  ([0, 1, 2, 3], [(523, .aload_n 2, 1, [], []), (524, .aload_n 0, 1, [], []), (525, .iload_n 3, 1, [], []), (526, .iconst 1, 1, [], []), (527, .iadd, 1, [], []), (528, .iaload, 1, [], []), (529, .aload_n 0, 1, [], []), (530, .iload_n 3, 1, [], []), (531, .iconst 2, 1, [], []), (532, .iadd, 1, [], []), (533, .iaload, 1, [], []), (534, .invokevirtual 69, 3, [2, 1, 2, 12, 161], [1249, 0, 1250, 1251, 71, 0, 0, 0]), (537, .nop, 0, [55], [])]),
  ([0, 1, 2, 3], [(537, .if_icmp .eq 581, 3, [129, 56], [])]),
  ([], [(540, .iconst 0, 1, [], []), (541, .ireturn, 1, [1], [])]),
  ([0, 1, 2, 3], [(542, .aload_n 1, 1, [], []), (543, .aload_n 0, 1, [], []), (544, .iload_n 3, 1, [], []), (545, .iconst 1, 1, [], []), (546, .iadd, 1, [], []), (547, .iaload, 1, [], []), (548, .aload_n 0, 1, [], []), (549, .iload_n 3, 1, [], []), (550, .iconst 2, 1, [], []), (551, .iadd, 1, [], []), (552, .iaload, 1, [], []), (553, .invokevirtual 70, 3, [2, 1, 2, 11, 77], [791, 0, 792, 793, 67, 0, 0, 0]), (556, .nop, 0, [58], [])]),
  ([0, 1, 2, 3], [(556, .aload_n 2, 1, [], []), (557, .aload_n 0, 1, [], []), (558, .iload_n 3, 1, [], []), (559, .iconst 1, 1, [], []), (560, .iadd, 1, [], []), (561, .iaload, 1, [], []), (562, .aload_n 0, 1, [], []), (563, .iload_n 3, 1, [], []), (564, .iconst 2, 1, [], []), (565, .iadd, 1, [], []), (566, .iaload, 1, [], []), (567, .invokevirtual 73, 3, [2, 1, 2, 12, 162], [1253, 0, 1254, 1255, 71, 0, 0, 0]), (570, .nop, 0, [59], [])]),
  ([0, 1, 2, 3], [(570, .if_icmp .eq 548, 3, [129, 60], [])]),
  ([], [(573, .iconst 0, 1, [], []), (574, .ireturn, 1, [1], [])]),
  ([0, 1, 2, 3], [(575, .aload_n 1, 1, [], []), (576, .aload_n 0, 1, [], []), (577, .iload_n 3, 1, [], []), (578, .iconst 1, 1, [], []), (579, .iadd, 1, [], []), (580, .iaload, 1, [], []), (581, .invokevirtual 74, 3, [2, 1, 1, 11, 78], [808, 0, 809, 810, 67, 0, 0, 0]), (584, .nop, 0, [62], [])])]
def kb_L_law_7 : List (List Nat × List RI) := [
  ([0, 1, 2, 3], [(584, .aload_n 2, 1, [], []), (585, .aload_n 0, 1, [], []), (586, .iload_n 3, 1, [], []), (587, .iconst 1, 1, [], []), (588, .iadd, 1, [], []), (589, .iaload, 1, [], []), (590, .invokevirtual 77, 3, [2, 1, 1, 12, 164], [1257, 0, 1258, 1259, 71, 0, 0, 0]), (593, .nop, 0, [63], [])]),
  ([0, 1, 2, 3], [(593, .if_icmp .eq 525, 3, [129, 64], [])]),
  ([], [(596, .iconst 0, 1, [], []), (597, .ireturn, 1, [1], [])]),
  ([0, 1, 2, 3], [(598, .aload_n 1, 1, [], []), (599, .aload_n 0, 1, [], []), (600, .iload_n 3, 1, [], []), (601, .iconst 1, 1, [], []), (602, .iadd, 1, [], []), (603, .iaload, 1, [], []), (604, .aload_n 0, 1, [], []), (605, .iload_n 3, 1, [], []), (606, .iconst 2, 1, [], []), (607, .iadd, 1, [], []), (608, .iaload, 1, [], []), (609, .aload_n 0, 1, [], []), (610, .iload_n 3, 1, [], []), (611, .iconst 3, 1, [], []), (612, .iadd, 1, [], []), (613, .iaload, 1, [], []), (614, .aload_n 0, 1, [], []), (615, .iload_n 3, 1, [], []), (616, .iconst 4, 1, [], []), (617, .iadd, 1, [], []), (618, .iaload, 1, [], []), (619, .aload_n 0, 1, [], []), (620, .iload_n 3, 1, [], []), (621, .iconst 5, 1, [], []), (622, .iadd, 1, [], []), (623, .iaload, 1, [], []), (624, .invokevirtual 78, 3, [2, 2, 5, 11, 79], [812, 0, 813, 814, 67, 0, 0, 0]), (627, .nop, 0, [66], [])])]
def kb_L_law_8 : List (List Nat × List RI) := [
  ([0, 1, 2, 3], [(627, .aload_n 2, 1, [], []), (628, .aload_n 0, 1, [], []), (629, .iload_n 3, 1, [], []), (630, .iconst 1, 1, [], []), (631, .iadd, 1, [], []), (632, .iaload, 1, [], []), (633, .aload_n 0, 1, [], []), (634, .iload_n 3, 1, [], []), (635, .iconst 2, 1, [], []), (636, .iadd, 1, [], []), (637, .iaload, 1, [], []), (638, .aload_n 0, 1, [], []), (639, .iload_n 3, 1, [], []), (640, .iconst 3, 1, [], []), (641, .iadd, 1, [], []), (642, .iaload, 1, [], []), (643, .aload_n 0, 1, [], []), (644, .iload_n 3, 1, [], []), (645, .iconst 4, 1, [], []), (646, .iadd, 1, [], []), (647, .iaload, 1, [], []), (648, .aload_n 0, 1, [], []), (649, .iload_n 3, 1, [], []), (650, .iconst 5, 1, [], []), (651, .iadd, 1, [], []), (652, .iaload, 1, [], []), (653, .invokevirtual 82, 3, [2, 2, 5, 12, 165], [1265, 0, 1266, 1267, 71, 0, 0, 0]), (656, .nop, 0, [67], [])]),
  ([0, 1, 2, 3], [(656, .lcmp, 1, [], []), (657, .ifCond .eq 461, 3, [129, 68], [])]),
  ([], [(660, .iconst 0, 1, [], []), (661, .ireturn, 1, [1], [])]),
  ([0, 1, 2, 3], [(662, .aload_n 1, 1, [], []), (663, .aload_n 0, 1, [], []), (664, .iload_n 3, 1, [], []), (665, .iconst 1, 1, [], []), (666, .iadd, 1, [], []), (667, .iaload, 1, [], []), (668, .aload_n 0, 1, [], []), (669, .iload_n 3, 1, [], []), (670, .iconst 2, 1, [], []), (671, .iadd, 1, [], []), (672, .iaload, 1, [], []), (673, .invokevirtual 83, 3, [2, 1, 2, 11, 80], [816, 0, 817, 818, 67, 0, 0, 0]), (676, .nop, 0, [70], [])]),
  ([0, 1, 2, 3], [(676, .aload_n 2, 1, [], []), (677, .aload_n 0, 1, [], []), (678, .iload_n 3, 1, [], []), (679, .iconst 1, 1, [], []), (680, .iadd, 1, [], []), (681, .iaload, 1, [], []), (682, .aload_n 0, 1, [], []), (683, .iload_n 3, 1, [], []), (684, .iconst 2, 1, [], []), (685, .iadd, 1, [], []), (686, .iaload, 1, [], []), (687, .invokevirtual 86, 3, [2, 1, 2, 12, 170], [1269, 0, 1270, 1271, 71, 0, 0, 0]), (690, .nop, 0, [71], [])]),
  ([0, 1, 2, 3], [(690, .if_icmp .eq 428, 3, [129, 72], [])])]
def kb_L_law_9 : List (List Nat × List RI) := [
  ([], [(693, .iconst 0, 1, [], []), (694, .ireturn, 1, [1], [])]),
  ([0, 1, 2, 3], [(695, .aload_n 1, 1, [], []), (696, .aload_n 0, 1, [], []), (697, .iload_n 3, 1, [], []), (698, .iconst 1, 1, [], []), (699, .iadd, 1, [], []), (700, .iaload, 1, [], []), (701, .aload_n 0, 1, [], []), (702, .iload_n 3, 1, [], []), (703, .iconst 2, 1, [], []), (704, .iadd, 1, [], []), (705, .iaload, 1, [], []), (706, .aload_n 0, 1, [], []), (707, .iload_n 3, 1, [], []), (708, .iconst 3, 1, [], []), (709, .iadd, 1, [], []), (710, .iaload, 1, [], []), (711, .invokevirtual 87, 3, [2, 1, 3, 11, 81], [836, 0, 837, 838, 67, 0, 0, 0]), (714, .nop, 0, [74], [])]),
  ([0, 1, 2, 3], [(714, .aload_n 2, 1, [], []), (715, .aload_n 0, 1, [], []), (716, .iload_n 3, 1, [], []), (717, .iconst 1, 1, [], []), (718, .iadd, 1, [], []), (719, .iaload, 1, [], []), (720, .aload_n 0, 1, [], []), (721, .iload_n 3, 1, [], []), (722, .iconst 2, 1, [], []), (723, .iadd, 1, [], []), (724, .iaload, 1, [], []), (725, .aload_n 0, 1, [], []), (726, .iload_n 3, 1, [], []), (727, .iconst 3, 1, [], []), (728, .iadd, 1, [], []), (729, .iaload, 1, [], []), (730, .invokevirtual 91, 3, [2, 1, 3, 12, 171], [1289, 0, 1290, 1291, 71, 0, 0, 0]), (733, .nop, 0, [75], [])]),
  ([0, 1, 2, 3], [(733, .if_icmp .eq 385, 3, [129, 76], [])]),
  ([], [(736, .iconst 0, 1, [], []), (737, .ireturn, 1, [1], [])]),
  ([0, 1, 2, 3], [(738, .aload_n 1, 1, [], []), (739, .aload_n 0, 1, [], []), (740, .iload_n 3, 1, [], []), (741, .iconst 1, 1, [], []), (742, .iadd, 1, [], []), (743, .iaload, 1, [], []), (744, .invokevirtual 92, 3, [2, 1, 1, 11, 82], [840, 0, 841, 842, 67, 0, 0, 0]), (747, .nop, 0, [78], [])]),
  ([0, 1, 2, 3], [(747, .aload_n 2, 1, [], []), (748, .aload_n 0, 1, [], []), (749, .iload_n 3, 1, [], []), (750, .iconst 1, 1, [], []), (751, .iadd, 1, [], []), (752, .iaload, 1, [], []), (753, .invokevirtual 95, 3, [2, 1, 1, 12, 172], [1293, 0, 1294, 1295, 71, 0, 0, 0]), (756, .nop, 0, [79], [])]),
  ([0, 1, 2, 3], [(756, .if_icmp .eq 362, 3, [129, 80], [])]),
  ([], [(759, .iconst 0, 1, [], []), (760, .ireturn, 1, [1], [])])]
def kb_L_law_10 : List (List Nat × List RI) := [
  ([0, 1, 2, 3], [(761, .aload_n 1, 1, [], []), (762, .aload_n 0, 1, [], []), (763, .iload_n 3, 1, [], []), (764, .iconst 1, 1, [], []), (765, .iadd, 1, [], []), (766, .iaload, 1, [], []), (767, .aload_n 0, 1, [], []), (768, .iload_n 3, 1, [], []), (769, .iconst 2, 1, [], []), (770, .iadd, 1, [], []), (771, .iaload, 1, [], []), (772, .aload_n 0, 1, [], []), (773, .iload_n 3, 1, [], []), (774, .iconst 3, 1, [], []), (775, .iadd, 1, [], []), (776, .iaload, 1, [], []), (777, .invokevirtual 96, 3, [2, 1, 3, 11, 83], [845, 0, 846, 847, 67, 0, 0, 0]), (780, .nop, 0, [82], [])]),
  ([0, 1, 2, 3], [(780, .aload_n 2, 1, [], []), (781, .aload_n 0, 1, [], []), (782, .iload_n 3, 1, [], []), (783, .iconst 1, 1, [], []), (784, .iadd, 1, [], []), (785, .iaload, 1, [], []), (786, .aload_n 0, 1, [], []), (787, .iload_n 3, 1, [], []), (788, .iconst 2, 1, [], []), (789, .iadd, 1, [], []), (790, .iaload, 1, [], []), (791, .aload_n 0, 1, [], []), (792, .iload_n 3, 1, [], []), (793, .iconst 3, 1, [], []), (794, .iadd, 1, [], []), (795, .iaload, 1, [], []), (796, .invokevirtual 99, 3, [2, 1, 3, 12, 173], [1297, 0, 1298, 1299, 71, 0, 0, 0]), (799, .nop, 0, [83], [])]),
  ([0, 1, 2, 3], [(799, .if_icmp .eq 319, 3, [129, 84], [])]),
  ([], [(802, .iconst 0, 1, [], []), (803, .ireturn, 1, [1], [])]),
  ([0, 1, 2, 3], [(804, .aload_n 1, 1, [], []), (805, .aload_n 0, 1, [], []), (806, .iload_n 3, 1, [], []), (807, .iconst 1, 1, [], []), (808, .iadd, 1, [], []), (809, .iaload, 1, [], []), (810, .aload_n 0, 1, [], []), (811, .iload_n 3, 1, [], []), (812, .iconst 2, 1, [], []), (813, .iadd, 1, [], []), (814, .iaload, 1, [], []), (815, .invokevirtual 100, 3, [2, 1, 2, 11, 84], [849, 0, 850, 851, 67, 0, 0, 0]), (818, .nop, 0, [86], [])])]
def kb_L_law_11 : List (List Nat × List RI) := [
  ([0, 1, 2, 3], [(818, .aload_n 2, 1, [], []), (819, .aload_n 0, 1, [], []), (820, .iload_n 3, 1, [], []), (821, .iconst 1, 1, [], []), (822, .iadd, 1, [], []), (823, .iaload, 1, [], []), (824, .aload_n 0, 1, [], []), (825, .iload_n 3, 1, [], []), (826, .iconst 2, 1, [], []), (827, .iadd, 1, [], []), (828, .iaload, 1, [], []), (829, .invokevirtual 103, 3, [2, 1, 2, 12, 176], [1309, 0, 1310, 1311, 71, 0, 0, 0]), (832, .nop, 0, [87], [])]),
  ([0, 1, 2, 3], [(832, .if_icmp .eq 286, 3, [129, 88], [])]),
  ([], [(835, .iconst 0, 1, [], []), (836, .ireturn, 1, [1], [])]),
  ([0, 1, 2, 3], [(837, .aload_n 1, 1, [], []), (838, .aload_n 0, 1, [], []), (839, .iload_n 3, 1, [], []), (840, .iconst 1, 1, [], []), (841, .iadd, 1, [], []), (842, .iaload, 1, [], []), (843, .aload_n 0, 1, [], []), (844, .iload_n 3, 1, [], []), (845, .iconst 2, 1, [], []), (846, .iadd, 1, [], []), (847, .iaload, 1, [], []), (848, .aload_n 0, 1, [], []), (849, .iload_n 3, 1, [], []), (850, .iconst 3, 1, [], []), (851, .iadd, 1, [], []), (852, .iaload, 1, [], []), (853, .aload_n 0, 1, [], []), (854, .iload_n 3, 1, [], []), (855, .iconst 4, 1, [], []), (856, .iadd, 1, [], []), (857, .iaload, 1, [], []), (858, .invokevirtual 104, 3, [2, 2, 4, 11, 85], [853, 0, 732, 733, 67, 0, 0, 0]), (861, .nop, 0, [90], [])])]
def kb_L_law_12 : List (List Nat × List RI) := [
  ([0, 1, 2, 3], [(861, .aload_n 2, 1, [], []), (862, .aload_n 0, 1, [], []), (863, .iload_n 3, 1, [], []), (864, .iconst 1, 1, [], []), (865, .iadd, 1, [], []), (866, .iaload, 1, [], []), (867, .aload_n 0, 1, [], []), (868, .iload_n 3, 1, [], []), (869, .iconst 2, 1, [], []), (870, .iadd, 1, [], []), (871, .iaload, 1, [], []), (872, .aload_n 0, 1, [], []), (873, .iload_n 3, 1, [], []), (874, .iconst 3, 1, [], []), (875, .iadd, 1, [], []), (876, .iaload, 1, [], []), (877, .aload_n 0, 1, [], []), (878, .iload_n 3, 1, [], []), (879, .iconst 4, 1, [], []), (880, .iadd, 1, [], []), (881, .iaload, 1, [], []), (882, .invokevirtual 108, 3, [2, 2, 4, 12, 178], [1313, 0, 1314, 1315, 71, 0, 0, 0]), (885, .nop, 0, [91], [])]),
  ([0, 1, 2, 3], [(885, .lcmp, 1, [], []), (886, .ifCond .eq 232, 3, [129, 92], [])]),
  ([], [(889, .iconst 0, 1, [], []), (890, .ireturn, 1, [1], [])]),
  ([0, 1, 2, 3], [(891, .aload_n 1, 1, [], []), (892, .aload_n 0, 1, [], []), (893, .iload_n 3, 1, [], []), (894, .iconst 1, 1, [], []), (895, .iadd, 1, [], []), (896, .iaload, 1, [], []), (897, .aload_n 0, 1, [], []), (898, .iload_n 3, 1, [], []), (899, .iconst 2, 1, [], []), (900, .iadd, 1, [], []), (901, .iaload, 1, [], []), (902, .aload_n 0, 1, [], []), (903, .iload_n 3, 1, [], []), (904, .iconst 3, 1, [], []), (905, .iadd, 1, [], []), (906, .iaload, 1, [], []), (907, .invokevirtual 109, 3, [2, 1, 3, 11, 86], [854, 0, 855, 856, 67, 0, 0, 0]), (910, .nop, 0, [94], [])])]
def kb_L_law_13 : List (List Nat × List RI) := [
  ([0, 1, 2, 3], [(910, .aload_n 2, 1, [], []), (911, .aload_n 0, 1, [], []), (912, .iload_n 3, 1, [], []), (913, .iconst 1, 1, [], []), (914, .iadd, 1, [], []), (915, .iaload, 1, [], []), (916, .aload_n 0, 1, [], []), (917, .iload_n 3, 1, [], []), (918, .iconst 2, 1, [], []), (919, .iadd, 1, [], []), (920, .iaload, 1, [], []), (921, .aload_n 0, 1, [], []), (922, .iload_n 3, 1, [], []), (923, .iconst 3, 1, [], []), (924, .iadd, 1, [], []), (925, .iaload, 1, [], []), (926, .invokevirtual 112, 3, [2, 1, 3, 12, 179], [1321, 0, 1322, 1323, 71, 0, 0, 0]), (929, .nop, 0, [95], [])]),
  ([0, 1, 2, 3], [(929, .if_icmp .eq 189, 3, [129, 96], [])]),
  ([], [(932, .iconst 0, 1, [], []), (933, .ireturn, 1, [1], [])]),
  ([0, 1, 2, 3], [(934, .aload_n 1, 1, [], []), (935, .aload_n 0, 1, [], []), (936, .iload_n 3, 1, [], []), (937, .iconst 1, 1, [], []), (938, .iadd, 1, [], []), (939, .iaload, 1, [], []), (940, .invokevirtual 113, 3, [2, 1, 1, 11, 95], [858, 0, 859, 860, 67, 0, 0, 0]), (943, .nop, 0, [98], [])]),
  ([0, 1, 2, 3], [(943, .aload_n 2, 1, [], []), (944, .aload_n 0, 1, [], []), (945, .iload_n 3, 1, [], []), (946, .iconst 1, 1, [], []), (947, .iadd, 1, [], []), (948, .iaload, 1, [], []), (949, .invokevirtual 116, 3, [2, 1, 1, 12, 180], [1325, 0, 1326, 1327, 71, 0, 0, 0]), (952, .nop, 0, [99], [])]),
  ([0, 1, 2, 3], [(952, .if_icmp .eq 166, 3, [129, 100], [])]),
  ([], [(955, .iconst 0, 1, [], []), (956, .ireturn, 1, [1], [])]),
  ([0, 1, 2, 3], [(957, .aload_n 1, 1, [], []), (958, .invokevirtual 117, 3, [2, 1, 0, 11, 96], [862, 0, 863, 864, 67, 0, 0, 0]), (961, .nop, 0, [102], [])]),
  ([0, 1, 2, 3], [(961, .aload_n 2, 1, [], []), (962, .invokevirtual 120, 3, [2, 1, 0, 12, 181], [1329, 0, 1330, 1331, 71, 0, 0, 0]), (965, .nop, 0, [103], [])]),
  ([0, 1, 2, 3], [(965, .if_icmp .eq 153, 3, [129, 104], [])]),
  ([], [(968, .iconst 0, 1, [], []), (969, .ireturn, 1, [1], [])])]
def kb_L_law_14 : List (List Nat × List RI) := [
  ([0, 1, 2, 3], [(970, .aload_n 1, 1, [], []), (971, .aload_n 0, 1, [], []), (972, .iload_n 3, 1, [], []), (973, .iconst 1, 1, [], []), (974, .iadd, 1, [], []), (975, .iaload, 1, [], []), (976, .aload_n 0, 1, [], []), (977, .iload_n 3, 1, [], []), (978, .iconst 2, 1, [], []), (979, .iadd, 1, [], []), (980, .iaload, 1, [], []), (981, .aload_n 0, 1, [], []), (982, .iload_n 3, 1, [], []), (983, .iconst 3, 1, [], []), (984, .iadd, 1, [], []), (985, .iaload, 1, [], []), (986, .invokevirtual 121, 3, [2, 1, 3, 11, 97], [867, 0, 868, 869, 67, 0, 0, 0]), (989, .nop, 0, [106], [])]),
  ([0, 1, 2, 3], [(989, .aload_n 2, 1, [], []), (990, .aload_n 0, 1, [], []), (991, .iload_n 3, 1, [], []), (992, .iconst 1, 1, [], []), (993, .iadd, 1, [], []), (994, .iaload, 1, [], []), (995, .aload_n 0, 1, [], []), (996, .iload_n 3, 1, [], []), (997, .iconst 2, 1, [], []), (998, .iadd, 1, [], []), (999, .iaload, 1, [], []), (1000, .aload_n 0, 1, [], []), (1001, .iload_n 3, 1, [], []), (1002, .iconst 3, 1, [], []), (1003, .iadd, 1, [], []), (1004, .iaload, 1, [], []), (1005, .invokevirtual 124, 3, [2, 1, 3, 12, 190], [1333, 0, 1334, 1335, 71, 0, 0, 0]), (1008, .nop, 0, [107], [])]),
  ([0, 1, 2, 3], [(1008, .if_icmp .eq 110, 3, [129, 108], [])]),
  ([], [(1011, .iconst 0, 1, [], []), (1012, .ireturn, 1, [1], [])]),
  ([0, 1, 2, 3], [(1013, .aload_n 1, 1, [], []), (1014, .aload_n 0, 1, [], []), (1015, .iload_n 3, 1, [], []), (1016, .iconst 1, 1, [], []), (1017, .iadd, 1, [], []), (1018, .iaload, 1, [], []), (1019, .invokevirtual 125, 3, [2, 1, 1, 11, 98], [944, 0, 945, 946, 67, 0, 0, 0]), (1022, .nop, 0, [110], [])]),
  ([0, 1, 2, 3], [(1022, .aload_n 2, 1, [], []), (1023, .aload_n 0, 1, [], []), (1024, .iload_n 3, 1, [], []), (1025, .iconst 1, 1, [], []), (1026, .iadd, 1, [], []), (1027, .iaload, 1, [], []), (1028, .invokevirtual 128, 3, [2, 1, 1, 12, 191], [1368, 0, 1369, 1370, 71, 0, 0, 0]), (1031, .nop, 0, [111], [])]),
  ([0, 1, 2, 3], [(1031, .if_icmp .eq 87, 3, [129, 112], [])]),
  ([], [(1034, .iconst 0, 1, [], []), (1035, .ireturn, 1, [1], [])])]
def kb_L_law_15 : List (List Nat × List RI) := [
  ([0, 1, 2, 3], [(1036, .aload_n 1, 1, [], []), (1037, .aload_n 0, 1, [], []), (1038, .iload_n 3, 1, [], []), (1039, .iconst 1, 1, [], []), (1040, .iadd, 1, [], []), (1041, .iaload, 1, [], []), (1042, .aload_n 0, 1, [], []), (1043, .iload_n 3, 1, [], []), (1044, .iconst 2, 1, [], []), (1045, .iadd, 1, [], []), (1046, .iaload, 1, [], []), (1047, .invokevirtual 129, 3, [2, 1, 2, 11, 99], [948, 0, 949, 950, 67, 0, 0, 0]), (1050, .nop, 0, [114], [])]),
  ([0, 1, 2, 3], [(1050, .aload_n 2, 1, [], []), (1051, .aload_n 0, 1, [], []), (1052, .iload_n 3, 1, [], []), (1053, .iconst 1, 1, [], []), (1054, .iadd, 1, [], []), (1055, .iaload, 1, [], []), (1056, .aload_n 0, 1, [], []), (1057, .iload_n 3, 1, [], []), (1058, .iconst 2, 1, [], []), (1059, .iadd, 1, [], []), (1060, .iaload, 1, [], []), (1061, .invokevirtual 132, 3, [2, 1, 2, 12, 192], [1372, 0, 1373, 1374, 71, 0, 0, 0]), (1064, .nop, 0, [115], [])]),
  ([0, 1, 2, 3], [(1064, .if_icmp .eq 54, 3, [129, 116], [])]),
  ([], [(1067, .iconst 0, 1, [], []), (1068, .ireturn, 1, [1], [])]),
  ([0, 1, 2, 3], [(1069, .aload_n 1, 1, [], []), (1070, .invokevirtual 133, 3, [2, 1, 0, 11, 101], [955, 0, 956, 957, 67, 0, 0, 0]), (1073, .nop, 0, [118], [])]),
  ([0, 1, 2, 3], [(1073, .aload_n 2, 1, [], []), (1074, .invokevirtual 136, 3, [2, 1, 0, 12, 193], [1376, 0, 1377, 1378, 71, 0, 0, 0]), (1077, .nop, 0, [119], [])]),
  ([0, 1, 2, 3], [(1077, .if_icmp .eq 41, 3, [129, 120], [])]),
  ([], [(1080, .iconst 0, 1, [], []), (1081, .ireturn, 1, [1], [])]),
  ([0, 1, 2, 3], [(1082, .aload_n 1, 1, [], []), (1083, .invokevirtual 137, 3, [2, 1, 0, 11, 102], [964, 0, 965, 966, 67, 0, 0, 0]), (1086, .nop, 0, [122], [])]),
  ([0, 1, 2, 3], [(1086, .aload_n 2, 1, [], []), (1087, .invokevirtual 140, 3, [2, 1, 0, 12, 194], [1380, 0, 1381, 1382, 71, 0, 0, 0]), (1090, .nop, 0, [123], [])]),
  ([0, 1, 2, 3], [(1090, .if_icmp .eq 28, 3, [129, 124], [])]),
  ([], [(1093, .iconst 0, 1, [], []), (1094, .ireturn, 1, [1], [])]),
  ([0, 1, 2, 3], [(1095, .aload_n 1, 1, [], []), (1096, .aload_n 0, 1, [], []), (1097, .iload_n 3, 1, [], []), (1098, .iconst 1, 1, [], []), (1099, .iadd, 1, [], []), (1100, .iaload, 1, [], []), (1101, .invokevirtual 141, 3, [2, 1, 1, 11, 103], [968, 0, 969, 970, 67, 0, 0, 0]), (1104, .nop, 0, [126], [])])]
def kb_L_law_16 : List (List Nat × List RI) := [
  ([0, 1, 2, 3], [(1104, .aload_n 2, 1, [], []), (1105, .aload_n 0, 1, [], []), (1106, .iload_n 3, 1, [], []), (1107, .iconst 1, 1, [], []), (1108, .iadd, 1, [], []), (1109, .iaload, 1, [], []), (1110, .invokevirtual 144, 3, [2, 1, 1, 12, 195], [1384, 0, 1385, 1386, 71, 0, 0, 0]), (1113, .nop, 0, [127], [])]),
  ([0, 1, 2, 3], [(1113, .if_icmp .eq 5, 3, [129, 128], [])]),
  ([], [(1116, .iconst 0, 1, [], []), (1117, .ireturn, 1, [1], [])]),
  ([0, 1, 2, 3], [(1118, .iinc 3 6, 3, [], []), (1121, .goto (-1103), 3, [3], [])]),
  ([], [(1124, .iconst 1, 1, [], []), (1125, .ireturn, 1, [1], [])])]
def kb_L_law : List (List Nat × List RI) := kb_L_law_0 ++ (kb_L_law_1 ++ (kb_L_law_2 ++ (kb_L_law_3 ++ (kb_L_law_4 ++ (kb_L_law_5 ++ (kb_L_law_6 ++ (kb_L_law_7 ++ (kb_L_law_8 ++ (kb_L_law_9 ++ (kb_L_law_10 ++ (kb_L_law_11 ++ (kb_L_law_12 ++ (kb_L_law_13 ++ (kb_L_law_14 ++ (kb_L_law_15 ++ (kb_L_law_16))))))))))))))))
def km_L_law : MT := (yL_law, cL_law, 4, (some .boolean), kb_L_law)
def allM : List MT := [km_X0_init, km_X0_hoursFrom, km_X0_sends, km_X1_init, km_X1_hoursFrom, km_X1_takes, km_X2_init, km_X2_hoursFrom, km_X2_hoursSat, km_X2_takes, km_X3_init, km_X3_holds, km_X3_test, km_X3_passes, km_X4_init, km_X4_hoursFrom, km_X4_tells, km_X5_init, km_X5_readCoast, km_X5_firstClauses, km_X5_readSaying, km_X5_newClause, km_X5_readClause, km_X5_readWord, km_X5_readAny, km_X5_readOne, km_X5_readTest, km_X5_readNumber, km_X5_goOnAll, km_X5_goOn, km_X5_sign, km_X5_add, km_X6_init, km_X6_hoursFrom, km_X6_hoursSat, km_X6_toll, km_X6_sends, km_X6_takes, km_X6_tells, km_X7_init, km_X7_toll, km_X7_tells, km_X8_init, km_X8_hoursFrom, km_X8_sends, km_X9_init, km_X9_note, km_X10_init, km_X10_copy, km_X10_hasThing, km_X10_sayingAt, km_X10_wayAt, km_X10_replaceWay, km_X10_rows, km_X10_heeded, km_X10_factsOfRow, km_X10_costs, km_X10_together, km_X10_step, km_X10_reach, km_X10_chances, km_X10_chanceIn, km_X11_init, km_X11_feed, km_X11_coast, km_X11_saying, km_X11_thing, km_X11_put, km_X11_of, km_X11_way, km_X11_newWay, km_X11_at, km_X11_bribe, km_X11_now, km_X11_hour, km_X11_odds, km_X11_sure, km_X11_tell, km_X11_which, km_X11_worth, km_X11_sit, km_X11_catches, km_X11_all, km_X11_begin, km_X11_heed, km_X11_self, km_X11_back, km_X11_partsSo, km_X11_partsOfRow, km_X11_isSo, km_X11_markFails, km_X11_carryBack, km_X11_failsFrom, km_X11_setFails, km_X11_partOf, km_X11_row, km_X11_looked, km_X11_act, km_X11_trace, km_X11_as, km_X11_isOf, km_X11_image, km_X11_undo, km_X11_count, km_X11_isState, km_X11_isKind, km_X11_isPart, km_X11_stateIn, km_X11_withState, km_X11_reached, km_X11_factsOfThing, km_X11_factsOfWay, km_X12_init, km_X12_in, km_X12_isThing, km_X12_isWay, km_X12_isSaying, km_X12_feed, km_X12_here, km_X12_must, km_X12_spells, km_X12_figures, km_X12_among, km_X12_emits, km_X12_factor, km_X12_every, km_X12_some, km_X12_much, km_X12_clauseOfD, km_X12_clauseHere, km_X12_begins, km_X12_coast, km_X12_saying, km_X12_isSo, km_X12_goesThrough, km_X12_looks, km_X12_stateOf, km_X12_isTrue, km_X12_thing, km_X12_put, km_X12_of, km_X12_way, km_X12_takesAt, km_X12_takes, km_X12_costsOf, km_X12_at, km_X12_bribe, km_X12_now, km_X12_hour, km_X12_beginsAll, km_X12_statesNow, km_X12_goesOn, km_X12_goesAll, km_X12_oftenOf, km_X12_allStates, km_X12_twos, km_X12_allOften, km_X12_oftenTrue, km_X12_heardTrue, km_X12_lowest, km_X12_odds, km_X12_sure, km_X12_tell, km_X12_isBetter, km_X12_which, km_X12_worth, km_X12_mayBegin, km_X12_mayBecome, km_X12_mayGo, km_X12_isSurely, km_X12_sit, km_X12_catches, km_X12_all, km_X12_begin, km_X12_looksForReach, km_X12_reachesTruth, km_X12_heed, km_X12_heededBy, km_X12_self, km_X12_back, km_X12_row, km_X12_looked, km_X12_ranBody, km_X12_isUnder, km_X12_plainSends, km_X12_sendsActs, km_X12_plainTakes, km_X12_takesActs, km_X12_plainTells, km_X12_tellsActs, km_X12_act, km_X12_trace, km_X12_as, km_X12_image, km_X12_undo, km_X12_count, km_J0_length_8abf5, km_J0_charAt_5068e, km_J0_indexOf_0f7a4, km_J0_indexOf_7cf53, km_J0_coder_7d493, km_J0_isLatin1_aae02, km_J0_checkIndex_df160, km_J1_charAt_3b067, km_J1_canEncode_9a6ad, km_J1_indexOf_4cfef, km_J1_indexOfChar_4cfef, km_J7_copyOf_59c91, km_J3_checkIndex_8e157, km_L_law]
def mt (M : Nat) : MT := allM.getD M mt0
/-- where a method's code word stands in lw_tbl, and that its class is initialized -/
def cwp : List (Nat × Nat) := [(510, 82), (659, 82), (877, 82), (571, 83), (662, 83), (903, 83), (623, 87), (665, 87), (706, 87), (908, 87), (427, 78), (490, 78), (400, 78), (493, 78), (584, 84), (668, 84), (926, 84), (174, 69), (249, 69), (444, 69), (452, 69), (408, 69), (254, 69), (258, 69), (329, 69), (333, 69), (337, 69), (325, 69), (267, 69), (319, 69), (262, 69), (404, 69), (513, 81), (676, 81), (710, 81), (693, 81), (894, 81), (916, 81), (942, 81), (597, 85), (691, 85), (932, 85), (610, 86), (673, 86), (889, 86), (203, 70), (881, 70), (100, 68), (962, 68), (471, 68), (738, 68), (652, 68), (718, 68), (762, 68), (780, 68), (775, 68), (680, 68), (486, 68), (803, 68), (798, 68), (750, 68), (755, 68), (92, 67), (241, 67), (245, 67), (448, 67), (457, 67), (467, 67), (478, 67), (498, 67), (505, 67), (648, 67), (714, 67), (722, 67), (726, 67), (730, 67), (790, 67), (794, 67), (811, 67), (815, 67), (819, 67), (839, 67), (843, 67), (848, 67), (852, 67), (734, 67), (857, 67), (746, 67), (766, 67), (771, 67), (823, 67), (827, 67), (831, 67), (835, 67), (784, 67), (861, 67), (865, 67), (870, 67), (947, 67), (951, 67), (954, 67), (958, 67), (967, 67), (971, 67), (460, 67), (501, 67), (741, 67), (474, 67), (463, 67), (806, 67), (481, 67), (696, 67), (976, 71), (1059, 71), (1139, 71), (1166, 71), (1198, 71), (1056, 71), (1076, 71), (1091, 71), (1085, 71), (1095, 71), (1115, 71), (1111, 71), (1107, 71), (1103, 71), (1099, 71), (1081, 71), (1120, 71), (1072, 71), (1068, 71), (1063, 71), (1126, 71), (1154, 71), (1151, 71), (1147, 71), (1214, 71), (1238, 71), (1131, 71), (1135, 71), (1143, 71), (1158, 71), (1174, 71), (1170, 71), (1178, 71), (1162, 71), (1182, 71), (1186, 71), (1190, 71), (1211, 71), (1207, 71), (1222, 71), (1218, 71), (1234, 71), (1230, 71), (1245, 71), (1242, 71), (1226, 71), (1203, 71), (1248, 71), (1194, 71), (1252, 71), (1256, 71), (1264, 71), (1260, 71), (1268, 71), (1276, 71), (1284, 71), (1280, 71), (1288, 71), (1272, 71), (1292, 71), (1296, 71), (1300, 71), (1304, 71), (1308, 71), (1312, 71), (1320, 71), (1316, 71), (1324, 71), (1328, 71), (1332, 71), (1347, 71), (1343, 71), (1351, 71), (1340, 71), (1359, 71), (1355, 71), (1367, 71), (1363, 71), (1336, 71), (1371, 71), (1375, 71), (1379, 71), (1383, 71), (1387, 71), (271, 72), (281, 72), (341, 72), (345, 72), (275, 72), (285, 72), (291, 72), (288, 73), (352, 73), (349, 73), (361, 73), (413, 79), (296, 74), (0, 66)]
end
section
/-! WHAT IS CHECKED OF THE CODE TABLES BY PROGRAM: decode rows, links, jump targets -/
def gTbl : List Cond := lw_tbl.filter goodWord
def bpc (t : MT) (b : Nat) : Nat := match (blk t b).2 with
  | e :: _ => e.1
  | [] => 1000000
def wis (i : Nat) (w : Cond) : Bool := match lw_tbl[i]? with
  | some v => decide (v = w)
  | none => false
def fkd (d : String) : Nat := match parseFieldDescriptor d with
  | some .int => 0
  | some .boolean => 1
  | some (.object _) => 2
  | some (.array _) => 2
  | _ => 9
def okF (own : String) (idx k tk pf ps c : Nat) (put : Option String) : Bool := match vwCl[c]?, lw_tbl[pf]? with
  | some q, some (.fieldLink o i r n d) => decide (o = own) && decide (i = idx) && decide (k < q.2.2) && decide (n = (q.2.1 k).2.1) && decide (d = (q.2.1 k).2.2.1) && (decide (r = (q.2.1 k).1) || wis ps (.sameField r (q.2.1 k).1 n d)) && Nat.beq (fkd (q.2.1 k).2.2.1) tk && (match put with
    | none => true
    | some nm => match (q.2.1 k).2.2.2 with
      | false => true
      | true => decide ((q.2.1 k).1 = own) && decide (nm = "<init>"))
  | _, _ => false
def kty (k : Nat) : Option FieldType := match k with
  | 20 => some .int
  | 21 => some .long
  | 22 => some .boolean
  | 23 => some .byte
  | 24 => some (.object "TrueHeard$Clause")
  | 25 => some (.object "TrueHeard$Runner")
  | _ => none
def clN (c : Nat) : String := match vwCl[c]? with
  | some q => q.1
  | none => ""
def nrR (rk : Nat) (r : Option FieldType) : Bool := match rk, r with
  | 0, none => true
  | 1, some .int => true
  | 1, some .boolean => true
  | 1, some .byte => true
  | 1, some .char => true
  | 2, some .long => true
  | 3, some (.object _) => true
  | 3, some (.array _) => true
  | _, _ => false
/-- the callee: its return kind, its number of parameters, its class plain -/
def okC (rk n M : Nat) : Bool := nrR rk (mt M).2.2.2.1 && decide ((parseMethodDescriptor (mt M).1.desc).map (fun d => d.parameters.length) = some n) && decide (M + 1 < allM.length)
def okD (own : String) (idx pl : Nat) (xM : Option MethodName) : List Nat → List Nat → Bool
  | c :: M :: r, f :: p1 :: p2 :: p3 :: p4 :: Mo :: p5 :: ps => (match xM with
      | some x => (match f with
        | 0 => (Nat.blt c 13 || Nat.beq c 30) && decide (x = (mt M).1) && wis p1 (.instanceMethod x) && wis p2 (.selects (match c with | 30 => "java/lang/String" | _ => clN c) x x) && wis p3 (.initialized (match c with | 30 => "java/lang/String" | _ => clN c)) && decide (x.cls = (match c with | 30 => "java/lang/String" | _ => clN c))
        | _ => decide (x.name = (mt Mo).1.name) && decide (x.desc = (mt Mo).1.desc) && wis p1 (.instanceMethod (mt M).1) && wis p2 (.selects (clN c) x (mt M).1) && wis p3 (.initialized (mt M).1.cls) && wis p4 (.sameMethod x.cls (mt Mo).1.cls x.name x.desc) && decide ((parseMethodDescriptor x.desc).map (fun d => d.parameters.length) = (parseMethodDescriptor (mt M).1.desc).map (fun d => d.parameters.length)) && decide (Mo + 1 < allM.length) && Nat.blt c 13 && wis p5 (.instanceMethod (mt Mo).1))
      | none => false) && okD own idx pl xM r ps
  | [], [] => true
  | _, _ => false
def cls3 : List Nat → List Nat
  | c :: _ :: r => c :: cls3 r
  | _ => []
def mss : List Nat → List Nat
  | _ :: M :: r => M :: mss r
  | _ => []
def strT : List (String × Nat × String) := [("TrueHeard$Reader", 21, ""), ("TrueHeard$Reader", 31, "tshk"), ("TrueHeard$Reader", 92, "turn"), ("TrueHeard$Reader", 98, "rift"), ("TrueHeard$Reader", 100, "ear"), ("TrueHeard$Reader", 119, "<=>"), ("TrueHeard$Reader", 60, "abcdh"), ("TrueHeardModel", 127, "tshk"), ("TrueHeardModel", 122, "turn "), ("TrueHeardModel", 102, "<=>"), ("TrueHeardModel", 114, "rift "), ("TrueHeardModel", 120, "ear "), ("TrueHeardModel", 135, "abcdh")]
def castW : List (String × String) := [("TrueHeard$Tolled", "TrueHeard$Bell"), ("TrueHeard$Towed", "TrueHeard$Boat"), ("TrueHeard$Bribed", "TrueHeard$Fire"), ("TrueHeard$Bell", "TrueHeard$Runner"), ("TrueHeard$Boat", "TrueHeard$Runner"), ("TrueHeard$Fire", "TrueHeard$Runner"), ("TrueHeard$Tolled", "TrueHeard$Runner"), ("TrueHeard$Towed", "TrueHeard$Runner"), ("TrueHeard$Bribed", "TrueHeard$Runner")]
def ncastW : List (String × String) := [("TrueHeard$Bell", "TrueHeard$Bribed"), ("TrueHeard$Boat", "TrueHeard$Bribed"), ("TrueHeard$Fire", "TrueHeard$Bribed"), ("TrueHeard$Tolled", "TrueHeard$Bribed"), ("TrueHeard$Towed", "TrueHeard$Bribed"), ("TrueHeard$Runner", "TrueHeard$Bribed"), ("TrueHeard$Boat", "TrueHeard$Bell"), ("TrueHeard$Fire", "TrueHeard$Bell"), ("TrueHeard$Towed", "TrueHeard$Bell"), ("TrueHeard$Bribed", "TrueHeard$Bell"), ("TrueHeard$Runner", "TrueHeard$Bell"), ("TrueHeard$Bell", "TrueHeard$Boat"), ("TrueHeard$Fire", "TrueHeard$Boat"), ("TrueHeard$Tolled", "TrueHeard$Boat"), ("TrueHeard$Bribed", "TrueHeard$Boat"), ("TrueHeard$Runner", "TrueHeard$Boat"), ("TrueHeard$Bell", "TrueHeard$Fire"), ("TrueHeard$Boat", "TrueHeard$Fire"), ("TrueHeard$Tolled", "TrueHeard$Fire"), ("TrueHeard$Towed", "TrueHeard$Fire"), ("TrueHeard$Runner", "TrueHeard$Fire"), ("TrueHeard$Bell", "TrueHeard$Tolled"), ("TrueHeard$Boat", "TrueHeard$Tolled"), ("TrueHeard$Fire", "TrueHeard$Tolled"), ("TrueHeard$Towed", "TrueHeard$Tolled"), ("TrueHeard$Bribed", "TrueHeard$Tolled"), ("TrueHeard$Runner", "TrueHeard$Tolled"), ("TrueHeard$Bell", "TrueHeard$Towed"), ("TrueHeard$Boat", "TrueHeard$Towed"), ("TrueHeard$Fire", "TrueHeard$Towed"), ("TrueHeard$Tolled", "TrueHeard$Towed"), ("TrueHeard$Bribed", "TrueHeard$Towed"), ("TrueHeard$Runner", "TrueHeard$Towed")]
def okI (t : MT) (e : RI) : Bool := match e with
  | (pc, .nop, 0, as, _) => (match as with
    | [b] => Nat.beq (bpc t b) pc
    | _ => false)
  | (_, .athrow, _, _, _) => true
  | (pc, i, len, as, ws) => decide (decode t.2.1 pc = .ok (i, len)) && (match i with
    | .nop => false
    | .goto off => (match as with
      | [b] => Nat.beq len 3 && decide ((pc : Int) + off = (bpc t b : Int))
      | _ => false)
    | .ifCond _ off => (match as with
      | [bt, bf] => Nat.beq len 3 && decide ((pc : Int) + off = (bpc t bt : Int)) && Nat.beq (pc + 3) (bpc t bf)
      | _ => false)
    | .if_icmp _ off => (match as with
      | [bt, bf] => Nat.beq len 3 && decide ((pc : Int) + off = (bpc t bt : Int)) && Nat.beq (pc + 3) (bpc t bf)
      | _ => false)
    | .ifnull off => (match as with
      | [bt, bf] => Nat.beq len 3 && decide ((pc : Int) + off = (bpc t bt : Int)) && Nat.beq (pc + 3) (bpc t bf)
      | _ => false)
    | .ifnonnull off => (match as with
      | [bt, bf] => Nat.beq len 3 && decide ((pc : Int) + off = (bpc t bt : Int)) && Nat.beq (pc + 3) (bpc t bf)
      | _ => false)
    | .tableswitch d lo hi offs => (match as with
      | b0 :: bs => decide ((pc : Int) + d = (bpc t b0 : Int)) && decide (bs.map (fun b => (bpc t b : Int) - (pc : Int)) = offs.toList) && decide (hi = lo + (bs.length : Int) - 1) && decide (-1000 ≤ lo) && decide (hi ≤ 1000)
      | _ => false)
    | .lookupswitch d ps => (match as with
      | b0 :: bs => decide ((pc : Int) + d = (bpc t b0 : Int)) && decide (bs.map (fun b => (bpc t b : Int) - (pc : Int)) = ps.toList.map (fun q => q.2)) && (ps.toList.zip (ps.toList.drop 1)).all (fun (a, next) => decide (a.1 < next.1)) && ps.toList.all (fun q => decide (-1000 ≤ q.1) && decide (q.1 ≤ 1000))
      | _ => false)
    | .ldc idx => Nat.beq len 2 && (match as with
      | [0, v] => (match ws with
        | [p] => wis p (.constant t.1.cls idx (Int32.ofNat v))
        | _ => false)
      | [1, i] => decide ((strT.getD i ("", 0, "")).1 = t.1.cls ∧ (strT.getD i ("", 0, "")).2.1 = idx) && decide (i < 13)
      | _ => false)
    | .ldc_w idx => Nat.beq len 3 && (match as, ws with
      | [0, v], [p] => wis p (.constant t.1.cls idx (Int32.ofNat v))
      | _, _ => false)
    | .ldc2_w idx => Nat.beq len 3 && (match as, ws with
      | [v], [p] => wis p (.constantLong t.1.cls idx (Int64.ofNat v))
      | _, _ => false)
    | .getfield idx => Nat.beq len 3 && (match as, ws with
      | [0, 2, 30], [p, 0] => wis p (.fieldLink t.1.cls idx "java/lang/String" "value" "[B")
      | [1, 0, 30], [p, 0] => wis p (.fieldLink t.1.cls idx "java/lang/String" "coder" "B")
      | k :: tk :: cs, [pf, ps] => cs.all (fun c => Nat.blt c 13 && okF t.1.cls idx k tk pf ps c none)
      | _, _ => false)
    | .putfield idx => Nat.beq len 3 && (match as, ws with
      | k :: tk :: cs, [pf, ps] => cs.all (fun c => Nat.blt c 13 && okF t.1.cls idx k tk pf ps c (some t.1.name))
      | _, _ => false)
    | .getstatic idx => Nat.beq len 3 && (match as, ws with
      | [0], [p] => wis p (.fieldLink t.1.cls idx "java/lang/String" "COMPACT_STRINGS" "Z")
      | [1], [p] => wis p (.fieldLink t.1.cls idx "jdk/internal/util/Preconditions" "SIOOBE_FORMATTER" "Ljava/util/function/BiFunction;")
      | _, _ => false)
    | .new idx => Nat.beq len 3 && (match as, ws with
      | [ci, n], [p1, p2, p3] => wis p1 (.classLink t.1.cls idx (clN ci)) && wis p2 (.instantiable (clN ci) n) && wis p3 (.initialized (clN ci)) && (match vwCl[ci]? with
        | some q => decide (q.2.2 = n)
        | none => false)
      | _, _ => false)
    | .newarray ty => Nat.beq len 2 && (match as, ws with
      | [kd], [p] => wis p (.arrayClass (newarray.typeOf ty)) && decide (kty kd = some (newarray.typeOf ty)) && Nat.ble (componentBytes (newarray.typeOf ty)) 8
      | _, _ => false)
    | .anewarray idx => Nat.beq len 3 && (match as, ws with
      | [24], [p] => wis p (.classLink t.1.cls idx "TrueHeard$Clause")
      | [25], [p] => wis p (.classLink t.1.cls idx "TrueHeard$Runner")
      | _, _ => false)
    | .instanceof idx => Nat.beq len 3 && (match as, ws with
      | n :: cs, [p] => (match lw_tbl[p]? with
        | some (.classLink o i nm) => decide (o = t.1.cls) && decide (i = idx) && cs.all (fun c => Nat.blt c 13) && (cs.take n).all (fun c => decide (clN c = nm) || castW.contains (clN c, nm)) && (cs.drop n).all (fun c => ncastW.contains (clN c, nm))
        | _ => false)
      | _, _ => false)
    | .invokestatic idx => Nat.beq len 3 && (match as, ws with
      | [4], [p1, p2, p3, p4] => wis p1 (.methodLink t.1.cls idx arraycopyName) && wis p2 (.native arraycopyName) && wis p3 (.static arraycopyName) && wis p4 (.initialized "java/lang/System")
      | [5], [p1, p2, p3, p4] => wis p1 (.methodLink t.1.cls idx Lib.Math.max.name) && wis p2 (.static Lib.Math.max.name) && wis p3 (.initialized "java/lang/Math") && wis p4 (.code Lib.Math.max.name Lib.Math.max.code 2 (some .int))
      | [6], [p1, p2, p3, p4] => wis p1 (.methodLink t.1.cls idx Lib.Math.min.name) && wis p2 (.static Lib.Math.min.name) && wis p3 (.initialized "java/lang/Math") && wis p4 (.code Lib.Math.min.name Lib.Math.min.code 2 (some .int))
      | [0, rk, n, M], [ns, p1, p2] => okC rk n M && wis p2 (.static (mt M).1) && (match ns with
        | 0 => wis p1 (.methodLink t.1.cls idx (mt M).1)
        | _ => wis p1 (.methodLinkNest t.1.cls idx (mt M).1 "TrueHeard"))
      | _, _ => false)
    | .invokespecial idx => Nat.beq len 3 && (match as, ws with
      | [3], [p] => wis p (.methodLink t.1.cls idx objectInit)
      | 1 :: rk :: n :: M :: cs, [ns, p1, p2] => okC rk n M && Nat.beq rk 0 && decide ((mt M).1.name = "<init>") && wis p2 (.instanceMethod (mt M).1) && cs.all (fun c => Nat.blt c 13) && (match ns with
        | 0 => wis p1 (.methodLink t.1.cls idx (mt M).1)
        | _ => wis p1 (.methodLinkNest t.1.cls idx (mt M).1 "TrueHeard"))
      | 1 :: rk :: n :: M :: cs, [1, p1, p2, p3, p4, p5] => okC rk n M && cs.all (fun c => Nat.blt c 13) && (match lw_tbl[p1]? with
        | some (.methodLink o i x) => decide (o = t.1.cls) && decide (i = idx) && decide (x.name = (mt M).1.name) && decide (x.desc = (mt M).1.desc) && decide (¬ x.name = "<init>") && wis p2 (.sameMethod x.cls (mt M).1.cls x.name x.desc) && wis p3 (.superclass t.1.cls x.cls) && wis p4 (.instanceMethod (mt M).1) && (decide (x.cls = (mt M).1.cls) || wis p5 (.superclass x.cls (mt M).1.cls))
        | _ => false)
      | _, _ => false)
    | .invokevirtual idx => Nat.beq len 3 && (match as, ws with
      | 2 :: rk :: n :: cs, pl :: ps => (mss cs).all (okC rk n) && (match lw_tbl[pl]? with
        | some (.methodLink o i x) => decide (o = t.1.cls) && decide (i = idx) && decide (x.cls ≠ "java/lang/invoke/MethodHandle") && decide (x.cls ≠ "java/lang/invoke/VarHandle") && okD t.1.cls idx pl (some x) cs ps
        | _ => false)
      | _, _ => false)
    | .ireturn => Nat.beq len 1 && (match as, t.2.2.2.1 with
      | [0], some .int => true
      | [1], some .boolean => true
      | [2], some .byte => true
      | [3], some .char => true
      | _, _ => false)
    | .lreturn => Nat.beq len 1 && decide (t.2.2.2.1 = some .long)
    | .areturn => Nat.beq len 1 && nrR 3 t.2.2.2.1
    | .return_ => Nat.beq len 1 && decide (t.2.2.2.1 = none)
    | .bipush _ => Nat.beq len 2
    | .sipush _ => Nat.beq len 3
    | .iload n => Nat.beq len 2 && decide (n < t.2.2.1)
    | .lload n => Nat.beq len 2 && decide (n < t.2.2.1)
    | .aload n => Nat.beq len 2 && decide (n < t.2.2.1)
    | .istore n => Nat.beq len 2 && decide (n < t.2.2.1)
    | .lstore n => Nat.beq len 2 && decide (n + 1 < t.2.2.1)
    | .astore n => Nat.beq len 2 && decide (n < t.2.2.1)
    | .istore_n n => Nat.beq len 1 && decide ((n : Nat) < t.2.2.1)
    | .lstore_n n => Nat.beq len 1 && decide ((n : Nat) + 1 < t.2.2.1)
    | .astore_n n => Nat.beq len 1 && decide ((n : Nat) < t.2.2.1)
    | .iinc n _ => Nat.beq len 3 && decide (n < t.2.2.1)
    | _ => Nat.beq len 1)
def okL (t : MT) : Nat → List RI → Bool
  | _, [] => true
  | pc, e :: es => Nat.beq e.1 pc && okI t e && okL t (pc + e.2.2.1) es

/-- the blocks alone -/
def okB (t : MT) (b : List Nat × List RI) : Bool := match b.2 with
  | [] => true
  | e :: es => okL t e.1 (e :: es)
def okBk (t : MT) : Bool := t.2.2.2.2.all (okB t)
def okMT (t : MT) (pw : Nat × Nat) : Bool := plainName t.1.cls && decide (t.1.cls ≠ "java/lang/invoke/MethodHandle") && decide (t.1.cls ≠ "java/lang/invoke/VarHandle") && Nat.ble t.2.2.1 40 && okBk t && wis pw.1 (.code t.1 t.2.1 t.2.2.1 t.2.2.2.1) && wis pw.2 (.initialized t.1.cls)
end
section
/-! HOW THE SMALL MACHINE'S MEMORY LIES IN THE HEAP -/
abbrev GG : Type := (Nat → ClassId) × (Nat → Nat → Nat) × (Nat → ClassId)
/-- a place's address: 28 and on are pushed one behind another from N0 on -/
def cad (N0 : Nat) (ro : Nat → Nat) (q : Nat) : Nat := if q < 28 then ro q else N0 + (q - 28)
def cv (f : Nat → Nat) (z : Value) (v : Value) : Value := match v with
  | .ref a => .ref (f a)
  | .retAddr _ => z
  | w => w
def cl2 (f : Nat → Nat) (z : Value) (l : LV) : LV := l.map fun q => (q.1, cv f z q.2)
def fvk (n : Nat) (f : Nat → Nat) (μ : MM) (q k : Nat) : Value := match n with
  | 2 => va_rf ((gR μ q k).map f)
  | _ => .int (gI μ q k)
def fvl (f : Nat → Nat) (μ : MM) (q k : Nat) (d : String) : Value := fvk (fkd d) f μ q k
def elv (f : Nat → Nat) (μ : MM) (q j : Nat) (ty : FieldType) : Value := match ty with
  | .long => .long (gL μ q j)
  | .object _ => va_rf ((gR μ q j).map f)
  | _ => .int (gI μ q j)
def roK (q : Nat) : Nat := if q < 13 then 30 else if q < 26 then 31 else if q < 27 then 32 else 33
def cellok (G : GG) (f : Nat → Nat) (μ : MM) (H : Heap) (q : Nat) : Prop := match kty (shp μ q) with
  | some ty => H[f q]? = some (arrV (G.2.2 (shp μ q)) (aln μ q) (fun j => elv f μ q j ty))
  | none => ∃ r, vwCl[shp μ q]? = some r ∧ t_OB (f q) (G.1 (shp μ q)) r.2.2 (G.2.1 (shp μ q)) H (fun k => fvl f μ q k (r.2.1 k).2.2.1)
def strL : List (List Int32) := strT.map fun w => w.2.2.toList.map fun ch => Int32.ofNat ch.toNat
def strB (i j : Nat) : Int32 := (strL.getD i []).getD j 0
def strN (i : Nat) : Nat := (strL.getD i []).length
/-- what no method writes: the texts and the script -/
def ROm (xs : Nat → Int32) (L : Nat) (μ : MM) : Prop := (∀ i, i < 13 → gR μ i 0 = some (13 + i) ∧ gI μ i 1 = 0 ∧ aln μ (13 + i) = strN i ∧ ∀ j, gI μ (13 + i) j = strB i j) ∧ aln μ 26 = L ∧ (∀ j, gI μ 26 j = xs j)
def shOK (μ : MM) (q : Nat) : Prop := (q < 28 ∧ shp μ q = roK q) ∨ (28 ≤ q ∧ q < msz μ ∧ shp μ q < 26) ∨ (28 ≤ q ∧ msz μ ≤ q ∧ shp μ q = 99)
def Rep (N0 : Nat) (G : GG) (ro : Nat → Nat) (xs : Nat → Int32) (L : Nat) (μ : MM) (H : Heap) : Prop :=
  (28 ≤ msz μ ∧ H.size + 28 = N0 + msz μ) ∧ (∀ q, shOK μ q) ∧ ROm xs L μ ∧ ∀ q, 28 ≤ q → q < msz μ → cellok G (cad N0 ro) μ H q
def isNest : Cond → Bool
  | .methodLinkNest .. => true
  | _ => false
/-- what holds of a state in which a method begins: the tables' facts, the texts, the script -/
def WF (N0 : Nat) (G : GG) (ro : Nat → Nat) (z : Value) (xs : Nat → Int32) (L : Nat) (s : State) : Prop :=
  (N0 ≤ s.heap.size ∧ (z = .null ∨ ∃ a, z = .ref a)) ∧
  (∀ (ci : Nat) (q : vw_C), vwCl[ci]? = some q → u_Kn s q.1 q.2.1 q.2.2 (G.1 ci) (G.2.1 ci)) ∧
  (∀ (k : Nat) (ty : FieldType), kty k = some ty → ArrOfT s (G.2.2 k) ty ∧ va_RA s (G.2.2 k) ty) ∧
  (∀ i, i < 13 → ∃ adK adV : Nat → Nat, adK 0 = ro i ∧ adV 0 = ro (13 + i) ∧ vk_S 1 [strN i] [strL.getD i []] adK adV (fun q => N0 ≤ q) s s.heap) ∧
  (∀ (i : Nat) (w : String × Nat × String), strT[i]? = some w → vk_R w.1 w.2.1 w.2.2 (ro i) s) ∧
  (va_Z "java/lang/String" "COMPACT_STRINGS" "Z" (.int 1) (fun q => N0 ≤ q) s s.heap ∧ va_Z "jdk/internal/util/Preconditions" "SIOOBE_FORMATTER" "Ljava/util/function/BiFunction;" z (fun q => N0 ≤ q) s s.heap) ∧
  (va_X (ro 26) L xs s s.heap ∧ ro 26 < s.heap.size ∧ ¬ N0 ≤ ro 26) ∧
  (∀ w ∈ lw_tbl, isNest w = true → va_Nw w s) ∧
  (∀ q ∈ castW, va_Nw (.castable q.1 q.2) s) ∧ (∀ q ∈ ncastW, va_Nc q.1 q.2 s) ∧ va_AO "TrueHeard$Clause" s ∧ va_AO "TrueHeard$Runner" s
theorem WF.moved {N0 : Nat} {G : GG} {ro : Nat → Nat} {z : Value} {xs : Nat → Int32} {L : Nat} {s U : State} (h : WF N0 G ro z xs L s) (hW : s.WarmedH U.vm) (hs : N0 ≤ U.heap.size) (hq : ∀ q, q < s.heap.size → ¬ N0 ≤ q → U.heap[q]? = s.heap[q]?) : WF N0 G ro z xs L U := by
  obtain ⟨h1, h2, h3, h4, h5, h6, h7, h8, h9, h10, h11, h12⟩ := h
  have hvm := hW.alike
  refine ⟨⟨hs, h1.2⟩, fun ci q hc => u_Kn_moved hvm (h2 ci q hc), fun k ty hk => ⟨arrOfT_moved hvm (h3 k ty hk).1, (h3 k ty hk).2.moved hvm⟩, fun i hi => ?_, fun i w hw => vk_R.warm hW (h5 i w hw), ⟨?_, ?_⟩, ⟨?_, ?_, h7.2.2⟩, fun w hw hn => ?_, fun q hq => va_Nw.warmC hW (h9 q hq), fun q hq => (h10 q hq).moved hvm, h11.moved hvm, h12.moved hvm⟩
  · obtain ⟨aK, aV, e1, e2, e3⟩ := h4 i hi
    exact ⟨aK, aV, e1, e2, vk_S.moved hvm (vk_S.kept e3 hq)⟩
  · exact va_Z.moved hvm (va_Z.kept h6.1 hq)
  · exact va_Z.moved hvm (va_Z.kept h6.2 hq)
  · exact va_X.moved hvm (h7.1.kept (hq _ h7.2.1 h7.2.2))
  · have := h7.2.2
    omega
  · cases w <;> first | exact va_Nw.warmM hW (h8 _ hw rfl) | exact absurd hn (by simp [isNest])
theorem nest_on {w : Cond} (h : isNest w = true) : w.onTables = true := by
  cases w <;> first | rfl | exact absurd h (by simp [isNest])
theorem WF.same {N0 : Nat} {G : GG} {ro : Nat → Nat} {z : Value} {xs : Nat → Int32} {L : Nat} {s U : State} (h : WF N0 G ro z xs L s) (hv : U.vm = s.vm) (hh : U.heap = s.heap) : WF N0 G ro z xs L U := by
  obtain ⟨h1, h2, h3, h4, h5, h6, h7, h8, h9, h10, h11, h12⟩ := h
  have hvm : s.vm.Alike U.vm := by rw [hv]; exact Vm.Alike.refl _
  have hq : ∀ q, q < s.heap.size → ¬ N0 ≤ q → U.heap[q]? = s.heap[q]? := fun q _ _ => by rw [hh]
  refine ⟨⟨by rw [hh]; exact h1.1, h1.2⟩, fun ci q hc => u_Kn_moved hvm (h2 ci q hc), fun k ty hk => ⟨arrOfT_moved hvm (h3 k ty hk).1, (h3 k ty hk).2.moved hvm⟩, fun i hi => ?_, fun i w hw => vk_R.same hv (h5 i w hw), ⟨?_, ?_⟩, ⟨?_, by rw [hh]; exact h7.2.1, h7.2.2⟩, fun w hw hn => va_Nw.same (nest_on hn) hv.symm (h8 w hw hn), fun q hq => va_Nw.same rfl hv.symm (h9 q hq), fun q hq => (h10 q hq).moved hvm, h11.moved hvm, h12.moved hvm⟩
  · obtain ⟨aK, aV, e1, e2, e3⟩ := h4 i hi
    exact ⟨aK, aV, e1, e2, vk_S.moved hvm (vk_S.kept e3 hq)⟩
  · exact va_Z.moved hvm (va_Z.kept h6.1 hq)
  · exact va_Z.moved hvm (va_Z.kept h6.2 hq)
  · exact va_X.moved hvm (h7.1.kept (hq _ h7.2.1 h7.2.2))
theorem cad_inj {N0 : Nat} {ro : Nat → Nat} {a b : Nat} (ha : 28 ≤ a) (hb : 28 ≤ b) (h : cad N0 ro a = cad N0 ro b) : a = b := by
  unfold cad at h
  rw [if_neg (by omega), if_neg (by omega)] at h
  omega
theorem cad_ge {N0 : Nat} {ro : Nat → Nat} {a : Nat} (ha : 28 ≤ a) : N0 ≤ cad N0 ro a := by
  unfold cad
  rw [if_neg (by omega)]
  omega
theorem shOK_lo {μ : MM} {q : Nat} (h : shOK μ q) (hs : shp μ q < 26) : 28 ≤ q ∧ q < msz μ := by
  rcases h with ⟨h1, h2⟩ | ⟨h1, h2, -⟩ | ⟨h1, h2, h3⟩
  · unfold roK at h2
    split at h2
    · omega
    · split at h2
      · omega
      · split at h2 <;> omega
  · exact ⟨h1, h2⟩
  · omega
theorem shOK_ro {μ : MM} {q : Nat} (h : shOK μ q) (hs : 30 ≤ shp μ q) (hs2 : shp μ q < 34) : q < 28 ∧ shp μ q = roK q := by
  rcases h with h | ⟨h1, h2, h3⟩ | ⟨h1, h2, h3⟩
  · exact h
  · omega
  · omega
theorem Rep.at {N0 : Nat} {G : GG} {ro : Nat → Nat} {xs : Nat → Int32} {L : Nat} {μ : MM} {H : Heap} {q : Nat} (h : Rep N0 G ro xs L μ H) (hs : shp μ q < 26) : 28 ≤ q ∧ q < msz μ ∧ cellok G (cad N0 ro) μ H q := by
  have h1 := shOK_lo (h.2.1 q) hs
  exact ⟨h1.1, h1.2, h.2.2.2 q h1.1 h1.2⟩
theorem kty_none {k : Nat} (h : k < 13) : kty k = none := by
  unfold kty
  split <;> first | rfl | omega
theorem Rep.obj {N0 : Nat} {G : GG} {ro : Nat → Nat} {xs : Nat → Int32} {L : Nat} {μ : MM} {H : Heap} {q c : Nat} {r : vw_C} (h : Rep N0 G ro xs L μ H) (hs : shp μ q = c) (hc : c < 13) (hr : vwCl[c]? = some r) : t_OB (cad N0 ro q) (G.1 c) r.2.2 (G.2.1 c) H (fun k => fvl (cad N0 ro) μ q k (r.2.1 k).2.2.1) := by
  obtain ⟨-, -, h3⟩ := h.at (q := q) (by omega)
  unfold cellok at h3
  rw [hs, kty_none hc] at h3
  obtain ⟨r', e1, e2⟩ := h3
  cases hr.symm.trans e1
  exact e2
theorem Rep.arr {N0 : Nat} {G : GG} {ro : Nat → Nat} {xs : Nat → Int32} {L : Nat} {μ : MM} {H : Heap} {q k : Nat} {ty : FieldType} (h : Rep N0 G ro xs L μ H) (hs : shp μ q = k) (hk : kty k = some ty) : H[cad N0 ro q]? = some (arrV (G.2.2 k) (aln μ q) (fun j => elv (cad N0 ro) μ q j ty)) := by
  have hl : k < 26 := by
    unfold kty at hk
    split at hk <;> first | omega | cases hk
  obtain ⟨-, -, h3⟩ := h.at (q := q) (by omega)
  unfold cellok at h3
  rw [hs, hk] at h3
  exact h3
theorem cellok_congr {G : GG} {f : Nat → Nat} {μ μ' : MM} {H H' : Heap} {q : Nat} (hs : shp μ' q = shp μ q) (hn : aln μ' q = aln μ q) (hI : ∀ k, gI μ' q k = gI μ q k) (hL : ∀ k, gL μ' q k = gL μ q k) (hR : ∀ k, gR μ' q k = gR μ q k) (hH : H'[f q]? = H[f q]?) (h : cellok G f μ H q) : cellok G f μ' H' q := by
  unfold cellok at h ⊢
  rw [hs, hn]
  have e1 : ∀ ty, (fun j => elv f μ' q j ty) = fun j => elv f μ q j ty := fun ty => funext fun j => by unfold elv; rw [hI, hL, hR]
  have e2 : ∀ r : vw_C, (fun k => fvl f μ' q k (r.2.1 k).2.2.1) = fun k => fvl f μ q k (r.2.1 k).2.2.1 := fun r => funext fun k => by unfold fvl fvk; rw [hI, hR]
  split
  · next ty hk =>
    rw [hk] at h
    rw [hH, e1]
    exact h
  · next hk =>
    rw [hk] at h
    obtain ⟨r, h1, h2⟩ := h
    exact ⟨r, h1, by rw [e2]; exact h2.kept hH⟩
/-- one cell is written -/
theorem Rep.upd {N0 : Nat} {G : GG} {ro : Nat → Nat} {xs : Nat → Int32} {L : Nat} {μ μ' : MM} {H H' : Heap} {a : Nat} (h : Rep N0 G ro xs L μ H) (ha : 28 ≤ a)
    (hs : ∀ q, shp μ' q = shp μ q) (hn : ∀ q, aln μ' q = aln μ q) (hz : msz μ' = msz μ) (hI : ∀ q k, q ≠ a → gI μ' q k = gI μ q k) (hL : ∀ q k, q ≠ a → gL μ' q k = gL μ q k) (hR : ∀ q k, q ≠ a → gR μ' q k = gR μ q k)
    (hc : cellok G (cad N0 ro) μ' H' a) (e2 : H'.size = H.size) (e3 : ∀ q, q ≠ cad N0 ro a → H'[q]? = H[q]?) : Rep N0 G ro xs L μ' H' := by
  obtain ⟨h1, h2, h3, h4⟩ := h
  refine ⟨⟨by rw [hz]; exact h1.1, by rw [e2, hz]; exact h1.2⟩, fun q => ?_, ⟨fun i hi => ?_, by rw [hn]; exact h3.2.1, fun j => by rw [hI _ _ (by omega)]; exact h3.2.2 j⟩, fun q hq1 hq2 => ?_⟩
  · unfold shOK
    rw [hs, hz]
    exact h2 q
  · obtain ⟨g1, g2, g3, g4⟩ := h3.1 i hi
    exact ⟨by rw [hR _ _ (by omega)]; exact g1, by rw [hI _ _ (by omega)]; exact g2, by rw [hn]; exact g3, fun j => by rw [hI _ _ (by omega)]; exact g4 j⟩
  · by_cases hqa : q = a
    · rw [hqa]; exact hc
    · exact cellok_congr (hs q) (hn q) (fun k => hI q k hqa) (fun k => hL q k hqa) (fun k => hR q k hqa) (e3 _ (fun e => hqa (cad_inj hq1 ha e))) (h4 q hq1 (by rw [hz] at hq2; exact hq2))
/-- one cell is made -/
theorem Rep.push {N0 : Nat} {G : GG} {ro : Nat → Nat} {xs : Nat → Int32} {L : Nat} {μ : MM} {H H' : Heap} {kd n sl : Nat} (h : Rep N0 G ro xs L μ H) (hk : kd < 26)
    (hc : cellok G (cad N0 ro) (alc μ kd n sl) H' (msz μ)) (e2 : H'.size = H.size + 1) (e3 : ∀ q, q < H.size → H'[q]? = H[q]?) : Rep N0 G ro xs L (alc μ kd n sl) H' := by
  obtain ⟨h1, h2, h3, h4⟩ := h
  have ez : msz (alc μ kd n sl) = msz μ + 1 := rfl
  have es : ∀ q, shp (alc μ kd n sl) q = if q = msz μ then kd else shp μ q := fun q => rfl
  have en : ∀ q, aln (alc μ kd n sl) q = if q = msz μ then n else aln μ q := fun q => rfl
  have eI : ∀ q k, gI (alc μ kd n sl) q k = if q = msz μ then 0 else gI μ q k := fun q k => rfl
  have eL : ∀ q k, gL (alc μ kd n sl) q k = if q = msz μ then 0 else gL μ q k := fun q k => rfl
  have eR : ∀ q k, gR (alc μ kd n sl) q k = if q = msz μ then none else gR μ q k := fun q k => rfl
  have h28 := h1.1
  refine ⟨⟨by rw [ez]; omega, by rw [e2, ez]; have := h1.2; omega⟩, fun q => ?_, ⟨fun i hi => ?_, by rw [en, if_neg (by omega)]; exact h3.2.1, fun j => by rw [eI, if_neg (by omega)]; exact h3.2.2 j⟩, fun q hq1 hq2 => ?_⟩
  · unfold shOK
    rw [es, ez]
    by_cases hq : q = msz μ
    · rw [if_pos hq]
      exact Or.inr (Or.inl ⟨by omega, by omega, hk⟩)
    · rw [if_neg hq]
      rcases h2 q with g | ⟨g1, g2, g3⟩ | ⟨g1, g2, g3⟩
      · exact Or.inl g
      · exact Or.inr (Or.inl ⟨g1, by omega, g3⟩)
      · exact Or.inr (Or.inr ⟨g1, by omega, g3⟩)
  · obtain ⟨g1, g2, g3, g4⟩ := h3.1 i hi
    exact ⟨by rw [eR, if_neg (by omega)]; exact g1, by rw [eI, if_neg (by omega)]; exact g2, by rw [en, if_neg (by omega)]; exact g3, fun j => by rw [eI, if_neg (by omega)]; exact g4 j⟩
  · by_cases hqa : q = msz μ
    · rw [hqa]; exact hc
    · rw [ez] at hq2
      refine cellok_congr (μ := μ) (by rw [es, if_neg hqa]) (by rw [en, if_neg hqa]) (fun k => by rw [eI, if_neg hqa]) (fun k => by rw [eL, if_neg hqa]) (fun k => by rw [eR, if_neg hqa]) (e3 _ ?_) (h4 q hq1 (by omega))
      unfold cad
      rw [if_neg (by omega)]
      have := h1.2
      omega
end
section
/-! THE MACHINE FOLLOWS THE SMALL MACHINE, instruction by instruction -/
theorem gd_inv {b : Bool} {r : Rs} {x : Option Value × MM} (h : gd b r = some x) : b = true ∧ r = some x := by
  cases b with
  | true => exact ⟨rfl, h⟩
  | false => cases h
theorem p1_inv {st : List Value} {k : Value → List Value → Rs} {x : Option Value × MM} (h : p1 st k = some x) : ∃ v r, st = v :: r ∧ k v r = some x := by
  cases st with
  | nil => cases h
  | cons v r => exact ⟨v, r, rfl, h⟩
theorem asI_inv {v : Value} {k : Int32 → Rs} {x : Option Value × MM} (h : asI v k = some x) : ∃ i, v = .int i ∧ k i = some x := by
  cases v <;> first | (cases h; done) | exact ⟨_, rfl, h⟩
theorem asL_inv {v : Value} {k : Int64 → Rs} {x : Option Value × MM} (h : asL v k = some x) : ∃ i, v = .long i ∧ k i = some x := by
  cases v <;> first | (cases h; done) | exact ⟨_, rfl, h⟩
theorem asR_inv {v : Value} {k : Nat → Rs} {x : Option Value × MM} (h : asR v k = some x) : ∃ i : Nat, v = .ref i ∧ k i = some x := by
  cases v <;> first | (cases h; done) | exact ⟨_, rfl, h⟩
theorem asN_inv {v : Value} {y : Rs} {k : Nat → Rs} {x : Option Value × MM} (h : asN v y k = some x) : (v = .null ∧ y = some x) ∨ ∃ i : Nat, v = .ref i ∧ k i = some x := by
  cases v <;> first | (cases h; done) | exact Or.inr ⟨_, rfl, h⟩ | exact Or.inl ⟨rfl, h⟩
theorem cat1_inv {v : Value} {r : Rs} {x : Option Value × MM} (h : cat1 v r = some x) : (v = .null ∨ (∃ i, v = .ref i) ∨ ∃ i, v = .int i) ∧ r = some x := by
  cases v <;> first | (cases h; done) | exact ⟨Or.inl rfl, h⟩ | exact ⟨Or.inr (Or.inl ⟨_, rfl⟩), h⟩ | exact ⟨Or.inr (Or.inr ⟨_, rfl⟩), h⟩
theorem ppI_inv {st : List Value} {k : Int32 → List Value → Rs} {x : Option Value × MM} (h : ppI st k = some x) : ∃ i r, st = .int i :: r ∧ k i r = some x := by
  obtain ⟨v, r, rfl, h⟩ := p1_inv h
  obtain ⟨i, rfl, h⟩ := asI_inv h
  exact ⟨i, r, rfl, h⟩
theorem ppL_inv {st : List Value} {k : Int64 → List Value → Rs} {x : Option Value × MM} (h : ppL st k = some x) : ∃ i r, st = .long i :: r ∧ k i r = some x := by
  obtain ⟨v, r, rfl, h⟩ := p1_inv h
  obtain ⟨i, rfl, h⟩ := asL_inv h
  exact ⟨i, r, rfl, h⟩
theorem ppR_inv {st : List Value} {k : Nat → List Value → Rs} {x : Option Value × MM} (h : ppR st k = some x) : ∃ (i : Nat) (r : List Value), st = .ref i :: r ∧ k i r = some x := by
  obtain ⟨v, r, rfl, h⟩ := p1_inv h
  obtain ⟨i, rfl, h⟩ := asR_inv h
  exact ⟨i, r, rfl, h⟩
theorem lgt_inv {l : LV} {i : Nat} {k : Value → Rs} {x : Option Value × MM} (h : lgt l i k = some x) : ∃ (j : Nat) (v : Value), l[j]? = some (i, v) ∧ k v = some x := by
  induction l with
  | nil => cases h
  | cons q l ih =>
    unfold lgt at h
    split at h
    · next hb =>
      exact ⟨0, q.2, by rw [List.getElem?_cons_zero, ← Nat.eq_of_beq_eq_true hb], h⟩
    · obtain ⟨j, v, h1, h2⟩ := ih h
      exact ⟨j + 1, v, by rw [List.getElem?_cons_succ]; exact h1, h2⟩
theorem ppN_inv {k : List Value → List Value → Rs} {x : Option Value × MM} : ∀ (n : Nat) (st acc : List Value), ppN n st acc k = some x → ∃ vs r, vs.length = n ∧ st = vs ++ r ∧ k (vs.reverse ++ acc) r = some x
  | 0, st, acc, h => ⟨[], st, rfl, rfl, h⟩
  | n + 1, st, acc, h => by
    obtain ⟨v, r, rfl, h⟩ := p1_inv h
    obtain ⟨vs, r', h1, rfl, h2⟩ := ppN_inv n r (v :: acc) h
    exact ⟨v :: vs, r', by simp [h1], rfl, by simpa using h2⟩
theorem cin_mem : ∀ {l : List Nat} {s : Nat}, cin l s = true → s ∈ l
  | [], _, h => by cases h
  | c :: r, s, h => by
    unfold cin at h
    rcases Bool.or_eq_true_iff.mp h with h | h
    · rw [Nat.eq_of_beq_eq_true h]; exact List.mem_cons_self
    · exact List.mem_cons_of_mem _ (cin_mem h)
theorem cin_not : ∀ {l : List Nat} {s : Nat}, cin l s = false → s ∉ l
  | [], _, _ => List.not_mem_nil
  | c :: r, s, h => by
    unfold cin at h
    rw [Bool.or_eq_false_iff] at h
    intro hm
    rcases List.mem_cons.mp hm with rfl | hm
    · have := Nat.beq_refl s
      rw [this] at h
      exact absurd h.1 (by decide)
    · exact cin_not h.2 hm
theorem inb_in {i : Int32} {n : Nat} (h : inb i n = true) : vp_in i n ∧ i.toNatClampNeg < n ∧ ¬ i < 0 := by
  unfold inb at h
  simp only [Bool.and_eq_true, Bool.not_eq_true', decide_eq_false_iff_not, decide_eq_true_eq] at h
  exact ⟨fun q => q.elim h.1 (fun z => by omega), h.2, h.1⟩
theorem b01_or {x : Int32} (h : b01 x = true) : x = 0 ∨ x = 1 := by
  unfold b01 at h
  simpa using h
theorem and2 {a b : Bool} (h : (a && b) = true) : a = true ∧ b = true := by simpa using h
theorem wis_in {i : Nat} {w : Cond} (h : wis i w = true) : w ∈ lw_tbl := by
  unfold wis at h
  split at h
  · next v hv =>
    have : v = w := by simpa using h
    rw [← this]
    exact List.mem_of_getElem? hv
  · cases h
theorem wis_g {i : Nat} {w : Cond} (h : wis i w = true) (hg : goodWord w = true) : w ∈ gTbl := List.mem_filter.mpr ⟨wis_in h, hg⟩
theorem cl2_get {f : Nat → Nat} {z : Value} {l : LV} {j i : Nat} {v : Value} (h : l[j]? = some (i, v)) : (cl2 f z l)[j]? = some (i, cv f z v) := by
  unfold cl2
  rw [List.getElem?_map, h]
  rfl
theorem cv_cat {f : Nat → Nat} {z : Value} (hz : z = .null ∨ ∃ a, z = .ref a) (v : Value) : (cv f z v).category = v.category := by
  cases v with
  | retAddr n =>
    rcases hz with rfl | ⟨a, rfl⟩ <;> rfl
  | _ => rfl
theorem cl2_lst1 {f : Nat → Nat} {z : Value} (hz : z = .null ∨ ∃ a, z = .ref a) (l : LV) (i : Nat) (v : Value) : (i, cv f z v) :: (cl2 f z l).filter (fun q => !(q.1 == i) && !(q.1 + 1 == i && q.2.category == 2)) = cl2 f z (lst1 l i v) := by
  unfold cl2 lst1
  rw [List.map_cons, List.filter_map]
  congr 2
  apply List.filter_congr
  intro q _
  simp only [Function.comp, cv_cat hz]
theorem cl2_lst2 {f : Nat → Nat} {z : Value} (hz : z = .null ∨ ∃ a, z = .ref a) (l : LV) (i : Nat) (v : Value) : (i, cv f z v) :: (cl2 f z l).filter (fun q => !(q.1 == i) && (!(q.1 == i + 1) && !(q.1 + 1 == i && q.2.category == 2))) = cl2 f z (lst2 l i v) := by
  unfold cl2 lst2
  rw [List.map_cons, List.filter_map]
  congr 2
  apply List.filter_congr
  intro q _
  simp only [Function.comp, cv_cat hz]
theorem slr_map {f : Nat → Nat} {z : Value} (hz : z = .null ∨ ∃ a, z = .ref a) {st : List Value} (h : slr st = true) : ((st.map (cv f z)).map fun v => v.category).sum ≤ 8 := by
  have h1 := Nat.le_of_ble_eq_true h
  rw [List.map_map, show ((fun v => v.category) ∘ cv f z) = fun v => v.category from funext fun v => cv_cat hz v]
  exact h1
def mle (μ μ' : MM) : Prop := msz μ ≤ msz μ' ∧ msl μ ≤ msl μ'
theorem mle_rf {μ : MM} : mle μ μ := ⟨Nat.le_refl _, Nat.le_refl _⟩
theorem mle_tr {a b c : MM} (h : mle a b) (h2 : mle b c) : mle a c := ⟨Nat.le_trans h.1 h2.1, Nat.le_trans h.2 h2.2⟩
def retR (r : Option Value) (i : Instr) (as : List Nat) : Prop := match i with
  | .ireturn => ∃ x, r = some (.int x) ∧ rtg as x none = none ∧ ∃ y : Option Value × MM, rtg as x (some y) = some y
  | .lreturn => ∃ x, r = some (.long x)
  | .areturn => r = some .null ∨ ∃ a, r = some (.ref a)
  | .return_ => r = none
  | _ => False
section SIM
variable {p : Program} {l : Launch} {e : Env} {R : Room} {s : State} {m : MethodId} {args : Array Value} {below : List Frame} {meth : Method} {c : Code} {Q : State → Prop}
variable {N0 : Nat} {G : GG} {ro : Nat → Nat} {z : Value} {xs : Nat → Int32} {L : Nat} {t : MT} {z0 y0 d : Nat} {r : Option Value} {μ9 : MM}
def Wk (p : Program) (l : Launch) (e : Env) (R : Room) (s : State) (m : MethodId) (args : Array Value) (below : List Frame) (meth : Method) (c : Code) (Q : State → Prop) (N0 : Nat) (G : GG) (ro : Nat → Nat) (z : Value) (xs : Nat → Int32) (L : Nat) (nL z0 y0 : Nat) (μ9 : MM) (pc : Nat) (ls : LV) (st : List Value) (μ : MM) : Prop :=
  mle μ μ9 ∧ ∀ (H : Heap) (locs : List Loc) (Ls : Array Slot), Rep N0 G ro xs L μ H → va_S (fun q => N0 ≤ q) s.heap H locs → lv_has Ls nL (cl2 (cad N0 ro) z ls) → z0 ≤ msz μ → y0 ≤ msl μ → W p l e R s m args below meth c H locs (msz μ - z0) (msl μ - y0) Q (F0 m pc Ls (st.map (cv (cad N0 ro) z)))
/-- the method's own state of things -/
def Cx (p : Program) (R : Room) (s : State) (m : MethodId) (args : Array Value) (meth : Method) (c : Code) (N0 : Nat) (G : GG) (ro : Nat → Nat) (z : Value) (xs : Nat → Int32) (L : Nat) (t : MT) (d z0 y0 : Nat) (μ9 : MM) : Prop :=
  p.tables.exec = Jvm.exec ∧ c.code = t.2.1 ∧ c.maxLocals = t.2.2.1 ∧ s.vm.findClass t.1.cls = some m.cls ∧ (∀ w ∈ gTbl, w.before args s = true) ∧ (t.1.name = "<init>" → meth.name = "<init>") ∧ WF N0 G ro z xs L s ∧ d + 1 ≤ R.frames ∧ 60 * (d + 1) ≤ R.locals ∧ msz μ9 - z0 ≤ R.cells ∧ msl μ9 - y0 ≤ R.slots
-- GENERATED by mk06.py from here on
variable {C : Nat → List Value → MM → Rs} {J : Nat → LV → List Value → MM → Rs} {K : LV → List Value → MM → Rs} {pc len : Nat} {as ws : List Nat} {ls : LV} {st : List Value} {μ : MM}
theorem s_aconst_null  (cx : Cx p R s m args meth c N0 G ro z xs L t d z0 y0 μ9) (ok : okI t (pc, .aconst_null, len, as, ws) = true) (hK : ∀ ls st μ, K ls st μ = some (r, μ9) → Wk p l e R s m args below meth c Q N0 G ro z xs L t.2.2.1 z0 y0 μ9 (pc + len) ls st μ) (hJ : ∀ b ls st μ, J b ls st μ = some (r, μ9) → Wk p l e R s m args below meth c Q N0 G ro z xs L t.2.2.1 z0 y0 μ9 (bpc t b) ls st μ) (h : x1 C J (.aconst_null) as ls st μ K = some (r, μ9)) : Wk p l e R s m args below meth c Q N0 G ro z xs L t.2.2.1 z0 y0 μ9 pc ls st μ := by
  obtain ⟨hx, hb, hml, hown, hts, hmn, wf, hfr, hlo, hce, hsl⟩ := cx
  have ok2 : (decide (decode t.2.1 pc = .ok (.aconst_null, len)) && Nat.beq len 1) = true := ok
  obtain ⟨hd, ok3⟩ := and2 ok2
  have hd := of_decide_eq_true hd
  obtain rfl : len = 1 := Nat.eq_of_beq_eq_true ok3
  obtain ⟨hm, hk⟩ := hK _ _ _ h
  refine ⟨hm, fun H locs Ls hR hS hL g1 g2 => ?_⟩
  exact lv_null hx hb hd (hk H locs Ls hR hS hL g1 g2)
theorem s_iconst {n : Int} (cx : Cx p R s m args meth c N0 G ro z xs L t d z0 y0 μ9) (ok : okI t (pc, .iconst n, len, as, ws) = true) (hK : ∀ ls st μ, K ls st μ = some (r, μ9) → Wk p l e R s m args below meth c Q N0 G ro z xs L t.2.2.1 z0 y0 μ9 (pc + len) ls st μ) (hJ : ∀ b ls st μ, J b ls st μ = some (r, μ9) → Wk p l e R s m args below meth c Q N0 G ro z xs L t.2.2.1 z0 y0 μ9 (bpc t b) ls st μ) (h : x1 C J (.iconst n) as ls st μ K = some (r, μ9)) : Wk p l e R s m args below meth c Q N0 G ro z xs L t.2.2.1 z0 y0 μ9 pc ls st μ := by
  obtain ⟨hx, hb, hml, hown, hts, hmn, wf, hfr, hlo, hce, hsl⟩ := cx
  have ok2 : (decide (decode t.2.1 pc = .ok (.iconst n, len)) && Nat.beq len 1) = true := ok
  obtain ⟨hd, ok3⟩ := and2 ok2
  have hd := of_decide_eq_true hd
  obtain rfl : len = 1 := Nat.eq_of_beq_eq_true ok3
  obtain ⟨hm, hk⟩ := hK _ _ _ h
  refine ⟨hm, fun H locs Ls hR hS hL g1 g2 => ?_⟩
  exact lv_iconst hx hb hd rfl (hk H locs Ls hR hS hL g1 g2)
theorem s_bipush {n : Int} (cx : Cx p R s m args meth c N0 G ro z xs L t d z0 y0 μ9) (ok : okI t (pc, .bipush n, len, as, ws) = true) (hK : ∀ ls st μ, K ls st μ = some (r, μ9) → Wk p l e R s m args below meth c Q N0 G ro z xs L t.2.2.1 z0 y0 μ9 (pc + len) ls st μ) (hJ : ∀ b ls st μ, J b ls st μ = some (r, μ9) → Wk p l e R s m args below meth c Q N0 G ro z xs L t.2.2.1 z0 y0 μ9 (bpc t b) ls st μ) (h : x1 C J (.bipush n) as ls st μ K = some (r, μ9)) : Wk p l e R s m args below meth c Q N0 G ro z xs L t.2.2.1 z0 y0 μ9 pc ls st μ := by
  obtain ⟨hx, hb, hml, hown, hts, hmn, wf, hfr, hlo, hce, hsl⟩ := cx
  have ok2 : (decide (decode t.2.1 pc = .ok (.bipush n, len)) && Nat.beq len 2) = true := ok
  obtain ⟨hd, ok3⟩ := and2 ok2
  have hd := of_decide_eq_true hd
  obtain rfl : len = 2 := Nat.eq_of_beq_eq_true ok3
  obtain ⟨hm, hk⟩ := hK _ _ _ h
  refine ⟨hm, fun H locs Ls hR hS hL g1 g2 => ?_⟩
  exact lv_bipush hx hb hd rfl (hk H locs Ls hR hS hL g1 g2)
theorem s_sipush {n : Int} (cx : Cx p R s m args meth c N0 G ro z xs L t d z0 y0 μ9) (ok : okI t (pc, .sipush n, len, as, ws) = true) (hK : ∀ ls st μ, K ls st μ = some (r, μ9) → Wk p l e R s m args below meth c Q N0 G ro z xs L t.2.2.1 z0 y0 μ9 (pc + len) ls st μ) (hJ : ∀ b ls st μ, J b ls st μ = some (r, μ9) → Wk p l e R s m args below meth c Q N0 G ro z xs L t.2.2.1 z0 y0 μ9 (bpc t b) ls st μ) (h : x1 C J (.sipush n) as ls st μ K = some (r, μ9)) : Wk p l e R s m args below meth c Q N0 G ro z xs L t.2.2.1 z0 y0 μ9 pc ls st μ := by
  obtain ⟨hx, hb, hml, hown, hts, hmn, wf, hfr, hlo, hce, hsl⟩ := cx
  have ok2 : (decide (decode t.2.1 pc = .ok (.sipush n, len)) && Nat.beq len 3) = true := ok
  obtain ⟨hd, ok3⟩ := and2 ok2
  have hd := of_decide_eq_true hd
  obtain rfl : len = 3 := Nat.eq_of_beq_eq_true ok3
  obtain ⟨hm, hk⟩ := hK _ _ _ h
  refine ⟨hm, fun H locs Ls hR hS hL g1 g2 => ?_⟩
  exact lv_sipush hx hb hd rfl (hk H locs Ls hR hS hL g1 g2)
theorem s_lconst {n : Fin 2} (cx : Cx p R s m args meth c N0 G ro z xs L t d z0 y0 μ9) (ok : okI t (pc, .lconst n, len, as, ws) = true) (hK : ∀ ls st μ, K ls st μ = some (r, μ9) → Wk p l e R s m args below meth c Q N0 G ro z xs L t.2.2.1 z0 y0 μ9 (pc + len) ls st μ) (hJ : ∀ b ls st μ, J b ls st μ = some (r, μ9) → Wk p l e R s m args below meth c Q N0 G ro z xs L t.2.2.1 z0 y0 μ9 (bpc t b) ls st μ) (h : x1 C J (.lconst n) as ls st μ K = some (r, μ9)) : Wk p l e R s m args below meth c Q N0 G ro z xs L t.2.2.1 z0 y0 μ9 pc ls st μ := by
  obtain ⟨hx, hb, hml, hown, hts, hmn, wf, hfr, hlo, hce, hsl⟩ := cx
  have ok2 : (decide (decode t.2.1 pc = .ok (.lconst n, len)) && Nat.beq len 1) = true := ok
  obtain ⟨hd, ok3⟩ := and2 ok2
  have hd := of_decide_eq_true hd
  obtain rfl : len = 1 := Nat.eq_of_beq_eq_true ok3
  obtain ⟨hm, hk⟩ := hK _ _ _ h
  refine ⟨hm, fun H locs Ls hR hS hL g1 g2 => ?_⟩
  exact lv_lconst hx hb hd rfl (hk H locs Ls hR hS hL g1 g2)
theorem s_iload {n : Nat} (cx : Cx p R s m args meth c N0 G ro z xs L t d z0 y0 μ9) (ok : okI t (pc, .iload n, len, as, ws) = true) (hK : ∀ ls st μ, K ls st μ = some (r, μ9) → Wk p l e R s m args below meth c Q N0 G ro z xs L t.2.2.1 z0 y0 μ9 (pc + len) ls st μ) (hJ : ∀ b ls st μ, J b ls st μ = some (r, μ9) → Wk p l e R s m args below meth c Q N0 G ro z xs L t.2.2.1 z0 y0 μ9 (bpc t b) ls st μ) (h : x1 C J (.iload n) as ls st μ K = some (r, μ9)) : Wk p l e R s m args below meth c Q N0 G ro z xs L t.2.2.1 z0 y0 μ9 pc ls st μ := by
  obtain ⟨hx, hb, hml, hown, hts, hmn, wf, hfr, hlo, hce, hsl⟩ := cx
  have ok2 : (decide (decode t.2.1 pc = .ok (.iload n, len)) && (Nat.beq len 2 && decide (n < t.2.2.1))) = true := ok
  obtain ⟨hd, ok3⟩ := and2 ok2
  have hd := of_decide_eq_true hd
  obtain ⟨ok4, ok5⟩ := and2 ok3
  obtain rfl : len = 2 := Nat.eq_of_beq_eq_true ok4
  obtain ⟨j, v, hj, h1⟩ := lgt_inv h
  obtain ⟨x, rfl, h2⟩ := asI_inv h1
  obtain ⟨hm, hk⟩ := hK _ _ _ h2
  refine ⟨hm, fun H locs Ls hR hS hL g1 g2 => ?_⟩
  exact lv_iload hx hb hd (lv_at hL j (cl2_get hj)) (hk H locs Ls hR hS hL g1 g2)
theorem s_iload_n {n : Fin 4} (cx : Cx p R s m args meth c N0 G ro z xs L t d z0 y0 μ9) (ok : okI t (pc, .iload_n n, len, as, ws) = true) (hK : ∀ ls st μ, K ls st μ = some (r, μ9) → Wk p l e R s m args below meth c Q N0 G ro z xs L t.2.2.1 z0 y0 μ9 (pc + len) ls st μ) (hJ : ∀ b ls st μ, J b ls st μ = some (r, μ9) → Wk p l e R s m args below meth c Q N0 G ro z xs L t.2.2.1 z0 y0 μ9 (bpc t b) ls st μ) (h : x1 C J (.iload_n n) as ls st μ K = some (r, μ9)) : Wk p l e R s m args below meth c Q N0 G ro z xs L t.2.2.1 z0 y0 μ9 pc ls st μ := by
  obtain ⟨hx, hb, hml, hown, hts, hmn, wf, hfr, hlo, hce, hsl⟩ := cx
  have ok2 : (decide (decode t.2.1 pc = .ok (.iload_n n, len)) && Nat.beq len 1) = true := ok
  obtain ⟨hd, ok3⟩ := and2 ok2
  have hd := of_decide_eq_true hd
  obtain rfl : len = 1 := Nat.eq_of_beq_eq_true ok3
  obtain ⟨j, v, hj, h1⟩ := lgt_inv h
  obtain ⟨x, rfl, h2⟩ := asI_inv h1
  obtain ⟨hm, hk⟩ := hK _ _ _ h2
  refine ⟨hm, fun H locs Ls hR hS hL g1 g2 => ?_⟩
  exact lv_iload_n hx hb hd rfl (lv_at hL j (cl2_get hj)) (hk H locs Ls hR hS hL g1 g2)
theorem s_lload {n : Nat} (cx : Cx p R s m args meth c N0 G ro z xs L t d z0 y0 μ9) (ok : okI t (pc, .lload n, len, as, ws) = true) (hK : ∀ ls st μ, K ls st μ = some (r, μ9) → Wk p l e R s m args below meth c Q N0 G ro z xs L t.2.2.1 z0 y0 μ9 (pc + len) ls st μ) (hJ : ∀ b ls st μ, J b ls st μ = some (r, μ9) → Wk p l e R s m args below meth c Q N0 G ro z xs L t.2.2.1 z0 y0 μ9 (bpc t b) ls st μ) (h : x1 C J (.lload n) as ls st μ K = some (r, μ9)) : Wk p l e R s m args below meth c Q N0 G ro z xs L t.2.2.1 z0 y0 μ9 pc ls st μ := by
  obtain ⟨hx, hb, hml, hown, hts, hmn, wf, hfr, hlo, hce, hsl⟩ := cx
  have ok2 : (decide (decode t.2.1 pc = .ok (.lload n, len)) && (Nat.beq len 2 && decide (n < t.2.2.1))) = true := ok
  obtain ⟨hd, ok3⟩ := and2 ok2
  have hd := of_decide_eq_true hd
  obtain ⟨ok4, ok5⟩ := and2 ok3
  obtain rfl : len = 2 := Nat.eq_of_beq_eq_true ok4
  obtain ⟨j, v, hj, h1⟩ := lgt_inv h
  obtain ⟨x, rfl, h2⟩ := asL_inv h1
  obtain ⟨hm, hk⟩ := hK _ _ _ h2
  refine ⟨hm, fun H locs Ls hR hS hL g1 g2 => ?_⟩
  exact lv_lload hx hb hd (lv_at hL j (cl2_get hj)) (hk H locs Ls hR hS hL g1 g2)
theorem s_lload_n {n : Fin 4} (cx : Cx p R s m args meth c N0 G ro z xs L t d z0 y0 μ9) (ok : okI t (pc, .lload_n n, len, as, ws) = true) (hK : ∀ ls st μ, K ls st μ = some (r, μ9) → Wk p l e R s m args below meth c Q N0 G ro z xs L t.2.2.1 z0 y0 μ9 (pc + len) ls st μ) (hJ : ∀ b ls st μ, J b ls st μ = some (r, μ9) → Wk p l e R s m args below meth c Q N0 G ro z xs L t.2.2.1 z0 y0 μ9 (bpc t b) ls st μ) (h : x1 C J (.lload_n n) as ls st μ K = some (r, μ9)) : Wk p l e R s m args below meth c Q N0 G ro z xs L t.2.2.1 z0 y0 μ9 pc ls st μ := by
  obtain ⟨hx, hb, hml, hown, hts, hmn, wf, hfr, hlo, hce, hsl⟩ := cx
  have ok2 : (decide (decode t.2.1 pc = .ok (.lload_n n, len)) && Nat.beq len 1) = true := ok
  obtain ⟨hd, ok3⟩ := and2 ok2
  have hd := of_decide_eq_true hd
  obtain rfl : len = 1 := Nat.eq_of_beq_eq_true ok3
  obtain ⟨j, v, hj, h1⟩ := lgt_inv h
  obtain ⟨x, rfl, h2⟩ := asL_inv h1
  obtain ⟨hm, hk⟩ := hK _ _ _ h2
  refine ⟨hm, fun H locs Ls hR hS hL g1 g2 => ?_⟩
  exact lv_lload_n hx hb hd rfl (lv_at hL j (cl2_get hj)) (hk H locs Ls hR hS hL g1 g2)
theorem s_aload {n : Nat} (cx : Cx p R s m args meth c N0 G ro z xs L t d z0 y0 μ9) (ok : okI t (pc, .aload n, len, as, ws) = true) (hK : ∀ ls st μ, K ls st μ = some (r, μ9) → Wk p l e R s m args below meth c Q N0 G ro z xs L t.2.2.1 z0 y0 μ9 (pc + len) ls st μ) (hJ : ∀ b ls st μ, J b ls st μ = some (r, μ9) → Wk p l e R s m args below meth c Q N0 G ro z xs L t.2.2.1 z0 y0 μ9 (bpc t b) ls st μ) (h : x1 C J (.aload n) as ls st μ K = some (r, μ9)) : Wk p l e R s m args below meth c Q N0 G ro z xs L t.2.2.1 z0 y0 μ9 pc ls st μ := by
  obtain ⟨hx, hb, hml, hown, hts, hmn, wf, hfr, hlo, hce, hsl⟩ := cx
  have ok2 : (decide (decode t.2.1 pc = .ok (.aload n, len)) && (Nat.beq len 2 && decide (n < t.2.2.1))) = true := ok
  obtain ⟨hd, ok3⟩ := and2 ok2
  have hd := of_decide_eq_true hd
  obtain ⟨ok4, ok5⟩ := and2 ok3
  obtain rfl : len = 2 := Nat.eq_of_beq_eq_true ok4
  obtain ⟨j, v, hj, h1⟩ := lgt_inv h
  rcases asN_inv h1 with ⟨rfl, h2⟩ | ⟨x, rfl, h2⟩
  · obtain ⟨hm, hk⟩ := hK _ _ _ h2
    exact ⟨hm, fun H locs Ls hR hS hL g1 g2 => lv_aloadN hx hb hd (lv_at hL j (cl2_get hj)) (hk H locs Ls hR hS hL g1 g2)⟩
  · obtain ⟨hm, hk⟩ := hK _ _ _ h2
    exact ⟨hm, fun H locs Ls hR hS hL g1 g2 => lv_aload hx hb hd (lv_at hL j (cl2_get hj)) (hk H locs Ls hR hS hL g1 g2)⟩
theorem s_aload_n {n : Fin 4} (cx : Cx p R s m args meth c N0 G ro z xs L t d z0 y0 μ9) (ok : okI t (pc, .aload_n n, len, as, ws) = true) (hK : ∀ ls st μ, K ls st μ = some (r, μ9) → Wk p l e R s m args below meth c Q N0 G ro z xs L t.2.2.1 z0 y0 μ9 (pc + len) ls st μ) (hJ : ∀ b ls st μ, J b ls st μ = some (r, μ9) → Wk p l e R s m args below meth c Q N0 G ro z xs L t.2.2.1 z0 y0 μ9 (bpc t b) ls st μ) (h : x1 C J (.aload_n n) as ls st μ K = some (r, μ9)) : Wk p l e R s m args below meth c Q N0 G ro z xs L t.2.2.1 z0 y0 μ9 pc ls st μ := by
  obtain ⟨hx, hb, hml, hown, hts, hmn, wf, hfr, hlo, hce, hsl⟩ := cx
  have ok2 : (decide (decode t.2.1 pc = .ok (.aload_n n, len)) && Nat.beq len 1) = true := ok
  obtain ⟨hd, ok3⟩ := and2 ok2
  have hd := of_decide_eq_true hd
  obtain rfl : len = 1 := Nat.eq_of_beq_eq_true ok3
  obtain ⟨j, v, hj, h1⟩ := lgt_inv h
  rcases asN_inv h1 with ⟨rfl, h2⟩ | ⟨x, rfl, h2⟩
  · obtain ⟨hm, hk⟩ := hK _ _ _ h2
    exact ⟨hm, fun H locs Ls hR hS hL g1 g2 => lv_aload_nN hx hb hd rfl (lv_at hL j (cl2_get hj)) (hk H locs Ls hR hS hL g1 g2)⟩
  · obtain ⟨hm, hk⟩ := hK _ _ _ h2
    exact ⟨hm, fun H locs Ls hR hS hL g1 g2 => lv_aload_n hx hb hd rfl (lv_at hL j (cl2_get hj)) (hk H locs Ls hR hS hL g1 g2)⟩
theorem s_istore {n : Nat} (cx : Cx p R s m args meth c N0 G ro z xs L t d z0 y0 μ9) (ok : okI t (pc, .istore n, len, as, ws) = true) (hK : ∀ ls st μ, K ls st μ = some (r, μ9) → Wk p l e R s m args below meth c Q N0 G ro z xs L t.2.2.1 z0 y0 μ9 (pc + len) ls st μ) (hJ : ∀ b ls st μ, J b ls st μ = some (r, μ9) → Wk p l e R s m args below meth c Q N0 G ro z xs L t.2.2.1 z0 y0 μ9 (bpc t b) ls st μ) (h : x1 C J (.istore n) as ls st μ K = some (r, μ9)) : Wk p l e R s m args below meth c Q N0 G ro z xs L t.2.2.1 z0 y0 μ9 pc ls st μ := by
  obtain ⟨hx, hb, hml, hown, hts, hmn, wf, hfr, hlo, hce, hsl⟩ := cx
  have ok2 : (decide (decode t.2.1 pc = .ok (.istore n, len)) && (Nat.beq len 2 && decide (n < t.2.2.1))) = true := ok
  obtain ⟨hd, ok3⟩ := and2 ok2
  have hd := of_decide_eq_true hd
  obtain ⟨ok4, ok5⟩ := and2 ok3
  obtain rfl : len = 2 := Nat.eq_of_beq_eq_true ok4
  obtain ⟨x, st, rfl, h1⟩ := ppI_inv h
  obtain ⟨hm, hk⟩ := hK _ _ _ h1
  refine ⟨hm, fun H locs Ls hR hS hL g1 g2 => ?_⟩
  exact lv_istore hx hb hd hL (of_decide_eq_true ok5) (cl2_lst1 wf.1.2 _ _ (.int x)) (fun ls' hl' => hk H locs ls' hR hS hl' g1 g2)
theorem s_istore_n {n : Fin 4} (cx : Cx p R s m args meth c N0 G ro z xs L t d z0 y0 μ9) (ok : okI t (pc, .istore_n n, len, as, ws) = true) (hK : ∀ ls st μ, K ls st μ = some (r, μ9) → Wk p l e R s m args below meth c Q N0 G ro z xs L t.2.2.1 z0 y0 μ9 (pc + len) ls st μ) (hJ : ∀ b ls st μ, J b ls st μ = some (r, μ9) → Wk p l e R s m args below meth c Q N0 G ro z xs L t.2.2.1 z0 y0 μ9 (bpc t b) ls st μ) (h : x1 C J (.istore_n n) as ls st μ K = some (r, μ9)) : Wk p l e R s m args below meth c Q N0 G ro z xs L t.2.2.1 z0 y0 μ9 pc ls st μ := by
  obtain ⟨hx, hb, hml, hown, hts, hmn, wf, hfr, hlo, hce, hsl⟩ := cx
  have ok2 : (decide (decode t.2.1 pc = .ok (.istore_n n, len)) && (Nat.beq len 1 && decide ((n : Nat) < t.2.2.1))) = true := ok
  obtain ⟨hd, ok3⟩ := and2 ok2
  have hd := of_decide_eq_true hd
  obtain ⟨ok4, ok5⟩ := and2 ok3
  obtain rfl : len = 1 := Nat.eq_of_beq_eq_true ok4
  obtain ⟨x, st, rfl, h1⟩ := ppI_inv h
  obtain ⟨hm, hk⟩ := hK _ _ _ h1
  refine ⟨hm, fun H locs Ls hR hS hL g1 g2 => ?_⟩
  exact lv_istore_n hx hb hd rfl hL (of_decide_eq_true ok5) (cl2_lst1 wf.1.2 _ _ (.int x)) (fun ls' hl' => hk H locs ls' hR hS hl' g1 g2)
theorem s_lstore {n : Nat} (cx : Cx p R s m args meth c N0 G ro z xs L t d z0 y0 μ9) (ok : okI t (pc, .lstore n, len, as, ws) = true) (hK : ∀ ls st μ, K ls st μ = some (r, μ9) → Wk p l e R s m args below meth c Q N0 G ro z xs L t.2.2.1 z0 y0 μ9 (pc + len) ls st μ) (hJ : ∀ b ls st μ, J b ls st μ = some (r, μ9) → Wk p l e R s m args below meth c Q N0 G ro z xs L t.2.2.1 z0 y0 μ9 (bpc t b) ls st μ) (h : x1 C J (.lstore n) as ls st μ K = some (r, μ9)) : Wk p l e R s m args below meth c Q N0 G ro z xs L t.2.2.1 z0 y0 μ9 pc ls st μ := by
  obtain ⟨hx, hb, hml, hown, hts, hmn, wf, hfr, hlo, hce, hsl⟩ := cx
  have ok2 : (decide (decode t.2.1 pc = .ok (.lstore n, len)) && (Nat.beq len 2 && decide (n + 1 < t.2.2.1))) = true := ok
  obtain ⟨hd, ok3⟩ := and2 ok2
  have hd := of_decide_eq_true hd
  obtain ⟨ok4, ok5⟩ := and2 ok3
  obtain rfl : len = 2 := Nat.eq_of_beq_eq_true ok4
  obtain ⟨x, st, rfl, h1⟩ := ppL_inv h
  obtain ⟨hm, hk⟩ := hK _ _ _ h1
  refine ⟨hm, fun H locs Ls hR hS hL g1 g2 => ?_⟩
  exact lv_lstore hx hb hd hL (of_decide_eq_true ok5) (cl2_lst2 wf.1.2 _ _ (.long x)) (fun ls' hl' => hk H locs ls' hR hS hl' g1 g2)
theorem s_lstore_n {n : Fin 4} (cx : Cx p R s m args meth c N0 G ro z xs L t d z0 y0 μ9) (ok : okI t (pc, .lstore_n n, len, as, ws) = true) (hK : ∀ ls st μ, K ls st μ = some (r, μ9) → Wk p l e R s m args below meth c Q N0 G ro z xs L t.2.2.1 z0 y0 μ9 (pc + len) ls st μ) (hJ : ∀ b ls st μ, J b ls st μ = some (r, μ9) → Wk p l e R s m args below meth c Q N0 G ro z xs L t.2.2.1 z0 y0 μ9 (bpc t b) ls st μ) (h : x1 C J (.lstore_n n) as ls st μ K = some (r, μ9)) : Wk p l e R s m args below meth c Q N0 G ro z xs L t.2.2.1 z0 y0 μ9 pc ls st μ := by
  obtain ⟨hx, hb, hml, hown, hts, hmn, wf, hfr, hlo, hce, hsl⟩ := cx
  have ok2 : (decide (decode t.2.1 pc = .ok (.lstore_n n, len)) && (Nat.beq len 1 && decide ((n : Nat) + 1 < t.2.2.1))) = true := ok
  obtain ⟨hd, ok3⟩ := and2 ok2
  have hd := of_decide_eq_true hd
  obtain ⟨ok4, ok5⟩ := and2 ok3
  obtain rfl : len = 1 := Nat.eq_of_beq_eq_true ok4
  obtain ⟨x, st, rfl, h1⟩ := ppL_inv h
  obtain ⟨hm, hk⟩ := hK _ _ _ h1
  refine ⟨hm, fun H locs Ls hR hS hL g1 g2 => ?_⟩
  exact lv_lstore_n hx hb hd rfl hL (of_decide_eq_true ok5) (cl2_lst2 wf.1.2 _ _ (.long x)) (fun ls' hl' => hk H locs ls' hR hS hl' g1 g2)
theorem s_astore {n : Nat} (cx : Cx p R s m args meth c N0 G ro z xs L t d z0 y0 μ9) (ok : okI t (pc, .astore n, len, as, ws) = true) (hK : ∀ ls st μ, K ls st μ = some (r, μ9) → Wk p l e R s m args below meth c Q N0 G ro z xs L t.2.2.1 z0 y0 μ9 (pc + len) ls st μ) (hJ : ∀ b ls st μ, J b ls st μ = some (r, μ9) → Wk p l e R s m args below meth c Q N0 G ro z xs L t.2.2.1 z0 y0 μ9 (bpc t b) ls st μ) (h : x1 C J (.astore n) as ls st μ K = some (r, μ9)) : Wk p l e R s m args below meth c Q N0 G ro z xs L t.2.2.1 z0 y0 μ9 pc ls st μ := by
  obtain ⟨hx, hb, hml, hown, hts, hmn, wf, hfr, hlo, hce, hsl⟩ := cx
  have ok2 : (decide (decode t.2.1 pc = .ok (.astore n, len)) && (Nat.beq len 2 && decide (n < t.2.2.1))) = true := ok
  obtain ⟨hd, ok3⟩ := and2 ok2
  have hd := of_decide_eq_true hd
  obtain ⟨ok4, ok5⟩ := and2 ok3
  obtain rfl : len = 2 := Nat.eq_of_beq_eq_true ok4
  obtain ⟨v, st, rfl, h1⟩ := p1_inv h
  rcases asN_inv h1 with ⟨rfl, h2⟩ | ⟨x, rfl, h2⟩
  · obtain ⟨hm, hk⟩ := hK _ _ _ h2
    exact ⟨hm, fun H locs Ls hR hS hL g1 g2 => lv_astoreN hx hb hd  hL (of_decide_eq_true ok5) (cl2_lst1 wf.1.2 _ _ .null) (fun ls' hl' => hk H locs ls' hR hS hl' g1 g2)⟩
  · obtain ⟨hm, hk⟩ := hK _ _ _ h2
    exact ⟨hm, fun H locs Ls hR hS hL g1 g2 => lv_astore hx hb hd  hL (of_decide_eq_true ok5) (cl2_lst1 wf.1.2 _ _ (.ref x)) (fun ls' hl' => hk H locs ls' hR hS hl' g1 g2)⟩
theorem s_astore_n {n : Fin 4} (cx : Cx p R s m args meth c N0 G ro z xs L t d z0 y0 μ9) (ok : okI t (pc, .astore_n n, len, as, ws) = true) (hK : ∀ ls st μ, K ls st μ = some (r, μ9) → Wk p l e R s m args below meth c Q N0 G ro z xs L t.2.2.1 z0 y0 μ9 (pc + len) ls st μ) (hJ : ∀ b ls st μ, J b ls st μ = some (r, μ9) → Wk p l e R s m args below meth c Q N0 G ro z xs L t.2.2.1 z0 y0 μ9 (bpc t b) ls st μ) (h : x1 C J (.astore_n n) as ls st μ K = some (r, μ9)) : Wk p l e R s m args below meth c Q N0 G ro z xs L t.2.2.1 z0 y0 μ9 pc ls st μ := by
  obtain ⟨hx, hb, hml, hown, hts, hmn, wf, hfr, hlo, hce, hsl⟩ := cx
  have ok2 : (decide (decode t.2.1 pc = .ok (.astore_n n, len)) && (Nat.beq len 1 && decide ((n : Nat) < t.2.2.1))) = true := ok
  obtain ⟨hd, ok3⟩ := and2 ok2
  have hd := of_decide_eq_true hd
  obtain ⟨ok4, ok5⟩ := and2 ok3
  obtain rfl : len = 1 := Nat.eq_of_beq_eq_true ok4
  obtain ⟨v, st, rfl, h1⟩ := p1_inv h
  rcases asN_inv h1 with ⟨rfl, h2⟩ | ⟨x, rfl, h2⟩
  · obtain ⟨hm, hk⟩ := hK _ _ _ h2
    exact ⟨hm, fun H locs Ls hR hS hL g1 g2 => lv_astore_nN hx hb hd rfl hL (of_decide_eq_true ok5) (cl2_lst1 wf.1.2 _ _ .null) (fun ls' hl' => hk H locs ls' hR hS hl' g1 g2)⟩
  · obtain ⟨hm, hk⟩ := hK _ _ _ h2
    exact ⟨hm, fun H locs Ls hR hS hL g1 g2 => lv_astore_n hx hb hd rfl hL (of_decide_eq_true ok5) (cl2_lst1 wf.1.2 _ _ (.ref x)) (fun ls' hl' => hk H locs ls' hR hS hl' g1 g2)⟩
theorem s_iinc {n : Nat} {q : Int} (cx : Cx p R s m args meth c N0 G ro z xs L t d z0 y0 μ9) (ok : okI t (pc, .iinc n q, len, as, ws) = true) (hK : ∀ ls st μ, K ls st μ = some (r, μ9) → Wk p l e R s m args below meth c Q N0 G ro z xs L t.2.2.1 z0 y0 μ9 (pc + len) ls st μ) (hJ : ∀ b ls st μ, J b ls st μ = some (r, μ9) → Wk p l e R s m args below meth c Q N0 G ro z xs L t.2.2.1 z0 y0 μ9 (bpc t b) ls st μ) (h : x1 C J (.iinc n q) as ls st μ K = some (r, μ9)) : Wk p l e R s m args below meth c Q N0 G ro z xs L t.2.2.1 z0 y0 μ9 pc ls st μ := by
  obtain ⟨hx, hb, hml, hown, hts, hmn, wf, hfr, hlo, hce, hsl⟩ := cx
  have ok2 : (decide (decode t.2.1 pc = .ok (.iinc n q, len)) && (Nat.beq len 3 && decide (n < t.2.2.1))) = true := ok
  obtain ⟨hd, ok3⟩ := and2 ok2
  have hd := of_decide_eq_true hd
  obtain ⟨ok4, ok5⟩ := and2 ok3
  obtain rfl : len = 3 := Nat.eq_of_beq_eq_true ok4
  obtain ⟨j, v, hj, h1⟩ := lgt_inv h
  obtain ⟨x, rfl, h2⟩ := asI_inv h1
  obtain ⟨hm, hk⟩ := hK _ _ _ h2
  refine ⟨hm, fun H locs Ls hR hS hL g1 g2 => ?_⟩
  exact lv_iinc hx hb hd hL (k := j) (cl2_get hj) rfl (of_decide_eq_true ok5) (cl2_lst1 wf.1.2 _ _ (.int (x + Int32.ofInt q))) (fun ls' hl' => hk H locs ls' hR hS hl' g1 g2)
theorem s_iadd  (cx : Cx p R s m args meth c N0 G ro z xs L t d z0 y0 μ9) (ok : okI t (pc, .iadd, len, as, ws) = true) (hK : ∀ ls st μ, K ls st μ = some (r, μ9) → Wk p l e R s m args below meth c Q N0 G ro z xs L t.2.2.1 z0 y0 μ9 (pc + len) ls st μ) (hJ : ∀ b ls st μ, J b ls st μ = some (r, μ9) → Wk p l e R s m args below meth c Q N0 G ro z xs L t.2.2.1 z0 y0 μ9 (bpc t b) ls st μ) (h : x1 C J (.iadd) as ls st μ K = some (r, μ9)) : Wk p l e R s m args below meth c Q N0 G ro z xs L t.2.2.1 z0 y0 μ9 pc ls st μ := by
  obtain ⟨hx, hb, hml, hown, hts, hmn, wf, hfr, hlo, hce, hsl⟩ := cx
  have ok2 : (decide (decode t.2.1 pc = .ok (.iadd, len)) && Nat.beq len 1) = true := ok
  obtain ⟨hd, ok3⟩ := and2 ok2
  have hd := of_decide_eq_true hd
  obtain rfl : len = 1 := Nat.eq_of_beq_eq_true ok3
  obtain ⟨y, st, rfl, h1⟩ := ppI_inv h
  obtain ⟨x, st, rfl, h2⟩ := ppI_inv h1
  obtain ⟨hm, hk⟩ := hK _ _ _ h2
  refine ⟨hm, fun H locs Ls hR hS hL g1 g2 => ?_⟩
  exact lv_iadd hx hb hd (hk H locs Ls hR hS hL g1 g2)
theorem s_isub  (cx : Cx p R s m args meth c N0 G ro z xs L t d z0 y0 μ9) (ok : okI t (pc, .isub, len, as, ws) = true) (hK : ∀ ls st μ, K ls st μ = some (r, μ9) → Wk p l e R s m args below meth c Q N0 G ro z xs L t.2.2.1 z0 y0 μ9 (pc + len) ls st μ) (hJ : ∀ b ls st μ, J b ls st μ = some (r, μ9) → Wk p l e R s m args below meth c Q N0 G ro z xs L t.2.2.1 z0 y0 μ9 (bpc t b) ls st μ) (h : x1 C J (.isub) as ls st μ K = some (r, μ9)) : Wk p l e R s m args below meth c Q N0 G ro z xs L t.2.2.1 z0 y0 μ9 pc ls st μ := by
  obtain ⟨hx, hb, hml, hown, hts, hmn, wf, hfr, hlo, hce, hsl⟩ := cx
  have ok2 : (decide (decode t.2.1 pc = .ok (.isub, len)) && Nat.beq len 1) = true := ok
  obtain ⟨hd, ok3⟩ := and2 ok2
  have hd := of_decide_eq_true hd
  obtain rfl : len = 1 := Nat.eq_of_beq_eq_true ok3
  obtain ⟨y, st, rfl, h1⟩ := ppI_inv h
  obtain ⟨x, st, rfl, h2⟩ := ppI_inv h1
  obtain ⟨hm, hk⟩ := hK _ _ _ h2
  refine ⟨hm, fun H locs Ls hR hS hL g1 g2 => ?_⟩
  exact lv_isub hx hb hd (hk H locs Ls hR hS hL g1 g2)
theorem s_imul  (cx : Cx p R s m args meth c N0 G ro z xs L t d z0 y0 μ9) (ok : okI t (pc, .imul, len, as, ws) = true) (hK : ∀ ls st μ, K ls st μ = some (r, μ9) → Wk p l e R s m args below meth c Q N0 G ro z xs L t.2.2.1 z0 y0 μ9 (pc + len) ls st μ) (hJ : ∀ b ls st μ, J b ls st μ = some (r, μ9) → Wk p l e R s m args below meth c Q N0 G ro z xs L t.2.2.1 z0 y0 μ9 (bpc t b) ls st μ) (h : x1 C J (.imul) as ls st μ K = some (r, μ9)) : Wk p l e R s m args below meth c Q N0 G ro z xs L t.2.2.1 z0 y0 μ9 pc ls st μ := by
  obtain ⟨hx, hb, hml, hown, hts, hmn, wf, hfr, hlo, hce, hsl⟩ := cx
  have ok2 : (decide (decode t.2.1 pc = .ok (.imul, len)) && Nat.beq len 1) = true := ok
  obtain ⟨hd, ok3⟩ := and2 ok2
  have hd := of_decide_eq_true hd
  obtain rfl : len = 1 := Nat.eq_of_beq_eq_true ok3
  obtain ⟨y, st, rfl, h1⟩ := ppI_inv h
  obtain ⟨x, st, rfl, h2⟩ := ppI_inv h1
  obtain ⟨hm, hk⟩ := hK _ _ _ h2
  refine ⟨hm, fun H locs Ls hR hS hL g1 g2 => ?_⟩
  exact lv_imul hx hb hd (hk H locs Ls hR hS hL g1 g2)
theorem s_iand  (cx : Cx p R s m args meth c N0 G ro z xs L t d z0 y0 μ9) (ok : okI t (pc, .iand, len, as, ws) = true) (hK : ∀ ls st μ, K ls st μ = some (r, μ9) → Wk p l e R s m args below meth c Q N0 G ro z xs L t.2.2.1 z0 y0 μ9 (pc + len) ls st μ) (hJ : ∀ b ls st μ, J b ls st μ = some (r, μ9) → Wk p l e R s m args below meth c Q N0 G ro z xs L t.2.2.1 z0 y0 μ9 (bpc t b) ls st μ) (h : x1 C J (.iand) as ls st μ K = some (r, μ9)) : Wk p l e R s m args below meth c Q N0 G ro z xs L t.2.2.1 z0 y0 μ9 pc ls st μ := by
  obtain ⟨hx, hb, hml, hown, hts, hmn, wf, hfr, hlo, hce, hsl⟩ := cx
  have ok2 : (decide (decode t.2.1 pc = .ok (.iand, len)) && Nat.beq len 1) = true := ok
  obtain ⟨hd, ok3⟩ := and2 ok2
  have hd := of_decide_eq_true hd
  obtain rfl : len = 1 := Nat.eq_of_beq_eq_true ok3
  obtain ⟨y, st, rfl, h1⟩ := ppI_inv h
  obtain ⟨x, st, rfl, h2⟩ := ppI_inv h1
  obtain ⟨hm, hk⟩ := hK _ _ _ h2
  refine ⟨hm, fun H locs Ls hR hS hL g1 g2 => ?_⟩
  exact lv_iand hx hb hd (hk H locs Ls hR hS hL g1 g2)
theorem s_ior  (cx : Cx p R s m args meth c N0 G ro z xs L t d z0 y0 μ9) (ok : okI t (pc, .ior, len, as, ws) = true) (hK : ∀ ls st μ, K ls st μ = some (r, μ9) → Wk p l e R s m args below meth c Q N0 G ro z xs L t.2.2.1 z0 y0 μ9 (pc + len) ls st μ) (hJ : ∀ b ls st μ, J b ls st μ = some (r, μ9) → Wk p l e R s m args below meth c Q N0 G ro z xs L t.2.2.1 z0 y0 μ9 (bpc t b) ls st μ) (h : x1 C J (.ior) as ls st μ K = some (r, μ9)) : Wk p l e R s m args below meth c Q N0 G ro z xs L t.2.2.1 z0 y0 μ9 pc ls st μ := by
  obtain ⟨hx, hb, hml, hown, hts, hmn, wf, hfr, hlo, hce, hsl⟩ := cx
  have ok2 : (decide (decode t.2.1 pc = .ok (.ior, len)) && Nat.beq len 1) = true := ok
  obtain ⟨hd, ok3⟩ := and2 ok2
  have hd := of_decide_eq_true hd
  obtain rfl : len = 1 := Nat.eq_of_beq_eq_true ok3
  obtain ⟨y, st, rfl, h1⟩ := ppI_inv h
  obtain ⟨x, st, rfl, h2⟩ := ppI_inv h1
  obtain ⟨hm, hk⟩ := hK _ _ _ h2
  refine ⟨hm, fun H locs Ls hR hS hL g1 g2 => ?_⟩
  exact lv_ior hx hb hd (hk H locs Ls hR hS hL g1 g2)
theorem s_ixor  (cx : Cx p R s m args meth c N0 G ro z xs L t d z0 y0 μ9) (ok : okI t (pc, .ixor, len, as, ws) = true) (hK : ∀ ls st μ, K ls st μ = some (r, μ9) → Wk p l e R s m args below meth c Q N0 G ro z xs L t.2.2.1 z0 y0 μ9 (pc + len) ls st μ) (hJ : ∀ b ls st μ, J b ls st μ = some (r, μ9) → Wk p l e R s m args below meth c Q N0 G ro z xs L t.2.2.1 z0 y0 μ9 (bpc t b) ls st μ) (h : x1 C J (.ixor) as ls st μ K = some (r, μ9)) : Wk p l e R s m args below meth c Q N0 G ro z xs L t.2.2.1 z0 y0 μ9 pc ls st μ := by
  obtain ⟨hx, hb, hml, hown, hts, hmn, wf, hfr, hlo, hce, hsl⟩ := cx
  have ok2 : (decide (decode t.2.1 pc = .ok (.ixor, len)) && Nat.beq len 1) = true := ok
  obtain ⟨hd, ok3⟩ := and2 ok2
  have hd := of_decide_eq_true hd
  obtain rfl : len = 1 := Nat.eq_of_beq_eq_true ok3
  obtain ⟨y, st, rfl, h1⟩ := ppI_inv h
  obtain ⟨x, st, rfl, h2⟩ := ppI_inv h1
  obtain ⟨hm, hk⟩ := hK _ _ _ h2
  refine ⟨hm, fun H locs Ls hR hS hL g1 g2 => ?_⟩
  exact lv_ixor hx hb hd (hk H locs Ls hR hS hL g1 g2)
theorem s_ishl  (cx : Cx p R s m args meth c N0 G ro z xs L t d z0 y0 μ9) (ok : okI t (pc, .ishl, len, as, ws) = true) (hK : ∀ ls st μ, K ls st μ = some (r, μ9) → Wk p l e R s m args below meth c Q N0 G ro z xs L t.2.2.1 z0 y0 μ9 (pc + len) ls st μ) (hJ : ∀ b ls st μ, J b ls st μ = some (r, μ9) → Wk p l e R s m args below meth c Q N0 G ro z xs L t.2.2.1 z0 y0 μ9 (bpc t b) ls st μ) (h : x1 C J (.ishl) as ls st μ K = some (r, μ9)) : Wk p l e R s m args below meth c Q N0 G ro z xs L t.2.2.1 z0 y0 μ9 pc ls st μ := by
  obtain ⟨hx, hb, hml, hown, hts, hmn, wf, hfr, hlo, hce, hsl⟩ := cx
  have ok2 : (decide (decode t.2.1 pc = .ok (.ishl, len)) && Nat.beq len 1) = true := ok
  obtain ⟨hd, ok3⟩ := and2 ok2
  have hd := of_decide_eq_true hd
  obtain rfl : len = 1 := Nat.eq_of_beq_eq_true ok3
  obtain ⟨y, st, rfl, h1⟩ := ppI_inv h
  obtain ⟨x, st, rfl, h2⟩ := ppI_inv h1
  obtain ⟨hm, hk⟩ := hK _ _ _ h2
  refine ⟨hm, fun H locs Ls hR hS hL g1 g2 => ?_⟩
  exact lv_ishl hx hb hd (hk H locs Ls hR hS hL g1 g2)
theorem s_ishr  (cx : Cx p R s m args meth c N0 G ro z xs L t d z0 y0 μ9) (ok : okI t (pc, .ishr, len, as, ws) = true) (hK : ∀ ls st μ, K ls st μ = some (r, μ9) → Wk p l e R s m args below meth c Q N0 G ro z xs L t.2.2.1 z0 y0 μ9 (pc + len) ls st μ) (hJ : ∀ b ls st μ, J b ls st μ = some (r, μ9) → Wk p l e R s m args below meth c Q N0 G ro z xs L t.2.2.1 z0 y0 μ9 (bpc t b) ls st μ) (h : x1 C J (.ishr) as ls st μ K = some (r, μ9)) : Wk p l e R s m args below meth c Q N0 G ro z xs L t.2.2.1 z0 y0 μ9 pc ls st μ := by
  obtain ⟨hx, hb, hml, hown, hts, hmn, wf, hfr, hlo, hce, hsl⟩ := cx
  have ok2 : (decide (decode t.2.1 pc = .ok (.ishr, len)) && Nat.beq len 1) = true := ok
  obtain ⟨hd, ok3⟩ := and2 ok2
  have hd := of_decide_eq_true hd
  obtain rfl : len = 1 := Nat.eq_of_beq_eq_true ok3
  obtain ⟨y, st, rfl, h1⟩ := ppI_inv h
  obtain ⟨x, st, rfl, h2⟩ := ppI_inv h1
  obtain ⟨hm, hk⟩ := hK _ _ _ h2
  refine ⟨hm, fun H locs Ls hR hS hL g1 g2 => ?_⟩
  exact lv_ishr hx hb hd (hk H locs Ls hR hS hL g1 g2)
theorem s_ladd  (cx : Cx p R s m args meth c N0 G ro z xs L t d z0 y0 μ9) (ok : okI t (pc, .ladd, len, as, ws) = true) (hK : ∀ ls st μ, K ls st μ = some (r, μ9) → Wk p l e R s m args below meth c Q N0 G ro z xs L t.2.2.1 z0 y0 μ9 (pc + len) ls st μ) (hJ : ∀ b ls st μ, J b ls st μ = some (r, μ9) → Wk p l e R s m args below meth c Q N0 G ro z xs L t.2.2.1 z0 y0 μ9 (bpc t b) ls st μ) (h : x1 C J (.ladd) as ls st μ K = some (r, μ9)) : Wk p l e R s m args below meth c Q N0 G ro z xs L t.2.2.1 z0 y0 μ9 pc ls st μ := by
  obtain ⟨hx, hb, hml, hown, hts, hmn, wf, hfr, hlo, hce, hsl⟩ := cx
  have ok2 : (decide (decode t.2.1 pc = .ok (.ladd, len)) && Nat.beq len 1) = true := ok
  obtain ⟨hd, ok3⟩ := and2 ok2
  have hd := of_decide_eq_true hd
  obtain rfl : len = 1 := Nat.eq_of_beq_eq_true ok3
  obtain ⟨y, st, rfl, h1⟩ := ppL_inv h
  obtain ⟨x, st, rfl, h2⟩ := ppL_inv h1
  obtain ⟨hm, hk⟩ := hK _ _ _ h2
  refine ⟨hm, fun H locs Ls hR hS hL g1 g2 => ?_⟩
  exact lv_ladd hx hb hd (hk H locs Ls hR hS hL g1 g2)
theorem s_lsub  (cx : Cx p R s m args meth c N0 G ro z xs L t d z0 y0 μ9) (ok : okI t (pc, .lsub, len, as, ws) = true) (hK : ∀ ls st μ, K ls st μ = some (r, μ9) → Wk p l e R s m args below meth c Q N0 G ro z xs L t.2.2.1 z0 y0 μ9 (pc + len) ls st μ) (hJ : ∀ b ls st μ, J b ls st μ = some (r, μ9) → Wk p l e R s m args below meth c Q N0 G ro z xs L t.2.2.1 z0 y0 μ9 (bpc t b) ls st μ) (h : x1 C J (.lsub) as ls st μ K = some (r, μ9)) : Wk p l e R s m args below meth c Q N0 G ro z xs L t.2.2.1 z0 y0 μ9 pc ls st μ := by
  obtain ⟨hx, hb, hml, hown, hts, hmn, wf, hfr, hlo, hce, hsl⟩ := cx
  have ok2 : (decide (decode t.2.1 pc = .ok (.lsub, len)) && Nat.beq len 1) = true := ok
  obtain ⟨hd, ok3⟩ := and2 ok2
  have hd := of_decide_eq_true hd
  obtain rfl : len = 1 := Nat.eq_of_beq_eq_true ok3
  obtain ⟨y, st, rfl, h1⟩ := ppL_inv h
  obtain ⟨x, st, rfl, h2⟩ := ppL_inv h1
  obtain ⟨hm, hk⟩ := hK _ _ _ h2
  refine ⟨hm, fun H locs Ls hR hS hL g1 g2 => ?_⟩
  exact lv_lsub hx hb hd (hk H locs Ls hR hS hL g1 g2)
theorem s_lmul  (cx : Cx p R s m args meth c N0 G ro z xs L t d z0 y0 μ9) (ok : okI t (pc, .lmul, len, as, ws) = true) (hK : ∀ ls st μ, K ls st μ = some (r, μ9) → Wk p l e R s m args below meth c Q N0 G ro z xs L t.2.2.1 z0 y0 μ9 (pc + len) ls st μ) (hJ : ∀ b ls st μ, J b ls st μ = some (r, μ9) → Wk p l e R s m args below meth c Q N0 G ro z xs L t.2.2.1 z0 y0 μ9 (bpc t b) ls st μ) (h : x1 C J (.lmul) as ls st μ K = some (r, μ9)) : Wk p l e R s m args below meth c Q N0 G ro z xs L t.2.2.1 z0 y0 μ9 pc ls st μ := by
  obtain ⟨hx, hb, hml, hown, hts, hmn, wf, hfr, hlo, hce, hsl⟩ := cx
  have ok2 : (decide (decode t.2.1 pc = .ok (.lmul, len)) && Nat.beq len 1) = true := ok
  obtain ⟨hd, ok3⟩ := and2 ok2
  have hd := of_decide_eq_true hd
  obtain rfl : len = 1 := Nat.eq_of_beq_eq_true ok3
  obtain ⟨y, st, rfl, h1⟩ := ppL_inv h
  obtain ⟨x, st, rfl, h2⟩ := ppL_inv h1
  obtain ⟨hm, hk⟩ := hK _ _ _ h2
  refine ⟨hm, fun H locs Ls hR hS hL g1 g2 => ?_⟩
  exact lv_lmul hx hb hd (hk H locs Ls hR hS hL g1 g2)
theorem s_land  (cx : Cx p R s m args meth c N0 G ro z xs L t d z0 y0 μ9) (ok : okI t (pc, .land, len, as, ws) = true) (hK : ∀ ls st μ, K ls st μ = some (r, μ9) → Wk p l e R s m args below meth c Q N0 G ro z xs L t.2.2.1 z0 y0 μ9 (pc + len) ls st μ) (hJ : ∀ b ls st μ, J b ls st μ = some (r, μ9) → Wk p l e R s m args below meth c Q N0 G ro z xs L t.2.2.1 z0 y0 μ9 (bpc t b) ls st μ) (h : x1 C J (.land) as ls st μ K = some (r, μ9)) : Wk p l e R s m args below meth c Q N0 G ro z xs L t.2.2.1 z0 y0 μ9 pc ls st μ := by
  obtain ⟨hx, hb, hml, hown, hts, hmn, wf, hfr, hlo, hce, hsl⟩ := cx
  have ok2 : (decide (decode t.2.1 pc = .ok (.land, len)) && Nat.beq len 1) = true := ok
  obtain ⟨hd, ok3⟩ := and2 ok2
  have hd := of_decide_eq_true hd
  obtain rfl : len = 1 := Nat.eq_of_beq_eq_true ok3
  obtain ⟨y, st, rfl, h1⟩ := ppL_inv h
  obtain ⟨x, st, rfl, h2⟩ := ppL_inv h1
  obtain ⟨hm, hk⟩ := hK _ _ _ h2
  refine ⟨hm, fun H locs Ls hR hS hL g1 g2 => ?_⟩
  exact lv_land hx hb hd (hk H locs Ls hR hS hL g1 g2)
theorem s_idiv  (cx : Cx p R s m args meth c N0 G ro z xs L t d z0 y0 μ9) (ok : okI t (pc, .idiv, len, as, ws) = true) (hK : ∀ ls st μ, K ls st μ = some (r, μ9) → Wk p l e R s m args below meth c Q N0 G ro z xs L t.2.2.1 z0 y0 μ9 (pc + len) ls st μ) (hJ : ∀ b ls st μ, J b ls st μ = some (r, μ9) → Wk p l e R s m args below meth c Q N0 G ro z xs L t.2.2.1 z0 y0 μ9 (bpc t b) ls st μ) (h : x1 C J (.idiv) as ls st μ K = some (r, μ9)) : Wk p l e R s m args below meth c Q N0 G ro z xs L t.2.2.1 z0 y0 μ9 pc ls st μ := by
  obtain ⟨hx, hb, hml, hown, hts, hmn, wf, hfr, hlo, hce, hsl⟩ := cx
  have ok2 : (decide (decode t.2.1 pc = .ok (.idiv, len)) && Nat.beq len 1) = true := ok
  obtain ⟨hd, ok3⟩ := and2 ok2
  have hd := of_decide_eq_true hd
  obtain rfl : len = 1 := Nat.eq_of_beq_eq_true ok3
  obtain ⟨y, st, rfl, h1⟩ := ppI_inv h
  obtain ⟨x, st, rfl, h2⟩ := ppI_inv h1
  obtain ⟨hy, h3⟩ := gd_inv h2
  obtain ⟨hm, hk⟩ := hK _ _ _ h3
  refine ⟨hm, fun H locs Ls hR hS hL g1 g2 => ?_⟩
  exact lv_idiv hx hb hd (by simpa using hy) (hk H locs Ls hR hS hL g1 g2)
theorem s_irem  (cx : Cx p R s m args meth c N0 G ro z xs L t d z0 y0 μ9) (ok : okI t (pc, .irem, len, as, ws) = true) (hK : ∀ ls st μ, K ls st μ = some (r, μ9) → Wk p l e R s m args below meth c Q N0 G ro z xs L t.2.2.1 z0 y0 μ9 (pc + len) ls st μ) (hJ : ∀ b ls st μ, J b ls st μ = some (r, μ9) → Wk p l e R s m args below meth c Q N0 G ro z xs L t.2.2.1 z0 y0 μ9 (bpc t b) ls st μ) (h : x1 C J (.irem) as ls st μ K = some (r, μ9)) : Wk p l e R s m args below meth c Q N0 G ro z xs L t.2.2.1 z0 y0 μ9 pc ls st μ := by
  obtain ⟨hx, hb, hml, hown, hts, hmn, wf, hfr, hlo, hce, hsl⟩ := cx
  have ok2 : (decide (decode t.2.1 pc = .ok (.irem, len)) && Nat.beq len 1) = true := ok
  obtain ⟨hd, ok3⟩ := and2 ok2
  have hd := of_decide_eq_true hd
  obtain rfl : len = 1 := Nat.eq_of_beq_eq_true ok3
  obtain ⟨y, st, rfl, h1⟩ := ppI_inv h
  obtain ⟨x, st, rfl, h2⟩ := ppI_inv h1
  obtain ⟨hy, h3⟩ := gd_inv h2
  obtain ⟨hm, hk⟩ := hK _ _ _ h3
  refine ⟨hm, fun H locs Ls hR hS hL g1 g2 => ?_⟩
  exact lv_irem hx hb hd (by simpa using hy) (hk H locs Ls hR hS hL g1 g2)
theorem s_ldiv  (cx : Cx p R s m args meth c N0 G ro z xs L t d z0 y0 μ9) (ok : okI t (pc, .ldiv, len, as, ws) = true) (hK : ∀ ls st μ, K ls st μ = some (r, μ9) → Wk p l e R s m args below meth c Q N0 G ro z xs L t.2.2.1 z0 y0 μ9 (pc + len) ls st μ) (hJ : ∀ b ls st μ, J b ls st μ = some (r, μ9) → Wk p l e R s m args below meth c Q N0 G ro z xs L t.2.2.1 z0 y0 μ9 (bpc t b) ls st μ) (h : x1 C J (.ldiv) as ls st μ K = some (r, μ9)) : Wk p l e R s m args below meth c Q N0 G ro z xs L t.2.2.1 z0 y0 μ9 pc ls st μ := by
  obtain ⟨hx, hb, hml, hown, hts, hmn, wf, hfr, hlo, hce, hsl⟩ := cx
  have ok2 : (decide (decode t.2.1 pc = .ok (.ldiv, len)) && Nat.beq len 1) = true := ok
  obtain ⟨hd, ok3⟩ := and2 ok2
  have hd := of_decide_eq_true hd
  obtain rfl : len = 1 := Nat.eq_of_beq_eq_true ok3
  obtain ⟨y, st, rfl, h1⟩ := ppL_inv h
  obtain ⟨x, st, rfl, h2⟩ := ppL_inv h1
  obtain ⟨hy, h3⟩ := gd_inv h2
  obtain ⟨hm, hk⟩ := hK _ _ _ h3
  refine ⟨hm, fun H locs Ls hR hS hL g1 g2 => ?_⟩
  exact lv_ldiv hx hb hd (by simpa using hy) (hk H locs Ls hR hS hL g1 g2)
theorem s_lrem  (cx : Cx p R s m args meth c N0 G ro z xs L t d z0 y0 μ9) (ok : okI t (pc, .lrem, len, as, ws) = true) (hK : ∀ ls st μ, K ls st μ = some (r, μ9) → Wk p l e R s m args below meth c Q N0 G ro z xs L t.2.2.1 z0 y0 μ9 (pc + len) ls st μ) (hJ : ∀ b ls st μ, J b ls st μ = some (r, μ9) → Wk p l e R s m args below meth c Q N0 G ro z xs L t.2.2.1 z0 y0 μ9 (bpc t b) ls st μ) (h : x1 C J (.lrem) as ls st μ K = some (r, μ9)) : Wk p l e R s m args below meth c Q N0 G ro z xs L t.2.2.1 z0 y0 μ9 pc ls st μ := by
  obtain ⟨hx, hb, hml, hown, hts, hmn, wf, hfr, hlo, hce, hsl⟩ := cx
  have ok2 : (decide (decode t.2.1 pc = .ok (.lrem, len)) && Nat.beq len 1) = true := ok
  obtain ⟨hd, ok3⟩ := and2 ok2
  have hd := of_decide_eq_true hd
  obtain rfl : len = 1 := Nat.eq_of_beq_eq_true ok3
  obtain ⟨y, st, rfl, h1⟩ := ppL_inv h
  obtain ⟨x, st, rfl, h2⟩ := ppL_inv h1
  obtain ⟨hy, h3⟩ := gd_inv h2
  obtain ⟨hm, hk⟩ := hK _ _ _ h3
  refine ⟨hm, fun H locs Ls hR hS hL g1 g2 => ?_⟩
  exact lv_lrem hx hb hd (by simpa using hy) (hk H locs Ls hR hS hL g1 g2)
theorem s_ineg  (cx : Cx p R s m args meth c N0 G ro z xs L t d z0 y0 μ9) (ok : okI t (pc, .ineg, len, as, ws) = true) (hK : ∀ ls st μ, K ls st μ = some (r, μ9) → Wk p l e R s m args below meth c Q N0 G ro z xs L t.2.2.1 z0 y0 μ9 (pc + len) ls st μ) (hJ : ∀ b ls st μ, J b ls st μ = some (r, μ9) → Wk p l e R s m args below meth c Q N0 G ro z xs L t.2.2.1 z0 y0 μ9 (bpc t b) ls st μ) (h : x1 C J (.ineg) as ls st μ K = some (r, μ9)) : Wk p l e R s m args below meth c Q N0 G ro z xs L t.2.2.1 z0 y0 μ9 pc ls st μ := by
  obtain ⟨hx, hb, hml, hown, hts, hmn, wf, hfr, hlo, hce, hsl⟩ := cx
  have ok2 : (decide (decode t.2.1 pc = .ok (.ineg, len)) && Nat.beq len 1) = true := ok
  obtain ⟨hd, ok3⟩ := and2 ok2
  have hd := of_decide_eq_true hd
  obtain rfl : len = 1 := Nat.eq_of_beq_eq_true ok3
  obtain ⟨x, st, rfl, h1⟩ := ppI_inv h
  obtain ⟨hm, hk⟩ := hK _ _ _ h1
  refine ⟨hm, fun H locs Ls hR hS hL g1 g2 => ?_⟩
  exact lv_ineg hx hb hd (hk H locs Ls hR hS hL g1 g2)
theorem s_i2l  (cx : Cx p R s m args meth c N0 G ro z xs L t d z0 y0 μ9) (ok : okI t (pc, .i2l, len, as, ws) = true) (hK : ∀ ls st μ, K ls st μ = some (r, μ9) → Wk p l e R s m args below meth c Q N0 G ro z xs L t.2.2.1 z0 y0 μ9 (pc + len) ls st μ) (hJ : ∀ b ls st μ, J b ls st μ = some (r, μ9) → Wk p l e R s m args below meth c Q N0 G ro z xs L t.2.2.1 z0 y0 μ9 (bpc t b) ls st μ) (h : x1 C J (.i2l) as ls st μ K = some (r, μ9)) : Wk p l e R s m args below meth c Q N0 G ro z xs L t.2.2.1 z0 y0 μ9 pc ls st μ := by
  obtain ⟨hx, hb, hml, hown, hts, hmn, wf, hfr, hlo, hce, hsl⟩ := cx
  have ok2 : (decide (decode t.2.1 pc = .ok (.i2l, len)) && Nat.beq len 1) = true := ok
  obtain ⟨hd, ok3⟩ := and2 ok2
  have hd := of_decide_eq_true hd
  obtain rfl : len = 1 := Nat.eq_of_beq_eq_true ok3
  obtain ⟨x, st, rfl, h1⟩ := ppI_inv h
  obtain ⟨hm, hk⟩ := hK _ _ _ h1
  refine ⟨hm, fun H locs Ls hR hS hL g1 g2 => ?_⟩
  exact lv_i2l hx hb hd rfl (hk H locs Ls hR hS hL g1 g2)
theorem s_i2b  (cx : Cx p R s m args meth c N0 G ro z xs L t d z0 y0 μ9) (ok : okI t (pc, .i2b, len, as, ws) = true) (hK : ∀ ls st μ, K ls st μ = some (r, μ9) → Wk p l e R s m args below meth c Q N0 G ro z xs L t.2.2.1 z0 y0 μ9 (pc + len) ls st μ) (hJ : ∀ b ls st μ, J b ls st μ = some (r, μ9) → Wk p l e R s m args below meth c Q N0 G ro z xs L t.2.2.1 z0 y0 μ9 (bpc t b) ls st μ) (h : x1 C J (.i2b) as ls st μ K = some (r, μ9)) : Wk p l e R s m args below meth c Q N0 G ro z xs L t.2.2.1 z0 y0 μ9 pc ls st μ := by
  obtain ⟨hx, hb, hml, hown, hts, hmn, wf, hfr, hlo, hce, hsl⟩ := cx
  have ok2 : (decide (decode t.2.1 pc = .ok (.i2b, len)) && Nat.beq len 1) = true := ok
  obtain ⟨hd, ok3⟩ := and2 ok2
  have hd := of_decide_eq_true hd
  obtain rfl : len = 1 := Nat.eq_of_beq_eq_true ok3
  obtain ⟨x, st, rfl, h1⟩ := ppI_inv h
  obtain ⟨hm, hk⟩ := hK _ _ _ h1
  refine ⟨hm, fun H locs Ls hR hS hL g1 g2 => ?_⟩
  exact lv_i2b hx hb hd rfl (hk H locs Ls hR hS hL g1 g2)
theorem s_i2c  (cx : Cx p R s m args meth c N0 G ro z xs L t d z0 y0 μ9) (ok : okI t (pc, .i2c, len, as, ws) = true) (hK : ∀ ls st μ, K ls st μ = some (r, μ9) → Wk p l e R s m args below meth c Q N0 G ro z xs L t.2.2.1 z0 y0 μ9 (pc + len) ls st μ) (hJ : ∀ b ls st μ, J b ls st μ = some (r, μ9) → Wk p l e R s m args below meth c Q N0 G ro z xs L t.2.2.1 z0 y0 μ9 (bpc t b) ls st μ) (h : x1 C J (.i2c) as ls st μ K = some (r, μ9)) : Wk p l e R s m args below meth c Q N0 G ro z xs L t.2.2.1 z0 y0 μ9 pc ls st μ := by
  obtain ⟨hx, hb, hml, hown, hts, hmn, wf, hfr, hlo, hce, hsl⟩ := cx
  have ok2 : (decide (decode t.2.1 pc = .ok (.i2c, len)) && Nat.beq len 1) = true := ok
  obtain ⟨hd, ok3⟩ := and2 ok2
  have hd := of_decide_eq_true hd
  obtain rfl : len = 1 := Nat.eq_of_beq_eq_true ok3
  obtain ⟨x, st, rfl, h1⟩ := ppI_inv h
  obtain ⟨hm, hk⟩ := hK _ _ _ h1
  refine ⟨hm, fun H locs Ls hR hS hL g1 g2 => ?_⟩
  exact lv_i2c hx hb hd rfl (hk H locs Ls hR hS hL g1 g2)
theorem s_lneg  (cx : Cx p R s m args meth c N0 G ro z xs L t d z0 y0 μ9) (ok : okI t (pc, .lneg, len, as, ws) = true) (hK : ∀ ls st μ, K ls st μ = some (r, μ9) → Wk p l e R s m args below meth c Q N0 G ro z xs L t.2.2.1 z0 y0 μ9 (pc + len) ls st μ) (hJ : ∀ b ls st μ, J b ls st μ = some (r, μ9) → Wk p l e R s m args below meth c Q N0 G ro z xs L t.2.2.1 z0 y0 μ9 (bpc t b) ls st μ) (h : x1 C J (.lneg) as ls st μ K = some (r, μ9)) : Wk p l e R s m args below meth c Q N0 G ro z xs L t.2.2.1 z0 y0 μ9 pc ls st μ := by
  obtain ⟨hx, hb, hml, hown, hts, hmn, wf, hfr, hlo, hce, hsl⟩ := cx
  have ok2 : (decide (decode t.2.1 pc = .ok (.lneg, len)) && Nat.beq len 1) = true := ok
  obtain ⟨hd, ok3⟩ := and2 ok2
  have hd := of_decide_eq_true hd
  obtain rfl : len = 1 := Nat.eq_of_beq_eq_true ok3
  obtain ⟨x, st, rfl, h1⟩ := ppL_inv h
  obtain ⟨hm, hk⟩ := hK _ _ _ h1
  refine ⟨hm, fun H locs Ls hR hS hL g1 g2 => ?_⟩
  exact lv_lneg hx hb hd (hk H locs Ls hR hS hL g1 g2)
theorem s_lshl  (cx : Cx p R s m args meth c N0 G ro z xs L t d z0 y0 μ9) (ok : okI t (pc, .lshl, len, as, ws) = true) (hK : ∀ ls st μ, K ls st μ = some (r, μ9) → Wk p l e R s m args below meth c Q N0 G ro z xs L t.2.2.1 z0 y0 μ9 (pc + len) ls st μ) (hJ : ∀ b ls st μ, J b ls st μ = some (r, μ9) → Wk p l e R s m args below meth c Q N0 G ro z xs L t.2.2.1 z0 y0 μ9 (bpc t b) ls st μ) (h : x1 C J (.lshl) as ls st μ K = some (r, μ9)) : Wk p l e R s m args below meth c Q N0 G ro z xs L t.2.2.1 z0 y0 μ9 pc ls st μ := by
  obtain ⟨hx, hb, hml, hown, hts, hmn, wf, hfr, hlo, hce, hsl⟩ := cx
  have ok2 : (decide (decode t.2.1 pc = .ok (.lshl, len)) && Nat.beq len 1) = true := ok
  obtain ⟨hd, ok3⟩ := and2 ok2
  have hd := of_decide_eq_true hd
  obtain rfl : len = 1 := Nat.eq_of_beq_eq_true ok3
  obtain ⟨y, st, rfl, h1⟩ := ppI_inv h
  obtain ⟨x, st, rfl, h2⟩ := ppL_inv h1
  obtain ⟨hm, hk⟩ := hK _ _ _ h2
  refine ⟨hm, fun H locs Ls hR hS hL g1 g2 => ?_⟩
  exact lv_lshl hx hb hd rfl (hk H locs Ls hR hS hL g1 g2)
theorem s_lshr  (cx : Cx p R s m args meth c N0 G ro z xs L t d z0 y0 μ9) (ok : okI t (pc, .lshr, len, as, ws) = true) (hK : ∀ ls st μ, K ls st μ = some (r, μ9) → Wk p l e R s m args below meth c Q N0 G ro z xs L t.2.2.1 z0 y0 μ9 (pc + len) ls st μ) (hJ : ∀ b ls st μ, J b ls st μ = some (r, μ9) → Wk p l e R s m args below meth c Q N0 G ro z xs L t.2.2.1 z0 y0 μ9 (bpc t b) ls st μ) (h : x1 C J (.lshr) as ls st μ K = some (r, μ9)) : Wk p l e R s m args below meth c Q N0 G ro z xs L t.2.2.1 z0 y0 μ9 pc ls st μ := by
  obtain ⟨hx, hb, hml, hown, hts, hmn, wf, hfr, hlo, hce, hsl⟩ := cx
  have ok2 : (decide (decode t.2.1 pc = .ok (.lshr, len)) && Nat.beq len 1) = true := ok
  obtain ⟨hd, ok3⟩ := and2 ok2
  have hd := of_decide_eq_true hd
  obtain rfl : len = 1 := Nat.eq_of_beq_eq_true ok3
  obtain ⟨y, st, rfl, h1⟩ := ppI_inv h
  obtain ⟨x, st, rfl, h2⟩ := ppL_inv h1
  obtain ⟨hm, hk⟩ := hK _ _ _ h2
  refine ⟨hm, fun H locs Ls hR hS hL g1 g2 => ?_⟩
  exact lv_lshr hx hb hd rfl (hk H locs Ls hR hS hL g1 g2)
theorem s_lcmp  (cx : Cx p R s m args meth c N0 G ro z xs L t d z0 y0 μ9) (ok : okI t (pc, .lcmp, len, as, ws) = true) (hK : ∀ ls st μ, K ls st μ = some (r, μ9) → Wk p l e R s m args below meth c Q N0 G ro z xs L t.2.2.1 z0 y0 μ9 (pc + len) ls st μ) (hJ : ∀ b ls st μ, J b ls st μ = some (r, μ9) → Wk p l e R s m args below meth c Q N0 G ro z xs L t.2.2.1 z0 y0 μ9 (bpc t b) ls st μ) (h : x1 C J (.lcmp) as ls st μ K = some (r, μ9)) : Wk p l e R s m args below meth c Q N0 G ro z xs L t.2.2.1 z0 y0 μ9 pc ls st μ := by
  obtain ⟨hx, hb, hml, hown, hts, hmn, wf, hfr, hlo, hce, hsl⟩ := cx
  have ok2 : (decide (decode t.2.1 pc = .ok (.lcmp, len)) && Nat.beq len 1) = true := ok
  obtain ⟨hd, ok3⟩ := and2 ok2
  have hd := of_decide_eq_true hd
  obtain rfl : len = 1 := Nat.eq_of_beq_eq_true ok3
  obtain ⟨y, st, rfl, h1⟩ := ppL_inv h
  obtain ⟨x, st, rfl, h2⟩ := ppL_inv h1
  obtain ⟨hm, hk⟩ := hK _ _ _ h2
  refine ⟨hm, fun H locs Ls hR hS hL g1 g2 => ?_⟩
  exact W.lcmp hx hb hd (hk H locs Ls hR hS hL g1 g2)
theorem s_dup  (cx : Cx p R s m args meth c N0 G ro z xs L t d z0 y0 μ9) (ok : okI t (pc, .dup, len, as, ws) = true) (hK : ∀ ls st μ, K ls st μ = some (r, μ9) → Wk p l e R s m args below meth c Q N0 G ro z xs L t.2.2.1 z0 y0 μ9 (pc + len) ls st μ) (hJ : ∀ b ls st μ, J b ls st μ = some (r, μ9) → Wk p l e R s m args below meth c Q N0 G ro z xs L t.2.2.1 z0 y0 μ9 (bpc t b) ls st μ) (h : x1 C J (.dup) as ls st μ K = some (r, μ9)) : Wk p l e R s m args below meth c Q N0 G ro z xs L t.2.2.1 z0 y0 μ9 pc ls st μ := by
  obtain ⟨hx, hb, hml, hown, hts, hmn, wf, hfr, hlo, hce, hsl⟩ := cx
  have ok2 : (decide (decode t.2.1 pc = .ok (.dup, len)) && Nat.beq len 1) = true := ok
  obtain ⟨hd, ok3⟩ := and2 ok2
  have hd := of_decide_eq_true hd
  obtain rfl : len = 1 := Nat.eq_of_beq_eq_true ok3
  obtain ⟨v, st, rfl, h1⟩ := p1_inv h
  obtain ⟨hc, h2⟩ := cat1_inv h1
  obtain ⟨hm, hk⟩ := hK _ _ _ h2
  refine ⟨hm, fun H locs Ls hR hS hL g1 g2 => ?_⟩
  exact lv_dup hx hb hd (by rcases hc with rfl | ⟨i, rfl⟩ | ⟨i, rfl⟩ <;> rfl) (hk H locs Ls hR hS hL g1 g2)
theorem s_pop  (cx : Cx p R s m args meth c N0 G ro z xs L t d z0 y0 μ9) (ok : okI t (pc, .pop, len, as, ws) = true) (hK : ∀ ls st μ, K ls st μ = some (r, μ9) → Wk p l e R s m args below meth c Q N0 G ro z xs L t.2.2.1 z0 y0 μ9 (pc + len) ls st μ) (hJ : ∀ b ls st μ, J b ls st μ = some (r, μ9) → Wk p l e R s m args below meth c Q N0 G ro z xs L t.2.2.1 z0 y0 μ9 (bpc t b) ls st μ) (h : x1 C J (.pop) as ls st μ K = some (r, μ9)) : Wk p l e R s m args below meth c Q N0 G ro z xs L t.2.2.1 z0 y0 μ9 pc ls st μ := by
  obtain ⟨hx, hb, hml, hown, hts, hmn, wf, hfr, hlo, hce, hsl⟩ := cx
  have ok2 : (decide (decode t.2.1 pc = .ok (.pop, len)) && Nat.beq len 1) = true := ok
  obtain ⟨hd, ok3⟩ := and2 ok2
  have hd := of_decide_eq_true hd
  obtain rfl : len = 1 := Nat.eq_of_beq_eq_true ok3
  obtain ⟨v, st, rfl, h1⟩ := p1_inv h
  obtain ⟨hc, h2⟩ := cat1_inv h1
  obtain ⟨hm, hk⟩ := hK _ _ _ h2
  refine ⟨hm, fun H locs Ls hR hS hL g1 g2 => ?_⟩
  exact lv_pop hx hb hd (by rcases hc with rfl | ⟨i, rfl⟩ | ⟨i, rfl⟩ <;> rfl) (hk H locs Ls hR hS hL g1 g2)
theorem s_dup2  (cx : Cx p R s m args meth c N0 G ro z xs L t d z0 y0 μ9) (ok : okI t (pc, .dup2, len, as, ws) = true) (hK : ∀ ls st μ, K ls st μ = some (r, μ9) → Wk p l e R s m args below meth c Q N0 G ro z xs L t.2.2.1 z0 y0 μ9 (pc + len) ls st μ) (hJ : ∀ b ls st μ, J b ls st μ = some (r, μ9) → Wk p l e R s m args below meth c Q N0 G ro z xs L t.2.2.1 z0 y0 μ9 (bpc t b) ls st μ) (h : x1 C J (.dup2) as ls st μ K = some (r, μ9)) : Wk p l e R s m args below meth c Q N0 G ro z xs L t.2.2.1 z0 y0 μ9 pc ls st μ := by
  obtain ⟨hx, hb, hml, hown, hts, hmn, wf, hfr, hlo, hce, hsl⟩ := cx
  have ok2 : (decide (decode t.2.1 pc = .ok (.dup2, len)) && Nat.beq len 1) = true := ok
  obtain ⟨hd, ok3⟩ := and2 ok2
  have hd := of_decide_eq_true hd
  obtain rfl : len = 1 := Nat.eq_of_beq_eq_true ok3
  obtain ⟨v, st, rfl, h1⟩ := p1_inv h
  cases v with
  | long x =>
    obtain ⟨hm, hk⟩ := hK _ _ _ h1
    exact ⟨hm, fun H locs Ls hR hS hL g1 g2 => lv_dup2_2 hx hb hd rfl (hk H locs Ls hR hS hL g1 g2)⟩
  | int x =>
    obtain ⟨hc1, h2⟩ := cat1_inv h1
    obtain ⟨u, st, rfl, h3⟩ := p1_inv h2
    obtain ⟨hc, h4⟩ := cat1_inv h3
    obtain ⟨hm, hk⟩ := hK _ _ _ h4
    exact ⟨hm, fun H locs Ls hR hS hL g1 g2 => lv_dup2_11 hx hb hd rfl (by rcases hc with rfl | ⟨i, rfl⟩ | ⟨i, rfl⟩ <;> rfl) (hk H locs Ls hR hS hL g1 g2)⟩
  | null =>
    obtain ⟨hc1, h5⟩ := cat1_inv h1
    obtain ⟨u, st, rfl, h6⟩ := p1_inv h5
    obtain ⟨hc, h7⟩ := cat1_inv h6
    obtain ⟨hm, hk⟩ := hK _ _ _ h7
    exact ⟨hm, fun H locs Ls hR hS hL g1 g2 => lv_dup2_11 hx hb hd rfl (by rcases hc with rfl | ⟨i, rfl⟩ | ⟨i, rfl⟩ <;> rfl) (hk H locs Ls hR hS hL g1 g2)⟩
  | ref x =>
    obtain ⟨hc1, h8⟩ := cat1_inv h1
    obtain ⟨u, st, rfl, h9⟩ := p1_inv h8
    obtain ⟨hc, h10⟩ := cat1_inv h9
    obtain ⟨hm, hk⟩ := hK _ _ _ h10
    exact ⟨hm, fun H locs Ls hR hS hL g1 g2 => lv_dup2_11 hx hb hd rfl (by rcases hc with rfl | ⟨i, rfl⟩ | ⟨i, rfl⟩ <;> rfl) (hk H locs Ls hR hS hL g1 g2)⟩
  | _ => exact absurd (cat1_inv h1).1 (by rintro (q | ⟨i, q⟩ | ⟨i, q⟩) <;> cases q)
theorem s_if_eq {off : Int} (cx : Cx p R s m args meth c N0 G ro z xs L t d z0 y0 μ9) (ok : okI t (pc, .ifCond .eq off, len, as, ws) = true) (hK : ∀ ls st μ, K ls st μ = some (r, μ9) → Wk p l e R s m args below meth c Q N0 G ro z xs L t.2.2.1 z0 y0 μ9 (pc + len) ls st μ) (hJ : ∀ b ls st μ, J b ls st μ = some (r, μ9) → Wk p l e R s m args below meth c Q N0 G ro z xs L t.2.2.1 z0 y0 μ9 (bpc t b) ls st μ) (h : x1 C J (.ifCond .eq off) as ls st μ K = some (r, μ9)) : Wk p l e R s m args below meth c Q N0 G ro z xs L t.2.2.1 z0 y0 μ9 pc ls st μ := by
  obtain ⟨hx, hb, hml, hown, hts, hmn, wf, hfr, hlo, hce, hsl⟩ := cx
  obtain ⟨bt, bf, rfl⟩ : ∃ bt bf, as = [bt, bf] := by
    rcases as with _ | ⟨a1, _ | ⟨a2, _ | ⟨a3, as⟩⟩⟩ <;> first | exact ⟨_, _, rfl⟩ | cases h
  have ok2 : (decide (decode t.2.1 pc = .ok (.ifCond .eq off, len)) && (Nat.beq len 3 && decide ((pc : Int) + off = (bpc t bt : Int)) && Nat.beq (pc + 3) (bpc t bf))) = true := ok
  obtain ⟨hd, ok3⟩ := and2 ok2
  have hd := of_decide_eq_true hd
  obtain ⟨ok4, ok5⟩ := and2 ok3
  obtain ⟨ok6, ok7⟩ := and2 ok4
  obtain rfl : len = 3 := Nat.eq_of_beq_eq_true ok6
  have ht := of_decide_eq_true ok7
  have hf := Nat.eq_of_beq_eq_true ok5
  obtain ⟨x, st, rfl, h1⟩ := ppI_inv h
  by_cases hq : x = 0
  · have h : (if x = 0 then J bt ls st μ else J bf ls st μ) = some (r, μ9) := h1
    rw [if_pos hq] at h
    obtain ⟨hm, hk⟩ := hJ _ _ _ _ h
    refine ⟨hm, fun H locs Ls hR hS hL g1 g2 => ?_⟩
    exact lv_if_eq hx hb hd ht (fun _ => hk H locs Ls hR hS hL g1 g2) (fun q => absurd hq q)
  · have h : (if x = 0 then J bt ls st μ else J bf ls st μ) = some (r, μ9) := h1
    rw [if_neg hq] at h
    obtain ⟨hm, hk⟩ := hJ _ _ _ _ h
    refine ⟨hm, fun H locs Ls hR hS hL g1 g2 => ?_⟩
    rw [← hf] at hk
    exact lv_if_eq hx hb hd ht (fun q => absurd q hq) (fun _ => hk H locs Ls hR hS hL g1 g2)
theorem s_if_ne {off : Int} (cx : Cx p R s m args meth c N0 G ro z xs L t d z0 y0 μ9) (ok : okI t (pc, .ifCond .ne off, len, as, ws) = true) (hK : ∀ ls st μ, K ls st μ = some (r, μ9) → Wk p l e R s m args below meth c Q N0 G ro z xs L t.2.2.1 z0 y0 μ9 (pc + len) ls st μ) (hJ : ∀ b ls st μ, J b ls st μ = some (r, μ9) → Wk p l e R s m args below meth c Q N0 G ro z xs L t.2.2.1 z0 y0 μ9 (bpc t b) ls st μ) (h : x1 C J (.ifCond .ne off) as ls st μ K = some (r, μ9)) : Wk p l e R s m args below meth c Q N0 G ro z xs L t.2.2.1 z0 y0 μ9 pc ls st μ := by
  obtain ⟨hx, hb, hml, hown, hts, hmn, wf, hfr, hlo, hce, hsl⟩ := cx
  obtain ⟨bt, bf, rfl⟩ : ∃ bt bf, as = [bt, bf] := by
    rcases as with _ | ⟨a1, _ | ⟨a2, _ | ⟨a3, as⟩⟩⟩ <;> first | exact ⟨_, _, rfl⟩ | cases h
  have ok2 : (decide (decode t.2.1 pc = .ok (.ifCond .ne off, len)) && (Nat.beq len 3 && decide ((pc : Int) + off = (bpc t bt : Int)) && Nat.beq (pc + 3) (bpc t bf))) = true := ok
  obtain ⟨hd, ok3⟩ := and2 ok2
  have hd := of_decide_eq_true hd
  obtain ⟨ok4, ok5⟩ := and2 ok3
  obtain ⟨ok6, ok7⟩ := and2 ok4
  obtain rfl : len = 3 := Nat.eq_of_beq_eq_true ok6
  have ht := of_decide_eq_true ok7
  have hf := Nat.eq_of_beq_eq_true ok5
  obtain ⟨x, st, rfl, h1⟩ := ppI_inv h
  by_cases hq : x = 0
  · have h : (if x = 0 then J bf ls st μ else J bt ls st μ) = some (r, μ9) := h1
    rw [if_pos hq] at h
    obtain ⟨hm, hk⟩ := hJ _ _ _ _ h
    refine ⟨hm, fun H locs Ls hR hS hL g1 g2 => ?_⟩
    rw [← hf] at hk
    exact lv_if_ne hx hb hd ht (fun q => absurd hq q) (fun _ => hk H locs Ls hR hS hL g1 g2)
  · have h : (if x = 0 then J bf ls st μ else J bt ls st μ) = some (r, μ9) := h1
    rw [if_neg hq] at h
    obtain ⟨hm, hk⟩ := hJ _ _ _ _ h
    refine ⟨hm, fun H locs Ls hR hS hL g1 g2 => ?_⟩
    exact lv_if_ne hx hb hd ht (fun _ => hk H locs Ls hR hS hL g1 g2) (fun q => absurd q hq)
theorem s_if_lt {off : Int} (cx : Cx p R s m args meth c N0 G ro z xs L t d z0 y0 μ9) (ok : okI t (pc, .ifCond .lt off, len, as, ws) = true) (hK : ∀ ls st μ, K ls st μ = some (r, μ9) → Wk p l e R s m args below meth c Q N0 G ro z xs L t.2.2.1 z0 y0 μ9 (pc + len) ls st μ) (hJ : ∀ b ls st μ, J b ls st μ = some (r, μ9) → Wk p l e R s m args below meth c Q N0 G ro z xs L t.2.2.1 z0 y0 μ9 (bpc t b) ls st μ) (h : x1 C J (.ifCond .lt off) as ls st μ K = some (r, μ9)) : Wk p l e R s m args below meth c Q N0 G ro z xs L t.2.2.1 z0 y0 μ9 pc ls st μ := by
  obtain ⟨hx, hb, hml, hown, hts, hmn, wf, hfr, hlo, hce, hsl⟩ := cx
  obtain ⟨bt, bf, rfl⟩ : ∃ bt bf, as = [bt, bf] := by
    rcases as with _ | ⟨a1, _ | ⟨a2, _ | ⟨a3, as⟩⟩⟩ <;> first | exact ⟨_, _, rfl⟩ | cases h
  have ok2 : (decide (decode t.2.1 pc = .ok (.ifCond .lt off, len)) && (Nat.beq len 3 && decide ((pc : Int) + off = (bpc t bt : Int)) && Nat.beq (pc + 3) (bpc t bf))) = true := ok
  obtain ⟨hd, ok3⟩ := and2 ok2
  have hd := of_decide_eq_true hd
  obtain ⟨ok4, ok5⟩ := and2 ok3
  obtain ⟨ok6, ok7⟩ := and2 ok4
  obtain rfl : len = 3 := Nat.eq_of_beq_eq_true ok6
  have ht := of_decide_eq_true ok7
  have hf := Nat.eq_of_beq_eq_true ok5
  obtain ⟨x, st, rfl, h1⟩ := ppI_inv h
  by_cases hq : x < 0
  · have h : (if x < 0 then J bt ls st μ else J bf ls st μ) = some (r, μ9) := h1
    rw [if_pos hq] at h
    obtain ⟨hm, hk⟩ := hJ _ _ _ _ h
    refine ⟨hm, fun H locs Ls hR hS hL g1 g2 => ?_⟩
    exact lv_if_lt hx hb hd ht (fun _ => hk H locs Ls hR hS hL g1 g2) (fun q => absurd hq q)
  · have h : (if x < 0 then J bt ls st μ else J bf ls st μ) = some (r, μ9) := h1
    rw [if_neg hq] at h
    obtain ⟨hm, hk⟩ := hJ _ _ _ _ h
    refine ⟨hm, fun H locs Ls hR hS hL g1 g2 => ?_⟩
    rw [← hf] at hk
    exact lv_if_lt hx hb hd ht (fun q => absurd q hq) (fun _ => hk H locs Ls hR hS hL g1 g2)
theorem s_if_ge {off : Int} (cx : Cx p R s m args meth c N0 G ro z xs L t d z0 y0 μ9) (ok : okI t (pc, .ifCond .ge off, len, as, ws) = true) (hK : ∀ ls st μ, K ls st μ = some (r, μ9) → Wk p l e R s m args below meth c Q N0 G ro z xs L t.2.2.1 z0 y0 μ9 (pc + len) ls st μ) (hJ : ∀ b ls st μ, J b ls st μ = some (r, μ9) → Wk p l e R s m args below meth c Q N0 G ro z xs L t.2.2.1 z0 y0 μ9 (bpc t b) ls st μ) (h : x1 C J (.ifCond .ge off) as ls st μ K = some (r, μ9)) : Wk p l e R s m args below meth c Q N0 G ro z xs L t.2.2.1 z0 y0 μ9 pc ls st μ := by
  obtain ⟨hx, hb, hml, hown, hts, hmn, wf, hfr, hlo, hce, hsl⟩ := cx
  obtain ⟨bt, bf, rfl⟩ : ∃ bt bf, as = [bt, bf] := by
    rcases as with _ | ⟨a1, _ | ⟨a2, _ | ⟨a3, as⟩⟩⟩ <;> first | exact ⟨_, _, rfl⟩ | cases h
  have ok2 : (decide (decode t.2.1 pc = .ok (.ifCond .ge off, len)) && (Nat.beq len 3 && decide ((pc : Int) + off = (bpc t bt : Int)) && Nat.beq (pc + 3) (bpc t bf))) = true := ok
  obtain ⟨hd, ok3⟩ := and2 ok2
  have hd := of_decide_eq_true hd
  obtain ⟨ok4, ok5⟩ := and2 ok3
  obtain ⟨ok6, ok7⟩ := and2 ok4
  obtain rfl : len = 3 := Nat.eq_of_beq_eq_true ok6
  have ht := of_decide_eq_true ok7
  have hf := Nat.eq_of_beq_eq_true ok5
  obtain ⟨x, st, rfl, h1⟩ := ppI_inv h
  by_cases hq : 0 ≤ x
  · have h : (if 0 ≤ x then J bt ls st μ else J bf ls st μ) = some (r, μ9) := h1
    rw [if_pos hq] at h
    obtain ⟨hm, hk⟩ := hJ _ _ _ _ h
    refine ⟨hm, fun H locs Ls hR hS hL g1 g2 => ?_⟩
    exact lv_if_ge hx hb hd ht (fun _ => hk H locs Ls hR hS hL g1 g2) (fun q => absurd hq q)
  · have h : (if 0 ≤ x then J bt ls st μ else J bf ls st μ) = some (r, μ9) := h1
    rw [if_neg hq] at h
    obtain ⟨hm, hk⟩ := hJ _ _ _ _ h
    refine ⟨hm, fun H locs Ls hR hS hL g1 g2 => ?_⟩
    rw [← hf] at hk
    exact lv_if_ge hx hb hd ht (fun q => absurd q hq) (fun _ => hk H locs Ls hR hS hL g1 g2)
theorem s_if_gt {off : Int} (cx : Cx p R s m args meth c N0 G ro z xs L t d z0 y0 μ9) (ok : okI t (pc, .ifCond .gt off, len, as, ws) = true) (hK : ∀ ls st μ, K ls st μ = some (r, μ9) → Wk p l e R s m args below meth c Q N0 G ro z xs L t.2.2.1 z0 y0 μ9 (pc + len) ls st μ) (hJ : ∀ b ls st μ, J b ls st μ = some (r, μ9) → Wk p l e R s m args below meth c Q N0 G ro z xs L t.2.2.1 z0 y0 μ9 (bpc t b) ls st μ) (h : x1 C J (.ifCond .gt off) as ls st μ K = some (r, μ9)) : Wk p l e R s m args below meth c Q N0 G ro z xs L t.2.2.1 z0 y0 μ9 pc ls st μ := by
  obtain ⟨hx, hb, hml, hown, hts, hmn, wf, hfr, hlo, hce, hsl⟩ := cx
  obtain ⟨bt, bf, rfl⟩ : ∃ bt bf, as = [bt, bf] := by
    rcases as with _ | ⟨a1, _ | ⟨a2, _ | ⟨a3, as⟩⟩⟩ <;> first | exact ⟨_, _, rfl⟩ | cases h
  have ok2 : (decide (decode t.2.1 pc = .ok (.ifCond .gt off, len)) && (Nat.beq len 3 && decide ((pc : Int) + off = (bpc t bt : Int)) && Nat.beq (pc + 3) (bpc t bf))) = true := ok
  obtain ⟨hd, ok3⟩ := and2 ok2
  have hd := of_decide_eq_true hd
  obtain ⟨ok4, ok5⟩ := and2 ok3
  obtain ⟨ok6, ok7⟩ := and2 ok4
  obtain rfl : len = 3 := Nat.eq_of_beq_eq_true ok6
  have ht := of_decide_eq_true ok7
  have hf := Nat.eq_of_beq_eq_true ok5
  obtain ⟨x, st, rfl, h1⟩ := ppI_inv h
  by_cases hq : 0 < x
  · have h : (if 0 < x then J bt ls st μ else J bf ls st μ) = some (r, μ9) := h1
    rw [if_pos hq] at h
    obtain ⟨hm, hk⟩ := hJ _ _ _ _ h
    refine ⟨hm, fun H locs Ls hR hS hL g1 g2 => ?_⟩
    exact lv_if_gt hx hb hd ht (fun _ => hk H locs Ls hR hS hL g1 g2) (fun q => absurd hq q)
  · have h : (if 0 < x then J bt ls st μ else J bf ls st μ) = some (r, μ9) := h1
    rw [if_neg hq] at h
    obtain ⟨hm, hk⟩ := hJ _ _ _ _ h
    refine ⟨hm, fun H locs Ls hR hS hL g1 g2 => ?_⟩
    rw [← hf] at hk
    exact lv_if_gt hx hb hd ht (fun q => absurd q hq) (fun _ => hk H locs Ls hR hS hL g1 g2)
theorem s_if_le {off : Int} (cx : Cx p R s m args meth c N0 G ro z xs L t d z0 y0 μ9) (ok : okI t (pc, .ifCond .le off, len, as, ws) = true) (hK : ∀ ls st μ, K ls st μ = some (r, μ9) → Wk p l e R s m args below meth c Q N0 G ro z xs L t.2.2.1 z0 y0 μ9 (pc + len) ls st μ) (hJ : ∀ b ls st μ, J b ls st μ = some (r, μ9) → Wk p l e R s m args below meth c Q N0 G ro z xs L t.2.2.1 z0 y0 μ9 (bpc t b) ls st μ) (h : x1 C J (.ifCond .le off) as ls st μ K = some (r, μ9)) : Wk p l e R s m args below meth c Q N0 G ro z xs L t.2.2.1 z0 y0 μ9 pc ls st μ := by
  obtain ⟨hx, hb, hml, hown, hts, hmn, wf, hfr, hlo, hce, hsl⟩ := cx
  obtain ⟨bt, bf, rfl⟩ : ∃ bt bf, as = [bt, bf] := by
    rcases as with _ | ⟨a1, _ | ⟨a2, _ | ⟨a3, as⟩⟩⟩ <;> first | exact ⟨_, _, rfl⟩ | cases h
  have ok2 : (decide (decode t.2.1 pc = .ok (.ifCond .le off, len)) && (Nat.beq len 3 && decide ((pc : Int) + off = (bpc t bt : Int)) && Nat.beq (pc + 3) (bpc t bf))) = true := ok
  obtain ⟨hd, ok3⟩ := and2 ok2
  have hd := of_decide_eq_true hd
  obtain ⟨ok4, ok5⟩ := and2 ok3
  obtain ⟨ok6, ok7⟩ := and2 ok4
  obtain rfl : len = 3 := Nat.eq_of_beq_eq_true ok6
  have ht := of_decide_eq_true ok7
  have hf := Nat.eq_of_beq_eq_true ok5
  obtain ⟨x, st, rfl, h1⟩ := ppI_inv h
  by_cases hq : x ≤ 0
  · have h : (if x ≤ 0 then J bt ls st μ else J bf ls st μ) = some (r, μ9) := h1
    rw [if_pos hq] at h
    obtain ⟨hm, hk⟩ := hJ _ _ _ _ h
    refine ⟨hm, fun H locs Ls hR hS hL g1 g2 => ?_⟩
    exact lv_if_le hx hb hd ht (fun _ => hk H locs Ls hR hS hL g1 g2) (fun q => absurd hq q)
  · have h : (if x ≤ 0 then J bt ls st μ else J bf ls st μ) = some (r, μ9) := h1
    rw [if_neg hq] at h
    obtain ⟨hm, hk⟩ := hJ _ _ _ _ h
    refine ⟨hm, fun H locs Ls hR hS hL g1 g2 => ?_⟩
    rw [← hf] at hk
    exact lv_if_le hx hb hd ht (fun q => absurd q hq) (fun _ => hk H locs Ls hR hS hL g1 g2)
theorem s_icmp_eq {off : Int} (cx : Cx p R s m args meth c N0 G ro z xs L t d z0 y0 μ9) (ok : okI t (pc, .if_icmp .eq off, len, as, ws) = true) (hK : ∀ ls st μ, K ls st μ = some (r, μ9) → Wk p l e R s m args below meth c Q N0 G ro z xs L t.2.2.1 z0 y0 μ9 (pc + len) ls st μ) (hJ : ∀ b ls st μ, J b ls st μ = some (r, μ9) → Wk p l e R s m args below meth c Q N0 G ro z xs L t.2.2.1 z0 y0 μ9 (bpc t b) ls st μ) (h : x1 C J (.if_icmp .eq off) as ls st μ K = some (r, μ9)) : Wk p l e R s m args below meth c Q N0 G ro z xs L t.2.2.1 z0 y0 μ9 pc ls st μ := by
  obtain ⟨hx, hb, hml, hown, hts, hmn, wf, hfr, hlo, hce, hsl⟩ := cx
  obtain ⟨bt, bf, rfl⟩ : ∃ bt bf, as = [bt, bf] := by
    rcases as with _ | ⟨a1, _ | ⟨a2, _ | ⟨a3, as⟩⟩⟩ <;> first | exact ⟨_, _, rfl⟩ | cases h
  have ok2 : (decide (decode t.2.1 pc = .ok (.if_icmp .eq off, len)) && (Nat.beq len 3 && decide ((pc : Int) + off = (bpc t bt : Int)) && Nat.beq (pc + 3) (bpc t bf))) = true := ok
  obtain ⟨hd, ok3⟩ := and2 ok2
  have hd := of_decide_eq_true hd
  obtain ⟨ok4, ok5⟩ := and2 ok3
  obtain ⟨ok6, ok7⟩ := and2 ok4
  obtain rfl : len = 3 := Nat.eq_of_beq_eq_true ok6
  have ht := of_decide_eq_true ok7
  have hf := Nat.eq_of_beq_eq_true ok5
  obtain ⟨y, st, rfl, h1⟩ := ppI_inv h
  obtain ⟨x, st, rfl, h2⟩ := ppI_inv h1
  by_cases hq : x = y
  · have h : (if x = y then J bt ls st μ else J bf ls st μ) = some (r, μ9) := h2
    rw [if_pos hq] at h
    obtain ⟨hm, hk⟩ := hJ _ _ _ _ h
    refine ⟨hm, fun H locs Ls hR hS hL g1 g2 => ?_⟩
    exact lv_icmp_eq hx hb hd ht (fun _ => hk H locs Ls hR hS hL g1 g2) (fun q => absurd hq q)
  · have h : (if x = y then J bt ls st μ else J bf ls st μ) = some (r, μ9) := h2
    rw [if_neg hq] at h
    obtain ⟨hm, hk⟩ := hJ _ _ _ _ h
    refine ⟨hm, fun H locs Ls hR hS hL g1 g2 => ?_⟩
    rw [← hf] at hk
    exact lv_icmp_eq hx hb hd ht (fun q => absurd q hq) (fun _ => hk H locs Ls hR hS hL g1 g2)
theorem s_icmp_ne {off : Int} (cx : Cx p R s m args meth c N0 G ro z xs L t d z0 y0 μ9) (ok : okI t (pc, .if_icmp .ne off, len, as, ws) = true) (hK : ∀ ls st μ, K ls st μ = some (r, μ9) → Wk p l e R s m args below meth c Q N0 G ro z xs L t.2.2.1 z0 y0 μ9 (pc + len) ls st μ) (hJ : ∀ b ls st μ, J b ls st μ = some (r, μ9) → Wk p l e R s m args below meth c Q N0 G ro z xs L t.2.2.1 z0 y0 μ9 (bpc t b) ls st μ) (h : x1 C J (.if_icmp .ne off) as ls st μ K = some (r, μ9)) : Wk p l e R s m args below meth c Q N0 G ro z xs L t.2.2.1 z0 y0 μ9 pc ls st μ := by
  obtain ⟨hx, hb, hml, hown, hts, hmn, wf, hfr, hlo, hce, hsl⟩ := cx
  obtain ⟨bt, bf, rfl⟩ : ∃ bt bf, as = [bt, bf] := by
    rcases as with _ | ⟨a1, _ | ⟨a2, _ | ⟨a3, as⟩⟩⟩ <;> first | exact ⟨_, _, rfl⟩ | cases h
  have ok2 : (decide (decode t.2.1 pc = .ok (.if_icmp .ne off, len)) && (Nat.beq len 3 && decide ((pc : Int) + off = (bpc t bt : Int)) && Nat.beq (pc + 3) (bpc t bf))) = true := ok
  obtain ⟨hd, ok3⟩ := and2 ok2
  have hd := of_decide_eq_true hd
  obtain ⟨ok4, ok5⟩ := and2 ok3
  obtain ⟨ok6, ok7⟩ := and2 ok4
  obtain rfl : len = 3 := Nat.eq_of_beq_eq_true ok6
  have ht := of_decide_eq_true ok7
  have hf := Nat.eq_of_beq_eq_true ok5
  obtain ⟨y, st, rfl, h1⟩ := ppI_inv h
  obtain ⟨x, st, rfl, h2⟩ := ppI_inv h1
  by_cases hq : x = y
  · have h : (if x = y then J bf ls st μ else J bt ls st μ) = some (r, μ9) := h2
    rw [if_pos hq] at h
    obtain ⟨hm, hk⟩ := hJ _ _ _ _ h
    refine ⟨hm, fun H locs Ls hR hS hL g1 g2 => ?_⟩
    rw [← hf] at hk
    exact lv_icmp_ne hx hb hd ht (fun q => absurd hq q) (fun _ => hk H locs Ls hR hS hL g1 g2)
  · have h : (if x = y then J bf ls st μ else J bt ls st μ) = some (r, μ9) := h2
    rw [if_neg hq] at h
    obtain ⟨hm, hk⟩ := hJ _ _ _ _ h
    refine ⟨hm, fun H locs Ls hR hS hL g1 g2 => ?_⟩
    exact lv_icmp_ne hx hb hd ht (fun _ => hk H locs Ls hR hS hL g1 g2) (fun q => absurd q hq)
theorem s_icmp_lt {off : Int} (cx : Cx p R s m args meth c N0 G ro z xs L t d z0 y0 μ9) (ok : okI t (pc, .if_icmp .lt off, len, as, ws) = true) (hK : ∀ ls st μ, K ls st μ = some (r, μ9) → Wk p l e R s m args below meth c Q N0 G ro z xs L t.2.2.1 z0 y0 μ9 (pc + len) ls st μ) (hJ : ∀ b ls st μ, J b ls st μ = some (r, μ9) → Wk p l e R s m args below meth c Q N0 G ro z xs L t.2.2.1 z0 y0 μ9 (bpc t b) ls st μ) (h : x1 C J (.if_icmp .lt off) as ls st μ K = some (r, μ9)) : Wk p l e R s m args below meth c Q N0 G ro z xs L t.2.2.1 z0 y0 μ9 pc ls st μ := by
  obtain ⟨hx, hb, hml, hown, hts, hmn, wf, hfr, hlo, hce, hsl⟩ := cx
  obtain ⟨bt, bf, rfl⟩ : ∃ bt bf, as = [bt, bf] := by
    rcases as with _ | ⟨a1, _ | ⟨a2, _ | ⟨a3, as⟩⟩⟩ <;> first | exact ⟨_, _, rfl⟩ | cases h
  have ok2 : (decide (decode t.2.1 pc = .ok (.if_icmp .lt off, len)) && (Nat.beq len 3 && decide ((pc : Int) + off = (bpc t bt : Int)) && Nat.beq (pc + 3) (bpc t bf))) = true := ok
  obtain ⟨hd, ok3⟩ := and2 ok2
  have hd := of_decide_eq_true hd
  obtain ⟨ok4, ok5⟩ := and2 ok3
  obtain ⟨ok6, ok7⟩ := and2 ok4
  obtain rfl : len = 3 := Nat.eq_of_beq_eq_true ok6
  have ht := of_decide_eq_true ok7
  have hf := Nat.eq_of_beq_eq_true ok5
  obtain ⟨y, st, rfl, h1⟩ := ppI_inv h
  obtain ⟨x, st, rfl, h2⟩ := ppI_inv h1
  by_cases hq : x < y
  · have h : (if x < y then J bt ls st μ else J bf ls st μ) = some (r, μ9) := h2
    rw [if_pos hq] at h
    obtain ⟨hm, hk⟩ := hJ _ _ _ _ h
    refine ⟨hm, fun H locs Ls hR hS hL g1 g2 => ?_⟩
    exact lv_icmp_lt hx hb hd ht (fun _ => hk H locs Ls hR hS hL g1 g2) (fun q => absurd hq q)
  · have h : (if x < y then J bt ls st μ else J bf ls st μ) = some (r, μ9) := h2
    rw [if_neg hq] at h
    obtain ⟨hm, hk⟩ := hJ _ _ _ _ h
    refine ⟨hm, fun H locs Ls hR hS hL g1 g2 => ?_⟩
    rw [← hf] at hk
    exact lv_icmp_lt hx hb hd ht (fun q => absurd q hq) (fun _ => hk H locs Ls hR hS hL g1 g2)
theorem s_icmp_ge {off : Int} (cx : Cx p R s m args meth c N0 G ro z xs L t d z0 y0 μ9) (ok : okI t (pc, .if_icmp .ge off, len, as, ws) = true) (hK : ∀ ls st μ, K ls st μ = some (r, μ9) → Wk p l e R s m args below meth c Q N0 G ro z xs L t.2.2.1 z0 y0 μ9 (pc + len) ls st μ) (hJ : ∀ b ls st μ, J b ls st μ = some (r, μ9) → Wk p l e R s m args below meth c Q N0 G ro z xs L t.2.2.1 z0 y0 μ9 (bpc t b) ls st μ) (h : x1 C J (.if_icmp .ge off) as ls st μ K = some (r, μ9)) : Wk p l e R s m args below meth c Q N0 G ro z xs L t.2.2.1 z0 y0 μ9 pc ls st μ := by
  obtain ⟨hx, hb, hml, hown, hts, hmn, wf, hfr, hlo, hce, hsl⟩ := cx
  obtain ⟨bt, bf, rfl⟩ : ∃ bt bf, as = [bt, bf] := by
    rcases as with _ | ⟨a1, _ | ⟨a2, _ | ⟨a3, as⟩⟩⟩ <;> first | exact ⟨_, _, rfl⟩ | cases h
  have ok2 : (decide (decode t.2.1 pc = .ok (.if_icmp .ge off, len)) && (Nat.beq len 3 && decide ((pc : Int) + off = (bpc t bt : Int)) && Nat.beq (pc + 3) (bpc t bf))) = true := ok
  obtain ⟨hd, ok3⟩ := and2 ok2
  have hd := of_decide_eq_true hd
  obtain ⟨ok4, ok5⟩ := and2 ok3
  obtain ⟨ok6, ok7⟩ := and2 ok4
  obtain rfl : len = 3 := Nat.eq_of_beq_eq_true ok6
  have ht := of_decide_eq_true ok7
  have hf := Nat.eq_of_beq_eq_true ok5
  obtain ⟨y, st, rfl, h1⟩ := ppI_inv h
  obtain ⟨x, st, rfl, h2⟩ := ppI_inv h1
  by_cases hq : y ≤ x
  · have h : (if y ≤ x then J bt ls st μ else J bf ls st μ) = some (r, μ9) := h2
    rw [if_pos hq] at h
    obtain ⟨hm, hk⟩ := hJ _ _ _ _ h
    refine ⟨hm, fun H locs Ls hR hS hL g1 g2 => ?_⟩
    exact lv_icmp_ge hx hb hd ht (fun _ => hk H locs Ls hR hS hL g1 g2) (fun q => absurd hq q)
  · have h : (if y ≤ x then J bt ls st μ else J bf ls st μ) = some (r, μ9) := h2
    rw [if_neg hq] at h
    obtain ⟨hm, hk⟩ := hJ _ _ _ _ h
    refine ⟨hm, fun H locs Ls hR hS hL g1 g2 => ?_⟩
    rw [← hf] at hk
    exact lv_icmp_ge hx hb hd ht (fun q => absurd q hq) (fun _ => hk H locs Ls hR hS hL g1 g2)
theorem s_icmp_gt {off : Int} (cx : Cx p R s m args meth c N0 G ro z xs L t d z0 y0 μ9) (ok : okI t (pc, .if_icmp .gt off, len, as, ws) = true) (hK : ∀ ls st μ, K ls st μ = some (r, μ9) → Wk p l e R s m args below meth c Q N0 G ro z xs L t.2.2.1 z0 y0 μ9 (pc + len) ls st μ) (hJ : ∀ b ls st μ, J b ls st μ = some (r, μ9) → Wk p l e R s m args below meth c Q N0 G ro z xs L t.2.2.1 z0 y0 μ9 (bpc t b) ls st μ) (h : x1 C J (.if_icmp .gt off) as ls st μ K = some (r, μ9)) : Wk p l e R s m args below meth c Q N0 G ro z xs L t.2.2.1 z0 y0 μ9 pc ls st μ := by
  obtain ⟨hx, hb, hml, hown, hts, hmn, wf, hfr, hlo, hce, hsl⟩ := cx
  obtain ⟨bt, bf, rfl⟩ : ∃ bt bf, as = [bt, bf] := by
    rcases as with _ | ⟨a1, _ | ⟨a2, _ | ⟨a3, as⟩⟩⟩ <;> first | exact ⟨_, _, rfl⟩ | cases h
  have ok2 : (decide (decode t.2.1 pc = .ok (.if_icmp .gt off, len)) && (Nat.beq len 3 && decide ((pc : Int) + off = (bpc t bt : Int)) && Nat.beq (pc + 3) (bpc t bf))) = true := ok
  obtain ⟨hd, ok3⟩ := and2 ok2
  have hd := of_decide_eq_true hd
  obtain ⟨ok4, ok5⟩ := and2 ok3
  obtain ⟨ok6, ok7⟩ := and2 ok4
  obtain rfl : len = 3 := Nat.eq_of_beq_eq_true ok6
  have ht := of_decide_eq_true ok7
  have hf := Nat.eq_of_beq_eq_true ok5
  obtain ⟨y, st, rfl, h1⟩ := ppI_inv h
  obtain ⟨x, st, rfl, h2⟩ := ppI_inv h1
  by_cases hq : y < x
  · have h : (if y < x then J bt ls st μ else J bf ls st μ) = some (r, μ9) := h2
    rw [if_pos hq] at h
    obtain ⟨hm, hk⟩ := hJ _ _ _ _ h
    refine ⟨hm, fun H locs Ls hR hS hL g1 g2 => ?_⟩
    exact lv_icmp_gt hx hb hd ht (fun _ => hk H locs Ls hR hS hL g1 g2) (fun q => absurd hq q)
  · have h : (if y < x then J bt ls st μ else J bf ls st μ) = some (r, μ9) := h2
    rw [if_neg hq] at h
    obtain ⟨hm, hk⟩ := hJ _ _ _ _ h
    refine ⟨hm, fun H locs Ls hR hS hL g1 g2 => ?_⟩
    rw [← hf] at hk
    exact lv_icmp_gt hx hb hd ht (fun q => absurd q hq) (fun _ => hk H locs Ls hR hS hL g1 g2)
theorem s_icmp_le {off : Int} (cx : Cx p R s m args meth c N0 G ro z xs L t d z0 y0 μ9) (ok : okI t (pc, .if_icmp .le off, len, as, ws) = true) (hK : ∀ ls st μ, K ls st μ = some (r, μ9) → Wk p l e R s m args below meth c Q N0 G ro z xs L t.2.2.1 z0 y0 μ9 (pc + len) ls st μ) (hJ : ∀ b ls st μ, J b ls st μ = some (r, μ9) → Wk p l e R s m args below meth c Q N0 G ro z xs L t.2.2.1 z0 y0 μ9 (bpc t b) ls st μ) (h : x1 C J (.if_icmp .le off) as ls st μ K = some (r, μ9)) : Wk p l e R s m args below meth c Q N0 G ro z xs L t.2.2.1 z0 y0 μ9 pc ls st μ := by
  obtain ⟨hx, hb, hml, hown, hts, hmn, wf, hfr, hlo, hce, hsl⟩ := cx
  obtain ⟨bt, bf, rfl⟩ : ∃ bt bf, as = [bt, bf] := by
    rcases as with _ | ⟨a1, _ | ⟨a2, _ | ⟨a3, as⟩⟩⟩ <;> first | exact ⟨_, _, rfl⟩ | cases h
  have ok2 : (decide (decode t.2.1 pc = .ok (.if_icmp .le off, len)) && (Nat.beq len 3 && decide ((pc : Int) + off = (bpc t bt : Int)) && Nat.beq (pc + 3) (bpc t bf))) = true := ok
  obtain ⟨hd, ok3⟩ := and2 ok2
  have hd := of_decide_eq_true hd
  obtain ⟨ok4, ok5⟩ := and2 ok3
  obtain ⟨ok6, ok7⟩ := and2 ok4
  obtain rfl : len = 3 := Nat.eq_of_beq_eq_true ok6
  have ht := of_decide_eq_true ok7
  have hf := Nat.eq_of_beq_eq_true ok5
  obtain ⟨y, st, rfl, h1⟩ := ppI_inv h
  obtain ⟨x, st, rfl, h2⟩ := ppI_inv h1
  by_cases hq : x ≤ y
  · have h : (if x ≤ y then J bt ls st μ else J bf ls st μ) = some (r, μ9) := h2
    rw [if_pos hq] at h
    obtain ⟨hm, hk⟩ := hJ _ _ _ _ h
    refine ⟨hm, fun H locs Ls hR hS hL g1 g2 => ?_⟩
    exact lv_icmp_le hx hb hd ht (fun _ => hk H locs Ls hR hS hL g1 g2) (fun q => absurd hq q)
  · have h : (if x ≤ y then J bt ls st μ else J bf ls st μ) = some (r, μ9) := h2
    rw [if_neg hq] at h
    obtain ⟨hm, hk⟩ := hJ _ _ _ _ h
    refine ⟨hm, fun H locs Ls hR hS hL g1 g2 => ?_⟩
    rw [← hf] at hk
    exact lv_icmp_le hx hb hd ht (fun q => absurd q hq) (fun _ => hk H locs Ls hR hS hL g1 g2)
theorem s_ifnull {off : Int} (cx : Cx p R s m args meth c N0 G ro z xs L t d z0 y0 μ9) (ok : okI t (pc, .ifnull off, len, as, ws) = true) (hK : ∀ ls st μ, K ls st μ = some (r, μ9) → Wk p l e R s m args below meth c Q N0 G ro z xs L t.2.2.1 z0 y0 μ9 (pc + len) ls st μ) (hJ : ∀ b ls st μ, J b ls st μ = some (r, μ9) → Wk p l e R s m args below meth c Q N0 G ro z xs L t.2.2.1 z0 y0 μ9 (bpc t b) ls st μ) (h : x1 C J (.ifnull off) as ls st μ K = some (r, μ9)) : Wk p l e R s m args below meth c Q N0 G ro z xs L t.2.2.1 z0 y0 μ9 pc ls st μ := by
  obtain ⟨hx, hb, hml, hown, hts, hmn, wf, hfr, hlo, hce, hsl⟩ := cx
  obtain ⟨bt, bf, rfl⟩ : ∃ bt bf, as = [bt, bf] := by
    rcases as with _ | ⟨a1, _ | ⟨a2, _ | ⟨a3, as⟩⟩⟩ <;> first | exact ⟨_, _, rfl⟩ | cases h
  have ok2 : (decide (decode t.2.1 pc = .ok (.ifnull off, len)) && (Nat.beq len 3 && decide ((pc : Int) + off = (bpc t bt : Int)) && Nat.beq (pc + 3) (bpc t bf))) = true := ok
  obtain ⟨hd, ok3⟩ := and2 ok2
  have hd := of_decide_eq_true hd
  obtain ⟨ok4, ok5⟩ := and2 ok3
  obtain ⟨ok6, ok7⟩ := and2 ok4
  obtain rfl : len = 3 := Nat.eq_of_beq_eq_true ok6
  have ht := of_decide_eq_true ok7
  have hf := Nat.eq_of_beq_eq_true ok5
  obtain ⟨v, st, rfl, h1⟩ := p1_inv h
  rcases asN_inv h1 with ⟨rfl, h2⟩ | ⟨x, rfl, h2⟩
  · obtain ⟨hm, hk⟩ := hJ _ _ _ _ h2
    refine ⟨hm, fun H locs Ls hR hS hL g1 g2 => ?_⟩
    exact lv_ifnullN hx hb hd ht (hk H locs Ls hR hS hL g1 g2)
  · obtain ⟨hm, hk⟩ := hJ _ _ _ _ h2
    refine ⟨hm, fun H locs Ls hR hS hL g1 g2 => ?_⟩
    rw [← hf] at hk
    exact lv_ifnull hx hb hd (hk H locs Ls hR hS hL g1 g2)
theorem s_ifnonnull {off : Int} (cx : Cx p R s m args meth c N0 G ro z xs L t d z0 y0 μ9) (ok : okI t (pc, .ifnonnull off, len, as, ws) = true) (hK : ∀ ls st μ, K ls st μ = some (r, μ9) → Wk p l e R s m args below meth c Q N0 G ro z xs L t.2.2.1 z0 y0 μ9 (pc + len) ls st μ) (hJ : ∀ b ls st μ, J b ls st μ = some (r, μ9) → Wk p l e R s m args below meth c Q N0 G ro z xs L t.2.2.1 z0 y0 μ9 (bpc t b) ls st μ) (h : x1 C J (.ifnonnull off) as ls st μ K = some (r, μ9)) : Wk p l e R s m args below meth c Q N0 G ro z xs L t.2.2.1 z0 y0 μ9 pc ls st μ := by
  obtain ⟨hx, hb, hml, hown, hts, hmn, wf, hfr, hlo, hce, hsl⟩ := cx
  obtain ⟨bt, bf, rfl⟩ : ∃ bt bf, as = [bt, bf] := by
    rcases as with _ | ⟨a1, _ | ⟨a2, _ | ⟨a3, as⟩⟩⟩ <;> first | exact ⟨_, _, rfl⟩ | cases h
  have ok2 : (decide (decode t.2.1 pc = .ok (.ifnonnull off, len)) && (Nat.beq len 3 && decide ((pc : Int) + off = (bpc t bt : Int)) && Nat.beq (pc + 3) (bpc t bf))) = true := ok
  obtain ⟨hd, ok3⟩ := and2 ok2
  have hd := of_decide_eq_true hd
  obtain ⟨ok4, ok5⟩ := and2 ok3
  obtain ⟨ok6, ok7⟩ := and2 ok4
  obtain rfl : len = 3 := Nat.eq_of_beq_eq_true ok6
  have ht := of_decide_eq_true ok7
  have hf := Nat.eq_of_beq_eq_true ok5
  obtain ⟨v, st, rfl, h1⟩ := p1_inv h
  rcases asN_inv h1 with ⟨rfl, h2⟩ | ⟨x, rfl, h2⟩
  · obtain ⟨hm, hk⟩ := hJ _ _ _ _ h2
    refine ⟨hm, fun H locs Ls hR hS hL g1 g2 => ?_⟩
    rw [← hf] at hk
    exact lv_ifnonnullN hx hb hd (hk H locs Ls hR hS hL g1 g2)
  · obtain ⟨hm, hk⟩ := hJ _ _ _ _ h2
    refine ⟨hm, fun H locs Ls hR hS hL g1 g2 => ?_⟩
    exact lv_ifnonnull hx hb hd ht (hk H locs Ls hR hS hL g1 g2)
theorem s_goto {off : Int} (cx : Cx p R s m args meth c N0 G ro z xs L t d z0 y0 μ9) (ok : okI t (pc, .goto off, len, as, ws) = true) (hK : ∀ ls st μ, K ls st μ = some (r, μ9) → Wk p l e R s m args below meth c Q N0 G ro z xs L t.2.2.1 z0 y0 μ9 (pc + len) ls st μ) (hJ : ∀ b ls st μ, J b ls st μ = some (r, μ9) → Wk p l e R s m args below meth c Q N0 G ro z xs L t.2.2.1 z0 y0 μ9 (bpc t b) ls st μ) (h : x1 C J (.goto off) as ls st μ K = some (r, μ9)) : Wk p l e R s m args below meth c Q N0 G ro z xs L t.2.2.1 z0 y0 μ9 pc ls st μ := by
  obtain ⟨hx, hb, hml, hown, hts, hmn, wf, hfr, hlo, hce, hsl⟩ := cx
  obtain ⟨b, rfl⟩ : ∃ b, as = [b] := by
    rcases as with _ | ⟨a1, _ | ⟨a2, as⟩⟩ <;> first | exact ⟨_, rfl⟩ | cases h
  have ok2 : (decide (decode t.2.1 pc = .ok (.goto off, len)) && (Nat.beq len 3 && decide ((pc : Int) + off = (bpc t b : Int)))) = true := ok
  obtain ⟨hd, ok3⟩ := and2 ok2
  have hd := of_decide_eq_true hd
  obtain ⟨ok4, ok5⟩ := and2 ok3
  obtain rfl : len = 3 := Nat.eq_of_beq_eq_true ok4
  obtain ⟨hm, hk⟩ := hJ _ _ _ _ h
  exact ⟨hm, fun H locs Ls hR hS hL g1 g2 => lv_goto hx hb hd (of_decide_eq_true ok5) (hk H locs Ls hR hS hL g1 g2)⟩
end SIM
end
section
/-! FIELDS AND ARRAYS -/
theorem cv_rv (f : Nat → Nat) (z : Value) (r : Option Nat) : cv f z (rv r) = va_rf (r.map f) := by
  cases r <;> rfl
theorem kty_lt {k : Nat} {ty : FieldType} (h : kty k = some ty) : 20 ≤ k ∧ k < 26 := by
  unfold kty at h
  split at h <;> first | omega | cases h
theorem vw_all {P : vw_C → Prop} (h0 : P (RX0, TX0, 6)) (h1 : P (RX1, TX1, 6)) (h2 : P (RX2, TX2, 7)) (h3 : P (RX3, TX3, 3)) (h4 : P (RX4, TX4, 6)) (h5 : P (RX5, TX5, 6)) (h6 : P (RX6, TX6, 6)) (h7 : P (RX7, TX7, 6)) (h8 : P (RX8, TX8, 6)) (h9 : P (RX9, TX9, 2)) (h10 : P (RX10, TX10, 15)) (h11 : P (RX11, TX11, 7)) (h12 : P (RX12, TX12, 25)) {ci : Nat} {q : vw_C} (h : vwCl[ci]? = some q) : P q := by
  have hm := List.mem_of_getElem? h
  simp only [List.mem_cons, List.not_mem_nil, or_false] at hm
  rcases hm with rfl | rfl | rfl | rfl | rfl | rfl | rfl | rfl | rfl | rfl | rfl | rfl | rfl <;> assumption
theorem vw_nm {ci : Nat} {q : vw_C} (h : vwCl[ci]? = some q) : ∀ a, a < q.2.2 → ∀ b, b < q.2.2 → a ≠ b → (q.2.1 a).2.1 ≠ (q.2.1 b).2.1 :=
  vw_all (P := fun q => ∀ a, a < q.2.2 → ∀ b, b < q.2.2 → a ≠ b → (q.2.1 a).2.1 ≠ (q.2.1 b).2.1) nmX0 nmX1 nmX2 nmX3 nmX4 nmX5 nmX6 nmX7 nmX8 nmX9 nmX10 nmX11 nmX12 h
theorem vw_ty {ci : Nat} {q : vw_C} (h : vwCl[ci]? = some q) : ∃ ty : Nat → FieldType, ∀ k, k < q.2.2 → parseFieldDescriptor (q.2.1 k).2.2.1 = some (ty k) :=
  vw_all (P := fun q => ∃ ty : Nat → FieldType, ∀ k, k < q.2.2 → parseFieldDescriptor (q.2.1 k).2.2.1 = some (ty k)) ⟨_, tyX0_ok⟩ ⟨_, tyX1_ok⟩ ⟨_, tyX2_ok⟩ ⟨_, tyX3_ok⟩ ⟨_, tyX4_ok⟩ ⟨_, tyX5_ok⟩ ⟨_, tyX6_ok⟩ ⟨_, tyX7_ok⟩ ⟨_, tyX8_ok⟩ ⟨_, tyX9_ok⟩ ⟨_, tyX10_ok⟩ ⟨_, tyX11_ok⟩ ⟨_, tyX12_ok⟩ h
/-- what a field may hold at first -/
theorem vw_df {ci : Nat} {q : vw_C} (h : vwCl[ci]? = some q) : ∀ k, k < q.2.2 → ∃ ty, parseFieldDescriptor (q.2.1 k).2.2.1 = some ty ∧ defaultValue ty = (match fkd (q.2.1 k).2.2.1 with | 2 => .null | _ => .int 0) := by
  have hd : ∀ k, k < q.2.2 → fkd (q.2.1 k).2.2.1 ≠ 9 := vw_all (P := fun q => ∀ k, k < q.2.2 → fkd (q.2.1 k).2.2.1 ≠ 9) (by decide +kernel) (by decide +kernel) (by decide +kernel) (by decide +kernel) (by decide +kernel) (by decide +kernel) (by decide +kernel) (by decide +kernel) (by decide +kernel) (by decide +kernel) (by decide +kernel) (by decide +kernel) (by decide +kernel) h
  intro k hk
  have h9 := hd k hk
  unfold fkd at h9 ⊢
  split at h9
  · next e => exact ⟨_, e, rfl⟩
  · next e => exact ⟨_, e, rfl⟩
  · next e => exact ⟨_, e, rfl⟩
  · next e => exact ⟨_, e, rfl⟩
  · exact absurd rfl h9
def layP : List (List Nat) := [[554, 556, 558, 560, 562, 564], [573, 574, 575, 576, 577, 578], [628, 629, 630, 631, 632, 633, 626], [434, 436, 438], [586, 587, 588, 589, 590, 591], [185, 187, 189, 191, 193, 195], [638, 639, 640, 641, 642, 643], [599, 600, 601, 602, 603, 604], [612, 613, 614, 615, 616, 617], [209, 211], [138, 140, 142, 144, 146, 148, 150, 152, 154, 156, 158, 160, 162, 164, 166], [221, 223, 225, 227, 229, 231, 233], [1002, 1004, 1006, 1008, 1010, 1012, 1014, 1016, 1018, 1020, 1022, 1024, 1026, 1028, 1030, 1032, 1034, 1036, 1038, 1040, 1042, 1044, 1046, 1048, 1050]]
def layOK : Bool := (vwCl.zip layP).all fun w => (u_ws w.1.1 w.1.2.1 w.1.2.2).length == w.2.length && ((u_ws w.1.1 w.1.2.1 w.1.2.2).zip w.2).all fun x => wis x.2 x.1 && goodWord x.1
theorem lay_ok : layOK = true := by decide +kernel
theorem zip_mem {α β : Type} {l : List α} {r : List β} (h : l.length = r.length) {a : α} (ha : a ∈ l) : ∃ b, (a, b) ∈ l.zip r := by
  obtain ⟨i, hi, rfl⟩ := List.getElem_of_mem ha
  exact ⟨r[i]'(by omega), by rw [List.mem_iff_getElem]; exact ⟨i, by simp; omega, by simp⟩⟩
theorem vw_in {ci : Nat} {q : vw_C} (h : vwCl[ci]? = some q) : ∀ w ∈ u_ws q.1 q.2.1 q.2.2, w ∈ gTbl := by
  intro w hw
  obtain ⟨ps, hp⟩ := zip_mem (r := layP) (by rfl) (List.mem_of_getElem? h)
  have h1 := List.all_eq_true.mp lay_ok _ hp
  obtain ⟨h2, h3⟩ := and2 h1
  obtain ⟨b, hb⟩ := zip_mem (r := ps) (by simpa using h2) hw
  have h4 := List.all_eq_true.mp h3 _ hb
  obtain ⟨h5, h6⟩ := and2 h4
  exact wis_g h5 h6
theorem okF_inv {own : String} {idx k tk pf ps c : Nat} {put : Option String} (h : okF own idx k tk pf ps c put = true) : ∃ (q : vw_C) (r : String), vwCl[c]? = some q ∧ k < q.2.2 ∧ Cond.fieldLink own idx r (q.2.1 k).2.1 (q.2.1 k).2.2.1 ∈ gTbl ∧ (r = (q.2.1 k).1 ∨ Cond.sameField r (q.2.1 k).1 (q.2.1 k).2.1 (q.2.1 k).2.2.1 ∈ gTbl) ∧ fkd (q.2.1 k).2.2.1 = tk ∧ (∀ nm, put = some nm → (q.2.1 k).2.2.2 = true → (q.2.1 k).1 = own ∧ nm = "<init>") := by
  unfold okF at h
  split at h
  · next q o i r n d hq hw =>
    obtain ⟨h, h8⟩ := and2 h
    obtain ⟨h, h7⟩ := and2 h
    obtain ⟨h, h6⟩ := and2 h
    obtain ⟨h, h5⟩ := and2 h
    obtain ⟨h, h4⟩ := and2 h
    obtain ⟨h, h3⟩ := and2 h
    obtain ⟨h1, h2⟩ := and2 h
    have h1 := of_decide_eq_true h1
    have h2 := of_decide_eq_true h2
    have h3 := of_decide_eq_true h3
    have h4 := of_decide_eq_true h4
    have h5 := of_decide_eq_true h5
    subst h1; subst h2; subst h4; subst h5
    refine ⟨q, r, hq, h3, List.mem_filter.mpr ⟨List.mem_of_getElem? hw, rfl⟩, ?_, Nat.eq_of_beq_eq_true h7, fun nm hnm hf => ?_⟩
    · rcases Bool.or_eq_true_iff.mp h6 with h6 | h6
      · exact Or.inl (of_decide_eq_true h6)
      · exact Or.inr (wis_g h6 rfl)
    · subst hnm
      simp only [hf] at h8
      obtain ⟨g1, g2⟩ := and2 h8
      exact ⟨of_decide_eq_true g1, of_decide_eq_true g2⟩
  · cases h
theorem fkd_0 {d : String} (h : fkd d = 0) : parseFieldDescriptor d = some .int := by
  unfold fkd at h
  split at h <;> first | assumption | (cases h; done)
theorem fkd_1 {d : String} (h : fkd d = 1) : parseFieldDescriptor d = some .boolean := by
  unfold fkd at h
  split at h <;> first | assumption | (cases h; done)
theorem fkd_2 {d : String} (h : fkd d = 2) : ∃ ty, parseFieldDescriptor d = some ty ∧ (∀ v : Value, (v = .null ∨ ∃ a, v = .ref a) → narrow ty v = v ∧ fits ty v = true) := by
  unfold fkd at h
  split at h
  · cases h
  · cases h
  · next e => exact ⟨_, e, fun v hv => by rcases hv with rfl | ⟨a, rfl⟩ <;> exact ⟨rfl, rfl⟩⟩
  · next e => exact ⟨_, e, fun v hv => by rcases hv with rfl | ⟨a, rfl⟩ <;> exact ⟨rfl, rfl⟩⟩
  · cases h
section SIM2
variable {p : Program} {l : Launch} {e : Env} {R : Room} {s : State} {m : MethodId} {args : Array Value} {below : List Frame} {meth : Method} {c : Code} {Q : State → Prop}
variable {N0 : Nat} {G : GG} {ro : Nat → Nat} {z : Value} {xs : Nat → Int32} {L : Nat} {t : MT} {z0 y0 d : Nat} {r : Option Value} {μ9 : MM}
variable {C : Nat → List Value → MM → Rs} {J : Nat → LV → List Value → MM → Rs} {K : LV → List Value → MM → Rs} {pc len : Nat} {as ws : List Nat} {ls : LV} {st : List Value} {μ : MM}
/-- a field is read -/
theorem w_get {H : Heap} {locs : List Loc} {cells slots idx k tk pf ps a : Nat} {Ls : Array Slot} {rest : List Value} (cx : Cx p R s m args meth c N0 G ro z xs L t d z0 y0 μ9) (hR : Rep N0 G ro xs L μ H) (hc : shp μ a < 13) (hF : okF t.1.cls idx k tk pf ps (shp μ a) none = true) (hd : decode t.2.1 pc = .ok (.getfield idx, 3))
    (kk : W p l e R s m args below meth c H locs cells slots Q (F0 m (pc + 3) Ls (fvk tk (cad N0 ro) μ a k :: rest))) : W p l e R s m args below meth c H locs cells slots Q (F0 m pc Ls (.ref (cad N0 ro a) :: rest)) := by
  obtain ⟨hx, hb, hml, hown, hts, hmn, wf, hfr, hlo, hce, hsl⟩ := cx
  obtain ⟨q, r, hq, hk, hlink, hsame, hfk, -⟩ := okF_inv hF
  obtain ⟨cell, q1, q2, q3, q4⟩ := hR.obj rfl hc hq
  obtain ⟨hS, hfc, kC, hkC, hkind⟩ := wf.2.1 _ _ hq
  obtain ⟨cf, kf, fi, f, hi, hsl⟩ := hS k hk
  have hi2 : s.fieldFound? r (q.2.1 k).2.1 (q.2.1 k).2.2.1 = some (cf, kf, fi, f) := by
    rcases hsame with rfl | h
    · exact hi
    · exact u_same (hts _ h) _ hi
  refine W.getf hx hb hown (hts _ hlink) hi2 (u_facts hfc hkC (u_lays hts (vw_in hq) hk) hi).1 q1 (by rw [q3]; exact fun h => by cases h) (v := fvl (cad N0 ro) μ a k (q.2.1 k).2.2.1) (by rw [hsl]; exact q4 k hk) rfl rfl hd ?_
  unfold fvl
  rw [hfk]
  exact kk
/-- a field is written -/
theorem w_put {H : Heap} {locs : List Loc} {cells slots idx k tk pf ps a : Nat} {Ls : Array Slot} {rest : List Value} {v : Value} {μ' : MM} (cx : Cx p R s m args meth c N0 G ro z xs L t d z0 y0 μ9) (hR : Rep N0 G ro xs L μ H) (hS0 : va_S (fun q => N0 ≤ q) s.heap H locs) (hc : shp μ a < 13) (hF : okF t.1.cls idx k tk pf ps (shp μ a) (some t.1.name) = true) (hd : decode t.2.1 pc = .ok (.putfield idx, 3))
    (hv : ∀ dd, fkd dd = tk → ∃ ty, parseFieldDescriptor dd = some ty ∧ narrow ty v = v ∧ fits ty v = true)
    (hs : ∀ q, shp μ' q = shp μ q) (hn : ∀ q, aln μ' q = aln μ q) (hz : msz μ' = msz μ) (hI : ∀ q k, q ≠ a → gI μ' q k = gI μ q k) (hL : ∀ q k, q ≠ a → gL μ' q k = gL μ q k) (hRR : ∀ q k, q ≠ a → gR μ' q k = gR μ q k)
    (ho : ∀ j dd, j ≠ k → fvl (cad N0 ro) μ' a j dd = fvl (cad N0 ro) μ a j dd) (hvk : ∀ dd, fkd dd = tk → fvl (cad N0 ro) μ' a k dd = v)
    (kk : ∀ (H1 : Heap) (locs1 : List Loc), Rep N0 G ro xs L μ' H1 → va_S (fun q => N0 ≤ q) s.heap H1 locs1 → W p l e R s m args below meth c H1 locs1 cells slots Q (F0 m (pc + 3) Ls rest)) : W p l e R s m args below meth c H locs cells slots Q (F0 m pc Ls (v :: .ref (cad N0 ro a) :: rest)) := by
  obtain ⟨hx, hb, hml, hown, hts, hmn, wf, hfr, hlo, hce, hsl⟩ := cx
  obtain ⟨q, r, hq, hk, hlink, hsame, hfk, hfin⟩ := okF_inv hF
  obtain ⟨ha28, haz, -⟩ := hR.at (q := a) (by omega)
  obtain ⟨cell, q1, q2, q3, q4⟩ := hR.obj rfl hc hq
  obtain ⟨hS, hfc, kC, hkC, hkind⟩ := wf.2.1 _ _ hq
  obtain ⟨cf, kf, fi, f, hi, hsl⟩ := hS k hk
  have hi2 : s.fieldFound? r (q.2.1 k).2.1 (q.2.1 k).2.2.1 = some (cf, kf, fi, f) := by
    rcases hsame with rfl | h
    · exact hi
    · exact u_same (hts _ h) _ hi
  have hst := (u_facts hfc hkC (u_lays hts (vw_in hq) hk) hi).1
  obtain ⟨ty, hty1, hty2, hty3⟩ := hv _ hfk
  obtain ⟨ty0, hty0⟩ := vw_ty hq
  have hap : ∀ x y, x < q.2.2 → y < q.2.2 → x ≠ y → G.2.1 (shp μ a) x ≠ G.2.1 (shp μ a) y := by
    intro x y hx hy hne
    obtain ⟨_, _, _, fa, hia, ea⟩ := hS x hx
    obtain ⟨_, _, _, fb, hib, eb⟩ := hS y hy
    rw [← ea, ← eb]
    refine u_apart (u_lays hts (vw_in hq) hx) (u_lays hts (vw_in hq) hy) hia hib ?_
    rw [(State.fieldFound?_type hia (hty0 x hx)).1, (State.fieldFound?_type hib (hty0 y hy)).1]
    exact vw_nm hq x hx y hy hne
  have fin : ∀ (H' : Heap), H'[cad N0 ro a]? = some (cell.setSlot f.slot v) → H'.size = H.size → (∀ q, q ≠ cad N0 ro a → H'[q]? = H[q]?) → W p l e R s m args below meth c H' (locs ++ [⟨cad N0 ro a, f.slot⟩]) cells slots Q (F0 m (pc + 3) Ls rest) := by
    intro H' e1 e2 e3
    refine kk H' _ (hR.upd ha28 hs hn hz hI hL hRR ?_ e2 e3) (hS0.put e2 e3 (cad_ge ha28))
    unfold cellok
    rw [hs, kty_none hc]
    refine ⟨q, hq, ?_⟩
    rw [hsl] at e1
    refine t_OB.to (V := updV (fun j => fvl (cad N0 ro) μ a j (q.2.1 j).2.2.1) k v) ⟨_, e1, q2, q3, t_set q4 hap hk v⟩ (fun j hj => ?_)
    unfold updV
    by_cases hjk : j = k
    · rw [if_pos hjk, hjk, hvk _ hfk]
    · rw [if_neg hjk, ho j _ hjk]
  have hlay := hts _ (vw_in hq _ (u_in_lay hk))
  unfold u_lay at hlay
  cases hfb : (q.2.1 k).2.2.2 with
  | false =>
    rw [if_neg (by rw [hfb]; decide)] at hlay
    have h6 := u_store hfc hkC hkind hlay hi hty1 hty2 hty3
    exact W.putK hx hb (f := f) ⟨hown, hts _ hlink, ⟨_, _, _, hi2⟩, hst⟩ (by rw [q2]; exact h6) q1 q3 (by rw [hsl]; exact k2_hasslot (q4 k hk)) rfl rfl hd fin
  | true =>
    rw [if_pos hfb] at hlay
    obtain ⟨g1, g2⟩ := hfin _ rfl hfb
    have hcf : m.cls = cf := by
      obtain ⟨_, _, c', _, _, _, -, -, hf', -, -, -, hown2, -⟩ := Cond.laysFinal_spec hlay
      have e1 : c' = cf := by have := hi.symm.trans hf'; simp at this; exact this.1.symm
      rw [g1] at hown2
      rw [← e1]; exact Option.some.inj (hown.symm.trans hown2)
    have h6 := u_fits hfc hkC hkind (Or.inr hlay) hi hty1 hty2 hty3
    exact W.putFinK hx hb hown (hts _ hlink) hi2 hst hcf (hmn g2) (by rw [q2]; exact h6) q1 q3 (by rw [hsl]; exact k2_hasslot (q4 k hk)) rfl rfl hd fin
end SIM2
end
section
/-! FIELDS, STATICS, ARRAYS, NEW CELLS: the instructions -/
theorem bool_num {x : Int32} (h : b01 x = true) : narrow .boolean (.int x) = .int x ∧ fits .boolean (.int x) = true := by
  rcases b01_or h with rfl | rfl <;> exact ⟨by decide, by decide⟩
theorem mle_K {μ μ1 μ9 : MM} (h : mle μ1 μ9) (h1 : msz μ ≤ msz μ1) (h2 : msl μ ≤ msl μ1) : mle μ μ9 := ⟨Nat.le_trans h1 h.1, Nat.le_trans h2 h.2⟩
section SIM3
variable {p : Program} {l : Launch} {e : Env} {R : Room} {s : State} {m : MethodId} {args : Array Value} {below : List Frame} {meth : Method} {c : Code} {Q : State → Prop}
variable {N0 : Nat} {G : GG} {ro : Nat → Nat} {z : Value} {xs : Nat → Int32} {L : Nat} {t : MT} {z0 y0 d : Nat} {r : Option Value} {μ9 : MM}
variable {C : Nat → List Value → MM → Rs} {J : Nat → LV → List Value → MM → Rs} {K : LV → List Value → MM → Rs} {pc len : Nat} {as ws : List Nat} {ls : LV} {st : List Value} {μ : MM}
theorem s_getfield {idx : Nat} (cx : Cx p R s m args meth c N0 G ro z xs L t d z0 y0 μ9) (ok : okI t (pc, .getfield idx, len, as, ws) = true) (hK : ∀ ls st μ, K ls st μ = some (r, μ9) → Wk p l e R s m args below meth c Q N0 G ro z xs L t.2.2.1 z0 y0 μ9 (pc + len) ls st μ) (hJ : ∀ b ls st μ, J b ls st μ = some (r, μ9) → Wk p l e R s m args below meth c Q N0 G ro z xs L t.2.2.1 z0 y0 μ9 (bpc t b) ls st μ) (h : x1 C J (.getfield idx) as ls st μ K = some (r, μ9)) : Wk p l e R s m args below meth c Q N0 G ro z xs L t.2.2.1 z0 y0 μ9 pc ls st μ := by
  have cx0 := cx
  obtain ⟨hx, hb, hml, hown, hts, hmn, wf, hfr, hlo, hce, hsl⟩ := cx
  unfold okI at ok
  dsimp only at ok
  obtain ⟨hd, ok3⟩ := and2 ok
  have hd := of_decide_eq_true hd
  obtain ⟨ok4, ok5⟩ := and2 ok3
  obtain rfl : len = 3 := Nat.eq_of_beq_eq_true ok4
  split at ok5
  · next p1 =>
    obtain ⟨a, st, rfl, h1⟩ := ppR_inv h
    obtain ⟨hc, h2⟩ := gd_inv h1
    obtain ⟨hm, hk⟩ := hK _ _ _ h2
    refine ⟨hm, fun H locs Ls hR hS hL g1 g2 => ?_⟩
    have hs : shp μ a = 30 := by simpa using cin_mem hc
    obtain ⟨q1, q2⟩ := shOK_ro (hR.2.1 a) (by omega) (by omega)
    have ha : a < 13 := by
      unfold roK at q2
      split at q2
      · omega
      · split at q2
        · omega
        · split at q2 <;> omega
    have ha2 : 13 + a < 28 := Nat.lt_of_lt_of_le (Nat.add_lt_add_left ha 13) (Nat.le_of_ble_eq_true rfl)
    obtain ⟨aK, aV, e1, e2, e3⟩ := wf.2.2.2.1 a ha
    have hk2 := hk H locs Ls hR hS hL g1 g2
    rw [List.map_cons, cv_rv, (hR.2.2.1.1 a ha).1] at hk2
    have e4 : cad N0 ro (13 + a) = aV 0 := by unfold cad; rw [if_pos ha2, e2]
    have e5 : cad N0 ro a = aK 0 := by unfold cad; rw [if_pos (by omega), e1]
    have hk3 : W p l e R s m args below meth c H locs (msz μ - z0) (msl μ - y0) Q (F0 m (pc + 3) Ls (.ref (aV 0) :: st.map (cv (cad N0 ro) z))) := by rw [← e4]; exact hk2
    show W p l e R s m args below meth c H locs (msz μ - z0) (msl μ - y0) Q (F0 m pc Ls (.ref (cad N0 ro a) :: st.map (cv (cad N0 ro) z)))
    rw [e5]
    exact vk_getf hx hb ((e3.1 0 (by decide)).2.2.1) hS hown (hts _ (wis_g ok5 rfl)) (fun x hx => hx) hd hk3
  · next p1 =>
    obtain ⟨a, st, rfl, h1⟩ := ppR_inv h
    obtain ⟨hc, h2⟩ := gd_inv h1
    obtain ⟨hm, hk⟩ := hK _ _ _ h2
    refine ⟨hm, fun H locs Ls hR hS hL g1 g2 => ?_⟩
    have hs : shp μ a = 30 := by simpa using cin_mem hc
    obtain ⟨q1, q2⟩ := shOK_ro (hR.2.1 a) (by omega) (by omega)
    have ha : a < 13 := by
      unfold roK at q2
      split at q2
      · omega
      · split at q2
        · omega
        · split at q2 <;> omega
    have ha2 : 13 + a < 28 := Nat.lt_of_lt_of_le (Nat.add_lt_add_left ha 13) (Nat.le_of_ble_eq_true rfl)
    obtain ⟨aK, aV, e1, e2, e3⟩ := wf.2.2.2.1 a ha
    have hk2 := hk H locs Ls hR hS hL g1 g2
    rw [(hR.2.2.1.1 a ha).2.1] at hk2
    have e5 : cad N0 ro a = aK 0 := by unfold cad; rw [if_pos (by omega), e1]
    show W p l e R s m args below meth c H locs (msz μ - z0) (msl μ - y0) Q (F0 m pc Ls (.ref (cad N0 ro a) :: st.map (cv (cad N0 ro) z)))
    rw [e5]
    exact vk_getf hx hb ((e3.1 0 (by decide)).2.1) hS hown (hts _ (wis_g ok5 rfl)) (fun x hx => hx) hd hk2
  · next k tk cs pf ps hn1 hn2 =>
    have gen : ∀ a, cin cs (shp μ a) = true → shp μ a < 13 ∧ okF t.1.cls idx k tk pf ps (shp μ a) none = true := by
      intro a hc
      obtain ⟨q1, q2⟩ := and2 (List.all_eq_true.mp ok5 _ (cin_mem hc))
      exact ⟨by have := Nat.le_of_ble_eq_true q1; omega, q2⟩
    match tk, ok5, gen, h with
    | 0, ok5, gen, h =>
      obtain ⟨a, st, rfl, h1⟩ := ppR_inv h
      obtain ⟨hc, h2⟩ := gd_inv h1
      obtain ⟨hm, hk⟩ := hK _ _ _ h2
      exact ⟨hm, fun H locs Ls hR hS hL g1 g2 => w_get cx0 hR (gen a hc).1 (gen a hc).2 hd (hk H locs Ls hR hS hL g1 g2)⟩
    | 1, ok5, gen, h =>
      obtain ⟨a, st, rfl, h1⟩ := ppR_inv h
      obtain ⟨hc, h2⟩ := gd_inv h1
      obtain ⟨hm, hk⟩ := hK _ _ _ h2
      exact ⟨hm, fun H locs Ls hR hS hL g1 g2 => w_get cx0 hR (gen a hc).1 (gen a hc).2 hd (hk H locs Ls hR hS hL g1 g2)⟩
    | 2, ok5, gen, h =>
      obtain ⟨a, st, rfl, h1⟩ := ppR_inv h
      obtain ⟨hc, h2⟩ := gd_inv h1
      obtain ⟨hm, hk⟩ := hK _ _ _ h2
      refine ⟨hm, fun H locs Ls hR hS hL g1 g2 => w_get cx0 hR (gen a hc).1 (gen a hc).2 hd ?_⟩
      have hk2 := hk H locs Ls hR hS hL g1 g2
      rw [List.map_cons, cv_rv] at hk2
      exact hk2
    | n + 3, ok5, gen, h => cases h
  · cases ok5
theorem s_putfield {idx : Nat} (cx : Cx p R s m args meth c N0 G ro z xs L t d z0 y0 μ9) (ok : okI t (pc, .putfield idx, len, as, ws) = true) (hK : ∀ ls st μ, K ls st μ = some (r, μ9) → Wk p l e R s m args below meth c Q N0 G ro z xs L t.2.2.1 z0 y0 μ9 (pc + len) ls st μ) (hJ : ∀ b ls st μ, J b ls st μ = some (r, μ9) → Wk p l e R s m args below meth c Q N0 G ro z xs L t.2.2.1 z0 y0 μ9 (bpc t b) ls st μ) (h : x1 C J (.putfield idx) as ls st μ K = some (r, μ9)) : Wk p l e R s m args below meth c Q N0 G ro z xs L t.2.2.1 z0 y0 μ9 pc ls st μ := by
  have cx0 := cx
  obtain ⟨hx, hb, hml, hown, hts, hmn, wf, hfr, hlo, hce, hsl⟩ := cx
  unfold okI at ok
  dsimp only at ok
  obtain ⟨hd, ok3⟩ := and2 ok
  have hd := of_decide_eq_true hd
  obtain ⟨ok4, ok5⟩ := and2 ok3
  obtain rfl : len = 3 := Nat.eq_of_beq_eq_true ok4
  split at ok5
  · next k tk cs pf ps =>
    have gen : ∀ a, cin cs (shp μ a) = true → shp μ a < 13 ∧ okF t.1.cls idx k tk pf ps (shp μ a) (some t.1.name) = true := by
      intro a hc
      obtain ⟨q1, q2⟩ := and2 (List.all_eq_true.mp ok5 _ (cin_mem hc))
      exact ⟨by have := Nat.le_of_ble_eq_true q1; omega, q2⟩
    obtain ⟨v, st, rfl, h0⟩ := p1_inv h
    match tk, ok5, gen, h0 with
    | 0, ok5, gen, h0 =>
      obtain ⟨x, rfl, h0⟩ := asI_inv h0
      obtain ⟨a, st, rfl, h1⟩ := ppR_inv h0
      obtain ⟨hc, h2⟩ := gd_inv h1
      obtain ⟨hm, hk⟩ := hK _ _ _ h2
      refine ⟨mle_K hm (Nat.le_refl _) (Nat.le_refl _), fun H locs Ls hR hS hL g1 g2 => ?_⟩
      refine w_put (v := .int x) (μ' := sI μ a k x) cx0 hR hS (gen a hc).1 (gen a hc).2 hd (fun dd hdd => ⟨_, fkd_0 hdd, rfl, rfl⟩) (fun _ => rfl) (fun _ => rfl) rfl (fun q j hq => if_neg (fun q2 => hq q2.1)) (fun _ _ _ => rfl) (fun _ _ _ => rfl) (fun j dd hj => ?_) (fun dd hdd => ?_) (fun H1 locs1 hR1 hS1 => hk H1 locs1 Ls hR1 hS1 hL g1 g2)
      · unfold fvl fvk
        rw [show gI (sI μ a k x) a j = gI μ a j from if_neg (fun q2 => hj q2.2)]
        rfl
      · unfold fvl fvk
        rw [hdd, show gI (sI μ a k x) a k = x from if_pos ⟨rfl, rfl⟩]
        try rfl
    | 1, ok5, gen, h0 =>
      obtain ⟨x, rfl, h0⟩ := asI_inv h0
      obtain ⟨a, st, rfl, h1⟩ := ppR_inv h0
      obtain ⟨hc0, h2⟩ := gd_inv h1
      obtain ⟨hc, hb01⟩ := and2 hc0
      obtain ⟨hm, hk⟩ := hK _ _ _ h2
      refine ⟨mle_K hm (Nat.le_refl _) (Nat.le_refl _), fun H locs Ls hR hS hL g1 g2 => ?_⟩
      refine w_put (v := .int x) (μ' := sI μ a k x) cx0 hR hS (gen a hc).1 (gen a hc).2 hd (fun dd hdd => ⟨_, fkd_1 hdd, (bool_num hb01).1, (bool_num hb01).2⟩) (fun _ => rfl) (fun _ => rfl) rfl (fun q j hq => if_neg (fun q2 => hq q2.1)) (fun _ _ _ => rfl) (fun _ _ _ => rfl) (fun j dd hj => ?_) (fun dd hdd => ?_) (fun H1 locs1 hR1 hS1 => hk H1 locs1 Ls hR1 hS1 hL g1 g2)
      · unfold fvl fvk
        rw [show gI (sI μ a k x) a j = gI μ a j from if_neg (fun q2 => hj q2.2)]
        rfl
      · unfold fvl fvk
        rw [hdd, show gI (sI μ a k x) a k = x from if_pos ⟨rfl, rfl⟩]
        try rfl
    | 2, ok5, gen, h0 =>
      rcases asN_inv h0 with ⟨rfl, h0⟩ | ⟨x, rfl, h0⟩
      · obtain ⟨a, st, rfl, h1⟩ := ppR_inv h0
        obtain ⟨hc, h2⟩ := gd_inv h1
        obtain ⟨hm, hk⟩ := hK _ _ _ h2
        refine ⟨mle_K hm (Nat.le_refl _) (Nat.le_refl _), fun H locs Ls hR hS hL g1 g2 => ?_⟩
        refine w_put (v := .null) (μ' := sR μ a k none) cx0 hR hS (gen a hc).1 (gen a hc).2 hd (fun dd hdd => ?_) (fun _ => rfl) (fun _ => rfl) rfl (fun _ _ _ => rfl) (fun _ _ _ => rfl) (fun q j hq => if_neg (fun q2 => hq q2.1)) (fun j dd hj => ?_) (fun dd hdd => ?_) (fun H1 locs1 hR1 hS1 => hk H1 locs1 Ls hR1 hS1 hL g1 g2)
        · obtain ⟨ty, e1, e2⟩ := fkd_2 hdd
          exact ⟨ty, e1, e2 _ (Or.inl rfl)⟩
        · unfold fvl fvk
          rw [show gR (sR μ a k none) a j = gR μ a j from if_neg (fun q2 => hj q2.2)]
          rfl
        · unfold fvl fvk
          rw [hdd, show gR (sR μ a k none) a k = none from if_pos ⟨rfl, rfl⟩]
          try rfl
      · obtain ⟨a, st, rfl, h1⟩ := ppR_inv h0
        obtain ⟨hc, h2⟩ := gd_inv h1
        obtain ⟨hm, hk⟩ := hK _ _ _ h2
        refine ⟨mle_K hm (Nat.le_refl _) (Nat.le_refl _), fun H locs Ls hR hS hL g1 g2 => ?_⟩
        refine w_put (v := .ref (cad N0 ro x)) (μ' := sR μ a k (some x)) cx0 hR hS (gen a hc).1 (gen a hc).2 hd (fun dd hdd => ?_) (fun _ => rfl) (fun _ => rfl) rfl (fun _ _ _ => rfl) (fun _ _ _ => rfl) (fun q j hq => if_neg (fun q2 => hq q2.1)) (fun j dd hj => ?_) (fun dd hdd => ?_) (fun H1 locs1 hR1 hS1 => hk H1 locs1 Ls hR1 hS1 hL g1 g2)
        · obtain ⟨ty, e1, e2⟩ := fkd_2 hdd
          exact ⟨ty, e1, e2 _ (Or.inr ⟨_, rfl⟩)⟩
        · unfold fvl fvk
          rw [show gR (sR μ a k (some x)) a j = gR μ a j from if_neg (fun q2 => hj q2.2)]
          rfl
        · unfold fvl fvk
          rw [hdd, show gR (sR μ a k (some x)) a k = some x from if_pos ⟨rfl, rfl⟩]
          try rfl
    | n + 3, ok5, gen, h0 => cases h0
  · cases ok5
theorem s_getstatic {idx : Nat} (cx : Cx p R s m args meth c N0 G ro z xs L t d z0 y0 μ9) (ok : okI t (pc, .getstatic idx, len, as, ws) = true) (hK : ∀ ls st μ, K ls st μ = some (r, μ9) → Wk p l e R s m args below meth c Q N0 G ro z xs L t.2.2.1 z0 y0 μ9 (pc + len) ls st μ) (hJ : ∀ b ls st μ, J b ls st μ = some (r, μ9) → Wk p l e R s m args below meth c Q N0 G ro z xs L t.2.2.1 z0 y0 μ9 (bpc t b) ls st μ) (h : x1 C J (.getstatic idx) as ls st μ K = some (r, μ9)) : Wk p l e R s m args below meth c Q N0 G ro z xs L t.2.2.1 z0 y0 μ9 pc ls st μ := by
  obtain ⟨hx, hb, hml, hown, hts, hmn, wf, hfr, hlo, hce, hsl⟩ := cx
  unfold okI at ok
  dsimp only at ok
  obtain ⟨hd, ok3⟩ := and2 ok
  have hd := of_decide_eq_true hd
  obtain ⟨ok4, ok5⟩ := and2 ok3
  obtain rfl : len = 3 := Nat.eq_of_beq_eq_true ok4
  split at ok5
  · next p1 =>
    obtain ⟨hm, hk⟩ := hK _ _ _ h
    exact ⟨hm, fun H locs Ls hR hS hL g1 g2 => va_gets hx hb wf.2.2.2.2.2.1.1 hS hown (hts _ (wis_g ok5 rfl)) (fun x hx => hx) hd (hk H locs Ls hR hS hL g1 g2)⟩
  · next p1 =>
    obtain ⟨hm, hk⟩ := hK _ _ _ h
    exact ⟨hm, fun H locs Ls hR hS hL g1 g2 => va_gets hx hb wf.2.2.2.2.2.1.2 hS hown (hts _ (wis_g ok5 rfl)) (fun x hx => hx) hd (hk H locs Ls hR hS hL g1 g2)⟩
  · cases ok5
theorem s_ldc2 {idx : Nat} (cx : Cx p R s m args meth c N0 G ro z xs L t d z0 y0 μ9) (ok : okI t (pc, .ldc2_w idx, len, as, ws) = true) (hK : ∀ ls st μ, K ls st μ = some (r, μ9) → Wk p l e R s m args below meth c Q N0 G ro z xs L t.2.2.1 z0 y0 μ9 (pc + len) ls st μ) (hJ : ∀ b ls st μ, J b ls st μ = some (r, μ9) → Wk p l e R s m args below meth c Q N0 G ro z xs L t.2.2.1 z0 y0 μ9 (bpc t b) ls st μ) (h : x1 C J (.ldc2_w idx) as ls st μ K = some (r, μ9)) : Wk p l e R s m args below meth c Q N0 G ro z xs L t.2.2.1 z0 y0 μ9 pc ls st μ := by
  obtain ⟨hx, hb, hml, hown, hts, hmn, wf, hfr, hlo, hce, hsl⟩ := cx
  unfold okI at ok
  dsimp only at ok
  obtain ⟨hd, ok3⟩ := and2 ok
  have hd := of_decide_eq_true hd
  obtain ⟨ok4, ok5⟩ := and2 ok3
  obtain rfl : len = 3 := Nat.eq_of_beq_eq_true ok4
  split at ok5
  · obtain ⟨hm, hk⟩ := hK _ _ _ h
    exact ⟨hm, fun H locs Ls hR hS hL g1 g2 => lv_ldc2 hx hb hown (hts _ (wis_g ok5 rfl)) hd (hk H locs Ls hR hS hL g1 g2)⟩
  · cases ok5
theorem s_ldcw {idx : Nat} (cx : Cx p R s m args meth c N0 G ro z xs L t d z0 y0 μ9) (ok : okI t (pc, .ldc_w idx, len, as, ws) = true) (hK : ∀ ls st μ, K ls st μ = some (r, μ9) → Wk p l e R s m args below meth c Q N0 G ro z xs L t.2.2.1 z0 y0 μ9 (pc + len) ls st μ) (hJ : ∀ b ls st μ, J b ls st μ = some (r, μ9) → Wk p l e R s m args below meth c Q N0 G ro z xs L t.2.2.1 z0 y0 μ9 (bpc t b) ls st μ) (h : x1 C J (.ldc_w idx) as ls st μ K = some (r, μ9)) : Wk p l e R s m args below meth c Q N0 G ro z xs L t.2.2.1 z0 y0 μ9 pc ls st μ := by
  obtain ⟨hx, hb, hml, hown, hts, hmn, wf, hfr, hlo, hce, hsl⟩ := cx
  unfold okI at ok
  dsimp only at ok
  obtain ⟨hd, ok3⟩ := and2 ok
  have hd := of_decide_eq_true hd
  obtain ⟨ok4, ok5⟩ := and2 ok3
  obtain rfl : len = 3 := Nat.eq_of_beq_eq_true ok4
  split at ok5
  · obtain ⟨hm, hk⟩ := hK _ _ _ h
    exact ⟨hm, fun H locs Ls hR hS hL g1 g2 => lv_ldcw hx hb hown (hts _ (wis_g ok5 rfl)) hd (hk H locs Ls hR hS hL g1 g2)⟩
  · cases ok5
theorem s_ldc {idx : Nat} (cx : Cx p R s m args meth c N0 G ro z xs L t d z0 y0 μ9) (ok : okI t (pc, .ldc idx, len, as, ws) = true) (hK : ∀ ls st μ, K ls st μ = some (r, μ9) → Wk p l e R s m args below meth c Q N0 G ro z xs L t.2.2.1 z0 y0 μ9 (pc + len) ls st μ) (hJ : ∀ b ls st μ, J b ls st μ = some (r, μ9) → Wk p l e R s m args below meth c Q N0 G ro z xs L t.2.2.1 z0 y0 μ9 (bpc t b) ls st μ) (h : x1 C J (.ldc idx) as ls st μ K = some (r, μ9)) : Wk p l e R s m args below meth c Q N0 G ro z xs L t.2.2.1 z0 y0 μ9 pc ls st μ := by
  obtain ⟨hx, hb, hml, hown, hts, hmn, wf, hfr, hlo, hce, hsl⟩ := cx
  unfold okI at ok
  dsimp only at ok
  obtain ⟨hd, ok3⟩ := and2 ok
  have hd := of_decide_eq_true hd
  obtain ⟨ok4, ok5⟩ := and2 ok3
  obtain rfl : len = 2 := Nat.eq_of_beq_eq_true ok4
  split at ok5
  · split at ok5
    · obtain ⟨hm, hk⟩ := hK _ _ _ h
      exact ⟨hm, fun H locs Ls hR hS hL g1 g2 => lv_ldc hx hb hown (hts _ (wis_g ok5 rfl)) hd (hk H locs Ls hR hS hL g1 g2)⟩
    · cases ok5
  · next i =>
    obtain ⟨hm, hk⟩ := hK _ _ _ h
    refine ⟨hm, fun H locs Ls hR hS hL g1 g2 => ?_⟩
    have e1 : strT[i]? = some (t.1.cls, idx, (strT.getD i ("", 0, "")).2.2) ∧ i < 13 := by
      obtain ⟨q1, q2⟩ := and2 ok5
      have q1 := of_decide_eq_true q1
      have q2 := of_decide_eq_true q2
      have q3 : i < strT.length := q2
      rw [List.getElem?_eq_getElem q3]
      rw [List.getD_eq_getElem?_getD, List.getElem?_eq_getElem q3] at q1 ⊢
      simp only [Option.getD_some] at q1 ⊢
      rw [← q1.1, ← q1.2]
      exact ⟨rfl, q2⟩
    have hZ := wf.2.2.2.2.1 i _ e1.1
    have e2 : cad N0 ro i = ro i := by unfold cad; rw [if_pos (by omega)]
    refine va_ldcS hx hb hown (q := ro i) hZ hd ?_
    rw [← e2]
    exact hk H locs Ls hR hS hL g1 g2
  · cases ok5
end SIM3
end
section
/-! ARRAYS AND NEW CELLS -/
theorem cell_arr {G : GG} {f : Nat → Nat} {μ : MM} {H : Heap} {q k n : Nat} {ty : FieldType} {g : Nat → Value} (hs : shp μ q = k) (hk : kty k = some ty) (hn : aln μ q = n) (hg : ∀ j, elv f μ q j ty = g j) (h : H[f q]? = some (arrV (G.2.2 k) n g)) : cellok G f μ H q := by
  unfold cellok
  rw [hs, hk, hn]
  show H[f q]? = some (arrV (G.2.2 k) n (fun j => elv f μ q j ty))
  rw [show (fun j => elv f μ q j ty) = g from funext hg]
  exact h
theorem updV_if (f : Nat → Value) (k : Nat) (x : Value) (j : Nat) : updV f k x j = if j = k then x else f j := rfl
section SIM4
variable {p : Program} {l : Launch} {e : Env} {R : Room} {s : State} {m : MethodId} {args : Array Value} {below : List Frame} {meth : Method} {c : Code} {Q : State → Prop}
variable {N0 : Nat} {G : GG} {ro : Nat → Nat} {z : Value} {xs : Nat → Int32} {L : Nat} {t : MT} {z0 y0 d : Nat} {r : Option Value} {μ9 : MM}
variable {C : Nat → List Value → MM → Rs} {J : Nat → LV → List Value → MM → Rs} {K : LV → List Value → MM → Rs} {pc len : Nat} {as ws : List Nat} {ls : LV} {st : List Value} {μ : MM}
theorem ro_at {H : Heap} {a kd : Nat} (hR : Rep N0 G ro xs L μ H) (hs : shp μ a = kd) (h1 : 30 ≤ kd) (h2 : kd < 34) : a < 28 ∧ roK a = kd := by
  have := shOK_ro (hR.2.1 a) (by omega) (by omega)
  exact ⟨this.1, by rw [← this.2]; exact hs⟩
theorem roK_31 {a : Nat} (h : roK a = 31) : 13 ≤ a ∧ a < 26 := by
  unfold roK at h
  split at h
  · omega
  · split at h
    · omega
    · split at h <;> omega
theorem roK_32 {a : Nat} (h : roK a = 32) (h2 : a < 28) : a = 26 := by
  unfold roK at h
  split at h
  · omega
  · split at h
    · omega
    · split at h <;> omega
theorem len_nl {cA : ClassId} {n : Nat} {f : Nat → Value} : (arrV cA n f).slots.size.toInt32 = Int32.ofNat n := by rw [arrV_size] <;> rfl
theorem w_alen {H : Heap} {locs : List Loc} {cells slots a k : Nat} {ty : FieldType} {Ls : Array Slot} {rest : List Value} (cx : Cx p R s m args meth c N0 G ro z xs L t d z0 y0 μ9) (hR : Rep N0 G ro xs L μ H) (hs : shp μ a = k) (hk : kty k = some ty) (hd : decode t.2.1 pc = .ok (.arraylength, 1))
    (kk : W p l e R s m args below meth c H locs cells slots Q (F0 m (pc + 1) Ls (.int (Int32.ofNat (aln μ a)) :: rest))) : W p l e R s m args below meth c H locs cells slots Q (F0 m pc Ls (.ref (cad N0 ro a) :: rest)) := by
  obtain ⟨hx, hb, hml, hown, hts, hmn, wf, hfr, hlo, hce, hsl⟩ := cx
  exact W.alen (n := Int32.ofNat (aln μ a)) hx hb (hR.arr hs hk) ((wf.2.2.1 k ty hk).1 _ _) len_nl rfl rfl hd kk
theorem s_arraylength  (cx : Cx p R s m args meth c N0 G ro z xs L t d z0 y0 μ9) (ok : okI t (pc, .arraylength, len, as, ws) = true) (hK : ∀ ls st μ, K ls st μ = some (r, μ9) → Wk p l e R s m args below meth c Q N0 G ro z xs L t.2.2.1 z0 y0 μ9 (pc + len) ls st μ) (hJ : ∀ b ls st μ, J b ls st μ = some (r, μ9) → Wk p l e R s m args below meth c Q N0 G ro z xs L t.2.2.1 z0 y0 μ9 (bpc t b) ls st μ) (h : x1 C J (.arraylength) as ls st μ K = some (r, μ9)) : Wk p l e R s m args below meth c Q N0 G ro z xs L t.2.2.1 z0 y0 μ9 pc ls st μ := by
  have cx0 := cx
  obtain ⟨hx, hb, hml, hown, hts, hmn, wf, hfr, hlo, hce, hsl⟩ := cx
  unfold okI at ok
  dsimp only at ok
  obtain ⟨hd, ok3⟩ := and2 ok
  have hd := of_decide_eq_true hd
  obtain rfl : len = 1 := Nat.eq_of_beq_eq_true ok3
  obtain ⟨a, st, rfl, h1⟩ := ppR_inv h
  obtain ⟨hc, h2⟩ := gd_inv h1
  obtain ⟨hm, hk⟩ := hK _ _ _ h2
  refine ⟨hm, fun H locs Ls hR hS hL g1 g2 => ?_⟩
  have hk := hk H locs Ls hR hS hL g1 g2
  have hc := cin_mem hc
  simp only [List.mem_cons, List.not_mem_nil, or_false] at hc
  rcases hc with hc | hc | hc | hc | hc | hc | hc | hc
  · exact w_alen cx0 hR hc rfl hd hk
  · exact w_alen cx0 hR hc rfl hd hk
  · exact w_alen cx0 hR hc rfl hd hk
  · exact w_alen cx0 hR hc rfl hd hk
  · exact w_alen cx0 hR hc rfl hd hk
  · exact w_alen cx0 hR hc rfl hd hk
  · obtain ⟨q1, q2⟩ := ro_at hR hc (by omega) (by omega)
    obtain ⟨q3, q4⟩ := roK_31 q2
    obtain ⟨i, rfl⟩ : ∃ i, a = 13 + i := ⟨a - 13, by omega⟩
    have hi : i < 13 := by omega
    obtain ⟨aK, aV, e1, e2, e3⟩ := wf.2.2.2.1 i hi
    obtain ⟨cell, c1, c2, c3, c4, c5, c6, c7⟩ := (e3.1 0 (by decide)).2.2.2
    have hk2 : W p l e R s m args below meth c H locs (msz μ - z0) (msl μ - y0) Q (F0 m (pc + 1) Ls (.int (Int32.ofNat (aln μ (13 + i))) :: st.map (cv (cad N0 ro) z))) := hk
    have e5 : cad N0 ro (13 + i) = aV 0 := by unfold cad; rw [if_pos q1, e2]
    show W p l e R s m args below meth c H locs (msz μ - z0) (msl μ - y0) Q (F0 m pc Ls (.ref (cad N0 ro (13 + i)) :: st.map (cv (cad N0 ro) z)))
    rw [e5]
    refine W.alen (n := Int32.ofNat (aln μ (13 + i))) hx hb (by rw [hS.2.1 _ (Array.getElem?_eq_some_iff.mp c1).1 c7]; exact c1) c2 ?_ rfl rfl hd hk2
    rw [(hR.2.2.1.1 i hi).2.2.1]
    exact c5
  · obtain ⟨q1, q2⟩ := ro_at hR hc (by omega) (by omega)
    have ha := roK_32 q2 q1
    subst ha
    have e5 : cad N0 ro 26 = ro 26 := by unfold cad; rw [if_pos q1]
    show W p l e R s m args below meth c H locs (msz μ - z0) (msl μ - y0) Q (F0 m pc Ls (.ref (cad N0 ro 26) :: st.map (cv (cad N0 ro) z)))
    rw [e5]
    rw [hR.2.2.1.2.1] at hk
    exact va_slen hx hb wf.2.2.2.2.2.2.1.1 wf.2.2.2.2.2.2.1.2.1 wf.2.2.2.2.2.2.1.2.2 hS hd hk
theorem s_iaload  (cx : Cx p R s m args meth c N0 G ro z xs L t d z0 y0 μ9) (ok : okI t (pc, .iaload, len, as, ws) = true) (hK : ∀ ls st μ, K ls st μ = some (r, μ9) → Wk p l e R s m args below meth c Q N0 G ro z xs L t.2.2.1 z0 y0 μ9 (pc + len) ls st μ) (hJ : ∀ b ls st μ, J b ls st μ = some (r, μ9) → Wk p l e R s m args below meth c Q N0 G ro z xs L t.2.2.1 z0 y0 μ9 (bpc t b) ls st μ) (h : x1 C J (.iaload) as ls st μ K = some (r, μ9)) : Wk p l e R s m args below meth c Q N0 G ro z xs L t.2.2.1 z0 y0 μ9 pc ls st μ := by
  obtain ⟨hx, hb, hml, hown, hts, hmn, wf, hfr, hlo, hce, hsl⟩ := cx
  unfold okI at ok
  dsimp only at ok
  obtain ⟨hd, ok3⟩ := and2 ok
  have hd := of_decide_eq_true hd
  obtain rfl : len = 1 := Nat.eq_of_beq_eq_true ok3
  obtain ⟨i, st, rfl, h1⟩ := ppI_inv h
  obtain ⟨a, st, rfl, h2⟩ := ppR_inv h1
  obtain ⟨hc0, h3⟩ := gd_inv h2
  obtain ⟨hc, hin⟩ := and2 hc0
  obtain ⟨i1, i2, i3⟩ := inb_in hin
  obtain ⟨hm, hk⟩ := hK _ _ _ h3
  refine ⟨hm, fun H locs Ls hR hS hL g1 g2 => ?_⟩
  have hk := hk H locs Ls hR hS hL g1 g2
  have hc := cin_mem hc
  simp only [List.mem_cons, List.not_mem_nil, or_false] at hc
  rcases hc with hc | hc
  · refine W.iald (v := .int (gI μ a i.toNatClampNeg)) hx hb (hR.arr hc rfl) ((wf.2.2.1 20 .int rfl).1 _ _) (fun q => by cases q) (by rw [arrV_size]; exact i1) (by rw [arrV_read _ _ i2]; rfl) rfl rfl hd hk
  · obtain ⟨q1, q2⟩ := ro_at hR hc (by omega) (by omega)
    have ha := roK_32 q2 q1
    subst ha
    have e5 : cad N0 ro 26 = ro 26 := by unfold cad; rw [if_pos q1]
    show W p l e R s m args below meth c H locs (msz μ - z0) (msl μ - y0) Q (F0 m pc Ls (.int i :: .ref (cad N0 ro 26) :: st.map (cv (cad N0 ro) z)))
    rw [e5]
    rw [hR.2.2.1.2.2] at hk
    rw [hR.2.2.1.2.1] at i1
    exact va_sld hx hb wf.2.2.2.2.2.2.1.1 wf.2.2.2.2.2.2.1.2.1 wf.2.2.2.2.2.2.1.2.2 hS i1 hd hk
theorem s_baload  (cx : Cx p R s m args meth c N0 G ro z xs L t d z0 y0 μ9) (ok : okI t (pc, .baload, len, as, ws) = true) (hK : ∀ ls st μ, K ls st μ = some (r, μ9) → Wk p l e R s m args below meth c Q N0 G ro z xs L t.2.2.1 z0 y0 μ9 (pc + len) ls st μ) (hJ : ∀ b ls st μ, J b ls st μ = some (r, μ9) → Wk p l e R s m args below meth c Q N0 G ro z xs L t.2.2.1 z0 y0 μ9 (bpc t b) ls st μ) (h : x1 C J (.baload) as ls st μ K = some (r, μ9)) : Wk p l e R s m args below meth c Q N0 G ro z xs L t.2.2.1 z0 y0 μ9 pc ls st μ := by
  obtain ⟨hx, hb, hml, hown, hts, hmn, wf, hfr, hlo, hce, hsl⟩ := cx
  unfold okI at ok
  dsimp only at ok
  obtain ⟨hd, ok3⟩ := and2 ok
  have hd := of_decide_eq_true hd
  obtain rfl : len = 1 := Nat.eq_of_beq_eq_true ok3
  obtain ⟨i, st, rfl, h1⟩ := ppI_inv h
  obtain ⟨a, st, rfl, h2⟩ := ppR_inv h1
  obtain ⟨hc0, h3⟩ := gd_inv h2
  obtain ⟨hc, hin⟩ := and2 hc0
  obtain ⟨i1, i2, i3⟩ := inb_in hin
  obtain ⟨hm, hk⟩ := hK _ _ _ h3
  refine ⟨hm, fun H locs Ls hR hS hL g1 g2 => ?_⟩
  have hk := hk H locs Ls hR hS hL g1 g2
  have hc := cin_mem hc
  simp only [List.mem_cons, List.not_mem_nil, or_false] at hc
  rcases hc with hc | hc | hc
  · refine W.zald (v := .int (gI μ a i.toNatClampNeg)) hx hb (hR.arr hc rfl) ((wf.2.2.1 22 .boolean rfl).1 _ _) (fun q => by cases q) (by rw [arrV_size]; exact i1) (by rw [arrV_read _ _ i2]; rfl) rfl rfl hd hk
  · refine W.bald (v := .int (gI μ a i.toNatClampNeg)) hx hb (hR.arr hc rfl) ((wf.2.2.1 23 .byte rfl).1 _ _) (fun q => by cases q) (by rw [arrV_size]; exact i1) (by rw [arrV_read _ _ i2]; rfl) rfl rfl hd hk
  · obtain ⟨q1, q2⟩ := ro_at hR hc (by omega) (by omega)
    obtain ⟨q3, q4⟩ := roK_31 q2
    obtain ⟨b, rfl⟩ : ∃ b, a = 13 + b := ⟨a - 13, by omega⟩
    have hi : b < 13 := by omega
    obtain ⟨aK, aV, e1, e2, e3⟩ := wf.2.2.2.1 b hi
    have hT := (e3.1 0 (by decide)).2.2.2
    have e5 : cad N0 ro (13 + b) = aV 0 := by unfold cad; rw [if_pos q1, e2]
    show W p l e R s m args below meth c H locs (msz μ - z0) (msl μ - y0) Q (F0 m pc Ls (.int i :: .ref (cad N0 ro (13 + b)) :: st.map (cv (cad N0 ro) z)))
    rw [e5]
    rw [(hR.2.2.1.1 b hi).2.2.1] at i1
    refine va_tb hx hb hT hS i1 (v := .int (gI μ (13 + b) i.toNatClampNeg)) ?_ hd hk
    rw [(hR.2.2.1.1 b hi).2.2.2]
    rfl
theorem s_laload  (cx : Cx p R s m args meth c N0 G ro z xs L t d z0 y0 μ9) (ok : okI t (pc, .laload, len, as, ws) = true) (hK : ∀ ls st μ, K ls st μ = some (r, μ9) → Wk p l e R s m args below meth c Q N0 G ro z xs L t.2.2.1 z0 y0 μ9 (pc + len) ls st μ) (hJ : ∀ b ls st μ, J b ls st μ = some (r, μ9) → Wk p l e R s m args below meth c Q N0 G ro z xs L t.2.2.1 z0 y0 μ9 (bpc t b) ls st μ) (h : x1 C J (.laload) as ls st μ K = some (r, μ9)) : Wk p l e R s m args below meth c Q N0 G ro z xs L t.2.2.1 z0 y0 μ9 pc ls st μ := by
  obtain ⟨hx, hb, hml, hown, hts, hmn, wf, hfr, hlo, hce, hsl⟩ := cx
  unfold okI at ok
  dsimp only at ok
  obtain ⟨hd, ok3⟩ := and2 ok
  have hd := of_decide_eq_true hd
  obtain rfl : len = 1 := Nat.eq_of_beq_eq_true ok3
  obtain ⟨i, st, rfl, h1⟩ := ppI_inv h
  obtain ⟨a, st, rfl, h2⟩ := ppR_inv h1
  obtain ⟨hc0, h3⟩ := gd_inv h2
  obtain ⟨hc, hin⟩ := and2 hc0
  obtain ⟨i1, i2, i3⟩ := inb_in hin
  obtain ⟨hm, hk⟩ := hK _ _ _ h3
  refine ⟨hm, fun H locs Ls hR hS hL g1 g2 => ?_⟩
  have hk := hk H locs Ls hR hS hL g1 g2
  have hc : shp μ a = 21 := by simpa using cin_mem hc
  exact W.lald (v := .long (gL μ a i.toNatClampNeg)) hx hb (hR.arr hc rfl) ((wf.2.2.1 21 .long rfl).1 _ _) (fun q => by cases q) (by rw [arrV_size]; exact i1) (by rw [arrV_read _ _ i2]; rfl) rfl rfl hd hk
theorem s_aaload  (cx : Cx p R s m args meth c N0 G ro z xs L t d z0 y0 μ9) (ok : okI t (pc, .aaload, len, as, ws) = true) (hK : ∀ ls st μ, K ls st μ = some (r, μ9) → Wk p l e R s m args below meth c Q N0 G ro z xs L t.2.2.1 z0 y0 μ9 (pc + len) ls st μ) (hJ : ∀ b ls st μ, J b ls st μ = some (r, μ9) → Wk p l e R s m args below meth c Q N0 G ro z xs L t.2.2.1 z0 y0 μ9 (bpc t b) ls st μ) (h : x1 C J (.aaload) as ls st μ K = some (r, μ9)) : Wk p l e R s m args below meth c Q N0 G ro z xs L t.2.2.1 z0 y0 μ9 pc ls st μ := by
  obtain ⟨hx, hb, hml, hown, hts, hmn, wf, hfr, hlo, hce, hsl⟩ := cx
  unfold okI at ok
  dsimp only at ok
  obtain ⟨hd, ok3⟩ := and2 ok
  have hd := of_decide_eq_true hd
  obtain rfl : len = 1 := Nat.eq_of_beq_eq_true ok3
  obtain ⟨i, st, rfl, h1⟩ := ppI_inv h
  obtain ⟨a, st, rfl, h2⟩ := ppR_inv h1
  obtain ⟨hc0, h3⟩ := gd_inv h2
  obtain ⟨hc, hin⟩ := and2 hc0
  obtain ⟨i1, i2, i3⟩ := inb_in hin
  obtain ⟨hm, hk⟩ := hK _ _ _ h3
  refine ⟨hm, fun H locs Ls hR hS hL g1 g2 => ?_⟩
  have hk := hk H locs Ls hR hS hL g1 g2
  rw [List.map_cons, cv_rv] at hk
  have hc := cin_mem hc
  simp only [List.mem_cons, List.not_mem_nil, or_false] at hc
  rcases hc with hc | hc
  · exact W.aald (v := va_rf ((gR μ a i.toNatClampNeg).map (cad N0 ro))) (ty := .object "TrueHeard$Clause") hx hb (hR.arr hc rfl) ((wf.2.2.1 24 _ rfl).1 _ _) rfl (fun q => by cases q) (by rw [arrV_size]; exact i1) (by rw [arrV_read _ _ i2]; rfl) rfl rfl hd hk
  · exact W.aald (v := va_rf ((gR μ a i.toNatClampNeg).map (cad N0 ro))) (ty := .object "TrueHeard$Runner") hx hb (hR.arr hc rfl) ((wf.2.2.1 25 _ rfl).1 _ _) rfl (fun q => by cases q) (by rw [arrV_size]; exact i1) (by rw [arrV_read _ _ i2]; rfl) rfl rfl hd hk
theorem s_iastore  (cx : Cx p R s m args meth c N0 G ro z xs L t d z0 y0 μ9) (ok : okI t (pc, .iastore, len, as, ws) = true) (hK : ∀ ls st μ, K ls st μ = some (r, μ9) → Wk p l e R s m args below meth c Q N0 G ro z xs L t.2.2.1 z0 y0 μ9 (pc + len) ls st μ) (hJ : ∀ b ls st μ, J b ls st μ = some (r, μ9) → Wk p l e R s m args below meth c Q N0 G ro z xs L t.2.2.1 z0 y0 μ9 (bpc t b) ls st μ) (h : x1 C J (.iastore) as ls st μ K = some (r, μ9)) : Wk p l e R s m args below meth c Q N0 G ro z xs L t.2.2.1 z0 y0 μ9 pc ls st μ := by
  obtain ⟨hx, hb, hml, hown, hts, hmn, wf, hfr, hlo, hce, hsl⟩ := cx
  unfold okI at ok
  dsimp only at ok
  obtain ⟨hd, ok3⟩ := and2 ok
  have hd := of_decide_eq_true hd
  obtain rfl : len = 1 := Nat.eq_of_beq_eq_true ok3
  obtain ⟨x, st, rfl, h0⟩ := ppI_inv h
  obtain ⟨i, st, rfl, h1⟩ := ppI_inv h0
  obtain ⟨a, st, rfl, h2⟩ := ppR_inv h1
  obtain ⟨hc0, h3⟩ := gd_inv h2
  obtain ⟨hc, hin⟩ := and2 hc0
  obtain ⟨i1, i2, i3⟩ := inb_in hin
  obtain ⟨hm, hk⟩ := hK _ _ _ h3
  refine ⟨mle_K hm (Nat.le_refl _) (Nat.le_refl _), fun H locs Ls hR hS hL g1 g2 => ?_⟩
  have hc : shp μ a = 20 := by simpa using cin_mem hc
  have ha := hR.at (q := a) (by omega)
  refine W.iast hx hb (hR.arr hc rfl) ((wf.2.2.1 20 .int rfl).1 _ _) (fun q => by cases q) (by rw [arrV_size]; exact i1) rfl rfl hd fun H1 e1 e2 e3 => ?_
  rw [arrV_store] at e1
  refine hk H1 _ Ls (hR.upd (μ' := sI μ a i.toNatClampNeg x) ha.1 (fun _ => rfl) (fun _ => rfl) rfl (fun q j hq => if_neg (fun q2 => hq q2.1)) (fun _ _ _ => rfl) (fun _ _ _ => rfl) (cell_arr (ty := .int) (k := 20) hc rfl rfl (fun j => ?_) e1) e2 e3) (hS.put e2 e3 (cad_ge ha.1)) hL g1 g2
  rw [updV_if]
  show Value.int (gI (sI μ a i.toNatClampNeg x) a j) = _
  by_cases hj : j = i.toNatClampNeg
  · rw [if_pos hj, show gI (sI μ a i.toNatClampNeg x) a j = x from if_pos ⟨rfl, hj⟩]
  · rw [if_neg hj, show gI (sI μ a i.toNatClampNeg x) a j = gI μ a j from if_neg (fun q => hj q.2)]
    rfl
theorem s_lastore  (cx : Cx p R s m args meth c N0 G ro z xs L t d z0 y0 μ9) (ok : okI t (pc, .lastore, len, as, ws) = true) (hK : ∀ ls st μ, K ls st μ = some (r, μ9) → Wk p l e R s m args below meth c Q N0 G ro z xs L t.2.2.1 z0 y0 μ9 (pc + len) ls st μ) (hJ : ∀ b ls st μ, J b ls st μ = some (r, μ9) → Wk p l e R s m args below meth c Q N0 G ro z xs L t.2.2.1 z0 y0 μ9 (bpc t b) ls st μ) (h : x1 C J (.lastore) as ls st μ K = some (r, μ9)) : Wk p l e R s m args below meth c Q N0 G ro z xs L t.2.2.1 z0 y0 μ9 pc ls st μ := by
  obtain ⟨hx, hb, hml, hown, hts, hmn, wf, hfr, hlo, hce, hsl⟩ := cx
  unfold okI at ok
  dsimp only at ok
  obtain ⟨hd, ok3⟩ := and2 ok
  have hd := of_decide_eq_true hd
  obtain rfl : len = 1 := Nat.eq_of_beq_eq_true ok3
  obtain ⟨x, st, rfl, h0⟩ := ppL_inv h
  obtain ⟨i, st, rfl, h1⟩ := ppI_inv h0
  obtain ⟨a, st, rfl, h2⟩ := ppR_inv h1
  obtain ⟨hc0, h3⟩ := gd_inv h2
  obtain ⟨hc, hin⟩ := and2 hc0
  obtain ⟨i1, i2, i3⟩ := inb_in hin
  obtain ⟨hm, hk⟩ := hK _ _ _ h3
  refine ⟨mle_K hm (Nat.le_refl _) (Nat.le_refl _), fun H locs Ls hR hS hL g1 g2 => ?_⟩
  have hc : shp μ a = 21 := by simpa using cin_mem hc
  have ha := hR.at (q := a) (by omega)
  refine W.last hx hb (hR.arr hc rfl) ((wf.2.2.1 21 .long rfl).1 _ _) (fun q => by cases q) (by rw [arrV_size]; exact i1) rfl rfl hd fun H1 e1 e2 e3 => ?_
  rw [arrV_store] at e1
  refine hk H1 _ Ls (hR.upd (μ' := sL μ a i.toNatClampNeg x) ha.1 (fun _ => rfl) (fun _ => rfl) rfl (fun _ _ _ => rfl) (fun q j hq => if_neg (fun q2 => hq q2.1)) (fun _ _ _ => rfl) (cell_arr (ty := .long) (k := 21) hc rfl rfl (fun j => ?_) e1) e2 e3) (hS.put e2 e3 (cad_ge ha.1)) hL g1 g2
  rw [updV_if]
  show Value.long (gL (sL μ a i.toNatClampNeg x) a j) = _
  by_cases hj : j = i.toNatClampNeg
  · rw [if_pos hj, show gL (sL μ a i.toNatClampNeg x) a j = x from if_pos ⟨rfl, hj⟩]
  · rw [if_neg hj, show gL (sL μ a i.toNatClampNeg x) a j = gL μ a j from if_neg (fun q => hj q.2)]
    rfl
theorem s_bastore  (cx : Cx p R s m args meth c N0 G ro z xs L t d z0 y0 μ9) (ok : okI t (pc, .bastore, len, as, ws) = true) (hK : ∀ ls st μ, K ls st μ = some (r, μ9) → Wk p l e R s m args below meth c Q N0 G ro z xs L t.2.2.1 z0 y0 μ9 (pc + len) ls st μ) (hJ : ∀ b ls st μ, J b ls st μ = some (r, μ9) → Wk p l e R s m args below meth c Q N0 G ro z xs L t.2.2.1 z0 y0 μ9 (bpc t b) ls st μ) (h : x1 C J (.bastore) as ls st μ K = some (r, μ9)) : Wk p l e R s m args below meth c Q N0 G ro z xs L t.2.2.1 z0 y0 μ9 pc ls st μ := by
  obtain ⟨hx, hb, hml, hown, hts, hmn, wf, hfr, hlo, hce, hsl⟩ := cx
  unfold okI at ok
  dsimp only at ok
  obtain ⟨hd, ok3⟩ := and2 ok
  have hd := of_decide_eq_true hd
  obtain rfl : len = 1 := Nat.eq_of_beq_eq_true ok3
  have has : as = [0] ∨ as = [1] := by
    unfold x1 at h
    dsimp only at h
    split at h
    · exact Or.inl rfl
    · exact Or.inr rfl
    · cases h
  rcases has with rfl | rfl
  · obtain ⟨x, st, rfl, h0⟩ := ppI_inv h
    obtain ⟨i, st, rfl, h1⟩ := ppI_inv h0
    obtain ⟨a, st, rfl, h2⟩ := ppR_inv h1
    obtain ⟨hc0, h3⟩ := gd_inv h2
    obtain ⟨hc1, hb01⟩ := and2 hc0
    obtain ⟨hc, hin⟩ := and2 hc1
    obtain ⟨i1, i2, i3⟩ := inb_in hin
    obtain ⟨hm, hk⟩ := hK _ _ _ h3
    refine ⟨mle_K hm (Nat.le_refl _) (Nat.le_refl _), fun H locs Ls hR hS hL g1 g2 => ?_⟩
    have hc : shp μ a = 22 := by simpa using cin_mem hc
    have ha := hR.at (q := a) (by omega)
    refine W.zast hx hb (hR.arr hc rfl) ((wf.2.2.1 22 .boolean rfl).1 _ _) (fun q => by cases q) (by rw [arrV_size]; exact i1) rfl rfl hd fun H1 e1 e2 e3 => ?_
    rw [(bool_num hb01).1, arrV_store] at e1
    refine hk H1 _ Ls (hR.upd (μ' := sI μ a i.toNatClampNeg x) ha.1 (fun _ => rfl) (fun _ => rfl) rfl (fun q j hq => if_neg (fun q2 => hq q2.1)) (fun _ _ _ => rfl) (fun _ _ _ => rfl) (cell_arr (ty := .boolean) (k := 22) hc rfl rfl (fun j => ?_) e1) e2 e3) (hS.put e2 e3 (cad_ge ha.1)) hL g1 g2
    rw [updV_if]
    show Value.int (gI (sI μ a i.toNatClampNeg x) a j) = _
    by_cases hj : j = i.toNatClampNeg
    · rw [if_pos hj, show gI (sI μ a i.toNatClampNeg x) a j = x from if_pos ⟨rfl, hj⟩]
    · rw [if_neg hj, show gI (sI μ a i.toNatClampNeg x) a j = gI μ a j from if_neg (fun q => hj q.2)]
      rfl
  · obtain ⟨x, st, rfl, h0⟩ := ppI_inv h
    obtain ⟨i, st, rfl, h1⟩ := ppI_inv h0
    obtain ⟨a, st, rfl, h2⟩ := ppR_inv h1
    obtain ⟨hc0, h3⟩ := gd_inv h2
    obtain ⟨hc, hin⟩ := and2 hc0
    obtain ⟨i1, i2, i3⟩ := inb_in hin
    obtain ⟨hm, hk⟩ := hK _ _ _ h3
    refine ⟨mle_K hm (Nat.le_refl _) (Nat.le_refl _), fun H locs Ls hR hS hL g1 g2 => ?_⟩
    have hc : shp μ a = 23 := by simpa using cin_mem hc
    have ha := hR.at (q := a) (by omega)
    refine W.bast hx hb (hR.arr hc rfl) ((wf.2.2.1 23 .byte rfl).1 _ _) (fun q => by cases q) (by rw [arrV_size]; exact i1) rfl rfl hd fun H1 e1 e2 e3 => ?_
    rw [narrow_byte, arrV_store] at e1
    refine hk H1 _ Ls (hR.upd (μ' := sI μ a i.toNatClampNeg x.toInt8.toInt32) ha.1 (fun _ => rfl) (fun _ => rfl) rfl (fun q j hq => if_neg (fun q2 => hq q2.1)) (fun _ _ _ => rfl) (fun _ _ _ => rfl) (cell_arr (ty := .byte) (k := 23) hc rfl rfl (fun j => ?_) e1) e2 e3) (hS.put e2 e3 (cad_ge ha.1)) hL g1 g2
    rw [updV_if]
    show Value.int (gI (sI μ a i.toNatClampNeg x.toInt8.toInt32) a j) = _
    by_cases hj : j = i.toNatClampNeg
    · rw [if_pos hj, show gI (sI μ a i.toNatClampNeg x.toInt8.toInt32) a j = x.toInt8.toInt32 from if_pos ⟨rfl, hj⟩]
    · rw [if_neg hj, show gI (sI μ a i.toNatClampNeg x.toInt8.toInt32) a j = gI μ a j from if_neg (fun q => hj q.2)]
      rfl
end SIM4
end
section
/-! STORES OF CELLS, NEW CELLS, SWITCHES -/
theorem clN_of {c : Nat} {q : vw_C} (h : vwCl[c]? = some q) : clN c = q.1 := by
  unfold clN
  rw [h]
theorem vw_some {c : Nat} (h : c < 13) : ∃ q, vwCl[c]? = some q := ⟨_, List.getElem?_eq_getElem (show c < vwCl.length from h)⟩
section SIM5
variable {p : Program} {l : Launch} {e : Env} {R : Room} {s : State} {m : MethodId} {args : Array Value} {below : List Frame} {meth : Method} {c : Code} {Q : State → Prop}
variable {N0 : Nat} {G : GG} {ro : Nat → Nat} {z : Value} {xs : Nat → Int32} {L : Nat} {t : MT} {z0 y0 d : Nat} {r : Option Value} {μ9 : MM}
variable {C : Nat → List Value → MM → Rs} {J : Nat → LV → List Value → MM → Rs} {K : LV → List Value → MM → Rs} {pc len : Nat} {as ws : List Nat} {ls : LV} {st : List Value} {μ : MM}
/-- what is known of an object's cell -/
theorem ob_cell {H : Heap} {a : Nat} (wf : WF N0 G ro z xs L s) (hR : Rep N0 G ro xs L μ H) (hc : shp μ a < 13) : ∃ cell : Cell, H[cad N0 ro a]? = some cell ∧ cell.vm = .none ∧ s.vm.findClass (clN (shp μ a)) = some cell.cls ∧ ClassAt s (clN (shp μ a)) cell.cls := by
  obtain ⟨q, hq⟩ := vw_some hc
  obtain ⟨cell, q1, q2, q3, q4⟩ := hR.obj rfl hc hq
  have h2 := (wf.2.1 _ _ hq).2
  have h3 : ClassAt s q.1 cell.cls := by rw [q2]; exact h2
  rw [clN_of hq]
  exact ⟨cell, q1, q3, h3.1, h3⟩
theorem cast_ok {E : String} {n : Nat} {cls : ClassId} (wf : WF N0 G ro z xs L s) (hE : clN n = E ∨ (clN n, E) ∈ castW) (hat : ClassAt s (clN n) cls) : ∀ comp : ClassId, s.vm.findClass E = some comp → s.vm.assignable cls comp = true := by
  intro comp hcomp
  rcases hE with rfl | hE
  · cases hat.1.symm.trans hcomp
    exact va_assign hat
  · obtain ⟨c0, t0, f1, f2, f3⟩ := Cond.castable_spec (va_Nw.use (A := #[]) rfl (wf.2.2.2.2.2.2.2.2.1 _ hE))
    cases hat.1.symm.trans f1
    cases hcomp.symm.trans f2
    exact f3
theorem w_aast {H : Heap} {locs : List Loc} {cells slots a k x : Nat} {E : String} {i : Int32} {Ls : Array Slot} {rest : List Value} (cx : Cx p R s m args meth c N0 G ro z xs L t d z0 y0 μ9) (hR : Rep N0 G ro xs L μ H) (hS : va_S (fun q => N0 ≤ q) s.heap H locs) (hs : shp μ a = k) (hk : kty k = some (.object E)) (hin : inb i (aln μ a) = true) (hx13 : shp μ x < 13) (hE : clN (shp μ x) = E ∨ (clN (shp μ x), E) ∈ castW) (hd : decode t.2.1 pc = .ok (.aastore, 1))
    (kk : ∀ (H1 : Heap) (locs1 : List Loc), Rep N0 G ro xs L (sR μ a i.toNatClampNeg (some x)) H1 → va_S (fun q => N0 ≤ q) s.heap H1 locs1 → W p l e R s m args below meth c H1 locs1 cells slots Q (F0 m (pc + 1) Ls rest)) : W p l e R s m args below meth c H locs cells slots Q (F0 m pc Ls (.ref (cad N0 ro x) :: .int i :: .ref (cad N0 ro a) :: rest)) := by
  obtain ⟨hx, hb, hml, hown, hts, hmn, wf, hfr, hlo, hce, hsl⟩ := cx
  obtain ⟨i1, i2, i3⟩ := inb_in hin
  have hk26 := kty_lt hk
  have ha := hR.at (q := a) (by omega)
  obtain ⟨cellV, g1, g2, g3, g4⟩ := ob_cell wf hR hx13
  obtain ⟨kA, comp, k1, k2, k3, -⟩ := (wf.2.2.1 k _ hk).2
  obtain ⟨kE, hkE, -⟩ := Vm.findClass_spec k3
  obtain ⟨-, kC, hkC, hkind⟩ := g4
  refine W.aast hx hb (hR.arr hs hk) (fun q h => by cases h) (fun h => by cases h) k1 k2 rfl hkE ⟨i3, by rw [arrV_size]; exact i2⟩ g1 (fun q h => by rw [g2] at h; cases h) hkC (cast_ok wf hE ⟨g3, kC, hkC, hkind⟩ _ k3) rfl rfl hd fun H1 e1 e2 e3 => ?_
  rw [arrV_store] at e1
  refine kk H1 _ (hR.upd (μ' := sR μ a i.toNatClampNeg (some x)) ha.1 (fun _ => rfl) (fun _ => rfl) rfl (fun _ _ _ => rfl) (fun _ _ _ => rfl) (fun q j hq => if_neg (fun q2 => hq q2.1)) (cell_arr (ty := .object E) (k := k) hs hk rfl (fun j => ?_) e1) e2 e3) (hS.put e2 e3 (cad_ge ha.1))
  rw [updV_if]
  show va_rf ((gR (sR μ a i.toNatClampNeg (some x)) a j).map (cad N0 ro)) = _
  by_cases hj : j = i.toNatClampNeg
  · rw [if_pos hj, show gR (sR μ a i.toNatClampNeg (some x)) a j = some x from if_pos ⟨rfl, hj⟩]
    rfl
  · rw [if_neg hj, show gR (sR μ a i.toNatClampNeg (some x)) a j = gR μ a j from if_neg (fun q => hj q.2)]
    rfl
theorem w_aastN {H : Heap} {locs : List Loc} {cells slots a k : Nat} {E : String} {i : Int32} {Ls : Array Slot} {rest : List Value} (cx : Cx p R s m args meth c N0 G ro z xs L t d z0 y0 μ9) (hR : Rep N0 G ro xs L μ H) (hS : va_S (fun q => N0 ≤ q) s.heap H locs) (hs : shp μ a = k) (hk : kty k = some (.object E)) (hin : inb i (aln μ a) = true) (hd : decode t.2.1 pc = .ok (.aastore, 1))
    (kk : ∀ (H1 : Heap) (locs1 : List Loc), Rep N0 G ro xs L (sR μ a i.toNatClampNeg none) H1 → va_S (fun q => N0 ≤ q) s.heap H1 locs1 → W p l e R s m args below meth c H1 locs1 cells slots Q (F0 m (pc + 1) Ls rest)) : W p l e R s m args below meth c H locs cells slots Q (F0 m pc Ls (.null :: .int i :: .ref (cad N0 ro a) :: rest)) := by
  obtain ⟨hx, hb, hml, hown, hts, hmn, wf, hfr, hlo, hce, hsl⟩ := cx
  obtain ⟨i1, i2, i3⟩ := inb_in hin
  have hk26 := kty_lt hk
  have ha := hR.at (q := a) (by omega)
  refine va_WaastN (C := E) hx hb (hR.arr hs hk) ((wf.2.2.1 k _ hk).1 _ _) (fun h => by cases h) (by rw [arrV_size]; exact i1) rfl rfl hd fun H1 e1 e2 e3 => ?_
  rw [arrV_store] at e1
  refine kk H1 _ (hR.upd (μ' := sR μ a i.toNatClampNeg none) ha.1 (fun _ => rfl) (fun _ => rfl) rfl (fun _ _ _ => rfl) (fun _ _ _ => rfl) (fun q j hq => if_neg (fun q2 => hq q2.1)) (cell_arr (ty := .object E) (k := k) hs hk rfl (fun j => ?_) e1) e2 e3) (hS.put e2 e3 (cad_ge ha.1))
  rw [updV_if]
  show va_rf ((gR (sR μ a i.toNatClampNeg none) a j).map (cad N0 ro)) = _
  by_cases hj : j = i.toNatClampNeg
  · rw [if_pos hj, show gR (sR μ a i.toNatClampNeg none) a j = none from if_pos ⟨rfl, hj⟩]
    rfl
  · rw [if_neg hj, show gR (sR μ a i.toNatClampNeg none) a j = gR μ a j from if_neg (fun q => hj q.2)]
    rfl
theorem s_aastore  (cx : Cx p R s m args meth c N0 G ro z xs L t d z0 y0 μ9) (ok : okI t (pc, .aastore, len, as, ws) = true) (hK : ∀ ls st μ, K ls st μ = some (r, μ9) → Wk p l e R s m args below meth c Q N0 G ro z xs L t.2.2.1 z0 y0 μ9 (pc + len) ls st μ) (hJ : ∀ b ls st μ, J b ls st μ = some (r, μ9) → Wk p l e R s m args below meth c Q N0 G ro z xs L t.2.2.1 z0 y0 μ9 (bpc t b) ls st μ) (h : x1 C J (.aastore) as ls st μ K = some (r, μ9)) : Wk p l e R s m args below meth c Q N0 G ro z xs L t.2.2.1 z0 y0 μ9 pc ls st μ := by
  have cx0 := cx
  obtain ⟨hx, hb, hml, hown, hts, hmn, wf, hfr, hlo, hce, hsl⟩ := cx
  unfold okI at ok
  dsimp only at ok
  obtain ⟨hd, ok3⟩ := and2 ok
  have hd := of_decide_eq_true hd
  obtain rfl : len = 1 := Nat.eq_of_beq_eq_true ok3
  obtain ⟨v, st, rfl, h0⟩ := p1_inv h
  obtain ⟨i, st, rfl, h1⟩ := ppI_inv h0
  obtain ⟨a, st, rfl, h2⟩ := ppR_inv h1
  rcases asN_inv h2 with ⟨rfl, h3⟩ | ⟨x, rfl, h3⟩
  · obtain ⟨hc0, h4⟩ := gd_inv h3
    obtain ⟨hc, hin⟩ := and2 hc0
    obtain ⟨hm, hk⟩ := hK _ _ _ h4
    refine ⟨mle_K hm (Nat.le_refl _) (Nat.le_refl _), fun H locs Ls hR hS hL g1 g2 => ?_⟩
    have hc := cin_mem hc
    simp only [List.mem_cons, List.not_mem_nil, or_false] at hc
    rcases hc with hc | hc
    · exact w_aastN cx0 hR hS hc rfl hin hd (fun H1 locs1 hR1 hS1 => hk H1 locs1 Ls hR1 hS1 hL g1 g2)
    · exact w_aastN cx0 hR hS hc rfl hin hd (fun H1 locs1 hR1 hS1 => hk H1 locs1 Ls hR1 hS1 hL g1 g2)
  · obtain ⟨hc0, h4⟩ := gd_inv h3
    obtain ⟨hc, hin⟩ := and2 hc0
    obtain ⟨hm, hk⟩ := hK _ _ _ h4
    refine ⟨mle_K hm (Nat.le_refl _) (Nat.le_refl _), fun H locs Ls hR hS hL g1 g2 => ?_⟩
    rcases Bool.or_eq_true_iff.mp hc with hc | hc
    · obtain ⟨c1, c2⟩ := and2 hc
      have c1 : shp μ a = 24 := by simpa using cin_mem c1
      have c2 : shp μ x = 3 := by simpa using cin_mem c2
      exact w_aast cx0 hR hS c1 rfl hin (by omega) (Or.inl (by rw [c2]; rfl)) hd (fun H1 locs1 hR1 hS1 => hk H1 locs1 Ls hR1 hS1 hL g1 g2)
    · obtain ⟨c1, c2⟩ := and2 hc
      have c1 : shp μ a = 25 := by simpa using cin_mem c1
      have c2 := cin_mem c2
      have c3 : shp μ x < 13 ∧ (clN (shp μ x) = "TrueHeard$Runner" ∨ (clN (shp μ x), "TrueHeard$Runner") ∈ castW) := by
        generalize shp μ x = w at c2 ⊢
        simp only [List.mem_cons, List.not_mem_nil, or_false] at c2
        rcases c2 with rfl | rfl | rfl | rfl | rfl | rfl | rfl <;> decide +kernel
      exact w_aast cx0 hR hS c1 rfl hin c3.1 c3.2 hd (fun H1 locs1 hR1 hS1 => hk H1 locs1 Ls hR1 hS1 hL g1 g2)
theorem s_newarray {ty : ArrayType} (cx : Cx p R s m args meth c N0 G ro z xs L t d z0 y0 μ9) (ok : okI t (pc, .newarray ty, len, as, ws) = true) (hK : ∀ ls st μ, K ls st μ = some (r, μ9) → Wk p l e R s m args below meth c Q N0 G ro z xs L t.2.2.1 z0 y0 μ9 (pc + len) ls st μ) (hJ : ∀ b ls st μ, J b ls st μ = some (r, μ9) → Wk p l e R s m args below meth c Q N0 G ro z xs L t.2.2.1 z0 y0 μ9 (bpc t b) ls st μ) (h : x1 C J (.newarray ty) as ls st μ K = some (r, μ9)) : Wk p l e R s m args below meth c Q N0 G ro z xs L t.2.2.1 z0 y0 μ9 pc ls st μ := by
  obtain ⟨hx, hb, hml, hown, hts, hmn, wf, hfr, hlo, hce, hsl⟩ := cx
  unfold okI at ok
  dsimp only at ok
  obtain ⟨hd, ok3⟩ := and2 ok
  have hd := of_decide_eq_true hd
  obtain ⟨ok4, ok5⟩ := and2 ok3
  obtain rfl : len = 2 := Nat.eq_of_beq_eq_true ok4
  split at ok5
  · next kd p1 =>
    obtain ⟨ok6, ok9⟩ := and2 ok5
    obtain ⟨ok7, ok8⟩ := and2 ok6
    have hkt := of_decide_eq_true ok8
    obtain ⟨n, st, rfl, h1⟩ := ppI_inv h
    obtain ⟨hc0, h2⟩ := gd_inv h1
    obtain ⟨hn0, hn1⟩ := and2 hc0
    have hn0 : ¬ n < 0 := by simpa using hn0
    have hn1 := Nat.le_of_ble_eq_true hn1
    have hn2 := Nat.le_of_ble_eq_true ok9
    obtain ⟨hm, hk⟩ := hK _ _ _ h2
    refine ⟨mle_K hm (Nat.le_succ _) (Nat.le_add_right _ _), fun H locs Ls hR hS hL g1 g2 => ?_⟩
    have hm1 : msz μ + 1 ≤ msz μ9 := hm.1
    have hm2 : msl μ + n.toNatClampNeg ≤ msl μ9 := hm.2
    have hz := hR.1
    have hkl := kty_lt hkt
    refine va_newaK hx hb (hts _ (wis_g ok7 rfl)) rfl hd rfl hn0 rfl (Nat.le_trans (Nat.mul_le_mul hn1 hn2) (Nat.le_of_ble_eq_true rfl)) (by omega) (by omega) rfl fun H1 cA e1 e2 e3 hAr hNm => ?_
    have hcA : cA = G.2.2 kd := by
      have q := (wf.2.2.1 kd _ hkt).2
      have q2 : s.vm.findClass ("[" ++ (newarray.typeOf ty).toString) = some (G.2.2 kd) := by cases ty <;> exact q
      exact Option.some.inj (hNm.symm.trans q2)
    have ead : cad N0 ro (msz μ) = H.size := by
      unfold cad
      rw [if_neg (by omega)]
      omega
    have hk2 := hk H1 locs Ls (hR.push (by omega) (cell_arr (ty := newarray.typeOf ty) (k := kd) (n := n.toNatClampNeg) (g := fun _ => defaultValue (newarray.typeOf ty)) (if_pos rfl) hkt (if_pos rfl) (fun j => ?_) (by rw [ead, ← hcA]; exact e1)) e2 e3) ⟨by have := hS.1; omega, fun q q1 q2 => (e3 q (Nat.lt_of_lt_of_le q1 hS.1)).trans (hS.2.1 q q1 q2), hS.2.2⟩ hL (by show z0 ≤ msz μ + 1; omega) (by show y0 ≤ msl μ + _; omega)
    · have e5 : msz (alc μ kd n.toNatClampNeg n.toNatClampNeg) - z0 = msz μ - z0 + 1 := by show msz μ + 1 - z0 = _; omega
      have e6 : msl (alc μ kd n.toNatClampNeg n.toNatClampNeg) - y0 = msl μ - y0 + n.toNatClampNeg := by show msl μ + n.toNatClampNeg - y0 = _; omega
      rw [e5, e6, List.map_cons, show cv (cad N0 ro) z (.ref (msz μ)) = .ref H.size from by rw [← ead]; rfl] at hk2
      exact hk2
    · have q1 : gI (alc μ kd n.toNatClampNeg n.toNatClampNeg) (msz μ) j = 0 := if_pos rfl
      have q2 : gL (alc μ kd n.toNatClampNeg n.toNatClampNeg) (msz μ) j = 0 := if_pos rfl
      have q3 : gR (alc μ kd n.toNatClampNeg n.toNatClampNeg) (msz μ) j = none := if_pos rfl
      unfold elv
      rw [q1, q2, q3]
      cases ty <;> first | rfl | (exfalso; revert hkt; unfold kty; split <;> simp [newarray.typeOf])
  · cases ok5
theorem s_new {idx : Nat} (cx : Cx p R s m args meth c N0 G ro z xs L t d z0 y0 μ9) (ok : okI t (pc, .new idx, len, as, ws) = true) (hK : ∀ ls st μ, K ls st μ = some (r, μ9) → Wk p l e R s m args below meth c Q N0 G ro z xs L t.2.2.1 z0 y0 μ9 (pc + len) ls st μ) (hJ : ∀ b ls st μ, J b ls st μ = some (r, μ9) → Wk p l e R s m args below meth c Q N0 G ro z xs L t.2.2.1 z0 y0 μ9 (bpc t b) ls st μ) (h : x1 C J (.new idx) as ls st μ K = some (r, μ9)) : Wk p l e R s m args below meth c Q N0 G ro z xs L t.2.2.1 z0 y0 μ9 pc ls st μ := by
  obtain ⟨hx, hb, hml, hown, hts, hmn, wf, hfr, hlo, hce, hsl⟩ := cx
  unfold okI at ok
  dsimp only at ok
  obtain ⟨hd, ok3⟩ := and2 ok
  have hd := of_decide_eq_true hd
  obtain ⟨ok4, ok5⟩ := and2 ok3
  obtain rfl : len = 3 := Nat.eq_of_beq_eq_true ok4
  split at ok5
  · next ci n p1 p2 p3 =>
    obtain ⟨ok6, ok9⟩ := and2 ok5
    obtain ⟨ok7, o3⟩ := and2 ok6
    obtain ⟨o1, o2⟩ := and2 ok7
    split at ok9
    · next q hq =>
      have hN := of_decide_eq_true ok9
      subst hN
      rw [clN_of hq] at o1 o2 o3
      obtain ⟨hm, hk⟩ := hK _ _ _ h
      refine ⟨mle_K hm (Nat.le_succ _) (Nat.le_add_right _ _), fun H locs Ls hR hS hL g1 g2 => ?_⟩
      have hm1 : msz μ + 1 ≤ msz μ9 := hm.1
      have hm2 : msl μ + q.2.2 ≤ msl μ9 := hm.2
      have hz := hR.1
      have hci : ci < 13 := by
        rcases Nat.lt_or_ge ci 13 with h9 | h9
        · exact h9
        · rw [List.getElem?_eq_none (show vwCl.length ≤ ci from h9)] at hq
          cases hq
      have hKn := wf.2.1 _ _ hq
      obtain ⟨ty0, hty0⟩ := vw_ty hq
      refine W.newcK hx hb hown (hts _ (wis_g o1 rfl)) (hts _ (wis_g o2 rfl)) (hts _ (wis_g o3 rfl)) rfl hd (by omega) (by omega) hKn.2.1 rfl fun H1 kC hkC e1 e2 e3 => ?_
      have ead : cad N0 ro (msz μ) = H.size := by
        unfold cad
        rw [if_neg (by omega)]
        omega
      have hcell : cellok G (cad N0 ro) (alc μ ci 0 q.2.2) H1 (msz μ) := by
        unfold cellok
        rw [show shp (alc μ ci 0 q.2.2) (msz μ) = ci from if_pos rfl, kty_none hci]
        refine ⟨q, hq, ?_⟩
        rw [ead]
        refine (u_born ty0 hts (vw_in hq) hKn hkC e1 hty0).to fun j hj => ?_
        obtain ⟨ty1, w1, w2⟩ := vw_df hq j hj
        cases (hty0 j hj).symm.trans w1
        rw [w2]
        unfold fvl fvk
        rw [show gI (alc μ ci 0 q.2.2) (msz μ) j = 0 from if_pos rfl, show gR (alc μ ci 0 q.2.2) (msz μ) j = none from if_pos rfl]
        rfl
      have hk2 := hk H1 locs Ls (hR.push (by omega) hcell e2 e3) ⟨by have := hS.1; omega, fun q q1 q2 => (e3 q (Nat.lt_of_lt_of_le q1 hS.1)).trans (hS.2.1 q q1 q2), hS.2.2⟩ hL (by show z0 ≤ msz μ + 1; omega) (by show y0 ≤ msl μ + _; omega)
      have e5 : msz (alc μ ci 0 q.2.2) - z0 = msz μ - z0 + 1 := by show msz μ + 1 - z0 = _; omega
      have e6 : msl (alc μ ci 0 q.2.2) - y0 = msl μ - y0 + q.2.2 := by show msl μ + q.2.2 - y0 = _; omega
      rw [e5, e6, List.map_cons, show cv (cad N0 ro) z (.ref (msz μ)) = .ref H.size from by rw [← ead]; rfl] at hk2
      exact hk2
    · cases ok9
  · cases ok5
theorem w_anew {H : Heap} {locs : List Loc} {idx kd p1 : Nat} {E : String} {n : Int32} {Ls : Array Slot} {rest : List Value} (cx : Cx p R s m args meth c N0 G ro z xs L t d z0 y0 μ9) (hd : decode t.2.1 pc = .ok (.anewarray idx, 3)) (hw : wis p1 (.classLink t.1.cls idx E) = true) (hkt : kty kd = some (.object E)) (hover : va_AO E s) (hn0 : ¬ n < 0) (hn1 : n.toNatClampNeg ≤ 100000) (hm : mle (alc μ kd n.toNatClampNeg n.toNatClampNeg) μ9) (hR : Rep N0 G ro xs L μ H) (hS : va_S (fun q => N0 ≤ q) s.heap H locs) (g1 : z0 ≤ msz μ) (g2 : y0 ≤ msl μ)
    (kk : ∀ (H1 : Heap), Rep N0 G ro xs L (alc μ kd n.toNatClampNeg n.toNatClampNeg) H1 → va_S (fun q => N0 ≤ q) s.heap H1 locs → W p l e R s m args below meth c H1 locs (msz μ + 1 - z0) (msl μ + n.toNatClampNeg - y0) Q (F0 m (pc + 3) Ls (.ref (cad N0 ro (msz μ)) :: rest))) : W p l e R s m args below meth c H locs (msz μ - z0) (msl μ - y0) Q (F0 m pc Ls (.int n :: rest)) := by
  obtain ⟨hx, hb, hml, hown, hts, hmn, wf, hfr, hlo, hce, hsl⟩ := cx
  have hm1 : msz μ + 1 ≤ msz μ9 := hm.1
  have hm2 : msl μ + n.toNatClampNeg ≤ msl μ9 := hm.2
  have hz := hR.1
  have hkl := kty_lt hkt
  refine W.anew hx hb hown (hts _ (wis_g hw rfl)) (va_AO.use hover) rfl hd rfl hn0 (Nat.le_trans (Nat.mul_le_mul hn1 (Nat.le_refl 4)) (Nat.le_of_ble_eq_true rfl)) (by omega) (by omega) fun cA kA comp f1 f2 f3 f4 => ?_
  generalize hH1 : H.push ({ cls := cA, slots := Array.replicate n.toNatClampNeg .null, vm := .none } : Cell) = H1
  have e2 : H1.size = H.size + 1 := by rw [← hH1, Array.size_push]
  have e1 : H1[H.size]? = some (arrV cA n.toNatClampNeg (fun _ => .null)) := by rw [← hH1, Array.getElem?_push_size, ← arrV_new]
  have e3 : ∀ q : Nat, q < H.size → H1[q]? = H[q]? := fun q hq => by rw [← hH1, Array.getElem?_push, if_neg (Nat.ne_of_lt hq)]
  have hcA : cA = G.2.2 kd := by
    obtain ⟨kA2, comp2, k1, k2, k3, k4⟩ := (wf.2.2.1 kd _ hkt).2
    exact Option.some.inj (f1.symm.trans k4)
  have ead : cad N0 ro (msz μ) = H.size := by
    unfold cad
    rw [if_neg (by omega)]
    omega
  have hk2 := kk H1 (hR.push (by omega) (cell_arr (ty := .object E) (k := kd) (n := n.toNatClampNeg) (g := fun _ => .null) (if_pos rfl) hkt (if_pos rfl) (fun j => ?_) (by rw [ead, ← hcA]; exact e1)) e2 e3) ⟨by have := hS.1; omega, fun q q1 q2 => (e3 q (Nat.lt_of_lt_of_le q1 hS.1)).trans (hS.2.1 q q1 q2), hS.2.2⟩
  · rw [show msz μ + 1 - z0 = msz μ - z0 + 1 by omega, show msl μ + n.toNatClampNeg - y0 = msl μ - y0 + n.toNatClampNeg by omega, ead] at hk2
    exact hk2
  · unfold elv
    rw [show gR (alc μ kd n.toNatClampNeg n.toNatClampNeg) (msz μ) j = none from if_pos rfl]
    rfl
theorem s_anewarray {idx : Nat} (cx : Cx p R s m args meth c N0 G ro z xs L t d z0 y0 μ9) (ok : okI t (pc, .anewarray idx, len, as, ws) = true) (hK : ∀ ls st μ, K ls st μ = some (r, μ9) → Wk p l e R s m args below meth c Q N0 G ro z xs L t.2.2.1 z0 y0 μ9 (pc + len) ls st μ) (hJ : ∀ b ls st μ, J b ls st μ = some (r, μ9) → Wk p l e R s m args below meth c Q N0 G ro z xs L t.2.2.1 z0 y0 μ9 (bpc t b) ls st μ) (h : x1 C J (.anewarray idx) as ls st μ K = some (r, μ9)) : Wk p l e R s m args below meth c Q N0 G ro z xs L t.2.2.1 z0 y0 μ9 pc ls st μ := by
  have cx0 := cx
  obtain ⟨hx, hb, hml, hown, hts, hmn, wf, hfr, hlo, hce, hsl⟩ := cx
  unfold okI at ok
  dsimp only at ok
  obtain ⟨hd, ok3⟩ := and2 ok
  have hd := of_decide_eq_true hd
  obtain ⟨ok4, ok5⟩ := and2 ok3
  obtain rfl : len = 3 := Nat.eq_of_beq_eq_true ok4
  split at ok5
  · obtain ⟨n, st, rfl, h1⟩ := ppI_inv h
    obtain ⟨hc0, h2⟩ := gd_inv h1
    obtain ⟨hn0, hn1⟩ := and2 hc0
    obtain ⟨hm, hk⟩ := hK _ _ _ h2
    exact ⟨mle_K hm (Nat.le_succ _) (Nat.le_add_right _ _), fun H locs Ls hR hS hL g1 g2 => w_anew cx0 hd ok5 rfl wf.2.2.2.2.2.2.2.2.2.2.1 (by simpa using hn0) (Nat.le_of_ble_eq_true hn1) hm hR hS g1 g2 (fun H1 hR1 hS1 => hk H1 locs Ls hR1 hS1 hL (Nat.le_succ_of_le g1) (Nat.le_trans g2 (Nat.le_add_right _ _)))⟩
  · obtain ⟨n, st, rfl, h1⟩ := ppI_inv h
    obtain ⟨hc0, h2⟩ := gd_inv h1
    obtain ⟨hn0, hn1⟩ := and2 hc0
    obtain ⟨hm, hk⟩ := hK _ _ _ h2
    exact ⟨mle_K hm (Nat.le_succ _) (Nat.le_add_right _ _), fun H locs Ls hR hS hL g1 g2 => w_anew cx0 hd ok5 rfl wf.2.2.2.2.2.2.2.2.2.2.2 (by simpa using hn0) (Nat.le_of_ble_eq_true hn1) hm hR hS g1 g2 (fun H1 hR1 hS1 => hk H1 locs Ls hR1 hS1 hL (Nat.le_succ_of_le g1) (Nat.le_trans g2 (Nat.le_add_right _ _)))⟩
  · cases ok5
theorem s_instanceof {idx : Nat} (cx : Cx p R s m args meth c N0 G ro z xs L t d z0 y0 μ9) (ok : okI t (pc, .instanceof idx, len, as, ws) = true) (hK : ∀ ls st μ, K ls st μ = some (r, μ9) → Wk p l e R s m args below meth c Q N0 G ro z xs L t.2.2.1 z0 y0 μ9 (pc + len) ls st μ) (hJ : ∀ b ls st μ, J b ls st μ = some (r, μ9) → Wk p l e R s m args below meth c Q N0 G ro z xs L t.2.2.1 z0 y0 μ9 (bpc t b) ls st μ) (h : x1 C J (.instanceof idx) as ls st μ K = some (r, μ9)) : Wk p l e R s m args below meth c Q N0 G ro z xs L t.2.2.1 z0 y0 μ9 pc ls st μ := by
  obtain ⟨hx, hb, hml, hown, hts, hmn, wf, hfr, hlo, hce, hsl⟩ := cx
  unfold okI at ok
  dsimp only at ok
  obtain ⟨hd, ok3⟩ := and2 ok
  have hd := of_decide_eq_true hd
  obtain ⟨ok4, ok5⟩ := and2 ok3
  obtain rfl : len = 3 := Nat.eq_of_beq_eq_true ok4
  split at ok5
  · next n cs p1 =>
    split at ok5
    · next o i nm hw =>
      obtain ⟨ok6, o5⟩ := and2 ok5
      obtain ⟨ok7, o4⟩ := and2 ok6
      obtain ⟨ok8, o3⟩ := and2 ok7
      obtain ⟨o1, o2⟩ := and2 ok8
      have o1 := of_decide_eq_true o1
      have o2 := of_decide_eq_true o2
      subst o1; subst o2
      have hlink := hts (.classLink t.1.cls i nm) (List.mem_filter.mpr ⟨List.mem_of_getElem? hw, rfl⟩)
      obtain ⟨a, st, rfl, h1⟩ := ppR_inv h
      obtain ⟨hc, h2⟩ := gd_inv h1
      have hc := cin_mem hc
      have h13 : shp μ a < 13 := by have := Nat.le_of_ble_eq_true (List.all_eq_true.mp o3 _ hc); omega
      cases hcin : cin (cs.take n) (shp μ a) with
      | true =>
        rw [hcin] at h2
        obtain ⟨hm, hk⟩ := hK _ _ _ h2
        refine ⟨hm, fun H locs Ls hR hS hL g1 g2 => ?_⟩
        obtain ⟨cell, q1, q2, q3, q4⟩ := ob_cell wf hR h13
        have hmem := cin_mem hcin
        have hh := List.all_eq_true.mp o4 _ hmem
        rcases Bool.or_eq_true_iff.mp hh with hh | hh
        · have hh := of_decide_eq_true hh
          rw [hh] at q3 q4
          exact va_instS hx hb hown hlink q4 ⟨cell, q1, by rw [q2]; rfl, q3⟩ hd (hk H locs Ls hR hS hL g1 g2)
        · have hh : (clN (shp μ a), nm) ∈ castW := by simpa using hh
          exact va_instY hx hb hown hlink (wf.2.2.2.2.2.2.2.2.1 _ hh) ⟨cell, q1, by rw [q2]; rfl, q3⟩ hd (hk H locs Ls hR hS hL g1 g2)
      | false =>
        rw [hcin] at h2
        obtain ⟨hm, hk⟩ := hK _ _ _ h2
        refine ⟨hm, fun H locs Ls hR hS hL g1 g2 => ?_⟩
        obtain ⟨cell, q1, q2, q3, q4⟩ := ob_cell wf hR h13
        have hmem : shp μ a ∈ cs.drop n := by
          rw [← List.take_append_drop n cs] at hc
          rcases List.mem_append.mp hc with hc | hc
          · exact absurd hc (cin_not hcin)
          · exact hc
        have hh : (clN (shp μ a), nm) ∈ ncastW := by simpa using List.all_eq_true.mp o5 _ hmem
        exact va_instNo hx hb hown hlink (wf.2.2.2.2.2.2.2.2.2.1 _ hh) ⟨cell, q1, by rw [q2]; rfl, q3⟩ hd (hk H locs Ls hR hS hL g1 g2)
    · cases ok5
  · cases ok5
theorem s_nop  (cx : Cx p R s m args meth c N0 G ro z xs L t d z0 y0 μ9) (ok : okI t (pc, .nop, len, as, ws) = true) (hK : ∀ ls st μ, K ls st μ = some (r, μ9) → Wk p l e R s m args below meth c Q N0 G ro z xs L t.2.2.1 z0 y0 μ9 (pc + len) ls st μ) (hJ : ∀ b ls st μ, J b ls st μ = some (r, μ9) → Wk p l e R s m args below meth c Q N0 G ro z xs L t.2.2.1 z0 y0 μ9 (bpc t b) ls st μ) (h : x1 C J (.nop) as ls st μ K = some (r, μ9)) : Wk p l e R s m args below meth c Q N0 G ro z xs L t.2.2.1 z0 y0 μ9 pc ls st μ := by
  have has : ∃ b, as = [b] := by
    unfold x1 at h
    dsimp only at h
    split at h
    · exact ⟨_, rfl⟩
    · cases h
  obtain ⟨b, rfl⟩ := has
  cases len with
  | zero =>
    unfold okI at ok
    dsimp only at ok
    obtain ⟨hm, hk⟩ := hJ _ _ _ _ h
    rw [Nat.eq_of_beq_eq_true ok] at hk
    exact ⟨hm, hk⟩
  | succ n =>
    unfold okI at ok
    dsimp only at ok
    obtain ⟨hd, ok3⟩ := and2 ok
    cases ok3
end SIM5
end
section
/-! CALLS -/
def wsM (M : Nat) : List Cond := .code (mt M).1 (mt M).2.1 (mt M).2.2.1 (mt M).2.2.2.1 :: gTbl
def Pcn (N0 : Nat) (G : GG) (ro : Nat → Nat) (z : Value) (xs : Nat → Int32) (L : Nat) (ar : List Value) (μ : MM) : Array Value → State → Prop := fun a U => a = (ar.map (cv (cad N0 ro) z)).toArray ∧ Rep N0 G ro xs L μ U.heap ∧ WF N0 G ro z xs L U
def Qcn (N0 : Nat) (G : GG) (ro : Nat → Nat) (z : Value) (xs : Nat → Int32) (L : Nat) (r : Option Value) (μ' : MM) : Array Value → State → Outcome → State → Prop := fun _ st o t => o = .returned (r.map (cv (cad N0 ro) z)) ∧ Rep N0 G ro xs L μ' t.heap ∧ st.heap.size ≤ t.heap.size ∧ ∀ q, q < st.heap.size → ¬ N0 ≤ q → t.heap[q]? = st.heap[q]?
def rmM (d : Nat) (μ μ' : MM) : Room := { frames := d, cells := msz μ' - msz μ, slots := msl μ' - msl μ, locals := 60 * d }
def Con (N0 : Nat) (G : GG) (ro : Nat → Nat) (z : Value) (xs : Nat → Int32) (L : Nat) (d M : Nat) (ar : List Value) (μ : MM) (r : Option Value) (μ' : MM) : Prop :=
  mle μ μ' ∧ ∀ l : Launch, Met l (mt M).1 (wsM M) (rmM d μ μ') (Pcn N0 G ro z xs L ar μ) (Qcn N0 G ro z xs L r μ') (msz μ' - msz μ) (msl μ' - msl μ) (fun q => N0 ≤ q)
theorem pcn_blind {N0 : Nat} {G : GG} {ro : Nat → Nat} {z : Value} {xs : Nat → Int32} {L : Nat} {ar : List Value} {μ : MM} : FrameBlind (Pcn N0 G ro z xs L ar μ) := fun a U g mk h => ⟨h.1, h.2.1, h.2.2.same rfl rfl⟩
theorem good_g {w : Cond} (h : w ∈ gTbl) : (w.onTables && w.keeps) = true ∨ ∃ ty, w = .arrayClass ty := good_of_word (List.mem_filter.mp h).2
theorem pre_ok {N0 : Nat} {G : GG} {ro : Nat → Nat} {z : Value} {xs : Nat → Int32} {L : Nat} {ar : List Value} {μ : MM} {s : State} {H : Heap} {locs : List Loc} (wf : WF N0 G ro z xs L s) (hR : Rep N0 G ro xs L μ H) (hS : va_S (fun q => N0 ≤ q) s.heap H locs) : ∀ U : State, U.heap = H → s.WarmedH U.vm → Pcn N0 G ro z xs L ar μ (ar.map (cv (cad N0 ro) z)).toArray U := by
  intro U hU hW
  refine ⟨rfl, by rw [hU]; exact hR, wf.moved hW (by rw [hU]; exact Nat.le_trans wf.1.1 hS.1) (fun q h1 h2 => by rw [hU]; exact hS.2.1 q h1 h2)⟩
theorem okMT_inv {t : MT} {pw : Nat × Nat} (h : okMT t pw = true) : plainName t.1.cls = true ∧ (t.1.cls ≠ "java/lang/invoke/MethodHandle" ∧ t.1.cls ≠ "java/lang/invoke/VarHandle") ∧ t.2.2.1 ≤ 40 ∧ okBk t = true ∧ Cond.code t.1 t.2.1 t.2.2.1 t.2.2.2.1 ∈ gTbl ∧ Cond.initialized t.1.cls ∈ gTbl := by
  unfold okMT at h
  obtain ⟨h, h7⟩ := and2 h
  obtain ⟨h, h6⟩ := and2 h
  obtain ⟨h, h5⟩ := and2 h
  obtain ⟨h, h4⟩ := and2 h
  obtain ⟨h, h3⟩ := and2 h
  obtain ⟨h1, h2⟩ := and2 h
  exact ⟨h1, ⟨of_decide_eq_true h2, of_decide_eq_true h3⟩, Nat.le_of_ble_eq_true h4, h5, wis_g h6 rfl, wis_g h7 rfl⟩
theorem vk_ret {rk n M : Nat} (h : okC rk n M = true) : nrR rk (mt M).2.2.2.1 = true ∧ (∀ sig, parseMethodDescriptor (mt M).1.desc = some sig → n = sig.parameters.length) ∧ M + 1 < allM.length := by
  unfold okC at h
  obtain ⟨h, h3⟩ := and2 h
  obtain ⟨h1, h2⟩ := and2 h
  refine ⟨h1, fun sig hs => ?_, of_decide_eq_true h3⟩
  have h2 := of_decide_eq_true h2
  rw [hs] at h2
  exact (Option.some.inj h2).symm
section CALL
variable {p : Program} {l : Launch} {e : Env} {R : Room} {s : State} {m : MethodId} {args : Array Value} {below : List Frame} {meth : Method} {c : Code} {Q : State → Prop}
variable {N0 : Nat} {G : GG} {ro : Nat → Nat} {z : Value} {xs : Nat → Int32} {L : Nat} {t : MT} {z0 y0 d : Nat} {r : Option Value} {μ9 : MM}
variable {C : Nat → List Value → MM → Rs} {J : Nat → LV → List Value → MM → Rs} {K : LV → List Value → MM → Rs} {pc len : Nat} {as ws : List Nat} {ls : LV} {st : List Value} {μ : MM}
/-- behind a call -/
theorem w_back {H : Heap} {locs : List Loc} {cells slots mc ms : Nat} {Ls : Array Slot} {st0 rest : List Value} {a : Array Value} {r1 : Option Value} {μ1 : MM} (hr : va_Run p l e R s m args below meth c H locs cells slots mc ms (F0 m pc Ls st0) rest (Qcn N0 G ro z xs L r1 μ1 a) (fun q => N0 ≤ q)) (hS : va_S (fun q => N0 ≤ q) s.heap H locs)
    (kk : ∀ (H1 : Heap) (locs1 : List Loc), Rep N0 G ro xs L μ1 H1 → va_S (fun q => N0 ≤ q) s.heap H1 locs1 → W p l e R s m args below meth c H1 locs1 (cells + mc) (slots + ms) Q (F0 m (pc + 3) Ls ((r1.map (cv (cad N0 ro) z)).toList ++ rest))) : W p l e R s m args below meth c H locs cells slots Q (F0 m pc Ls st0) := by
  intro T hT X
  obtain ⟨v, st₀, t, T', L1, h0, X', hL1, e1, e2, ⟨hv, hR, hz, hk⟩, st⟩ := hr T hT X
  have hv : v = r1.map (cv (cad N0 ro) z) := by injection hv
  subst hv
  rw [h0] at hz hk
  obtain ⟨t2, a1, b1⟩ := kk T'.heap (locs ++ L1) (by rw [e1]; exact hR) ⟨Nat.le_trans hS.1 (by rw [e1]; exact hz), fun q h1 h2 => by rw [e1, hk q (Nat.lt_of_lt_of_le h1 hS.1) h2]; exact hS.2.1 q h1 h2, fun q hq => by
      rcases List.mem_append.mp hq with h | h
      · exact hS.2.2 q h
      · exact hL1 q h⟩ T' rfl X'
  exact ⟨t2, st t2 a1, b1⟩
theorem pay_M {M : Nat} (hts : ∀ w ∈ gTbl, w.before args s = true) {pw : Nat × Nat} (ok : okMT (mt M) pw = true) : ∀ w ∈ wsM M, ∀ (a' : Array Value) (U : State), s.WarmedH U.vm → w.before a' U = true := by
  refine pay_in hts fun w hw => ?_
  have h : w ∈ gTbl := by
    rcases List.mem_cons.mp hw with rfl | hw
    · exact (okMT_inv ok).2.2.2.2.1
    · exact hw
  exact ⟨h, good_g h⟩
/-- what every call asks -/
theorem c_base {M : Nat} {μ1 : MM} (cx : Cx p R s m args meth c N0 G ro z xs L t d z0 y0 μ9) {pw : Nat × Nat} (ok : okMT (mt M) pw = true) : (rmM d μ μ1).cells = msz μ1 - msz μ ∧ (rmM d μ μ1).slots = msl μ1 - msl μ ∧ (rmM d μ μ1).frames + 1 ≤ R.frames ∧ 8 + ((mt M).2.2.1 + 11) + (rmM d μ μ1).locals ≤ R.locals ∧ (∀ w ∈ wsM M, ∀ (a' : Array Value) (U : State), s.WarmedH U.vm → w.before a' U = true) ∧ Cond.code (mt M).1 (mt M).2.1 (mt M).2.2.1 (mt M).2.2.2.1 ∈ wsM M := by
  obtain ⟨hx, hb, hml, hown, hts, hmn, wf, hfr, hlo, hce, hsl⟩ := cx
  have h40 := (okMT_inv ok).2.2.1
  refine ⟨rfl, rfl, hfr, ?_, pay_M hts ok, List.mem_cons_self⟩
  show 8 + ((mt M).2.2.1 + 11) + 60 * d ≤ R.locals
  omega
theorem map_app {f : Value → Value} (ar st : List Value) : (ar.reverse ++ st).map f = (ar.map f).reverse ++ st.map f := by simp
theorem room_ok {μ1 : MM} (h1 : mle μ μ1) (h2 : mle μ1 μ9) (g1 : z0 ≤ msz μ) (g2 : y0 ≤ msl μ) (hce : msz μ9 - z0 ≤ R.cells) (hsl : msl μ9 - y0 ≤ R.slots) : (msz μ - z0 + (msz μ1 - msz μ) ≤ R.cells ∧ msl μ - y0 + (msl μ1 - msl μ) ≤ R.slots) ∧ msz μ - z0 + (msz μ1 - msz μ) = msz μ1 - z0 ∧ msl μ - y0 + (msl μ1 - msl μ) = msl μ1 - y0 := by
  obtain ⟨a1, a2⟩ := h1
  obtain ⟨b1, b2⟩ := h2
  refine ⟨⟨?_, ?_⟩, ?_, ?_⟩ <;> omega
end CALL
end
section
/-! CALLS: the instructions -/
/-- what stands behind a call of a kind -/
theorem bnd_inv {rk : Nat} {r0 : Rs} {k : List Value → MM → Rs} {x : Option Value × MM} (h : bnd rk r0 k = some x) : ∃ (r1 : Option Value) (μ1 : MM), r0 = some (r1, μ1) ∧ k r1.toList μ1 = some x := by
  unfold bnd at h
  split at h
  · split at h
    · exact ⟨_, _, rfl, h⟩
    · cases h
  · split at h
    · exact ⟨_, _, rfl, h⟩
    · cases h
  · split at h
    · exact ⟨_, _, rfl, h⟩
    · cases h
  · split at h
    · exact ⟨_, _, rfl, h⟩
    · exact ⟨_, _, rfl, h⟩
    · cases h
theorem dsp_inv {k : Nat → Rs} {x : Option Value × MM} {s : Nat} : ∀ (cs : List Nat), dsp cs s k = some x → ∃ M, k M = some x ∧ M ∈ mss cs
  | [], h => by cases h
  | [_], h => by cases h
  | c :: M :: r, h => by
    unfold dsp at h
    split at h
    · exact ⟨M, h, by unfold mss; exact List.mem_cons_self⟩
    · obtain ⟨M2, h1, h2⟩ := dsp_inv r h
      exact ⟨M2, h1, by unfold mss; exact List.mem_cons_of_mem _ h2⟩
/-- the row of the receiver's class -/
theorem okD_inv {own : String} {idx pl : Nat} {x : MethodName} {k : Nat → Rs} {y : Option Value × MM} {s : Nat} : ∀ (cs ps : List Nat), okD own idx pl (some x) cs ps = true → dsp cs s k = some y → ∃ M, k M = some y ∧ M ∈ mss cs ∧
    (((s < 13 ∨ s = 30) ∧ x = (mt M).1 ∧ Cond.instanceMethod x ∈ gTbl ∧ Cond.selects (match s with | 30 => "java/lang/String" | _ => clN s) x x ∈ gTbl ∧ Cond.initialized (match s with | 30 => "java/lang/String" | _ => clN s) ∈ gTbl ∧ x.cls = (match s with | 30 => "java/lang/String" | _ => clN s)) ∨
     (s < 13 ∧ ∃ Mo, x.name = (mt Mo).1.name ∧ x.desc = (mt Mo).1.desc ∧ Cond.instanceMethod (mt M).1 ∈ gTbl ∧ Cond.selects (clN s) x (mt M).1 ∈ gTbl ∧ Cond.initialized (mt M).1.cls ∈ gTbl ∧ Cond.sameMethod x.cls (mt Mo).1.cls x.name x.desc ∈ gTbl ∧ (parseMethodDescriptor x.desc).map (fun d => d.parameters.length) = (parseMethodDescriptor (mt M).1.desc).map (fun d => d.parameters.length) ∧ Mo + 1 < allM.length ∧ Cond.instanceMethod (mt Mo).1 ∈ gTbl))
  | [], _, _, h => by cases h
  | [_], _, _, h => by cases h
  | c :: M :: r, ps, hok, h => by
    rcases ps with _ | ⟨f, _ | ⟨p1, _ | ⟨p2, _ | ⟨p3, _ | ⟨p4, _ | ⟨Mo, _ | ⟨p5, ps⟩⟩⟩⟩⟩⟩⟩ <;> first | (cases hok; done) | skip
    unfold okD at hok
    obtain ⟨h1, h2⟩ := and2 hok
    unfold dsp at h
    split at h
    · next hc =>
      have hc : s = c := Nat.eq_of_beq_eq_true hc
      subst hc
      refine ⟨M, h, by unfold mss; exact List.mem_cons_self, ?_⟩
      dsimp only at h1
      split at h1
      · obtain ⟨h1, q5⟩ := and2 h1
        obtain ⟨h1, q4⟩ := and2 h1
        obtain ⟨h1, q3⟩ := and2 h1
        obtain ⟨h1, q2⟩ := and2 h1
        obtain ⟨q0, q1⟩ := and2 h1
        exact Or.inl ⟨(Bool.or_eq_true_iff.mp q0).elim (fun w => Or.inl (Nat.le_of_ble_eq_true w)) (fun w => Or.inr (Nat.eq_of_beq_eq_true w)), of_decide_eq_true q1, wis_g q2 rfl, wis_g q3 rfl, wis_g q4 rfl, of_decide_eq_true q5⟩
      · obtain ⟨h1, q10⟩ := and2 h1
        obtain ⟨h1, q9⟩ := and2 h1
        obtain ⟨h1, q8⟩ := and2 h1
        obtain ⟨h1, q7⟩ := and2 h1
        obtain ⟨h1, q6⟩ := and2 h1
        obtain ⟨h1, q5⟩ := and2 h1
        obtain ⟨h1, q4⟩ := and2 h1
        obtain ⟨h1, q3⟩ := and2 h1
        obtain ⟨q1, q2⟩ := and2 h1
        exact Or.inr ⟨Nat.le_of_ble_eq_true q9, Mo, of_decide_eq_true q1, of_decide_eq_true q2, wis_g q3 rfl, wis_g q4 rfl, wis_g q5 rfl, wis_g q6 rfl, of_decide_eq_true q7, of_decide_eq_true q8, wis_g q10 rfl⟩
    · obtain ⟨M2, g1, g2, g3⟩ := okD_inv r ps h2 h
      exact ⟨M2, g1, by unfold mss; exact List.mem_cons_of_mem _ g2, g3⟩
section CALL2
variable {p : Program} {l : Launch} {e : Env} {R : Room} {s : State} {m : MethodId} {args : Array Value} {below : List Frame} {meth : Method} {c : Code} {Q : State → Prop}
variable {N0 : Nat} {G : GG} {ro : Nat → Nat} {z : Value} {xs : Nat → Int32} {L : Nat} {t : MT} {z0 y0 d : Nat} {r : Option Value} {μ9 : MM}
variable {C : Nat → List Value → MM → Rs} {J : Nat → LV → List Value → MM → Rs} {K : LV → List Value → MM → Rs} {pc len : Nat} {as ws : List Nat} {ls : LV} {st : List Value} {μ : MM}
/-- a super call, also of an inherited method -/
theorem ex_callSU {T : State} {locs : List Loc} {cells slots : Nat} (X : Stand p l e R s m args below meth c T locs cells slots) (hexec : p.tables.exec = Jvm.exec) {own : String} {index : Nat} {x y : MethodName} {bytes : ByteArray} {maxL : Nat} {ret : Option FieldType}
    (hown : s.vm.findClass own = some m.cls) (hlink : (Cond.methodLink own index x).before args s = true) (hxy : y = ⟨y.cls, x.name, x.desc⟩) (hsame : (Cond.sameMethod x.cls y.cls x.name x.desc).before args s = true) (hsup : (Cond.superclass own x.cls).before args s = true) (hup : x.cls = y.cls ∨ (Cond.superclass x.cls y.cls).before args s = true)
    (hinst : (Cond.instanceMethod y).before args s = true) (hcode : (Cond.code y bytes maxL ret).before args s = true) (hno : x.name ≠ "<init>")
    {W : Nat} {Pre : Pt → Array Value → Prop} {Post : Pt → Array Value → Option Value → Pt → Prop} (hK : Back l R p e below s args y 3 W Pre Post)
    {b : Addr} {cellB : Cell} {kB : Class} (hcell : T.heap[b]? = some cellB) (hobj : cellB.vm.isStatics = false) (hkB : s.vm.classes[cellB.cls]? = some kB)
    {g : JFrame} (hg : g.method = m) (hsize : g.locals.size = c.maxLocals) {argsL rest : List Value} (hlen : ∀ sig, parseMethodDescriptor y.desc = some sig → argsL.length = sig.parameters.length)
    (hstack : g.stack = argsL.reverse ++ .ref b :: rest) (hW : 2 * g.monitorRoom + (rest.map fun v => v.category).sum ≤ W) (hdg : decode c.code g.pc = .ok (.invokespecial index, 3))
    (hpre : ∀ vm₁, s.WarmedH vm₁ → Pre ⟨T.setVm vm₁, locs, cells, slots⟩ (Value.ref b :: argsL).toArray) :
    ∃ (v : Option Value) (vm₁ : Vm) (B : Pt), s.WarmedH vm₁ ∧ Stand p l e R s m args below meth c B.U B.locs B.cells B.slots ∧ Post ⟨T.setVm vm₁, locs, cells, slots⟩ (Value.ref b :: argsL).toArray v B ∧
      ∀ target, Steps p.tables e below (B.U.setTop { g with pc := g.pc + 3, stack := v.toList ++ rest }) target → Steps p.tables e below (T.setTop g) target := by
  obtain ⟨mk, methM, hnamed, hmethM, hstM, habM⟩ := Cond.instanceMethod_spec hinst
  obtain ⟨methM', cM, hmethM', -, -, -, -, -, -, hsigM⟩ := Cond.code_spec hnamed hcode
  cases hmethM.symm.trans hmethM'
  obtain ⟨ps, dk, kp, hps, hdk, hkp, hsuper, -, -, hnid⟩ := Cond.superclass_spec hown hsup
  have hn : s.methodNamed? ⟨y.cls, x.name, x.desc⟩ = some mk := by rw [← hxy]; exact hnamed
  have hcy := findClass_of_methodNamed hnamed
  have hsub : s.vm.isSubclass ps mk.cls = true := by
    rcases hup with h | h
    · rw [h] at hps
      have hpm : ps = mk.cls := Option.some.inj (hps.symm.trans hcy)
      rw [hpm]
      simp [Vm.isSubclass, Vm.isSubclassAux]
    · obtain ⟨p2, k2, kp2, h1, h2, h3, h4, -⟩ := Cond.superclass_spec hps h
      have hpm : p2 = mk.cls := Option.some.inj (h1.symm.trans hcy)
      have hsz : ∃ n, s.vm.classes.size = n + 1 := ⟨s.vm.classes.size - 1, by have := (Array.getElem?_eq_some_iff.mp h2).1; omega⟩
      obtain ⟨n, hsz⟩ := hsz
      unfold Vm.isSubclass
      rw [hsz]
      simp [Vm.isSubclassAux, h2, h4, hpm]
  have hsig : parseMethodDescriptor y.desc = some methM.sig := hsigM
  obtain ⟨vm₁, X₁, hstep₁⟩ := X.invokespecialUp hexec hown hlink hsame hn hmethM hstM habM hno hdk hnid hps hsuper hsub (a := b) (cell := cellB) hcell
    (fun z h => by rw [h] at hobj; cases hobj) hkB (g := g) hg (argsL := argsL) (rest := rest) (hlen _ hsig) hstack hdg
  obtain ⟨v, B, X', hpost, hsteps⟩ := hK m meth c ⟨T.setVm vm₁, locs, cells, slots⟩ { g with stack := rest } (.invokespecial index) mk (Value.ref b :: argsL).toArray X₁ hg hsize hdg hW (X₁.named hnamed) (hpre vm₁ X₁.warmed)
  exact ⟨v, vm₁, B, X₁.warmed, X', hpost, fun target h => hstep₁ _ (by rw [doInvoke_state]; exact hsteps.trans h)⟩
theorem s_invokestatic {idx : Nat} (hok : ∀ M, M + 1 < allM.length → ∃ pw, okMT (mt M) pw = true) (hC : ∀ M ar μ r1 μ1, M + 1 < allM.length → C M ar μ = some (r1, μ1) → Con N0 G ro z xs L d M ar μ r1 μ1) (cx : Cx p R s m args meth c N0 G ro z xs L t d z0 y0 μ9) (ok : okI t (pc, .invokestatic idx, len, as, ws) = true) (hK : ∀ ls st μ, K ls st μ = some (r, μ9) → Wk p l e R s m args below meth c Q N0 G ro z xs L t.2.2.1 z0 y0 μ9 (pc + len) ls st μ) (hJ : ∀ b ls st μ, J b ls st μ = some (r, μ9) → Wk p l e R s m args below meth c Q N0 G ro z xs L t.2.2.1 z0 y0 μ9 (bpc t b) ls st μ) (h : x1 C J (.invokestatic idx) as ls st μ K = some (r, μ9)) : Wk p l e R s m args below meth c Q N0 G ro z xs L t.2.2.1 z0 y0 μ9 pc ls st μ := by
  have cx0 := cx
  obtain ⟨hx, hb, hml, hown, hts, hmn, wf, hfr, hlo, hce, hsl⟩ := cx
  unfold okI at ok
  dsimp only at ok
  obtain ⟨hd, ok3⟩ := and2 ok
  have hd := of_decide_eq_true hd
  obtain ⟨ok4, ok5⟩ := and2 ok3
  obtain rfl : len = 3 := Nat.eq_of_beq_eq_true ok4
  split at ok5
  · next p1 p2 p3 p4 =>
    obtain ⟨ok6, o4⟩ := and2 ok5
    obtain ⟨ok7, o3⟩ := and2 ok6
    obtain ⟨o1, o2⟩ := and2 ok7
    obtain ⟨n, st, rfl, h1⟩ := ppI_inv h
    obtain ⟨dp, st, rfl, h2⟩ := ppI_inv h1
    obtain ⟨b, st, rfl, h3⟩ := ppR_inv h2
    obtain ⟨sp, st, rfl, h4⟩ := ppI_inv h3
    obtain ⟨a, st, rfl, h5⟩ := ppR_inv h4
    obtain ⟨g, h6⟩ := gd_inv h5
    obtain ⟨g, g6⟩ := and2 g
    obtain ⟨g, g5⟩ := and2 g
    obtain ⟨g, g4⟩ := and2 g
    obtain ⟨g, g3⟩ := and2 g
    obtain ⟨g, g2⟩ := and2 g
    obtain ⟨gs, gk⟩ := and2 g
    obtain ⟨hm, hk⟩ := hK _ _ _ h6
    refine ⟨mle_K hm (Nat.le_refl _) (Nat.le_refl _), fun H locs Ls hR hS hL q1 q2 => ?_⟩
    obtain ⟨kd, ty, hka, hkb, hkt, hpr, hel, hfit⟩ : ∃ kd ty, shp μ a = kd ∧ shp μ b = kd ∧ kty kd = some ty ∧ refKind ty = false ∧ (∀ (ν : MM) q j, elv (cad N0 ro) ν q j ty = .int (gI ν q j)) ∧ ∀ i, i < n.toNatClampNeg → fits ty (.int (gI μ a (sp.toNatClampNeg + i))) = true := by
      rcases Bool.or_eq_true_iff.mp gk with gk | gk
      · obtain ⟨c1, c2⟩ := and2 gk
        exact ⟨20, .int, by simpa using cin_mem c1, by simpa using cin_mem c2, rfl, rfl, fun _ _ _ => rfl, fun _ _ => rfl⟩
      · obtain ⟨c1, c2⟩ := and2 gk
        obtain ⟨c2, c3⟩ := and2 c2
        exact ⟨23, .byte, by simpa using cin_mem c1, by simpa using cin_mem c2, rfl, rfl, fun _ _ _ => rfl, fun i hi => List.all_eq_true.mp c3 i (List.mem_range.mpr hi)⟩
    have hkl := kty_lt hkt
    have hb28 := hR.at (q := b) (by omega)
    have hc0 := hR.arr hka hkt
    have hc1 := hR.arr hkb hkt
    rw [show (fun j => elv (cad N0 ro) μ a j ty) = fun j => Value.int (gI μ a j) from funext fun j => hel μ a j] at hc0
    rw [show (fun j => elv (cad N0 ro) μ b j ty) = fun j => Value.int (gI μ b j) from funext fun j => hel μ b j] at hc1
    have n1 : ¬ sp < 0 := by simpa using g2
    have n2 : ¬ dp < 0 := by simpa using g3
    have n3 : ¬ n < 0 := by simpa using g4
    have n4 := Nat.le_of_ble_eq_true g5
    have n5 := Nat.le_of_ble_eq_true g6
    have nn : ∀ w : Int32, ¬ w < 0 → w.toInt = (w.toNatClampNeg : Int) := by
      intro w hw
      have hw0 : (0 : Int) ≤ w.toInt := by
        have := Int32.not_lt.mp hw
        simpa using Int32.le_iff_toInt_le.mp this
      show w.toInt = ((w.toInt.toNat : Nat) : Int)
      omega
    have hsz : Ls.size = t.2.2.1 := hL.1
    have hw8 := slr_map (f := cad N0 ro) wf.1.2 gs
    show W p l e R s m args below meth c H locs (msz μ - z0) (msl μ - y0) Q (F0 m pc Ls (.int n :: .int dp :: .ref (cad N0 ro b) :: .int sp :: .ref (cad N0 ro a) :: st.map (cv (cad N0 ro) z)))
    intro T hT X
    obtain ⟨-, k0, hk0, cm0, hkk0⟩ := (wf.2.2.1 kd ty hkt).1 (aln μ a) (fun j => .int (gI μ a j))
    obtain ⟨-, k1, hk1, cm1, hkk1⟩ := (wf.2.2.1 kd ty hkt).1 (aln μ b) (fun j => .int (gI μ b j))
    obtain ⟨vm', X', step⟩ := X.arraycopy hx hown (hts _ (wis_g o1 rfl)) (hts _ (wis_g o2 rfl)) (hts _ (wis_g o3 rfl)) (hts _ (wis_g o4 rfl)) (src := cad N0 ro a) (dst := cad N0 ro b) (srcPos := sp) (destPos := dp) (n := n) (by rw [hT]; exact hc0) (by rw [hT]; exact hc1)
      (fun _ h => by cases h) (fun _ h => by cases h) (fun h => by cases h) (fun h => by cases h) hk0 hk1 hkk0 hkk1 (by simp [hpr]) n1 n2 n3
      (by rw [nn sp n1, nn n n3, arrV_size]; omega) (by rw [nn dp n2, nn n n3, arrV_size]; omega)
      (fun vm₁ _ i hi => by
        have e : (arrV (G.2.2 kd) (aln μ a) (fun j => Value.int (gI μ a j))).slots.getD (sp.toNatClampNeg + i) .null = .int (gI μ a (sp.toNatClampNeg + i)) := by
          rw [Array.getD_eq_getD_getElem?, arrV_read _ _ (by omega)]
          rfl
        rw [e]
        exact ⟨hfit i hi, trivial⟩)
      (g := F0 m pc Ls (.int n :: .int dp :: .ref (cad N0 ro b) :: .int sp :: .ref (cad N0 ro a) :: st.map (cv (cad N0 ro) z))) rfl (by rw [hml]; exact hsz) (rest := st.map (cv (cad N0 ro) z)) rfl (by rw [hb]; exact hd) (by omega) (by
        have e9 : nativeFrameWords "java/lang/System" "arraycopy" 5 = 7 := by decide +kernel
        rw [e9]
        show 2 * 0 + _ + (7 + 11) ≤ _
        omega)
    have e1 : copied (arrV (G.2.2 kd) (aln μ a) (fun j => Value.int (gI μ a j))) (arrV (G.2.2 kd) (aln μ b) (fun j => Value.int (gI μ b j))) sp dp n = arrV (G.2.2 kd) (aln μ b) (fun j => Value.int (va_cpy (gI μ a) (gI μ b) sp.toNatClampNeg dp.toNatClampNeg n.toNatClampNeg j)) := va_copied (fun w => .int w) (G.2.2 kd) (G.2.2 kd) (gI μ a) (gI μ b) n4
    rw [e1] at X' step
    have hl : cad N0 ro b < H.size := (Array.getElem?_eq_some_iff.mp hc1).1
    have hheap : ((T.setVm vm').setCell (cad N0 ro b) (arrV (G.2.2 kd) (aln μ b) (fun j => Value.int (va_cpy (gI μ a) (gI μ b) sp.toNatClampNeg dp.toNatClampNeg n.toNatClampNeg j)))).heap = H.setIfInBounds (cad N0 ro b) (arrV (G.2.2 kd) (aln μ b) (fun j => Value.int (va_cpy (gI μ a) (gI μ b) sp.toNatClampNeg dp.toNatClampNeg n.toNatClampNeg j))) := by rw [← hT]; rfl
    have oq : ∀ q : Nat, q ≠ cad N0 ro b → (H.setIfInBounds (cad N0 ro b) (arrV (G.2.2 kd) (aln μ b) (fun j => Value.int (va_cpy (gI μ a) (gI μ b) sp.toNatClampNeg dp.toNatClampNeg n.toNatClampNeg j))))[q]? = H[q]? := fun q hq => by simp [Array.getElem?_setIfInBounds, Ne.symm hq]
    obtain ⟨t2, a1, b1⟩ := hk _ _ Ls (hR.upd (a := b) (μ' := cpI μ a sp.toNatClampNeg b dp.toNatClampNeg n.toNatClampNeg) hb28.1 (fun _ => rfl) (fun _ => rfl) rfl (fun q j hq => if_neg (fun q2 => hq q2.1)) (fun _ _ _ => rfl) (fun _ _ _ => rfl) (cell_arr (ty := ty) (k := kd) (g := fun j => Value.int (va_cpy (gI μ a) (gI μ b) sp.toNatClampNeg dp.toNatClampNeg n.toNatClampNeg j)) hkb hkt rfl (fun j => by
        rw [hel]
        show Value.int _ = Value.int _
        congr 1
        show (if b = b ∧ dp.toNatClampNeg ≤ j ∧ j < dp.toNatClampNeg + n.toNatClampNeg then gI μ a (sp.toNatClampNeg + (j - dp.toNatClampNeg)) else gI μ b j) = if dp.toNatClampNeg ≤ j ∧ j < dp.toNatClampNeg + n.toNatClampNeg then gI μ a (sp.toNatClampNeg + (j - dp.toNatClampNeg)) else gI μ b j
        simp) (by simp [Array.getElem?_setIfInBounds, hl]; rfl)) (by simp) oq) ⟨by simp; exact hS.1, fun q w1 w2 => by
          rw [oq q (fun e => w2 (by rw [e]; exact cad_ge hb28.1))]
          exact hS.2.1 q w1 w2, fun q hq => by
          rcases List.mem_append.mp hq with h | h
          · exact hS.2.2 q h
          · obtain ⟨w, -, hw⟩ := List.mem_map.mp h
            rw [← hw]
            exact cad_ge hb28.1⟩ hL q1 q2 _ hheap X'
    exact ⟨t2, step t2 a1, b1⟩
  · next p1 p2 p3 p4 =>
    obtain ⟨ok6, o4⟩ := and2 ok5
    obtain ⟨ok7, o3⟩ := and2 ok6
    obtain ⟨o1, o2⟩ := and2 ok7
    obtain ⟨y, st, rfl, h1⟩ := ppI_inv h
    obtain ⟨x, st, rfl, h2⟩ := ppI_inv h1
    obtain ⟨gs, h3⟩ := gd_inv h2
    obtain ⟨hm, hk⟩ := hK _ _ _ h3
    refine ⟨hm, fun H locs Ls hR hS hL q1 q2 => ?_⟩
    have hw8 := slr_map (f := cad N0 ro) wf.1.2 gs
    have m1 := hm.1
    have m2 := hm.2
    exact va_mmax hx hb (by rw [hml]; exact hL.1.symm) hown (hts _ (wis_g o1 rfl)) (hts _ (wis_g o2 rfl)) (hts _ (wis_g o3 rfl)) (hts _ (wis_g o4 rfl)) (by omega) (by omega) (by omega) (by omega) hd (hk H locs Ls hR hS hL q1 q2)
  · next p1 p2 p3 p4 =>
    obtain ⟨ok6, o4⟩ := and2 ok5
    obtain ⟨ok7, o3⟩ := and2 ok6
    obtain ⟨o1, o2⟩ := and2 ok7
    obtain ⟨y, st, rfl, h1⟩ := ppI_inv h
    obtain ⟨x, st, rfl, h2⟩ := ppI_inv h1
    obtain ⟨gs, h3⟩ := gd_inv h2
    obtain ⟨hm, hk⟩ := hK _ _ _ h3
    refine ⟨hm, fun H locs Ls hR hS hL q1 q2 => ?_⟩
    have hw8 := slr_map (f := cad N0 ro) wf.1.2 gs
    have m1 := hm.1
    have m2 := hm.2
    exact va_mmin hx hb (by rw [hml]; exact hL.1.symm) hown (hts _ (wis_g o1 rfl)) (hts _ (wis_g o2 rfl)) (hts _ (wis_g o3 rfl)) (hts _ (wis_g o4 rfl)) (by omega) (by omega) (by omega) (by omega) hd (hk H locs Ls hR hS hL q1 q2)
  · next rk n M ns p1 p2 =>
    obtain ⟨ok6, o3⟩ := and2 ok5
    obtain ⟨o1, o2⟩ := and2 ok6
    obtain ⟨hret, hlen, hM⟩ := vk_ret o1
    obtain ⟨pw, hpw⟩ := hok M hM
    obtain ⟨k1, k2, k3, k4, k5, k6⟩ := okMT_inv hpw
    obtain ⟨vs, st, hvl, rfl, h1⟩ := ppN_inv _ _ _ h
    obtain ⟨gs, h2⟩ := gd_inv h1
    obtain ⟨r1, μ1, hc, h3⟩ := bnd_inv h2
    rw [List.append_nil] at hc
    obtain ⟨hm, hk⟩ := hK _ _ _ h3
    obtain ⟨hm0, hcon⟩ := hC _ _ _ _ _ hM hc
    refine ⟨mle_tr hm0 hm, fun H locs Ls hR hS hL q1 q2 => ?_⟩
    have hw8 := slr_map (f := cad N0 ro) wf.1.2 gs
    obtain ⟨hf, z1, z2⟩ := room_ok hm0 hm q1 q2 hce hsl
    obtain ⟨b1, b2, b3, b4, b5, b6⟩ := c_base (μ := μ) (μ1 := μ1) cx0 hpw
    have hst : (vs ++ st).map (cv (cad N0 ro) z) = ((vs.reverse).map (cv (cad N0 ro) z)).reverse ++ st.map (cv (cad N0 ro) z) := by simp
    have hrun : va_Run p l e R s m args below meth c H locs (msz μ - z0) (msl μ - y0) (msz μ1 - msz μ) (msl μ1 - msl μ) (F0 m pc Ls ((vs ++ st).map (cv (cad N0 ro) z))) (st.map (cv (cad N0 ro) z)) (Qcn N0 G ro z xs L r1 μ1 ((vs.reverse).map (cv (cad N0 ro) z)).toArray) (fun q => N0 ≤ q) := by
      have hlen2 : ((vs.reverse).map (cv (cad N0 ro) z)).length = n := by simp [hvl]
      split at o3
      · exact va_runS (n := n) (nL := t.2.2.1) ⟨hx, hb, hml, hown, hts⟩ (hcon l) ⟨⟨b1, b2, b3, b4, b5, b6, hts _ k5, hts _ k6, k2, hlen, hts _ (wis_g o3 rfl)⟩, hts _ (wis_g o2 rfl)⟩ ⟨pcn_blind, pre_ok wf hR hS⟩ rfl hlen2 hL.1 hst (lv_room hw8) hd hf
      · exact va_runSN (n := n) (nL := t.2.2.1) ⟨hx, hb, hml, hown, hts⟩ (hcon l) ⟨⟨⟨b1, b2, b3, b4, b5, b6⟩, hts _ k5, hts _ k6, k2, hlen, va_Nw.use rfl (wf.2.2.2.2.2.2.2.1 _ (wis_in o3) rfl)⟩, hts _ (wis_g o2 rfl), trivial⟩ ⟨pcn_blind, pre_ok wf hR hS⟩ rfl hlen2 hL.1 hst (lv_room hw8) hd hf
    refine w_back hrun hS fun H1 locs1 hR1 hS1 => ?_
    have hk2 := hk H1 locs1 Ls hR1 hS1 hL (Nat.le_trans q1 hm0.1) (Nat.le_trans q2 hm0.2)
    rw [z1, z2]
    have e9 : (r1.map (cv (cad N0 ro) z)).toList ++ st.map (cv (cad N0 ro) z) = (r1.toList ++ st).map (cv (cad N0 ro) z) := by
      cases r1 <;> simp
    rw [e9]
    exact hk2
  · cases ok5
theorem s_invokespecial {idx : Nat} (hok : ∀ M, M + 1 < allM.length → ∃ pw, okMT (mt M) pw = true) (hobj : Cond.instanceMethod objectInit ∈ gTbl ∧ Cond.code objectInit ⟨#[0xb1]⟩ 1 none ∈ gTbl) (hC : ∀ M ar μ r1 μ1, M + 1 < allM.length → C M ar μ = some (r1, μ1) → Con N0 G ro z xs L d M ar μ r1 μ1) (cx : Cx p R s m args meth c N0 G ro z xs L t d z0 y0 μ9) (ok : okI t (pc, .invokespecial idx, len, as, ws) = true) (hK : ∀ ls st μ, K ls st μ = some (r, μ9) → Wk p l e R s m args below meth c Q N0 G ro z xs L t.2.2.1 z0 y0 μ9 (pc + len) ls st μ) (hJ : ∀ b ls st μ, J b ls st μ = some (r, μ9) → Wk p l e R s m args below meth c Q N0 G ro z xs L t.2.2.1 z0 y0 μ9 (bpc t b) ls st μ) (h : x1 C J (.invokespecial idx) as ls st μ K = some (r, μ9)) : Wk p l e R s m args below meth c Q N0 G ro z xs L t.2.2.1 z0 y0 μ9 pc ls st μ := by
  have cx0 := cx
  obtain ⟨hx, hb, hml, hown, hts, hmn, wf, hfr, hlo, hce, hsl⟩ := cx
  unfold okI at ok
  dsimp only at ok
  obtain ⟨hd, ok3⟩ := and2 ok
  have hd := of_decide_eq_true hd
  obtain ⟨ok4, ok5⟩ := and2 ok3
  obtain rfl : len = 3 := Nat.eq_of_beq_eq_true ok4
  split at ok5
  · next p1 =>
    obtain ⟨a, st, rfl, h1⟩ := ppR_inv h
    obtain ⟨gs, h2⟩ := gd_inv h1
    obtain ⟨hm, hk⟩ := hK _ _ _ h2
    refine ⟨hm, fun H locs Ls hR hS hL q1 q2 => ?_⟩
    have hw8 := slr_map (f := cad N0 ro) wf.1.2 gs
    exact W.objInit hx hb hown (hts _ (wis_g ok5 rfl)) (hts _ hobj.1) (hts _ hobj.2) rfl (by rw [hml]; exact hL.1) rfl hd (by omega) (by show 2 * 0 + _ + 12 ≤ _; omega) (hk H locs Ls hR hS hL q1 q2)
  · next rk n M cs ns p1 p2 =>
    obtain ⟨ok6, o6⟩ := and2 ok5
    obtain ⟨ok7, o5⟩ := and2 ok6
    obtain ⟨ok8, o4⟩ := and2 ok7
    obtain ⟨ok9, o3⟩ := and2 ok8
    obtain ⟨o1, o2⟩ := and2 ok9
    obtain ⟨hret, hlen, hM⟩ := vk_ret o1
    have hrk := Nat.eq_of_beq_eq_true o2
    subst hrk
    have hret0 : (mt M).2.2.2.1 = none := by
      generalize (mt M).2.2.2.1 = w at hret
      cases w with
      | none => rfl
      | some w => cases hret
    have hnm := of_decide_eq_true o3
    obtain ⟨pw, hpw⟩ := hok M hM
    obtain ⟨k1, k2, k3, k4, k5, k6⟩ := okMT_inv hpw
    obtain ⟨vs, st, hvl, rfl, h1⟩ := ppN_inv _ _ _ h
    obtain ⟨a, st, rfl, h1⟩ := ppR_inv h1
    obtain ⟨g, h2⟩ := gd_inv h1
    obtain ⟨gs, gc⟩ := and2 g
    obtain ⟨r1, μ1, hc, h3⟩ := bnd_inv h2
    rw [List.append_nil] at hc
    obtain ⟨hm, hk⟩ := hK _ _ _ h3
    obtain ⟨hm0, hcon⟩ := hC _ _ _ _ _ hM hc
    refine ⟨mle_tr hm0 hm, fun H locs Ls hR hS hL q1 q2 => ?_⟩
    have hw8 := slr_map (f := cad N0 ro) wf.1.2 gs
    obtain ⟨hf, z1, z2⟩ := room_ok hm0 hm q1 q2 hce hsl
    obtain ⟨b1, b2, b3, b4, b5, b6⟩ := c_base (μ := μ) (μ1 := μ1) cx0 hpw
    have hst : (vs ++ .ref a :: st).map (cv (cad N0 ro) z) = ((vs.reverse).map (cv (cad N0 ro) z)).reverse ++ .ref (cad N0 ro a) :: st.map (cv (cad N0 ro) z) := by simp [cv]
    have hpre : PreS s H (Pcn N0 G ro z xs L (.ref a :: vs.reverse) μ) (.ref (cad N0 ro a) :: (vs.reverse).map (cv (cad N0 ro) z)) := ⟨pcn_blind, pre_ok (ar := .ref a :: vs.reverse) wf hR hS⟩
    have hrun : va_Run p l e R s m args below meth c H locs (msz μ - z0) (msl μ - y0) (msz μ1 - msz μ) (msl μ1 - msl μ) (F0 m pc Ls ((vs ++ .ref a :: st).map (cv (cad N0 ro) z))) (st.map (cv (cad N0 ro) z)) (Qcn N0 G ro z xs L r1 μ1 (Value.ref (cad N0 ro a) :: (vs.reverse).map (cv (cad N0 ro) z)).toArray) (fun q => N0 ≤ q) := by
      have hlen2 : ((vs.reverse).map (cv (cad N0 ro) z)).length = n := by simp [hvl]
      rw [hret0] at b6 k5
      split at o6
      · exact va_runI (n := n) (nL := t.2.2.1) ⟨hx, hb, hml, hown, hts⟩ (hcon l) ⟨⟨b1, b2, b3, b4, b5, b6, hts _ k5, hts _ k6, k2, hlen, hts _ (wis_g o6 rfl)⟩, hnm, hts _ (wis_g o4 rfl)⟩ hpre rfl hlen2 hL.1 hst (lv_room hw8) hd hf
      · exact va_runIN (n := n) (nL := t.2.2.1) ⟨hx, hb, hml, hown, hts⟩ (hcon l) ⟨⟨⟨b1, b2, b3, b4, b5, b6⟩, hts _ k5, hts _ k6, k2, hlen, va_Nw.use rfl (wf.2.2.2.2.2.2.2.1 _ (wis_in o6) rfl)⟩, hnm, hts _ (wis_g o4 rfl)⟩ hpre rfl hlen2 hL.1 hst (lv_room hw8) hd hf
    refine w_back hrun hS fun H1 locs1 hR1 hS1 => ?_
    have hk2 := hk H1 locs1 Ls hR1 hS1 hL (Nat.le_trans q1 hm0.1) (Nat.le_trans q2 hm0.2)
    rw [z1, z2]
    have e9 : (r1.map (cv (cad N0 ro) z)).toList ++ st.map (cv (cad N0 ro) z) = (r1.toList ++ st).map (cv (cad N0 ro) z) := by
      cases r1 <;> simp
    rw [e9]
    exact hk2
  · next rk n M cs p1 p2 p3 p4 p5 =>
    obtain ⟨ok6, o6⟩ := and2 ok5
    obtain ⟨o1, o2⟩ := and2 ok6
    split at o6
    · next o i x hw =>
      obtain ⟨o6, y9⟩ := and2 o6
      obtain ⟨o6, y8⟩ := and2 o6
      obtain ⟨o6, y7⟩ := and2 o6
      obtain ⟨o6, y6⟩ := and2 o6
      obtain ⟨o6, y5⟩ := and2 o6
      obtain ⟨o6, y4⟩ := and2 o6
      obtain ⟨o6, y3⟩ := and2 o6
      obtain ⟨y1, y2⟩ := and2 o6
      have y1 := of_decide_eq_true y1
      have y2 := of_decide_eq_true y2
      have y3 := of_decide_eq_true y3
      have y4 := of_decide_eq_true y4
      have y5 := of_decide_eq_true y5
      subst y1; subst y2
      have hlink := hts (.methodLink t.1.cls i x) (List.mem_filter.mpr ⟨List.mem_of_getElem? hw, rfl⟩)
      obtain ⟨hret, hlen, hM⟩ := vk_ret o1
      obtain ⟨pw, hpw⟩ := hok M hM
      obtain ⟨k1, k2, k3, k4, k5, k6⟩ := okMT_inv hpw
      obtain ⟨vs, st, hvl, rfl, h1⟩ := ppN_inv _ _ _ h
      obtain ⟨a, st, rfl, h1⟩ := ppR_inv h1
      obtain ⟨g, h2⟩ := gd_inv h1
      obtain ⟨gs, gc⟩ := and2 g
      have h13 : shp μ a < 13 := by have := Nat.le_of_ble_eq_true (List.all_eq_true.mp o2 _ (cin_mem gc)); omega
      obtain ⟨r1, μ1, hc, h3⟩ := bnd_inv h2
      rw [List.append_nil] at hc
      obtain ⟨hm, hk⟩ := hK _ _ _ h3
      obtain ⟨hm0, hcon⟩ := hC _ _ _ _ _ hM hc
      refine ⟨mle_tr hm0 hm, fun H locs Ls hR hS hL q1 q2 => ?_⟩
      have hw8 := slr_map (f := cad N0 ro) wf.1.2 gs
      obtain ⟨hf, z1, z2⟩ := room_ok hm0 hm q1 q2 hce hsl
      obtain ⟨b1, b2, b3, b4, b5, b6⟩ := c_base (μ := μ) (μ1 := μ1) cx0 hpw
      have hst : (vs ++ .ref a :: st).map (cv (cad N0 ro) z) = ((vs.reverse).map (cv (cad N0 ro) z)).reverse ++ .ref (cad N0 ro a) :: st.map (cv (cad N0 ro) z) := by simp [cv]
      obtain ⟨cellV, c1, c2, c3, c4⟩ := ob_cell wf hR h13
      obtain ⟨-, kC, hkC, -⟩ := c4
      have hrun : va_Run p l e R s m args below meth c H locs (msz μ - z0) (msl μ - y0) (msz μ1 - msz μ) (msl μ1 - msl μ) (F0 m pc Ls ((vs ++ .ref a :: st).map (cv (cad N0 ro) z))) (st.map (cv (cad N0 ro) z)) (Qcn N0 G ro z xs L r1 μ1 (Value.ref (cad N0 ro a) :: (vs.reverse).map (cv (cad N0 ro) z)).toArray) (fun q => N0 ≤ q) := by
        have hlen2 : ((vs.reverse).map (cv (cad N0 ro) z)).length = n := by simp [hvl]
        have hBK : Back l R p e below s args (mt M).1 3 8 (PreOf R (msz μ1 - msz μ) (msl μ1 - msl μ) (Pcn N0 G ro z xs L (.ref a :: vs.reverse) μ)) (PostOf (Qcn N0 G ro z xs L r1 μ1) (msz μ1 - msz μ) (msl μ1 - msl μ) (fun q => N0 ≤ q)) := back_of (bytes := (mt M).2.1) (maxL := (mt M).2.2.1) (ret := (mt M).2.2.2.1) (hcon l) pcn_blind b1 b2 b3 b4 b5 b6 (fun a' U hW => word_at hW (Or.inl (by first | rfl | simp [Cond.onTables, Cond.keeps, Cond.steady])) (hts _ k6))
        intro T hT X
        obtain ⟨v, vm₁, ⟨U', l2, c2', s2⟩, hW₁, X', ⟨g', mk, t', L1, e1, e2, hq, h1', hL1, h2', h3'⟩, st'⟩ := ex_callSU X hx (x := x) (y := (mt M).1) (bytes := (mt M).2.1) (maxL := (mt M).2.2.1) (ret := (mt M).2.2.2.1) hown hlink (by rw [y3, y4]) (hts _ (wis_g y6 rfl)) (hts _ (wis_g y7 rfl)) (by
            rcases Bool.or_eq_true_iff.mp y9 with y9 | y9
            · exact Or.inl (of_decide_eq_true y9)
            · exact Or.inr (hts _ (wis_g y9 rfl))) (hts _ (wis_g y8 rfl)) (hts _ k5) y5 hBK (b := cad N0 ro a) (by rw [hT]; exact c1) (by rw [c2]; rfl) hkC (g := F0 m pc Ls ((vs ++ .ref a :: st).map (cv (cad N0 ro) z))) rfl (hL.1.trans hml.symm) (argsL := (vs.reverse).map (cv (cad N0 ro) z)) (rest := st.map (cv (cad N0 ro) z)) (fun sig hs => hlen2.trans (hlen sig hs)) hst (lv_room hw8) (by rw [hb]; exact hd)
          (fun vm₁ hW₁ => ⟨hf.1, hf.2, pre_ok (ar := .ref a :: vs.reverse) wf hR hS (T.setVm vm₁) hT hW₁⟩)
        dsimp only [Pt.U, Pt.locs, Pt.cells, Pt.slots] at X' e1 e2 h1' h2' h3' st'
        subst h1'; subst h2'; subst h3'
        exact ⟨v, (T.setVm vm₁).calling g' mk (Value.ref (cad N0 ro a) :: (vs.reverse).map (cv (cad N0 ro) z)).toArray, t', U', L1, hT, X', hL1, e1, e2, hq, st'⟩
      refine w_back hrun hS fun H1 locs1 hR1 hS1 => ?_
      have hk2 := hk H1 locs1 Ls hR1 hS1 hL (Nat.le_trans q1 hm0.1) (Nat.le_trans q2 hm0.2)
      rw [z1, z2]
      have e9 : (r1.map (cv (cad N0 ro) z)).toList ++ st.map (cv (cad N0 ro) z) = (r1.toList ++ st).map (cv (cad N0 ro) z) := by
        cases r1 <;> simp
      rw [e9]
      exact hk2
    · cases o6
  · cases ok5
theorem s_invokevirtual {idx : Nat} (hok : ∀ M, M + 1 < allM.length → ∃ pw, okMT (mt M) pw = true) (hC : ∀ M ar μ r1 μ1, M + 1 < allM.length → C M ar μ = some (r1, μ1) → Con N0 G ro z xs L d M ar μ r1 μ1) (cx : Cx p R s m args meth c N0 G ro z xs L t d z0 y0 μ9) (ok : okI t (pc, .invokevirtual idx, len, as, ws) = true) (hK : ∀ ls st μ, K ls st μ = some (r, μ9) → Wk p l e R s m args below meth c Q N0 G ro z xs L t.2.2.1 z0 y0 μ9 (pc + len) ls st μ) (hJ : ∀ b ls st μ, J b ls st μ = some (r, μ9) → Wk p l e R s m args below meth c Q N0 G ro z xs L t.2.2.1 z0 y0 μ9 (bpc t b) ls st μ) (h : x1 C J (.invokevirtual idx) as ls st μ K = some (r, μ9)) : Wk p l e R s m args below meth c Q N0 G ro z xs L t.2.2.1 z0 y0 μ9 pc ls st μ := by
  have cx0 := cx
  obtain ⟨hx, hb, hml, hown, hts, hmn, wf, hfr, hlo, hce, hsl⟩ := cx
  unfold okI at ok
  dsimp only at ok
  obtain ⟨hd, ok3⟩ := and2 ok
  have hd := of_decide_eq_true hd
  obtain ⟨ok4, ok5⟩ := and2 ok3
  obtain rfl : len = 3 := Nat.eq_of_beq_eq_true ok4
  split at ok5
  · next rk n cs pl ps =>
    obtain ⟨o1, o6⟩ := and2 ok5
    split at o6
    · next o i x hw =>
      obtain ⟨o6, y5⟩ := and2 o6
      obtain ⟨o6, y4⟩ := and2 o6
      obtain ⟨o6, y3⟩ := and2 o6
      obtain ⟨y1, y2⟩ := and2 o6
      have y1 := of_decide_eq_true y1
      have y2 := of_decide_eq_true y2
      have y3 := of_decide_eq_true y3
      have y4 := of_decide_eq_true y4
      subst y1; subst y2
      have hlink := hts (.methodLink t.1.cls i x) (List.mem_filter.mpr ⟨List.mem_of_getElem? hw, rfl⟩)
      obtain ⟨vs, st, hvl, rfl, h1⟩ := ppN_inv _ _ _ h
      obtain ⟨a, st, rfl, h1⟩ := ppR_inv h1
      obtain ⟨gs, h2⟩ := gd_inv h1
      obtain ⟨M, h3, hMm, hrow⟩ := okD_inv _ _ y5 h2
      obtain ⟨hret, hlen, hM⟩ := vk_ret (List.all_eq_true.mp o1 _ hMm)
      obtain ⟨pw, hpw⟩ := hok M hM
      obtain ⟨k1, k2, k3, k4, k5, k6⟩ := okMT_inv hpw
      obtain ⟨r1, μ1, hc, h4⟩ := bnd_inv h3
      rw [List.append_nil] at hc
      obtain ⟨hm, hk⟩ := hK _ _ _ h4
      obtain ⟨hm0, hcon⟩ := hC _ _ _ _ _ hM hc
      refine ⟨mle_tr hm0 hm, fun H locs Ls hR hS hL q1 q2 => ?_⟩
      have hw8 := slr_map (f := cad N0 ro) wf.1.2 gs
      obtain ⟨hf, z1, z2⟩ := room_ok hm0 hm q1 q2 hce hsl
      obtain ⟨b1, b2, b3, b4, b5, b6⟩ := c_base (μ := μ) (μ1 := μ1) cx0 hpw
      have hst : (vs ++ .ref a :: st).map (cv (cad N0 ro) z) = ((vs.reverse).map (cv (cad N0 ro) z)).reverse ++ .ref (cad N0 ro a) :: st.map (cv (cad N0 ro) z) := by simp [cv]
      have hlen2 : ((vs.reverse).map (cv (cad N0 ro) z)).length = n := by simp [hvl]
      have hrun : va_Run p l e R s m args below meth c H locs (msz μ - z0) (msl μ - y0) (msz μ1 - msz μ) (msl μ1 - msl μ) (F0 m pc Ls ((vs ++ .ref a :: st).map (cv (cad N0 ro) z))) (st.map (cv (cad N0 ro) z)) (Qcn N0 G ro z xs L r1 μ1 (Value.ref (cad N0 ro a) :: (vs.reverse).map (cv (cad N0 ro) z)).toArray) (fun q => N0 ≤ q) := by
        rcases hrow with ⟨w0, w1, w2, w3, w4, w5⟩ | ⟨h13, Mo, w1, w2, w3, w4, w5, w6, w7, w8, w9⟩
        · rw [w1] at hlink w2 w3
          have hcl : ∃ cell : Cell, H[cad N0 ro a]? = some cell ∧ cell.vm.isStatics = false ∧ s.vm.findClass (match shp μ a with | 30 => "java/lang/String" | _ => clN (shp μ a)) = some cell.cls := by
            by_cases h30 : shp μ a = 30
            · rw [h30]
              obtain ⟨r1, r2⟩ := ro_at hR h30 (by omega) (by omega)
              have ha : a < 13 := by
                unfold roK at r2
                split at r2
                · assumption
                · split at r2
                  · omega
                  · split at r2 <;> omega
              obtain ⟨aK, aV, e1, e2, e3⟩ := wf.2.2.2.1 a ha
              have e5 : cad N0 ro a = aK 0 := by unfold cad; rw [if_pos r1, e1]
              rw [e5]
              exact vk_recv e3 (by decide) hS
            · have h13 : shp μ a < 13 := w0.elim id (fun q => absurd q h30)
              obtain ⟨cellV, c1, c2, c3, c4⟩ := ob_cell wf hR h13
              refine ⟨cellV, c1, by rw [c2]; rfl, ?_⟩
              split
              · next q => exact absurd q h30
              · exact c3
          exact va_runV (n := n) (nL := t.2.2.1) ⟨hx, hb, hml, hown, hts⟩ (hcon l) ⟨⟨b1, b2, b3, b4, b5, b6, hts _ k5, hts _ k6, k2, hlen, hlink⟩, hts _ w2, hts _ w3⟩ ⟨pcn_blind, hcl, pre_ok (ar := .ref a :: vs.reverse) wf hR hS⟩ rfl hlen2 hL.1 hst (lv_room hw8) hd hf
        · obtain ⟨pw2, hpw2⟩ := hok Mo w8
          obtain ⟨j1, j2, j3, j4, j5, j6⟩ := okMT_inv hpw2
          obtain ⟨cellV, c1, c2, c3, c4⟩ := ob_cell wf hR h13
          have hdecl : va_Decl s ⟨(mt Mo).1.cls, x.name, x.desc⟩ := by
            rw [w1, w2]
            exact va_Decl.of (hts _ w9) (hts _ j5)
          exact va_runU (n := n) (nL := t.2.2.1) ⟨hx, hb, hml, hown, hts⟩ (hcon l) ⟨⟨b1, b2, b3, b4, b5, b6⟩, hts _ k5, hts _ k6, j2, fun sig hs => by
            rw [hs] at w7
            cases hp : parseMethodDescriptor (mt M).1.desc with
            | none => rw [hp] at w7; cases w7
            | some sg =>
              rw [hp] at w7
              rw [hlen _ hp]
              exact (Option.some.inj w7).symm, hlink, hts _ w6, hdecl, hts _ w4, hts _ w3⟩ ⟨pcn_blind, ⟨cellV, c1, by rw [c2]; rfl, c3⟩, pre_ok (ar := .ref a :: vs.reverse) wf hR hS⟩ rfl hlen2 hL.1 hst (lv_room hw8) hd hf
      refine w_back hrun hS fun H1 locs1 hR1 hS1 => ?_
      have hk2 := hk H1 locs1 Ls hR1 hS1 hL (Nat.le_trans q1 hm0.1) (Nat.le_trans q2 hm0.2)
      rw [z1, z2]
      have e9 : (r1.map (cv (cad N0 ro) z)).toList ++ st.map (cv (cad N0 ro) z) = (r1.toList ++ st).map (cv (cad N0 ro) z) := by
        cases r1 <;> simp
      rw [e9]
      exact hk2
    · cases o6
  · cases ok5
end CALL2
end
section
/-! SWITCHES, RETURNS; A BLOCK, A METHOD -/
theorem ofInt_eq {x : Int32} {k : Int} (h1 : -1000 ≤ k) (h2 : k ≤ 1000) : x = Int32.ofInt k ↔ x.toInt = k := by
  have e : (Int32.ofInt k).toInt = k := Int32.toInt_ofInt_of_le (by simp [Int32.minValue]; omega) (by simp [Int32.maxValue]; omega)
  constructor
  · intro h
    rw [h, e]
  · intro h
    apply Int32.toInt_inj.mp
    rw [h, e]
theorem sw_inv {d : Nat} {x : Int32} {k : Nat → Rs} {y : Option Value × MM} : ∀ (bs : List Nat) (lo : Int), -1000 ≤ lo → lo + (bs.length : Int) - 1 ≤ 1000 → sw lo bs d x k = some y → (k d = some y ∧ (x.toInt < lo ∨ lo + (bs.length : Int) - 1 < x.toInt)) ∨ ∃ (j b : Nat), bs[j]? = some b ∧ k b = some y ∧ x.toInt = lo + j
  | [], lo, h1, h2, h => Or.inl ⟨h, by simp; omega⟩
  | b :: bs, lo, h1, h2, h => by
    unfold sw at h
    simp only [List.length_cons] at h2
    split at h
    · next hx => exact Or.inr ⟨0, b, rfl, h, by rw [(ofInt_eq h1 (by omega)).mp hx]; simp⟩
    · next hx =>
      have hx : ¬ x.toInt = lo := fun q => hx ((ofInt_eq h1 (by omega)).mpr q)
      rcases sw_inv bs (lo + 1) (by omega) (by omega) h with ⟨g1, g2⟩ | ⟨j, b', g1, g2, g3⟩
      · refine Or.inl ⟨g1, ?_⟩
        simp only [List.length_cons]
        omega
      · exact Or.inr ⟨j + 1, b', g1, g2, by omega⟩
theorem lsw_inv {t : MT} {pc d : Nat} {dflt : Int} {x : Int32} {k : Nat → Rs} {y : Option Value × MM} (hd : (pc : Int) + dflt = (bpc t d : Int)) : ∀ (ps : List (Int × Int)) (bs : List Nat), bs.map (fun b => (bpc t b : Int) - (pc : Int)) = ps.map (fun q => q.2) → (∀ q ∈ ps, -1000 ≤ q.1 ∧ q.1 ≤ 1000) → lsw ps bs d x k = some y → ∃ b, k b = some y ∧ (pc : Int) + Op.lookupswitch.offset ps dflt x.toInt = (bpc t b : Int)
  | [], [], h1, h2, h => ⟨d, h, by rw [Op.lookupswitch.offset_nil]; exact hd⟩
  | [], b :: bs, h1, h2, h => by simp at h1
  | p :: ps, [], h1, h2, h => by simp at h1
  | p :: ps, b :: bs, h1, h2, h => by
    unfold lsw at h
    obtain ⟨a, o⟩ := p
    rw [List.map_cons, List.map_cons, List.cons.injEq] at h1
    obtain ⟨g1, g2⟩ := h2 (a, o) List.mem_cons_self
    rw [Op.lookupswitch.offset_cons]
    split at h
    · next hx =>
      have := (ofInt_eq g1 g2).mp hx
      rw [if_pos this.symm]
      refine ⟨b, h, ?_⟩
      have := h1.1
      simp only at this
      omega
    · next hx =>
      rw [if_neg (fun q => hx ((ofInt_eq g1 g2).mpr q.symm))]
      exact lsw_inv hd ps bs h1.2 (fun q hq => h2 q (List.mem_cons_of_mem _ hq)) h
def retOK (t : MT) (i : Instr) (r : Option Value) : Prop := match i with
  | .ireturn => ∃ x ty, r = some (.int x) ∧ t.2.2.2.1 = some ty ∧ narrow ty (.int x) = .int x
  | .lreturn => ∃ x, r = some (.long x) ∧ t.2.2.2.1 = some .long
  | .areturn => (r = some .null ∨ ∃ a, r = some (.ref a)) ∧ nrR 3 t.2.2.2.1 = true
  | .return_ => r = none ∧ t.2.2.2.1 = none
  | _ => False
section SIM6
variable {p : Program} {l : Launch} {e : Env} {R : Room} {s : State} {m : MethodId} {args : Array Value} {below : List Frame} {meth : Method} {c : Code} {Q : State → Prop}
variable {N0 : Nat} {G : GG} {ro : Nat → Nat} {z : Value} {xs : Nat → Int32} {L : Nat} {t : MT} {z0 y0 d : Nat} {r : Option Value} {μ9 : MM}
variable {C : Nat → List Value → MM → Rs} {J : Nat → LV → List Value → MM → Rs} {K : LV → List Value → MM → Rs} {pc len : Nat} {as ws : List Nat} {ls : LV} {st : List Value} {μ : MM}
theorem s_tableswitch {dd lo hi : Int} {offs : Array Int} (cx : Cx p R s m args meth c N0 G ro z xs L t d z0 y0 μ9) (ok : okI t (pc, .tableswitch dd lo hi offs, len, as, ws) = true) (hK : ∀ ls st μ, K ls st μ = some (r, μ9) → Wk p l e R s m args below meth c Q N0 G ro z xs L t.2.2.1 z0 y0 μ9 (pc + len) ls st μ) (hJ : ∀ b ls st μ, J b ls st μ = some (r, μ9) → Wk p l e R s m args below meth c Q N0 G ro z xs L t.2.2.1 z0 y0 μ9 (bpc t b) ls st μ) (h : x1 C J (.tableswitch dd lo hi offs) as ls st μ K = some (r, μ9)) : Wk p l e R s m args below meth c Q N0 G ro z xs L t.2.2.1 z0 y0 μ9 pc ls st μ := by
  obtain ⟨hx, hb, hml, hown, hts, hmn, wf, hfr, hlo, hce, hsl⟩ := cx
  unfold okI at ok
  dsimp only at ok
  obtain ⟨hd, ok3⟩ := and2 ok
  have hd := of_decide_eq_true hd
  split at ok3
  · next b0 bs =>
    obtain ⟨ok3, o5⟩ := and2 ok3
    obtain ⟨ok3, o4⟩ := and2 ok3
    obtain ⟨ok3, o3⟩ := and2 ok3
    obtain ⟨o1, o2⟩ := and2 ok3
    have o1 := of_decide_eq_true o1
    have o2 := of_decide_eq_true o2
    have o3 := of_decide_eq_true o3
    have o4 := of_decide_eq_true o4
    have o5 := of_decide_eq_true o5
    obtain ⟨x, st, rfl, h1⟩ := ppI_inv h
    rcases sw_inv bs lo o4 (by omega) h1 with ⟨h2, h3⟩ | ⟨j, b, h2, h3, h4⟩
    · obtain ⟨hm, hk⟩ := hJ _ _ _ _ h2
      exact ⟨hm, fun H locs Ls hR hS hL g1 g2 => lv_tableOut hx hb hd (by omega) o1 (hk H locs Ls hR hS hL g1 g2)⟩
    · obtain ⟨hm, hk⟩ := hJ _ _ _ _ h3
      have hj : j < bs.length := (List.getElem?_eq_some_iff.mp h2).1
      refine ⟨hm, fun H locs Ls hR hS hL g1 g2 => lv_tableIn (off := (bpc t b : Int) - (pc : Int)) hx hb hd (by omega) (by omega) ?_ (by omega) (hk H locs Ls hR hS hL g1 g2)⟩
      rw [h4, show (lo + (j : Int) - lo).toNat = j by omega, ← Array.getElem?_toList, ← o2, List.getElem?_map, h2]
      rfl
  · cases ok3
theorem s_lookupswitch {dd : Int} {ps : Array (Int × Int)} (cx : Cx p R s m args meth c N0 G ro z xs L t d z0 y0 μ9) (ok : okI t (pc, .lookupswitch dd ps, len, as, ws) = true) (hK : ∀ ls st μ, K ls st μ = some (r, μ9) → Wk p l e R s m args below meth c Q N0 G ro z xs L t.2.2.1 z0 y0 μ9 (pc + len) ls st μ) (hJ : ∀ b ls st μ, J b ls st μ = some (r, μ9) → Wk p l e R s m args below meth c Q N0 G ro z xs L t.2.2.1 z0 y0 μ9 (bpc t b) ls st μ) (h : x1 C J (.lookupswitch dd ps) as ls st μ K = some (r, μ9)) : Wk p l e R s m args below meth c Q N0 G ro z xs L t.2.2.1 z0 y0 μ9 pc ls st μ := by
  obtain ⟨hx, hb, hml, hown, hts, hmn, wf, hfr, hlo, hce, hsl⟩ := cx
  unfold okI at ok
  dsimp only at ok
  obtain ⟨hd, ok3⟩ := and2 ok
  have hd := of_decide_eq_true hd
  split at ok3
  · next b0 bs =>
    obtain ⟨ok3, o4⟩ := and2 ok3
    obtain ⟨ok3, o3⟩ := and2 ok3
    obtain ⟨o1, o2⟩ := and2 ok3
    have o1 := of_decide_eq_true o1
    have o2 := of_decide_eq_true o2
    obtain ⟨x, st, rfl, h1⟩ := ppI_inv h
    obtain ⟨b, h2, h3⟩ := lsw_inv o1 ps.toList bs o2 (fun q hq => by
      have := List.all_eq_true.mp o4 q hq
      obtain ⟨w1, w2⟩ := and2 this
      exact ⟨of_decide_eq_true w1, of_decide_eq_true w2⟩) h1
    obtain ⟨hm, hk⟩ := hJ _ _ _ _ h2
    exact ⟨hm, fun H locs Ls hR hS hL g1 g2 => lv_lookup hx hb hd o3 rfl h3 (hk H locs Ls hR hS hL g1 g2)⟩
  · cases ok3
theorem s_ireturn (hret : ∀ (pc : Nat) (i : Instr) (H : Heap) (locs : List Loc) (Ls : Array Slot), decode t.2.1 pc = .ok (i, 1) → retOK t i r → Rep N0 G ro xs L μ9 H → va_S (fun q => N0 ≤ q) s.heap H locs → W p l e R s m args below meth c H locs (msz μ9 - z0) (msl μ9 - y0) Q (F0 m pc Ls ((r.map (cv (cad N0 ro) z)).toList))) (cx : Cx p R s m args meth c N0 G ro z xs L t d z0 y0 μ9) (ok : okI t (pc, .ireturn, len, as, ws) = true) (hK : ∀ ls st μ, K ls st μ = some (r, μ9) → Wk p l e R s m args below meth c Q N0 G ro z xs L t.2.2.1 z0 y0 μ9 (pc + len) ls st μ) (hJ : ∀ b ls st μ, J b ls st μ = some (r, μ9) → Wk p l e R s m args below meth c Q N0 G ro z xs L t.2.2.1 z0 y0 μ9 (bpc t b) ls st μ) (h : x1 C J (.ireturn) as ls st μ K = some (r, μ9)) : Wk p l e R s m args below meth c Q N0 G ro z xs L t.2.2.1 z0 y0 μ9 pc ls st μ := by
  unfold okI at ok
  dsimp only at ok
  obtain ⟨hd, ok3⟩ := and2 ok
  have hd := of_decide_eq_true hd
  obtain ⟨ok4, ok5⟩ := and2 ok3
  obtain rfl : len = 1 := Nat.eq_of_beq_eq_true ok4
  obtain ⟨v, rfl⟩ : ∃ v, st = [v] := by
    rcases st with _ | ⟨v, _ | ⟨w, st⟩⟩ <;> first | exact ⟨_, rfl⟩ | cases h
  obtain ⟨x, rfl, h1⟩ := asI_inv h
  have key : (r = some (.int x) ∧ μ9 = μ) ∧ ∃ ty, t.2.2.2.1 = some ty ∧ narrow ty (.int x) = .int x := by
    generalize t.2.2.2.1 = w at ok5
    split at ok5
    · cases h1
      exact ⟨⟨rfl, rfl⟩, _, rfl, rfl⟩
    · obtain ⟨h2, h3⟩ := gd_inv h1
      cases h3
      exact ⟨⟨rfl, rfl⟩, _, rfl, (bool_num h2).1⟩
    · obtain ⟨h2, h3⟩ := gd_inv h1
      cases h3
      have h2 := of_decide_eq_true h2
      exact ⟨⟨rfl, rfl⟩, _, rfl, by show Value.int x.toInt8.toInt32 = _; rw [h2]⟩
    · obtain ⟨h2, h3⟩ := gd_inv h1
      cases h3
      have h2 := of_decide_eq_true h2
      exact ⟨⟨rfl, rfl⟩, _, rfl, by show Value.int x.toUInt32.toUInt16.toUInt32.toInt32 = _; rw [h2]⟩
    · cases ok5
  obtain ⟨⟨rfl, rfl⟩, ty, k1, k2⟩ := key
  exact ⟨mle_rf, fun H locs Ls hR hS hL g1 g2 => hret pc .ireturn H locs Ls hd ⟨x, ty, rfl, k1, k2⟩ hR hS⟩
theorem s_lreturn (hret : ∀ (pc : Nat) (i : Instr) (H : Heap) (locs : List Loc) (Ls : Array Slot), decode t.2.1 pc = .ok (i, 1) → retOK t i r → Rep N0 G ro xs L μ9 H → va_S (fun q => N0 ≤ q) s.heap H locs → W p l e R s m args below meth c H locs (msz μ9 - z0) (msl μ9 - y0) Q (F0 m pc Ls ((r.map (cv (cad N0 ro) z)).toList))) (cx : Cx p R s m args meth c N0 G ro z xs L t d z0 y0 μ9) (ok : okI t (pc, .lreturn, len, as, ws) = true) (hK : ∀ ls st μ, K ls st μ = some (r, μ9) → Wk p l e R s m args below meth c Q N0 G ro z xs L t.2.2.1 z0 y0 μ9 (pc + len) ls st μ) (hJ : ∀ b ls st μ, J b ls st μ = some (r, μ9) → Wk p l e R s m args below meth c Q N0 G ro z xs L t.2.2.1 z0 y0 μ9 (bpc t b) ls st μ) (h : x1 C J (.lreturn) as ls st μ K = some (r, μ9)) : Wk p l e R s m args below meth c Q N0 G ro z xs L t.2.2.1 z0 y0 μ9 pc ls st μ := by
  unfold okI at ok
  dsimp only at ok
  obtain ⟨hd, ok3⟩ := and2 ok
  have hd := of_decide_eq_true hd
  obtain ⟨ok4, ok5⟩ := and2 ok3
  obtain rfl : len = 1 := Nat.eq_of_beq_eq_true ok4
  obtain ⟨v, rfl⟩ : ∃ v, st = [v] := by
    rcases st with _ | ⟨v, _ | ⟨w, st⟩⟩ <;> first | exact ⟨_, rfl⟩ | cases h
  obtain ⟨x, rfl, h1⟩ := asL_inv h
  cases h1
  exact ⟨mle_rf, fun H locs Ls hR hS hL g1 g2 => hret pc .lreturn H locs Ls hd ⟨x, rfl, of_decide_eq_true ok5⟩ hR hS⟩
theorem s_areturn (hret : ∀ (pc : Nat) (i : Instr) (H : Heap) (locs : List Loc) (Ls : Array Slot), decode t.2.1 pc = .ok (i, 1) → retOK t i r → Rep N0 G ro xs L μ9 H → va_S (fun q => N0 ≤ q) s.heap H locs → W p l e R s m args below meth c H locs (msz μ9 - z0) (msl μ9 - y0) Q (F0 m pc Ls ((r.map (cv (cad N0 ro) z)).toList))) (cx : Cx p R s m args meth c N0 G ro z xs L t d z0 y0 μ9) (ok : okI t (pc, .areturn, len, as, ws) = true) (hK : ∀ ls st μ, K ls st μ = some (r, μ9) → Wk p l e R s m args below meth c Q N0 G ro z xs L t.2.2.1 z0 y0 μ9 (pc + len) ls st μ) (hJ : ∀ b ls st μ, J b ls st μ = some (r, μ9) → Wk p l e R s m args below meth c Q N0 G ro z xs L t.2.2.1 z0 y0 μ9 (bpc t b) ls st μ) (h : x1 C J (.areturn) as ls st μ K = some (r, μ9)) : Wk p l e R s m args below meth c Q N0 G ro z xs L t.2.2.1 z0 y0 μ9 pc ls st μ := by
  unfold okI at ok
  dsimp only at ok
  obtain ⟨hd, ok3⟩ := and2 ok
  have hd := of_decide_eq_true hd
  obtain ⟨ok4, ok5⟩ := and2 ok3
  obtain rfl : len = 1 := Nat.eq_of_beq_eq_true ok4
  obtain ⟨v, rfl⟩ : ∃ v, st = [v] := by
    rcases st with _ | ⟨v, _ | ⟨w, st⟩⟩ <;> first | exact ⟨_, rfl⟩ | cases h
  rcases asN_inv h with ⟨rfl, h1⟩ | ⟨x, rfl, h1⟩
  · cases h1
    exact ⟨mle_rf, fun H locs Ls hR hS hL g1 g2 => hret pc .areturn H locs Ls hd ⟨Or.inl rfl, ok5⟩ hR hS⟩
  · cases h1
    exact ⟨mle_rf, fun H locs Ls hR hS hL g1 g2 => hret pc .areturn H locs Ls hd ⟨Or.inr ⟨_, rfl⟩, ok5⟩ hR hS⟩
theorem s_return (hret : ∀ (pc : Nat) (i : Instr) (H : Heap) (locs : List Loc) (Ls : Array Slot), decode t.2.1 pc = .ok (i, 1) → retOK t i r → Rep N0 G ro xs L μ9 H → va_S (fun q => N0 ≤ q) s.heap H locs → W p l e R s m args below meth c H locs (msz μ9 - z0) (msl μ9 - y0) Q (F0 m pc Ls ((r.map (cv (cad N0 ro) z)).toList))) (cx : Cx p R s m args meth c N0 G ro z xs L t d z0 y0 μ9) (ok : okI t (pc, .return_, len, as, ws) = true) (hK : ∀ ls st μ, K ls st μ = some (r, μ9) → Wk p l e R s m args below meth c Q N0 G ro z xs L t.2.2.1 z0 y0 μ9 (pc + len) ls st μ) (hJ : ∀ b ls st μ, J b ls st μ = some (r, μ9) → Wk p l e R s m args below meth c Q N0 G ro z xs L t.2.2.1 z0 y0 μ9 (bpc t b) ls st μ) (h : x1 C J (.return_) as ls st μ K = some (r, μ9)) : Wk p l e R s m args below meth c Q N0 G ro z xs L t.2.2.1 z0 y0 μ9 pc ls st μ := by
  unfold okI at ok
  dsimp only at ok
  obtain ⟨hd, ok3⟩ := and2 ok
  have hd := of_decide_eq_true hd
  obtain ⟨ok4, ok5⟩ := and2 ok3
  obtain rfl : len = 1 := Nat.eq_of_beq_eq_true ok4
  obtain rfl : st = [] := by
    rcases st with _ | ⟨v, st⟩ <;> first | rfl | cases h
  cases h
  exact ⟨mle_rf, fun H locs Ls hR hS hL g1 g2 => hret pc .return_ H locs Ls hd ⟨rfl, of_decide_eq_true ok5⟩ hR hS⟩
/-- any instruction -/
theorem sim1 {i : Instr} (hok : ∀ M, M + 1 < allM.length → ∃ pw, okMT (mt M) pw = true) (hobj : Cond.instanceMethod objectInit ∈ gTbl ∧ Cond.code objectInit ⟨#[0xb1]⟩ 1 none ∈ gTbl) (hC : ∀ M ar μ r1 μ1, M + 1 < allM.length → C M ar μ = some (r1, μ1) → Con N0 G ro z xs L d M ar μ r1 μ1)
    (hret : ∀ (pc : Nat) (i : Instr) (H : Heap) (locs : List Loc) (Ls : Array Slot), decode t.2.1 pc = .ok (i, 1) → retOK t i r → Rep N0 G ro xs L μ9 H → va_S (fun q => N0 ≤ q) s.heap H locs → W p l e R s m args below meth c H locs (msz μ9 - z0) (msl μ9 - y0) Q (F0 m pc Ls ((r.map (cv (cad N0 ro) z)).toList)))
    (cx : Cx p R s m args meth c N0 G ro z xs L t d z0 y0 μ9) (ok : okI t (pc, i, len, as, ws) = true) (hK : ∀ ls st μ, K ls st μ = some (r, μ9) → Wk p l e R s m args below meth c Q N0 G ro z xs L t.2.2.1 z0 y0 μ9 (pc + len) ls st μ) (hJ : ∀ b ls st μ, J b ls st μ = some (r, μ9) → Wk p l e R s m args below meth c Q N0 G ro z xs L t.2.2.1 z0 y0 μ9 (bpc t b) ls st μ) (h : x1 C J i as ls st μ K = some (r, μ9)) : Wk p l e R s m args below meth c Q N0 G ro z xs L t.2.2.1 z0 y0 μ9 pc ls st μ := by
  cases i with
  | aconst_null => exact s_aconst_null  cx ok hK hJ h
  | iadd => exact s_iadd  cx ok hK hJ h
  | isub => exact s_isub  cx ok hK hJ h
  | imul => exact s_imul  cx ok hK hJ h
  | iand => exact s_iand  cx ok hK hJ h
  | ior => exact s_ior  cx ok hK hJ h
  | ixor => exact s_ixor  cx ok hK hJ h
  | ishl => exact s_ishl  cx ok hK hJ h
  | ishr => exact s_ishr  cx ok hK hJ h
  | ladd => exact s_ladd  cx ok hK hJ h
  | lsub => exact s_lsub  cx ok hK hJ h
  | lmul => exact s_lmul  cx ok hK hJ h
  | land => exact s_land  cx ok hK hJ h
  | idiv => exact s_idiv  cx ok hK hJ h
  | irem => exact s_irem  cx ok hK hJ h
  | ldiv => exact s_ldiv  cx ok hK hJ h
  | lrem => exact s_lrem  cx ok hK hJ h
  | ineg => exact s_ineg  cx ok hK hJ h
  | i2l => exact s_i2l  cx ok hK hJ h
  | i2b => exact s_i2b  cx ok hK hJ h
  | i2c => exact s_i2c  cx ok hK hJ h
  | lneg => exact s_lneg  cx ok hK hJ h
  | lshl => exact s_lshl  cx ok hK hJ h
  | lshr => exact s_lshr  cx ok hK hJ h
  | lcmp => exact s_lcmp  cx ok hK hJ h
  | dup => exact s_dup  cx ok hK hJ h
  | pop => exact s_pop  cx ok hK hJ h
  | dup2 => exact s_dup2  cx ok hK hJ h
  | arraylength => exact s_arraylength  cx ok hK hJ h
  | iaload => exact s_iaload  cx ok hK hJ h
  | baload => exact s_baload  cx ok hK hJ h
  | laload => exact s_laload  cx ok hK hJ h
  | aaload => exact s_aaload  cx ok hK hJ h
  | iastore => exact s_iastore  cx ok hK hJ h
  | lastore => exact s_lastore  cx ok hK hJ h
  | bastore => exact s_bastore  cx ok hK hJ h
  | aastore => exact s_aastore  cx ok hK hJ h
  | iconst n => exact s_iconst  cx ok hK hJ h
  | bipush n => exact s_bipush  cx ok hK hJ h
  | sipush n => exact s_sipush  cx ok hK hJ h
  | lconst n => exact s_lconst  cx ok hK hJ h
  | iload n => exact s_iload  cx ok hK hJ h
  | lload n => exact s_lload  cx ok hK hJ h
  | iload_n n => exact s_iload_n  cx ok hK hJ h
  | lload_n n => exact s_lload_n  cx ok hK hJ h
  | aload n => exact s_aload  cx ok hK hJ h
  | aload_n n => exact s_aload_n  cx ok hK hJ h
  | istore n => exact s_istore  cx ok hK hJ h
  | istore_n n => exact s_istore_n  cx ok hK hJ h
  | lstore n => exact s_lstore  cx ok hK hJ h
  | lstore_n n => exact s_lstore_n  cx ok hK hJ h
  | astore n => exact s_astore  cx ok hK hJ h
  | astore_n n => exact s_astore_n  cx ok hK hJ h
  | getfield n => exact s_getfield  cx ok hK hJ h
  | putfield n => exact s_putfield  cx ok hK hJ h
  | getstatic n => exact s_getstatic  cx ok hK hJ h
  | ldc n => exact s_ldc  cx ok hK hJ h
  | newarray n => exact s_newarray  cx ok hK hJ h
  | new n => exact s_new  cx ok hK hJ h
  | anewarray n => exact s_anewarray  cx ok hK hJ h
  | instanceof n => exact s_instanceof  cx ok hK hJ h
  | goto n => exact s_goto  cx ok hK hJ h
  | ifnull n => exact s_ifnull  cx ok hK hJ h
  | ifnonnull n => exact s_ifnonnull  cx ok hK hJ h
  | ldc_w n => exact s_ldcw  cx ok hK hJ h
  | ldc2_w n => exact s_ldc2  cx ok hK hJ h
  | iinc n q => exact s_iinc  cx ok hK hJ h
  | nop => exact s_nop  cx ok hK hJ h
  | tableswitch a1 a2 a3 a4 => exact s_tableswitch  cx ok hK hJ h
  | lookupswitch a1 a2 => exact s_lookupswitch  cx ok hK hJ h
  | invokestatic n => exact s_invokestatic hok hC cx ok hK hJ h
  | invokespecial n => exact s_invokespecial hok hobj hC cx ok hK hJ h
  | invokevirtual n => exact s_invokevirtual hok hC cx ok hK hJ h
  | ireturn => exact s_ireturn hret cx ok hK hJ h
  | lreturn => exact s_lreturn hret cx ok hK hJ h
  | areturn => exact s_areturn hret cx ok hK hJ h
  | return_ => exact s_return hret cx ok hK hJ h
  | ifCond cd off =>
    cases cd
    · exact s_if_eq cx ok hK hJ h
    · exact s_if_ne cx ok hK hJ h
    · exact s_if_lt cx ok hK hJ h
    · exact s_if_ge cx ok hK hJ h
    · exact s_if_gt cx ok hK hJ h
    · exact s_if_le cx ok hK hJ h
  | if_icmp cd off =>
    cases cd
    · exact s_icmp_eq cx ok hK hJ h
    · exact s_icmp_ne cx ok hK hJ h
    · exact s_icmp_lt cx ok hK hJ h
    · exact s_icmp_ge cx ok hK hJ h
    · exact s_icmp_gt cx ok hK hJ h
    · exact s_icmp_le cx ok hK hJ h
  | _ => cases h
/-- a block from an instruction on -/
theorem simL (hok : ∀ M, M + 1 < allM.length → ∃ pw, okMT (mt M) pw = true) (hobj : Cond.instanceMethod objectInit ∈ gTbl ∧ Cond.code objectInit ⟨#[0xb1]⟩ 1 none ∈ gTbl) (hC : ∀ M ar μ r1 μ1, M + 1 < allM.length → C M ar μ = some (r1, μ1) → Con N0 G ro z xs L d M ar μ r1 μ1)
    (hret : ∀ (pc : Nat) (i : Instr) (H : Heap) (locs : List Loc) (Ls : Array Slot), decode t.2.1 pc = .ok (i, 1) → retOK t i r → Rep N0 G ro xs L μ9 H → va_S (fun q => N0 ≤ q) s.heap H locs → W p l e R s m args below meth c H locs (msz μ9 - z0) (msl μ9 - y0) Q (F0 m pc Ls ((r.map (cv (cad N0 ro) z)).toList)))
    (cx : Cx p R s m args meth c N0 G ro z xs L t d z0 y0 μ9) (hJ : ∀ b ls st μ, J b ls st μ = some (r, μ9) → Wk p l e R s m args below meth c Q N0 G ro z xs L t.2.2.1 z0 y0 μ9 (bpc t b) ls st μ) : ∀ (es : List RI) (pc : Nat) (ls : LV) (st : List Value) (μ : MM), okL t pc es = true → xb C J es ls st μ = some (r, μ9) → Wk p l e R s m args below meth c Q N0 G ro z xs L t.2.2.1 z0 y0 μ9 pc ls st μ
  | [], _, _, _, _, _, h => by cases h
  | (pc0, i, len, as, ws) :: es, pc, ls, st, μ, ok, h => by
    unfold okL at ok
    obtain ⟨ok, ok3⟩ := and2 ok
    obtain ⟨ok1, ok2⟩ := and2 ok
    have e1 : pc0 = pc := Nat.eq_of_beq_eq_true ok1
    subst e1
    exact sim1 (len := len) (ws := ws) hok hobj hC hret cx ok2 (fun ls st μ hk => simL hok hobj hC hret cx hJ es _ ls st μ ok3 hk) hJ h
end SIM6
end
section
/-! THE SMALL MACHINE'S RUNS, with fuel n and depth d; a method's contract out of a run -/
def awd (ar : List Value) : Nat := (ar.map fun v => if v.category = 2 then 2 else 1).sum
def eE : Nat → Nat → Nat → Nat → List Value → List Value → MM → Rs
  | 0, _, _, _, _, _, _ => none
  | n + 1, d, M, b, vs, st, μ => xb (fun M' ar μ => match d with
      | 0 => none
      | d' + 1 => gd (Nat.beq (bpc (mt M') 0) 0 && Nat.ble (awd ar) (mt M').2.2.1) (pik (blk (mt M') 0).1 (lv_args 0 ar) [] fun vs => eE n d' M' 0 vs [] μ)) (fun b ls st μ => pik (blk (mt M) b).1 ls [] fun vs => eE n d M b vs st μ) (blk (mt M) b).2 ((blk (mt M) b).1.zip vs) st μ
theorem pik_inv {k : List Value → Rs} {x : Option Value × MM} : ∀ (is : List Nat) (ls : LV) (acc : List Value), pik is ls acc k = some x → ∃ vs, k (acc.reverse ++ vs) = some x ∧ ∀ q ∈ is.zip vs, q ∈ ls
  | [], ls, acc, h => ⟨[], by rw [List.append_nil]; exact h, fun q hq => by simp at hq⟩
  | i :: is, ls, acc, h => by
    unfold pik at h
    obtain ⟨j, v, h1, h2⟩ := lgt_inv h
    obtain ⟨vs, h3, h4⟩ := pik_inv is ls (v :: acc) h2
    refine ⟨v :: vs, by simpa using h3, fun q hq => ?_⟩
    rw [List.zip_cons_cons] at hq
    rcases List.mem_cons.mp hq with rfl | hq
    · exact List.mem_of_getElem? h1
    · exact h4 q hq
theorem awd_len (vs : List Value) : (lg_sl vs).length = awd vs := by
  induction vs with
  | nil => rfl
  | cons v vs ih =>
    unfold lg_sl awd at *
    rw [List.flatMap_cons, List.length_append, List.map_cons, List.sum_cons, ih]
    by_cases h : v.category = 2
    · rw [if_pos h, if_pos h]; rfl
    · rw [if_neg h, if_neg h]; rfl
theorem awd_map {f : Nat → Nat} {z : Value} (hz : z = .null ∨ ∃ a, z = .ref a) (ar : List Value) : awd (ar.map (cv f z)) = awd ar := by
  unfold awd
  rw [List.map_map]
  congr 1
  apply List.map_congr_left
  intro v _
  simp only [Function.comp, cv_cat hz]
theorem args_map {f : Nat → Nat} {z : Value} (hz : z = .null ∨ ∃ a, z = .ref a) : ∀ (ar : List Value) (i : Nat), lv_args i (ar.map (cv f z)) = cl2 f z (lv_args i ar)
  | [], _ => rfl
  | v :: ar, i => by
    rw [List.map_cons]
    unfold lv_args
    rw [cv_cat hz, args_map hz ar]
    rfl
theorem okL_bpc {t : MT} (h : okBk t = true) (b : Nat) (hne : (blk t b).2 ≠ []) : okL t (bpc t b) (blk t b).2 = true := by
  have hb : blk t b ∈ t.2.2.2.2 := by
    unfold blk at hne ⊢
    rw [List.getD_eq_getElem?_getD] at hne ⊢
    cases hq : t.2.2.2.2[b]? with
    | none => rw [hq] at hne; exact absurd rfl hne
    | some q => exact List.mem_of_getElem? hq
  have h1 := List.all_eq_true.mp h _ hb
  unfold bpc
  cases hq : (blk t b).2 with
  | nil => exact absurd hq hne
  | cons e es =>
    unfold okB at h1
    rw [hq] at h1
    exact h1
section EV
variable {N0 : Nat} {G : GG} {ro : Nat → Nat} {z : Value} {xs : Nat → Int32} {L : Nat}
theorem Wk.sub {p : Program} {l : Launch} {e : Env} {R : Room} {s : State} {m : MethodId} {args : Array Value} {below : List Frame} {meth : Method} {c : Code} {Q : State → Prop} {nL z0 y0 pc : Nat} {μ9 μ : MM} {ls ls' : LV} {st : List Value} (h : Wk p l e R s m args below meth c Q N0 G ro z xs L nL z0 y0 μ9 pc ls' st μ) (hs : ∀ q ∈ ls', q ∈ ls) : Wk p l e R s m args below meth c Q N0 G ro z xs L nL z0 y0 μ9 pc ls st μ := by
  refine ⟨h.1, fun H locs Ls hR hS hL g1 g2 => h.2 H locs Ls hR hS ⟨hL.1, hL.2.1, fun q hq => ?_⟩ g1 g2⟩
  unfold cl2 at hq
  obtain ⟨w, hw, rfl⟩ := List.mem_map.mp hq
  exact hL.2.2 _ (by unfold cl2; exact List.mem_map.mpr ⟨w, hs w hw, rfl⟩)
/-- what a run says, from a block on, in any method's context -/
def SimE (N0 : Nat) (G : GG) (ro : Nat → Nat) (z : Value) (xs : Nat → Int32) (L : Nat) (n : Nat) : Prop := ∀ (p : Program) (l : Launch) (e : Env) (R : Room) (s : State) (m : MethodId) (args : Array Value) (below : List Frame) (meth : Method) (c : Code) (Q : State → Prop) (z0 y0 d M b : Nat) (r : Option Value) (μ9 : MM) (vs st : List Value) (μ : MM), okBk (mt M) = true →
  (∀ (pc : Nat) (i : Instr) (H : Heap) (locs : List Loc) (Ls : Array Slot), decode (mt M).2.1 pc = .ok (i, 1) → retOK (mt M) i r → Rep N0 G ro xs L μ9 H → va_S (fun q => N0 ≤ q) s.heap H locs → W p l e R s m args below meth c H locs (msz μ9 - z0) (msl μ9 - y0) Q (F0 m pc Ls ((r.map (cv (cad N0 ro) z)).toList))) →
  Cx p R s m args meth c N0 G ro z xs L (mt M) d z0 y0 μ9 → eE n d M b vs st μ = some (r, μ9) → Wk p l e R s m args below meth c Q N0 G ro z xs L (mt M).2.2.1 z0 y0 μ9 (bpc (mt M) b) ((blk (mt M) b).1.zip vs) st μ
/-- a method's contract out of its runs -/
theorem con_of {n d M : Nat} (hS : SimE N0 G ro z xs L n) (hz : z = .null ∨ ∃ a, z = .ref a) {pw : Nat × Nat} (hok : okMT (mt M) pw = true) {ar vs : List Value} {μ μ' : MM} {r : Option Value} (h0 : bpc (mt M) 0 = 0) (hw : awd ar ≤ (mt M).2.2.1) (hin : ∀ q ∈ (blk (mt M) 0).1.zip vs, q ∈ lv_args 0 ar) (h : eE n d M 0 vs [] μ = some (r, μ')) (hm : mle μ μ') : Con N0 G ro z xs L (d + 1) M ar μ r μ' := by
  obtain ⟨k1, k2, k3, k4, k5, k6⟩ := okMT_inv hok
  refine ⟨hm, fun l => ?_⟩
  refine Met.ofW (cc := (mt M).2.1) (maxL := (mt M).2.2.1) (ret := (mt M).2.2.2.1) k1 rfl ?_
  intro p e s m args below meth c s₁ B hml hv
  obtain ⟨rfl, hR, wf⟩ := hv
  have hx := B.exec
  have hb := B.bytes
  have hr := B.returns
  have hts0 := atoms_spec (ws := wsM M) B.pre
  have hts : ∀ w ∈ gTbl, w.before (ar.map (cv (cad N0 ro) z)).toArray s = true := fun w h => hts0 w (List.mem_cons_of_mem _ h)
  have hown : s.vm.findClass (mt M).1.cls = some m.cls := findClass_of_methodNamed B.named
  have hlocks := B.notSynchronized
  have hnm : meth.name = (mt M).1.name := (name_of_methodNamed B.named B.method).1
  have cx : Cx p (rmM (d + 1) μ μ') s m (ar.map (cv (cad N0 ro) z)).toArray meth c N0 G ro z xs L (mt M) d (msz μ) (msl μ) μ' := ⟨hx, hb, hml, hown, hts, fun q => hnm.trans q, wf, Nat.le_refl _, Nat.le_refl _, Nat.le_refl _, Nat.le_refl _⟩
  have hk := (hS p l e (rmM (d + 1) μ μ') s m (ar.map (cv (cad N0 ro) z)).toArray below meth c (MQ below (Qcn N0 G ro z xs L r μ') (ar.map (cv (cad N0 ro) z)).toArray s (msz μ' - msz μ) (msl μ' - msl μ) (fun q => N0 ≤ q)) (msz μ) (msl μ) d M 0 r μ' vs [] μ k4 (fun pc i H locs Ls hd hret hR9 hS9 => ?_) cx h).sub hin
  · rw [lg_entry_eq]
    have hl := lv_entry (ar.map (cv (cad N0 ro) z)) (n := (mt M).2.2.1) (by rw [awd_len, awd_map hz]; exact hw)
    rw [args_map hz] at hl
    have hk2 := hk.2 s.heap [] _ hR va_S.rf hl (Nat.le_refl _) (Nat.le_refl _)
    rw [Nat.sub_self, Nat.sub_self, h0] at hk2
    exact hk2
  · have post : ∀ t : State, t.heap = H → s.WarmedH t.vm → Qcn N0 G ro z xs L r μ' (ar.map (cv (cad N0 ro) z)).toArray s (.returned (r.map (cv (cad N0 ro) z))) t := fun t ht _ => ⟨rfl, by rw [ht]; exact hR9, by rw [ht]; exact hS9.1, fun q q1 q2 => by rw [ht]; exact hS9.2.1 q q1 q2⟩
    cases i with
    | ireturn =>
      obtain ⟨x, ty, rfl, e1, e2⟩ := hret
      exact W.zret hx hb (hr.trans e1) e2 post hS9.2.2 hd
    | lreturn =>
      obtain ⟨x, rfl, e1⟩ := hret
      exact W.lret hx hb (hr.trans e1) post hS9.2.2 hd
    | areturn =>
      obtain ⟨e1, e2⟩ := hret
      have hrt : ∃ rt, (mt M).2.2.2.1 = some rt ∧ ((∃ n, rt = .object n) ∨ ∃ t, rt = .array t) := by
        generalize (mt M).2.2.2.1 = w at e2
        cases w with
        | none => cases e2
        | some w =>
          cases w <;> first | (cases e2; done) | exact ⟨_, rfl, Or.inl ⟨_, rfl⟩⟩ | exact ⟨_, rfl, Or.inr ⟨_, rfl⟩⟩
      obtain ⟨rt, e3, e4⟩ := hrt
      rcases e1 with rfl | ⟨a, rfl⟩
      · exact W.aret hx hb (hr.trans e3) e4 (Or.inl rfl) post hS9.2.2 hd
      · exact W.aret hx hb (hr.trans e3) e4 (Or.inr ⟨_, rfl⟩) post hS9.2.2 hd
    | return_ =>
      obtain ⟨rfl, e1⟩ := hret
      exact W.vret hx hb (hr.trans e1) post hS9.2.2 hd
    | _ => exact False.elim hret
end EV
end
section
/-! WHAT AN INSTRUCTION DOES: it goes on, or jumps, or calls once and goes on, or ends; memory grows -/
abbrev CT : Type := Nat → List Value → MM → Rs
abbrev JT : Type := Nat → LV → List Value → MM → Rs
abbrev KT : Type := LV → List Value → MM → Rs
def Shp (μ : MM) (f : CT → JT → KT → Rs) : Prop :=
  (∃ ls st μ1, mle μ μ1 ∧ ∀ C J K, f C J K = K ls st μ1) ∨ (∃ b ls st μ1, mle μ μ1 ∧ ∀ C J K, f C J K = J b ls st μ1) ∨ (∃ y : Rs, (∀ p, y = some p → mle μ p.2) ∧ ∀ C J K, f C J K = y) ∨
  (∃ rk M ar ls st, ∀ C J K, f C J K = bnd rk (C M ar μ) (fun rs μ => K ls (rs ++ st) μ))
theorem shp_K {μ μ1 : MM} {ls : LV} {st : List Value} (h : mle μ μ1) : Shp μ (fun _ _ K => K ls st μ1) := Or.inl ⟨ls, st, μ1, h, fun _ _ _ => rfl⟩
theorem shp_J {μ : MM} {b : Nat} {ls : LV} {st : List Value} : Shp μ (fun _ J _ => J b ls st μ) := Or.inr (Or.inl ⟨b, ls, st, μ, mle_rf, fun _ _ _ => rfl⟩)
theorem shp_none {μ : MM} : Shp μ (fun _ _ _ => none) := Or.inr (Or.inr (Or.inl ⟨none, (fun _ h => by cases h), fun _ _ _ => rfl⟩))
theorem shp_ret {μ : MM} {v : Option Value} : Shp μ (fun _ _ _ => some (v, μ)) := Or.inr (Or.inr (Or.inl ⟨some (v, μ), (fun _ h => by cases h; exact mle_rf), fun _ _ _ => rfl⟩))
theorem shp_C {μ : MM} {rk M : Nat} {ar : List Value} {ls : LV} {st : List Value} : Shp μ (fun C _ K => bnd rk (C M ar μ) (fun rs μ => K ls (rs ++ st) μ)) := Or.inr (Or.inr (Or.inr ⟨rk, M, ar, ls, st, fun _ _ _ => rfl⟩))
theorem shp_gd {μ : MM} {b : Bool} {f : CT → JT → KT → Rs} (h : Shp μ f) : Shp μ (fun C J K => gd b (f C J K)) := by
  cases b with
  | true => exact h
  | false => exact shp_none
theorem shp_asI {μ : MM} {v : Value} {f : Int32 → CT → JT → KT → Rs} (h : ∀ x, Shp μ (f x)) : Shp μ (fun C J K => asI v (fun x => f x C J K)) := by
  cases v <;> first | exact h _ | exact shp_none
theorem shp_asL {μ : MM} {v : Value} {f : Int64 → CT → JT → KT → Rs} (h : ∀ x, Shp μ (f x)) : Shp μ (fun C J K => asL v (fun x => f x C J K)) := by
  cases v <;> first | exact h _ | exact shp_none
theorem shp_asR {μ : MM} {v : Value} {f : Nat → CT → JT → KT → Rs} (h : ∀ x, Shp μ (f x)) : Shp μ (fun C J K => asR v (fun x => f x C J K)) := by
  cases v <;> first | exact h _ | exact shp_none
theorem shp_asN {μ : MM} {v : Value} {g : CT → JT → KT → Rs} {f : Nat → CT → JT → KT → Rs} (h0 : Shp μ g) (h : ∀ x, Shp μ (f x)) : Shp μ (fun C J K => asN v (g C J K) (fun x => f x C J K)) := by
  cases v <;> first | exact h _ | exact h0 | exact shp_none
theorem shp_cat1 {μ : MM} {v : Value} {f : CT → JT → KT → Rs} (h : Shp μ f) : Shp μ (fun C J K => cat1 v (f C J K)) := by
  cases v <;> first | exact h | exact shp_none
theorem shp_p1 {μ : MM} {st : List Value} {f : Value → List Value → CT → JT → KT → Rs} (h : ∀ v r, Shp μ (f v r)) : Shp μ (fun C J K => p1 st (fun v r => f v r C J K)) := by
  cases st with
  | nil => exact shp_none
  | cons v r => exact h v r
theorem shp_ppI {μ : MM} {st : List Value} {f : Int32 → List Value → CT → JT → KT → Rs} (h : ∀ v r, Shp μ (f v r)) : Shp μ (fun C J K => ppI st (fun v r => f v r C J K)) := shp_p1 fun v r => shp_asI fun x => h x r
theorem shp_ppL {μ : MM} {st : List Value} {f : Int64 → List Value → CT → JT → KT → Rs} (h : ∀ v r, Shp μ (f v r)) : Shp μ (fun C J K => ppL st (fun v r => f v r C J K)) := shp_p1 fun v r => shp_asL fun x => h x r
theorem shp_ppR {μ : MM} {st : List Value} {f : Nat → List Value → CT → JT → KT → Rs} (h : ∀ v r, Shp μ (f v r)) : Shp μ (fun C J K => ppR st (fun v r => f v r C J K)) := shp_p1 fun v r => shp_asR fun x => h x r
theorem shp_lgt {μ : MM} {i : Nat} {f : Value → CT → JT → KT → Rs} (h : ∀ v, Shp μ (f v)) : ∀ l : LV, Shp μ (fun C J K => lgt l i (fun v => f v C J K))
  | [] => shp_none
  | q :: l => by
    unfold lgt
    cases Nat.beq q.1 i with
    | true => exact h _
    | false => exact shp_lgt h l
theorem shp_ppN {μ : MM} {f : List Value → List Value → CT → JT → KT → Rs} (h : ∀ v r, Shp μ (f v r)) : ∀ (n : Nat) (st acc : List Value), Shp μ (fun C J K => ppN n st acc (fun v r => f v r C J K))
  | 0, st, acc => h acc st
  | n + 1, st, acc => shp_p1 (f := fun v r C J K => ppN n r (v :: acc) (fun v r => f v r C J K)) fun v r => shp_ppN h n r (v :: acc)
theorem shp_ite {μ : MM} {c : Prop} [Decidable c] {f g : CT → JT → KT → Rs} (h1 : Shp μ f) (h2 : Shp μ g) : Shp μ (fun C J K => if c then f C J K else g C J K) := by
  by_cases h : c
  · rw [show (fun C J K => if c then f C J K else g C J K) = f from funext fun C => funext fun J => funext fun K => if_pos h]; exact h1
  · rw [show (fun C J K => if c then f C J K else g C J K) = g from funext fun C => funext fun J => funext fun K => if_neg h]; exact h2
theorem shp_sw {μ : MM} {d : Nat} {x : Int32} {f : Nat → CT → JT → KT → Rs} (h : ∀ v, Shp μ (f v)) : ∀ (bs : List Nat) (lo : Int), Shp μ (fun C J K => sw lo bs d x (fun v => f v C J K))
  | [], lo => h d
  | b :: bs, lo => shp_ite (f := fun C J K => f b C J K) (g := fun C J K => sw (lo + 1) bs d x (fun v => f v C J K)) (h b) (shp_sw h bs (lo + 1))
theorem shp_lsw {μ : MM} {d : Nat} {x : Int32} {f : Nat → CT → JT → KT → Rs} (h : ∀ v, Shp μ (f v)) : ∀ (ps : List (Int × Int)) (bs : List Nat), Shp μ (fun C J K => lsw ps bs d x (fun v => f v C J K))
  | [], [] => h d
  | [], b :: bs => shp_none
  | p :: ps, [] => shp_none
  | p :: ps, b :: bs => shp_ite (f := fun C J K => f b C J K) (g := fun C J K => lsw ps bs d x (fun v => f v C J K)) (h b) (shp_lsw h ps bs)
theorem shp_dsp {μ : MM} {s : Nat} {f : Nat → CT → JT → KT → Rs} (h : ∀ v, Shp μ (f v)) : ∀ (cs : List Nat), Shp μ (fun C J K => dsp cs s (fun v => f v C J K))
  | [] => shp_none
  | [_] => shp_none
  | c :: M :: r => by
    unfold dsp
    cases Nat.beq s c with
    | true => exact h M
    | false => exact shp_dsp h r
theorem mle_alc {μ : MM} {k n s : Nat} : mle μ (alc μ k n s) := ⟨Nat.le_succ _, Nat.le_add_right _ _⟩
theorem mle_sI {μ : MM} {k n : Nat} {s : Int32} : mle μ (sI μ k n s) := mle_rf
theorem mle_sL {μ : MM} {k n : Nat} {s : Int64} : mle μ (sL μ k n s) := mle_rf
theorem mle_sR {μ : MM} {k n : Nat} {s : Option Nat} : mle μ (sR μ k n s) := mle_rf
theorem mle_cpI {μ : MM} {a b c d e : Nat} : mle μ (cpI μ a b c d e) := mle_rf
theorem shp_rtg {μ : MM} {a : List Nat} {x : Int32} {f : CT → JT → KT → Rs} (h : Shp μ f) : Shp μ (fun C J K => rtg a x (f C J K)) := by
  unfold rtg
  split
  · exact h
  · exact shp_gd h
  · exact shp_gd h
  · exact shp_gd h
  · exact shp_none
set_option maxHeartbeats 4000000 in
theorem shp_x1 (i : Instr) (as : List Nat) (ls : LV) (st : List Value) (μ : MM) : Shp μ (fun C J K => x1 C J i as ls st μ K) := by
  cases i <;> first
    | exact shp_none
    | exact shp_K mle_rf
    | exact shp_lgt (fun v => shp_asI fun x => shp_K mle_rf) _
    | exact shp_lgt (fun v => shp_asL fun x => shp_K mle_rf) _
    | exact shp_lgt (fun v => shp_asN (shp_K mle_rf) fun x => shp_K mle_rf) _
    | exact shp_ppI fun v r => shp_K mle_rf
    | exact shp_ppL fun v r => shp_K mle_rf
    | exact shp_p1 fun v r => shp_asN (shp_K mle_rf) fun x => shp_K mle_rf
    | exact shp_ppI fun v r => shp_ppI fun v r => shp_K mle_rf
    | exact shp_ppI fun v r => shp_ppL fun v r => shp_K mle_rf
    | exact shp_ppL fun v r => shp_ppL fun v r => shp_K mle_rf
    | exact shp_ppI fun v r => shp_ppI fun v r => shp_gd (shp_K mle_rf)
    | exact shp_ppL fun v r => shp_ppL fun v r => shp_gd (shp_K mle_rf)
    | exact shp_p1 fun v r => shp_cat1 (shp_K mle_rf)
    | exact shp_ppR fun v r => shp_gd (shp_K mle_rf)
    | exact shp_ppI fun v r => shp_ppR fun v r => shp_gd (shp_K mle_rf)
    | exact shp_ppI fun v r => shp_ppI fun v r => shp_ppR fun v r => shp_gd (shp_K mle_sI)
    | exact shp_ppL fun v r => shp_ppI fun v r => shp_ppR fun v r => shp_gd (shp_K mle_sL)
    | exact shp_p1 fun v r => shp_ppI fun v r => shp_ppR fun v r => shp_asN (shp_gd (shp_K mle_sR)) fun x => shp_gd (shp_K mle_sR)
    | skip
  case nop => rcases as with _ | ⟨a1, _ | ⟨a2, as⟩⟩ <;> first | exact shp_none | exact shp_J
  case goto => rcases as with _ | ⟨a1, _ | ⟨a2, as⟩⟩ <;> first | exact shp_none | exact shp_J
  case ldc => rcases as with _ | ⟨a1, _ | ⟨a2, _ | ⟨a3, as⟩⟩⟩ <;> first | exact shp_none | (rcases a1 with _ | _ | a1 <;> first | exact shp_none | exact shp_K mle_rf)
  case ldc_w => rcases as with _ | ⟨a1, _ | ⟨a2, _ | ⟨a3, as⟩⟩⟩ <;> first | exact shp_none | (rcases a1 with _ | _ | a1 <;> first | exact shp_none | exact shp_K mle_rf)
  case ldc2_w => rcases as with _ | ⟨a1, _ | ⟨a2, as⟩⟩ <;> first | exact shp_none | exact shp_K mle_rf
  case dup2 =>
    refine shp_p1 fun v r => ?_
    cases v <;> first | exact shp_K mle_rf | exact shp_cat1 (shp_p1 fun v r => shp_cat1 (shp_K mle_rf))
  case ifCond cd off =>
    rcases as with _ | ⟨a1, _ | ⟨a2, _ | ⟨a3, as⟩⟩⟩ <;> cases cd <;> first | exact shp_none | exact shp_ppI fun v r => shp_ite shp_J shp_J
  case if_icmp cd off =>
    rcases as with _ | ⟨a1, _ | ⟨a2, _ | ⟨a3, as⟩⟩⟩ <;> cases cd <;> first | exact shp_none | exact shp_ppI fun v r => shp_ppI fun v r => shp_ite shp_J shp_J
  case ifnull => rcases as with _ | ⟨a1, _ | ⟨a2, _ | ⟨a3, as⟩⟩⟩ <;> first | exact shp_none | exact shp_p1 fun v r => shp_asN shp_J fun x => shp_J
  case ifnonnull => rcases as with _ | ⟨a1, _ | ⟨a2, _ | ⟨a3, as⟩⟩⟩ <;> first | exact shp_none | exact shp_p1 fun v r => shp_asN shp_J fun x => shp_J
  case tableswitch => rcases as with _ | ⟨a1, as⟩ <;> first | exact shp_none | exact shp_ppI fun v r => shp_sw (fun v => shp_J) _ _
  case lookupswitch => rcases as with _ | ⟨a1, as⟩ <;> first | exact shp_none | exact shp_ppI fun v r => shp_lsw (fun v => shp_J) _ _
  case getfield => rcases as with _ | ⟨a1, _ | ⟨a2, as⟩⟩ <;> first | exact shp_none | (rcases a2 with _ | _ | _ | a2 <;> first | exact shp_none | exact shp_ppR fun v r => shp_gd (shp_K mle_rf))
  case putfield =>
    refine shp_p1 fun v r => ?_
    rcases as with _ | ⟨a1, _ | ⟨a2, as⟩⟩ <;> first | exact shp_none | (rcases a2 with _ | _ | _ | a2 <;> first | exact shp_none | exact shp_asI fun x => shp_ppR fun v r => shp_gd (shp_K mle_sI) | exact shp_asN (shp_ppR fun v r => shp_gd (shp_K mle_sR)) fun x => shp_ppR fun v r => shp_gd (shp_K mle_sR))
  case getstatic => rcases as with _ | ⟨a1, _ | ⟨a2, as⟩⟩ <;> first | exact shp_none | (rcases a1 with _ | _ | a1 <;> first | exact shp_none | exact shp_K mle_rf)
  case bastore => rcases as with _ | ⟨a1, _ | ⟨a2, as⟩⟩ <;> first | exact shp_none | (rcases a1 with _ | _ | a1 <;> first | exact shp_none | exact shp_ppI fun v r => shp_ppI fun v r => shp_ppR fun v r => shp_gd (shp_K mle_sI))
  case newarray => rcases as with _ | ⟨a1, _ | ⟨a2, as⟩⟩ <;> first | exact shp_none | exact shp_ppI fun v r => shp_gd (shp_K mle_alc)
  case anewarray => rcases as with _ | ⟨a1, _ | ⟨a2, as⟩⟩ <;> first | exact shp_none | exact shp_ppI fun v r => shp_gd (shp_K mle_alc)
  case new => rcases as with _ | ⟨a1, _ | ⟨a2, _ | ⟨a3, as⟩⟩⟩ <;> first | exact shp_none | exact shp_K mle_alc
  case instanceof =>
    rcases as with _ | ⟨a1, as⟩
    · exact shp_none
    · refine shp_ppR fun v r => shp_gd ?_
      cases cin (as.take a1) (shp μ v) with
      | true => exact shp_K mle_rf
      | false => exact shp_K mle_rf
  case invokestatic =>
    rcases as with _ | ⟨a1, _ | ⟨a2, _ | ⟨a3, _ | ⟨a4, _ | ⟨a5, as⟩⟩⟩⟩⟩ <;> first
      | exact shp_none
      | (rcases a1 with _ | _ | _ | _ | _ | _ | _ | a1 <;> first
        | exact shp_none
        | exact shp_ppI fun v r => shp_ppI fun v r => shp_gd (shp_K mle_rf)
        | exact shp_ppI fun v r => shp_ppI fun v r => shp_ppR fun v r => shp_ppI fun v r => shp_ppR fun v r => shp_gd (shp_K mle_cpI)
        | exact shp_ppN (fun v r => shp_gd shp_C) _ _ _)
  case invokespecial =>
    rcases as with _ | ⟨a1, _ | ⟨a2, _ | ⟨a3, _ | ⟨a4, as⟩⟩⟩⟩ <;> first
      | exact shp_none
      | (rcases a1 with _ | _ | _ | _ | a1 <;> first
        | exact shp_none
        | exact shp_ppR fun v r => shp_gd (shp_K mle_rf)
        | exact shp_ppN (fun v r => shp_ppR fun v r => shp_gd shp_C) _ _ _)
  case invokevirtual =>
    rcases as with _ | ⟨a1, _ | ⟨a2, _ | ⟨a3, as⟩⟩⟩ <;> first
      | exact shp_none
      | (rcases a1 with _ | _ | _ | a1 <;> first
        | exact shp_none
        | exact shp_ppN (fun v r => shp_ppR fun v r => shp_gd (shp_dsp (fun M => shp_C) _)) _ _ _)
  case ireturn =>
    rcases st with _ | ⟨v, _ | ⟨w, st⟩⟩ <;> first | exact shp_none | exact shp_asI fun x => shp_rtg shp_ret
  case lreturn => rcases st with _ | ⟨v, _ | ⟨w, st⟩⟩ <;> first | exact shp_none | exact shp_asL fun x => shp_ret
  case areturn => rcases st with _ | ⟨v, _ | ⟨w, st⟩⟩ <;> first | exact shp_none | exact shp_asN shp_ret fun x => shp_ret
  case return_ => rcases st with _ | ⟨v, st⟩ <;> first | exact shp_none | exact shp_ret
end
section
/-! RUNS WITHOUT FUEL -/
def rle (a b : Rs) : Prop := ∀ x, a = some x → b = some x
theorem bnd_sub {rk : Nat} {a b : Rs} {k k' : List Value → MM → Rs} {x : Option Value × MM} (h : rle a b) (hk : ∀ rs μ, rle (k rs μ) (k' rs μ)) (hx : bnd rk a k = some x) : bnd rk b k' = some x := by
  cases a with
  | none =>
    exfalso
    unfold bnd at hx
    split at hx <;> cases hx
  | some p =>
    rw [h p rfl]
    obtain ⟨v, μ⟩ := p
    unfold bnd at hx ⊢
    split at hx
    · split at hx
      · next e => cases e; exact hk _ _ _ hx
      · cases hx
    · split at hx
      · next e => cases e; exact hk _ _ _ hx
      · cases hx
    · split at hx
      · next e => cases e; exact hk _ _ _ hx
      · cases hx
    · split at hx
      · next e => cases e; exact hk _ _ _ hx
      · next e => cases e; exact hk _ _ _ hx
      · cases hx
theorem x1_mono {C C' : CT} {J J' : JT} {K K' : KT} {i : Instr} {as : List Nat} {ls : LV} {st : List Value} {μ : MM} (hC : ∀ M ar μ, rle (C M ar μ) (C' M ar μ)) (hJ : ∀ b ls st μ, rle (J b ls st μ) (J' b ls st μ)) (hK : ∀ ls st μ, rle (K ls st μ) (K' ls st μ)) : rle (x1 C J i as ls st μ K) (x1 C' J' i as ls st μ K') := by
  intro x hx
  rcases shp_x1 i as ls st μ with ⟨l1, s1, m1, -, h⟩ | ⟨b, l1, s1, m1, -, h⟩ | ⟨y, -, h⟩ | ⟨rk, M, ar, l1, s1, h⟩
  · have h1 := h C J K
    have h2 := h C' J' K'
    dsimp only at h1 h2
    rw [h2]
    rw [h1] at hx
    exact hK _ _ _ _ hx
  · have h1 := h C J K
    have h2 := h C' J' K'
    dsimp only at h1 h2
    rw [h2]
    rw [h1] at hx
    exact hJ _ _ _ _ _ hx
  · have h1 := h C J K
    have h2 := h C' J' K'
    dsimp only at h1 h2
    rw [h2]
    rw [h1] at hx
    exact hx
  · have h1 := h C J K
    have h2 := h C' J' K'
    dsimp only at h1 h2
    rw [h2]
    rw [h1] at hx
    exact bnd_sub (hC _ _ _) (fun rs μ => hK _ _ _) hx
theorem xb_mono {C C' : CT} {J J' : JT} (hC : ∀ M ar μ, rle (C M ar μ) (C' M ar μ)) (hJ : ∀ b ls st μ, rle (J b ls st μ) (J' b ls st μ)) : ∀ (es : List RI) (ls : LV) (st : List Value) (μ : MM), rle (xb C J es ls st μ) (xb C' J' es ls st μ)
  | [], _, _, _ => fun _ h => by cases h
  | e :: es, ls, st, μ => by
    unfold xb
    exact x1_mono hC hJ (fun ls st μ => xb_mono hC hJ es ls st μ)
/-- out of the limit of chains -/
theorem xb_cont {C : CT} {J : JT} {Cn : Nat → CT} {Jn : Nat → JT} (hCm : ∀ n M ar μ, rle (Cn n M ar μ) (Cn (n + 1) M ar μ)) (hJm : ∀ n b ls st μ, rle (Jn n b ls st μ) (Jn (n + 1) b ls st μ)) (hC : ∀ M ar μ x, C M ar μ = some x → ∃ n, Cn n M ar μ = some x) (hJ : ∀ b ls st μ x, J b ls st μ = some x → ∃ n, Jn n b ls st μ = some x) : ∀ (es : List RI) (ls : LV) (st : List Value) (μ : MM) (x : Option Value × MM), xb C J es ls st μ = some x → ∃ n, xb (Cn n) (Jn n) es ls st μ = some x
  | [], _, _, _, _, h => by cases h
  | e :: es, ls, st, μ, x, hx => by
    have hCm2 : ∀ n k M ar μ, rle (Cn n M ar μ) (Cn (n + k) M ar μ) := by
      intro n k
      induction k with
      | zero => exact fun _ _ _ _ h => h
      | succ k ih => exact fun M ar μ y h => hCm _ _ _ _ _ (ih M ar μ y h)
    have hJm2 : ∀ n k b ls st μ, rle (Jn n b ls st μ) (Jn (n + k) b ls st μ) := by
      intro n k
      induction k with
      | zero => exact fun _ _ _ _ _ h => h
      | succ k ih => exact fun b ls st μ y h => hJm _ _ _ _ _ _ (ih b ls st μ y h)
    unfold xb at hx ⊢
    rcases shp_x1 e.2.1 e.2.2.2.1 ls st μ with ⟨l1, s1, m1, -, h⟩ | ⟨b, l1, s1, m1, -, h⟩ | ⟨y, -, h⟩ | ⟨rk, M, ar, l1, s1, h⟩
    · have h1 := h C J (fun ls st μ => xb C J es ls st μ)
      dsimp only at h1
      rw [h1] at hx
      obtain ⟨n, hn⟩ := xb_cont hCm hJm hC hJ es _ _ _ _ hx
      exact ⟨n, (h (Cn n) (Jn n) (fun ls st μ => xb (Cn n) (Jn n) es ls st μ)).trans hn⟩
    · have h1 := h C J (fun ls st μ => xb C J es ls st μ)
      dsimp only at h1
      rw [h1] at hx
      obtain ⟨n, hn⟩ := hJ _ _ _ _ _ hx
      exact ⟨n, (h (Cn n) (Jn n) (fun ls st μ => xb (Cn n) (Jn n) es ls st μ)).trans hn⟩
    · have h1 := h C J (fun ls st μ => xb C J es ls st μ)
      dsimp only at h1
      rw [h1] at hx
      exact ⟨0, (h (Cn 0) (Jn 0) (fun ls st μ => xb (Cn 0) (Jn 0) es ls st μ)).trans hx⟩
    · have h1 := h C J (fun ls st μ => xb C J es ls st μ)
      dsimp only at h1
      rw [h1] at hx
      obtain ⟨r1, μ1, e1, e2⟩ := bnd_inv hx
      obtain ⟨n1, hn1⟩ := hC _ _ _ _ e1
      obtain ⟨n2, hn2⟩ := xb_cont hCm hJm hC hJ es _ _ _ _ e2
      refine ⟨n1 + n2, (h (Cn (n1 + n2)) (Jn (n1 + n2)) (fun ls st μ => xb (Cn (n1 + n2)) (Jn (n1 + n2)) es ls st μ)).trans ?_⟩
      have g1 := hCm2 n1 n2 _ _ _ _ hn1
      have g2 : xb (Cn (n1 + n2)) (Jn (n1 + n2)) es l1 (r1.toList ++ s1) μ1 = some x := by
        rw [Nat.add_comm]
        exact xb_mono (hCm2 n2 n1) (hJm2 n2 n1) es _ _ _ _ hn2
      rw [g1]
      rw [e1] at hx
      unfold bnd at hx ⊢
      split at hx
      · split at hx
        · next e => cases e; exact g2
        · cases hx
      · split at hx
        · next e => cases e; exact g2
        · cases hx
      · split at hx
        · next e => cases e; exact g2
        · cases hx
      · split at hx
        · next e => cases e; exact g2
        · next e => cases e; exact g2
        · cases hx
theorem pik_sh (is : List Nat) : ∀ (ls : LV) (acc : List Value), (∃ vs, ∀ k : List Value → Rs, pik is ls acc k = k vs) ∨ ∀ k : List Value → Rs, pik is ls acc k = none := by
  have lg : ∀ (ls : LV) (i : Nat), (∃ v, ∀ k : Value → Rs, lgt ls i k = k v) ∨ ∀ k : Value → Rs, lgt ls i k = none := by
    intro ls i
    induction ls with
    | nil => exact Or.inr fun k => rfl
    | cons q l ih =>
      unfold lgt
      cases Nat.beq q.1 i with
      | true => exact Or.inl ⟨q.2, fun k => rfl⟩
      | false => exact ih
  induction is with
  | nil => exact fun ls acc => Or.inl ⟨acc.reverse, fun k => rfl⟩
  | cons i is ih =>
    intro ls acc
    unfold pik
    rcases lg ls i with ⟨v, h⟩ | h
    · rcases ih ls (v :: acc) with ⟨vs, h2⟩ | h2
      · exact Or.inl ⟨vs, fun k => (h _).trans (h2 k)⟩
      · exact Or.inr fun k => (h _).trans (h2 k)
    · exact Or.inr fun k => h _
def cCn (n d : Nat) : CT := fun M' ar μ => match d with
  | 0 => none
  | d' + 1 => gd (Nat.beq (bpc (mt M') 0) 0 && Nat.ble (awd ar) (mt M').2.2.1) (pik (blk (mt M') 0).1 (lv_args 0 ar) [] fun vs => eE n d' M' 0 vs [] μ)
def jJn (n d M : Nat) : JT := fun b ls st μ => pik (blk (mt M) b).1 ls [] fun vs => eE n d M b vs st μ
theorem eE_succ (n d M b : Nat) (vs st : List Value) (μ : MM) : eE (n + 1) d M b vs st μ = xb (cCn n d) (jJn n d M) (blk (mt M) b).2 ((blk (mt M) b).1.zip vs) st μ := rfl
theorem pik_le {is : List Nat} {ls : LV} {k k' : List Value → Rs} (h : ∀ vs, rle (k vs) (k' vs)) : rle (pik is ls [] k) (pik is ls [] k') := by
  intro x hx
  rcases pik_sh is ls [] with ⟨vs, e⟩ | e
  · rw [e] at hx ⊢
    exact h vs x hx
  · rw [e] at hx
    cases hx
theorem gd_le {b : Bool} {r r' : Rs} (h : rle r r') : rle (gd b r) (gd b r') := by
  cases b with
  | true => exact h
  | false => exact fun _ h => by cases h
theorem cCn_le {n n' d : Nat} (h : ∀ d M b vs st μ, rle (eE n d M b vs st μ) (eE n' d M b vs st μ)) : ∀ M ar μ, rle (cCn n d M ar μ) (cCn n' d M ar μ) := by
  intro M ar μ
  cases d with
  | zero => exact fun _ h => by cases h
  | succ d => exact gd_le (pik_le fun vs => h _ _ _ _ _ _)
theorem eE_mono : ∀ (n d M b : Nat) (vs st : List Value) (μ : MM), rle (eE n d M b vs st μ) (eE (n + 1) d M b vs st μ)
  | 0, _, _, _, _, _, _ => fun _ h => by cases h
  | n + 1, d, M, b, vs, st, μ => by
    rw [eE_succ, eE_succ]
    exact xb_mono (cCn_le (eE_mono n)) (fun b ls st μ => pik_le fun vs => eE_mono n d M b vs st μ) _ _ _ _
theorem eE_le (n k d M b : Nat) (vs st : List Value) (μ : MM) : rle (eE n d M b vs st μ) (eE (n + k) d M b vs st μ) := by
  induction k with
  | zero => exact fun _ h => h
  | succ k ih => exact fun x h => eE_mono _ _ _ _ _ _ _ x (ih x h)
/-- what a block comes to -/
noncomputable def ev (d M b : Nat) (vs st : List Value) (μ : MM) : Rs := @dite Rs (∃ n x, eE n d M b vs st μ = some x) (Classical.propDecidable _) (fun h => some (Classical.choose (Classical.choose_spec h))) (fun _ => none)
theorem ev_some {d M b : Nat} {vs st : List Value} {μ : MM} {x : Option Value × MM} : ev d M b vs st μ = some x ↔ ∃ n, eE n d M b vs st μ = some x := by
  constructor
  · intro h
    unfold ev at h
    split at h
    · next h1 =>
      cases h
      exact ⟨_, Classical.choose_spec (Classical.choose_spec h1)⟩
    · cases h
  · rintro ⟨n, hn⟩
    have h1 : ∃ n x, eE n d M b vs st μ = some x := ⟨n, x, hn⟩
    unfold ev
    rw [dif_pos h1]
    have h2 := Classical.choose_spec (Classical.choose_spec h1)
    have h3 := eE_le n (Classical.choose h1) d M b vs st μ _ hn
    have h4 := eE_le (Classical.choose h1) n d M b vs st μ _ h2
    rw [Nat.add_comm] at h4
    exact h4.symm.trans h3
/-- a call at depth d -/
noncomputable def cC (d : Nat) : CT := fun M' ar μ => match d with
  | 0 => none
  | d' + 1 => gd (Nat.beq (bpc (mt M') 0) 0 && Nat.ble (awd ar) (mt M').2.2.1) (pik (blk (mt M') 0).1 (lv_args 0 ar) [] fun vs => ev d' M' 0 vs [] μ)
noncomputable def jJ (d M : Nat) : JT := fun b ls st μ => pik (blk (mt M) b).1 ls [] fun vs => ev d M b vs st μ
theorem pik_lim {is : List Nat} {ls : LV} {k : List Value → Rs} {kn : Nat → List Value → Rs} {x : Option Value × MM} (h : ∀ vs, k vs = some x → ∃ n, kn n vs = some x) (hx : pik is ls [] k = some x) : ∃ n, pik is ls [] (kn n) = some x := by
  rcases pik_sh is ls [] with ⟨vs, e⟩ | e
  · rw [e] at hx
    obtain ⟨n, hn⟩ := h vs hx
    exact ⟨n, by rw [e]; exact hn⟩
  · rw [e] at hx
    cases hx
theorem ev_eq (d M b : Nat) (vs st : List Value) (μ : MM) : ev d M b vs st μ = xb (cC d) (jJ d M) (blk (mt M) b).2 ((blk (mt M) b).1.zip vs) st μ := by
  have h1 : rle (ev d M b vs st μ) (xb (cC d) (jJ d M) (blk (mt M) b).2 ((blk (mt M) b).1.zip vs) st μ) := by
    intro x hx
    obtain ⟨n, hn⟩ := ev_some.mp hx
    cases n with
    | zero => cases hn
    | succ n =>
      rw [eE_succ] at hn
      refine xb_mono (fun M ar μ => ?_) (fun b ls st μ => pik_le fun vs y hy => ev_some.mpr ⟨n, hy⟩) _ _ _ _ _ hn
      cases d with
      | zero => exact fun _ h => by cases h
      | succ d => exact gd_le (pik_le fun vs y hy => ev_some.mpr ⟨n, hy⟩)
  have h2 : rle (xb (cC d) (jJ d M) (blk (mt M) b).2 ((blk (mt M) b).1.zip vs) st μ) (ev d M b vs st μ) := by
    intro x hx
    obtain ⟨n, hn⟩ := xb_cont (Cn := fun n => cCn n d) (Jn := fun n => jJn n d M) (fun n => cCn_le (eE_mono n)) (fun n b ls st μ => pik_le fun vs => eE_mono n d M b vs st μ) (fun M ar μ y hy => by
      cases d with
      | zero => cases hy
      | succ d =>
        obtain ⟨g, hy⟩ := gd_inv hy
        obtain ⟨n, hn⟩ := pik_lim (kn := fun n vs => eE n d M 0 vs [] μ) (fun vs q => ev_some.mp q) hy
        refine ⟨n, ?_⟩
        show gd _ _ = _
        rw [g]
        exact hn) (fun b ls st μ y hy => pik_lim (kn := fun n vs => eE n d M b vs st μ) (fun vs q => ev_some.mp q) hy) _ _ _ _ _ hx
    exact ev_some.mpr ⟨n + 1, hn⟩
  cases hx : ev d M b vs st μ with
  | some x => exact (h1 x hx).symm
  | none =>
    cases hy : xb (cC d) (jJ d M) (blk (mt M) b).2 ((blk (mt M) b).1.zip vs) st μ with
    | none => rfl
    | some y => rw [h2 y hy] at hx; cases hx
theorem eE_mle : ∀ (n d M b : Nat) (vs st : List Value) (μ : MM) (x : Option Value × MM), eE n d M b vs st μ = some x → mle μ x.2
  | 0, _, _, _, _, _, _, _, h => by cases h
  | n + 1, d, M, b, vs, st, μ, x, h => by
    rw [eE_succ] at h
    have hC : ∀ M ar μ y, cCn n d M ar μ = some y → mle μ y.2 := by
      intro M ar μ y hy
      cases d with
      | zero => cases hy
      | succ d =>
        obtain ⟨g, hy⟩ := gd_inv hy
        obtain ⟨vs, hy, -⟩ := pik_inv _ _ _ hy
        exact eE_mle n _ _ _ _ _ _ _ hy
    have hJ : ∀ b ls st μ y, jJn n d M b ls st μ = some y → mle μ y.2 := by
      intro b ls st μ y hy
      obtain ⟨vs, hy, -⟩ := pik_inv _ _ _ hy
      exact eE_mle n _ _ _ _ _ _ _ hy
    have key : ∀ (es : List RI) (ls : LV) (st : List Value) (μ : MM) (y : Option Value × MM), xb (cCn n d) (jJn n d M) es ls st μ = some y → mle μ y.2 := by
      intro es
      induction es with
      | nil => intro ls st μ y hy; cases hy
      | cons e es ih =>
        intro ls st μ y hy
        unfold xb at hy
        rcases shp_x1 e.2.1 e.2.2.2.1 ls st μ with ⟨l1, s1, m1, hm, hh⟩ | ⟨b, l1, s1, m1, hm, hh⟩ | ⟨w, hm, hh⟩ | ⟨rk, M', ar, l1, s1, hh⟩
        · have h1 := hh (cCn n d) (jJn n d M) (fun ls st μ => xb (cCn n d) (jJn n d M) es ls st μ)
          dsimp only at h1
          rw [h1] at hy
          exact mle_tr hm (ih _ _ _ _ hy)
        · have h1 := hh (cCn n d) (jJn n d M) (fun ls st μ => xb (cCn n d) (jJn n d M) es ls st μ)
          dsimp only at h1
          rw [h1] at hy
          exact mle_tr hm (hJ _ _ _ _ _ hy)
        · have h1 := hh (cCn n d) (jJn n d M) (fun ls st μ => xb (cCn n d) (jJn n d M) es ls st μ)
          dsimp only at h1
          rw [h1] at hy
          exact hm _ hy
        · have h1 := hh (cCn n d) (jJn n d M) (fun ls st μ => xb (cCn n d) (jJn n d M) es ls st μ)
          dsimp only at h1
          rw [h1] at hy
          obtain ⟨r1, μ1, e1, e2⟩ := bnd_inv hy
          exact mle_tr (hC _ _ _ _ e1) (ih _ _ _ _ e2)
    exact key _ _ _ _ _ h
/-- THE MACHINE FOLLOWS every run -/
theorem simE {N0 : Nat} {G : GG} {ro : Nat → Nat} {z : Value} {xs : Nat → Int32} {L : Nat} (hz : z = .null ∨ ∃ a, z = .ref a) (hok : ∀ M, M + 1 < allM.length → ∃ pw, okMT (mt M) pw = true) (hobj : Cond.instanceMethod objectInit ∈ gTbl ∧ Cond.code objectInit ⟨#[0xb1]⟩ 1 none ∈ gTbl) : ∀ n, SimE N0 G ro z xs L n
  | 0 => fun p l e R s m args below meth c Q z0 y0 d M b r μ9 vs st μ _ _ _ h => by cases h
  | n + 1 => fun p l e R s m args below meth c Q z0 y0 d M b r μ9 vs st μ ok hret cx h => by
    have ih := simE (N0 := N0) (G := G) (ro := ro) (z := z) (xs := xs) (L := L) hz hok hobj n
    rw [eE_succ] at h
    have hne : (blk (mt M) b).2 ≠ [] := by
      intro q
      rw [q] at h
      cases h
    refine simL (t := mt M) (d := d) hok hobj (fun M' ar μ r1 μ1 hM hc => ?_) hret cx (fun b' ls st μ hj => ?_) _ _ _ _ _ (okL_bpc ok b hne) h
    · cases d with
      | zero => cases hc
      | succ d =>
        obtain ⟨g, hc⟩ := gd_inv hc
        obtain ⟨g1, g2⟩ := and2 g
        obtain ⟨vs, hc, hin⟩ := pik_inv _ _ _ hc
        obtain ⟨pw, hpw⟩ := hok M' hM
        exact con_of ih hz hpw (Nat.eq_of_beq_eq_true g1) (Nat.le_of_ble_eq_true g2) hin hc (eE_mle _ _ _ _ _ _ _ _ hc)
    · obtain ⟨vs, hj, hin⟩ := pik_inv _ _ _ hj
      exact (ih p l e R s m args below meth c Q z0 y0 d M b' r μ9 vs st μ ok hret cx hj).sub hin
end
section
/-! THE LAW's ENTRY: what the Statement gives of it -/
def FL : List Cond := flatC (Jvm.Cond.and given_1 narrow_1)
def stm (i : Nat) : Term := .string (strT.getD i ("", 0, "")).1 (strT.getD i ("", 0, "")).2.1
def fin (w : Cond) : Bool := decide (w ∈ FL)
def strOK (i : Nat) : Bool := fin (.exactly (stm i) "java/lang/String") && fin (.eq (.field (stm i) "java/lang/String" "coder" "B") (.int 0)) && fin (.arrayOf (.field (stm i) "java/lang/String" "value" "[B") .byte) && fin (.eq (.length (.field (stm i) "java/lang/String" "value" "[B")) (.int (Int32.ofNat (strN i)))) && ((List.range (strN i)).all fun j => fin (.eq (.elem (.field (stm i) "java/lang/String" "value" "[B") (.int (Int32.ofNat j))) (.int (strB i j)))) && decide (Cond.stringRef (strT.getD i ("", 0, "")).1 (strT.getD i ("", 0, "")).2.1 (strT.getD i ("", 0, "")).2.2 ∈ lw_tbl) && Nat.ble (strN i) 1000
theorem str_ok : (List.range 13).all strOK = true := by decide +kernel
theorem nc_ok : ncastW.all (fun q => fin (.not (.castable q.1 q.2))) = true := by decide +kernel
theorem ca_ok : castW.all (fun q => decide (Cond.castable q.1 q.2 ∈ lw_tbl)) = true := by decide +kernel
theorem cl_ok : vwCl.all (fun q => decide (Cond.instantiable q.1 q.2.2 ∈ lw_tbl)) = true := by decide +kernel
theorem ac_ok : (decide (Cond.arrayClass .int ∈ lw_tbl) && decide (Cond.arrayClass .long ∈ lw_tbl) && decide (Cond.arrayClass .boolean ∈ lw_tbl) && decide (Cond.arrayClass .byte ∈ lw_tbl) && decide (Cond.arrayOver (.object "TrueHeard$Clause") ∈ lw_tbl) && decide (Cond.arrayOver (.object "TrueHeard$Runner") ∈ lw_tbl)) = true := by decide +kernel
theorem ls_ok : (decide (Cond.laysStatic "java/lang/String" "COMPACT_STRINGS" "Z" ∈ lw_tbl) && decide (Cond.initialized "java/lang/String" ∈ lw_tbl) && decide (Cond.laysStatic "jdk/internal/util/Preconditions" "SIOOBE_FORMATTER" "Ljava/util/function/BiFunction;" ∈ lw_tbl) && decide (Cond.initialized "jdk/internal/util/Preconditions" ∈ lw_tbl) && fin (.eq (.static "java/lang/String" "COMPACT_STRINGS" "Z") (.int 1)) && fin (.isRef (.static "jdk/internal/util/Preconditions" "SIOOBE_FORMATTER" "Ljava/util/function/BiFunction;"))) = true := by decide +kernel
theorem oi_ok : Cond.instanceMethod objectInit ∈ gTbl ∧ Cond.code objectInit ⟨#[0xb1]⟩ 1 none ∈ gTbl := by
  refine ⟨List.mem_filter.mpr ⟨?_, rfl⟩, List.mem_filter.mpr ⟨?_, rfl⟩⟩ <;> decide +kernel
/-- the memory in which the law begins -/
def mu0 (xs : Nat → Int32) (L : Nat) : MM := (fun q => if q < 28 then roK q else 99, fun q => if q < 13 then 0 else if q < 26 then strN (q - 13) else if q = 26 then L else 0, 28, 0, fun q k => if q < 13 then 0 else if q < 26 then strB (q - 13) k else if q = 26 then xs k else 0, fun _ _ => 0, fun q k => if q < 13 ∧ k = 0 then some (13 + q) else none)
theorem rep0 {G : GG} {ro : Nat → Nat} {xs : Nat → Int32} {L : Nat} {H : Heap} : Rep H.size G ro xs L (mu0 xs L) H := by
  refine ⟨⟨Nat.le_refl _, rfl⟩, fun q => ?_, ⟨fun i hi => ⟨?_, ?_, ?_, fun j => ?_⟩, ?_, fun j => ?_⟩, fun q h1 h2 => ?_⟩
  · by_cases h : q < 28
    · exact Or.inl ⟨h, if_pos h⟩
    · exact Or.inr (Or.inr ⟨by omega, by show 28 ≤ q; omega, if_neg h⟩)
  · show (if i < 13 ∧ 0 = 0 then some (13 + i) else none) = _
    rw [if_pos ⟨hi, rfl⟩]
  · show (if i < 13 then (0 : Int32) else _) = _
    rw [if_pos hi]
  · show (if 13 + i < 13 then 0 else if 13 + i < 26 then strN (13 + i - 13) else _) = _
    rw [if_neg (by omega), if_pos (by omega), Nat.add_sub_cancel_left]
  · show (if 13 + i < 13 then (0 : Int32) else if 13 + i < 26 then strB (13 + i - 13) j else _) = _
    rw [if_neg (by omega), if_pos (by omega), Nat.add_sub_cancel_left]
  · rfl
  · rfl
  · exact absurd h2 (by show ¬ q < 28; omega)
theorem wf0 {s : State} {args : Array Value} {b L : Nat} {xs : Nat → Int32} (hts : ∀ w ∈ lw_tbl, w.before args s = true) (hgv : (Jvm.Cond.and given_1 narrow_1).before args s = true) (hX : va_X b L xs s s.heap) (hb : b < s.heap.size) : ∃ (G : GG) (ro : Nat → Nat) (z : Value), ro 26 = b ∧ WF s.heap.size G ro z xs L s := by
  have hfl := flat_of_before _ hgv
  have hfin : ∀ w, fin w = true → w.before args s = true := fun w h => hfl w (of_decide_eq_true h)
  have hA : ∀ a : Nat, a < s.heap.size → ¬ s.heap.size ≤ a := fun a h => Nat.not_le.mpr h
  have hcl : ∀ ci : Nat, ∃ w : ClassId × (Nat → Nat), ∀ q : vw_C, vwCl[ci]? = some q → u_Kn s q.1 q.2.1 q.2.2 w.1 w.2 := by
    intro ci
    cases hq : vwCl[ci]? with
    | none => exact ⟨(0, fun _ => 0), fun q h => by cases h⟩
    | some q =>
      obtain ⟨cC, iS, hk⟩ := u_known (C := q.1) (T := q.2.1) (N := q.2.2) (n := q.2.2) hts (fun w hw => (List.mem_filter.mp (vw_in hq w hw)).1) (hts _ (of_decide_eq_true (List.all_eq_true.mp cl_ok q (List.mem_of_getElem? hq))))
      exact ⟨(cC, iS), fun q' h => by cases h; exact hk⟩
  obtain ⟨fc, hfc⟩ := Classical.axiomOfChoice hcl
  obtain ⟨h, a6⟩ := and2 ac_ok
  obtain ⟨h, a5⟩ := and2 h
  obtain ⟨h, a4⟩ := and2 h
  obtain ⟨h, a3⟩ := and2 h
  obtain ⟨a1, a2⟩ := and2 h
  have prim : ∀ ty : FieldType, (∀ C, ty ≠ .object C) → (Cond.arrayClass ty).before args s = true → ∃ cA, ArrOfT s cA ty ∧ va_RA s cA ty := by
    intro ty hno hw
    obtain ⟨cA, kA, comp, h1, h2, h3⟩ := Cond.arrayClass_spec hw
    refine ⟨cA, fun n z => ⟨(fun k h => by cases h), kA, h2, comp, h3⟩, ?_⟩
    cases ty <;> first | exact h1 | exact absurd rfl (hno _)
  have refa : ∀ E : String, (Cond.arrayOver (.object E)).before args s = true → ∃ cA, ArrOfT s cA (.object E) ∧ va_RA s cA (.object E) := by
    intro E hw
    obtain ⟨comp, cA, kA, h1, -, h2, h3, h4⟩ := Cond.arrayOver_spec hw
    exact ⟨cA, fun n z => ⟨(fun k h => by cases h), kA, h2, comp, h3⟩, kA, comp, h2, h3, h1, h4⟩
  have har : ∀ k : Nat, ∃ cA : ClassId, ∀ ty : FieldType, kty k = some ty → ArrOfT s cA ty ∧ va_RA s cA ty := by
    intro k
    unfold kty
    split
    · obtain ⟨cA, h⟩ := prim .int (fun _ h => by cases h) (hts _ (of_decide_eq_true a1))
      exact ⟨cA, fun ty e => by cases e; exact h⟩
    · obtain ⟨cA, h⟩ := prim .long (fun _ h => by cases h) (hts _ (of_decide_eq_true a2))
      exact ⟨cA, fun ty e => by cases e; exact h⟩
    · obtain ⟨cA, h⟩ := prim .boolean (fun _ h => by cases h) (hts _ (of_decide_eq_true a3))
      exact ⟨cA, fun ty e => by cases e; exact h⟩
    · obtain ⟨cA, h⟩ := prim .byte (fun _ h => by cases h) (hts _ (of_decide_eq_true a4))
      exact ⟨cA, fun ty e => by cases e; exact h⟩
    · obtain ⟨cA, h⟩ := refa _ (hts _ (of_decide_eq_true a5))
      exact ⟨cA, fun ty e => by cases e; exact h⟩
    · obtain ⟨cA, h⟩ := refa _ (hts _ (of_decide_eq_true a6))
      exact ⟨cA, fun ty e => by cases e; exact h⟩
    · exact ⟨0, fun ty e => by cases e⟩
  obtain ⟨fa, hfa⟩ := Classical.axiomOfChoice har
  have hst : ∀ i : Nat, ∃ q : (Nat → Nat) × (Nat → Nat), i < 13 → vk_S 1 [strN i] [strL.getD i []] q.1 q.2 (fun q => s.heap.size ≤ q) s s.heap ∧ (stm i).eval args s none [] s = some (.ref (q.1 0)) := by
    intro i
    by_cases hi : i < 13
    · have h := List.all_eq_true.mp str_ok i (List.mem_range.mpr hi)
      obtain ⟨h, s7⟩ := and2 h
      obtain ⟨h, s6⟩ := and2 h
      obtain ⟨h, s5⟩ := and2 h
      obtain ⟨h, s4⟩ := and2 h
      obtain ⟨h, s3⟩ := and2 h
      obtain ⟨s1, s2⟩ := and2 h
      have z1 : ∀ j : Nat, j < 1 → j = 0 := fun j hj => by omega
      obtain ⟨aK, aV, e1, e2⟩ := vk_Sof (args := args) (s := s) (N := 1) (tm := fun _ => stm i) (len := [strN i]) (byt := [strL.getD i []]) (A := fun q => s.heap.size ≤ q) (fun j hj => by rw [z1 j hj]; show strN i < 2 ^ 31; have := Nat.le_of_ble_eq_true s7; omega) (fun j hj => hfin _ s1) (fun j hj => hfin _ s2) (fun j hj => hfin _ s3) (fun j hj => by rw [z1 j hj]; exact hfin _ s4) (fun j hj k hk => by
          rw [z1 j hj] at hk ⊢
          exact hfin _ (List.all_eq_true.mp s5 k (List.mem_range.mpr hk))) (fun j k hj hk hne => absurd ((z1 j hj).trans (z1 k hk).symm) hne) hA
      exact ⟨(aK, aV), fun _ => ⟨e1, e2 0 (by decide)⟩⟩
    · exact ⟨(fun _ => 0, fun _ => 0), fun h => absurd h hi⟩
  obtain ⟨fs, hfs⟩ := Classical.axiomOfChoice hst
  obtain ⟨h, l6⟩ := and2 ls_ok
  obtain ⟨h, l5⟩ := and2 h
  obtain ⟨h, l4⟩ := and2 h
  obtain ⟨h, l3⟩ := and2 h
  obtain ⟨l1, l2⟩ := and2 h
  have hZ1 : va_Z "java/lang/String" "COMPACT_STRINGS" "Z" (.int 1) (fun q => s.heap.size ≤ q) s s.heap := va_Zof (hts _ (of_decide_eq_true l1)) (hts _ (of_decide_eq_true l2)) (va_eqi (hfin _ l5)) hA
  have hZ2 := va_Zqof (A := fun q => s.heap.size ≤ q) (hts _ (of_decide_eq_true l3)) (hts _ (of_decide_eq_true l4)) (hfin _ l6) hA
  obtain ⟨z, hz, hZ3⟩ : ∃ z : Value, (z = .null ∨ ∃ a, z = .ref a) ∧ va_Z "jdk/internal/util/Preconditions" "SIOOBE_FORMATTER" "Ljava/util/function/BiFunction;" z (fun q => s.heap.size ≤ q) s s.heap := by
    rcases hZ2 with h | ⟨t, h⟩
    · exact ⟨.null, Or.inl rfl, h⟩
    · exact ⟨.ref t, Or.inr ⟨t, rfl⟩, h⟩
  refine ⟨(fun ci => (fc ci).1, fun ci => (fc ci).2, fa), fun q => if q < 13 then (fs q).1 0 else if q < 26 then (fs (q - 13)).2 0 else b, z, rfl, ⟨Nat.le_refl _, hz⟩, fun ci q h => hfc ci q h, fun k ty h => hfa k ty h, fun i hi => ⟨(fs i).1, (fs i).2, ?_, ?_, (hfs i hi).1⟩, fun i w hw => ?_, ⟨hZ1, hZ3⟩, ⟨hX, hb, Nat.not_le.mpr hb⟩, fun w hw hn => va_Nw.of (nest_on hn) (hts w hw), fun q hq => va_Nw.of rfl (hts _ (of_decide_eq_true (List.all_eq_true.mp ca_ok q hq))), fun q hq => va_Nc.of (hfin _ (List.all_eq_true.mp nc_ok q hq)), va_AO.of (hts _ (of_decide_eq_true a5)), va_AO.of (hts _ (of_decide_eq_true a6))⟩
  · show _ = if i < 13 then (fs i).1 0 else _
    rw [if_pos hi]
  · show _ = if 13 + i < 13 then _ else if 13 + i < 26 then (fs (13 + i - 13)).2 0 else _
    rw [if_neg (by omega), if_pos (by omega), Nat.add_sub_cancel_left]
  · have hi : i < 13 := (List.getElem?_eq_some_iff.mp hw).1
    have h := List.all_eq_true.mp str_ok i (List.mem_range.mpr hi)
    obtain ⟨h, s7⟩ := and2 h
    obtain ⟨h, s6⟩ := and2 h
    have e : strT.getD i ("", 0, "") = w := by rw [List.getD_eq_getElem?_getD, hw]; rfl
    rw [e] at s6
    have h2 := (hfs i hi).2
    unfold stm at h2
    rw [e] at h2
    show vk_R w.1 w.2.1 w.2.2 (if i < 13 then (fs i).1 0 else _) s
    rw [if_pos hi]
    have h3 : (Cond.stringRef w.1 w.2.1 w.2.2).before #[] s = true := by
      have := hts _ (of_decide_eq_true s6)
      exact this
    refine vk_R.of h3 ?_
    rw [Term.string_eval_of_vm (args := args) rfl]
    exact h2
end
section
-- ===== end of PART A; then your names; then what follows =====
/-! THE CLAIM OUT OF ONE WALK OF THE LAW'S BODY. Your part is whole_start (and what it stands on); all else here is the same for every law, but numbers. -/
def R_law : String := "TrueHeardLaw"
def lw_P (b : Addr) (xs : List Int32) (args : Array Value) (s : State) : Prop := args = #[.ref b] ∧ s.IntsAt b xs ∧ xs.length ≤ 3072 ∧ (Jvm.Cond.and given_1 narrow_1).before args s = true
def lw_Q (_ : Array Value) (s : State) (o : Outcome) (t : State) : Prop := o = .returned (some (.int 1)) ∧ Framed s o t [] 600000 7302250
def lw_Z (below : List Frame) (a : Array Value) (s : State) : State → Prop := fun t => ∃ o, t.status = .running ∧ Ended t below o ∧ lw_Q a s o t
/-- the law's own end, with 1 on the stack, nothing written that was there before, its room as the claim has it -/
theorem lw_ret {p : Program} {l : Launch} {e : Env} {s : State} {m : MethodId} {below : List Frame} {meth : Method} {c : Code} {b : Nat} (hx : p.tables.exec = Jvm.exec) (hb : c.code = code) (hr : meth.sig.returnType = ret) (hlocks : meth.locks = false) {pc : Nat} {H : Heap} {ls : Array Slot} (hdg : decode code pc = .ok (.ireturn, 1)) : W p l e room_1 s m #[Value.ref b] below meth c H [] 600000 7302250 (lw_Z below #[Value.ref b] s) (F0 m pc ls [.int 1]) := by
  intro T hT X
  obtain ⟨fs, hret, hrun, hended, hW, hframe⟩ := X.leave (v := some (.int 1)) (hlocks := hlocks) (fun h => by rw [hr] at h; cases h)
  have hmeth' : T.vm.method? m = some meth := X.method'
  refine ⟨T.setFrames fs, ?_, .returned (some (.int 1)), hrun, hended, rfl, ⟨_, rfl⟩, hW, hframe⟩
  jvm_step X.here [X.here.top, hx, hb, hdg, hmeth', hr, ret, narrow_b1]
  (try refine ⟨rfl, ?_⟩); (try refine ⟨rfl, ?_⟩)
  first | (intro acts; rw [hret _ acts rfl rfl rfl]) | rw [hret _ _ rfl rfl rfl]
  exact Steps.refl _
/-- what holds at the law's entry: the machine, the code, the tables' words (any of lw_tbl by 'hts w (by decide +kernel)'), the script of L ints xs at the cell b, what the Statement gives of the start (any of its parts by flat_of_before) -/
def lw_At (p : Program) (s : State) (m : MethodId) (meth : Method) (c : Code) (b L : Nat) (xs : Nat → Int32) : Prop :=
  p.tables.exec = Jvm.exec ∧ c.code = code ∧ meth.sig.returnType = ret ∧ c.maxLocals = 4 ∧ s.vm.findClass R_law = some m.cls ∧ (∀ w ∈ lw_tbl, w.before #[Value.ref b] s = true) ∧ va_X b L xs s s.heap ∧ b < s.heap.size ∧ meth.locks = false ∧ (Jvm.Cond.and given_1 narrow_1).before #[Value.ref b] s = true
end
section
/-! THE LAW OUT OF A RUN OF THE SMALL MACHINE -/
theorem mt_law : mt 209 = km_L_law := rfl
/-- what is left: the law's run, for every script -/
def LawRuns : Prop := ∀ (xs : Nat → Int32) (L : Nat), L ≤ 3072 → ∃ μ9 : MM, ev 1000 209 0 [.ref 26] [] (mu0 xs L) = some (some (.int 1), μ9) ∧ msz μ9 ≤ 600000 ∧ msl μ9 ≤ 7302250
theorem start_of (ok_law : okBk km_L_law = true) (hok : ∀ M, M + 1 < allM.length → ∃ pw, okMT (mt M) pw = true) (hrun : LawRuns) {p : Program} {e : Env} {s : State} {m : MethodId} {below : List Frame} {meth : Method} {c : Code} (l : Launch) {b L : Nat} {xs : Nat → Int32} (hL : L ≤ 3072) (C0 : lw_At p s m meth c b L xs) : W p l e room_1 s m #[Value.ref b] below meth c s.heap [] 0 0 (lw_Z below #[Value.ref b] s) (entryFrame m ([Value.ref b] : List Value).toArray 4) := by
  obtain ⟨hx, hb, hr, hml, hown, hts, hX, hbl, hlocks, hgv⟩ := C0
  obtain ⟨μ9, hev, hz1, hz2⟩ := hrun xs L hL
  obtain ⟨n, hn⟩ := ev_some.mp hev
  obtain ⟨G, ro, z, hro, wf⟩ := wf0 hts hgv hX hbl
  have cx : Cx p room_1 s m #[Value.ref b] meth c s.heap.size G ro z xs L (mt 209) 1000 28 0 μ9 := by
    rw [mt_law]
    refine ⟨hx, hb, hml, hown, fun w hw => hts w (List.mem_filter.mp hw).1, fun q => absurd q (by decide), wf, Nat.le_of_ble_eq_true rfl, Nat.le_of_ble_eq_true rfl, ?_, ?_⟩
    · show msz μ9 - 28 ≤ 600000
      omega
    · show msl μ9 - 0 ≤ 7302250
      omega
  have hk := (simE wf.1.2 hok oi_ok n p l e room_1 s m #[Value.ref b] below meth c (lw_Z below #[Value.ref b] s) 28 0 1000 209 0 (some (.int 1)) μ9 [.ref 26] [] (mu0 xs L) (by rw [mt_law]; exact ok_law) (fun pc i H locs Ls hd hret hR9 hS9 => ?_) cx hn).sub (ls := [(0, .ref 26)]) (fun q hq => by rw [mt_law] at hq; exact hq)
  · have hl := lv_entry ([.ref b]) (n := 4) (Nat.le_of_ble_eq_true rfl)
    rw [lg_entry_eq]
    have e1 : cl2 (cad s.heap.size ro) z [(0, Value.ref 26)] = lv_args 0 [Value.ref b] := by
      have e2 : cad s.heap.size ro 26 = b := by
        unfold cad
        rw [if_pos (by decide), hro]
      show [(0, Value.ref (cad s.heap.size ro 26))] = [(0, Value.ref b)]
      rw [e2]
    rw [← e1] at hl
    have hk2 := hk.2 s.heap [] _ rep0 va_S.rf (by rw [mt_law]; exact hl) (Nat.le_refl _) (Nat.le_refl _)
    rw [mt_law] at hk2
    exact hk2
  · rw [mt_law] at hd hret
    cases i with
    | ireturn =>
      refine va_forget hS9.2.2 (W.widen (k := 600000) (n := 7302250) (by omega) (by omega) ?_)
      exact lw_ret hx hb hr hlocks hd
    | lreturn =>
      obtain ⟨x, e1, -⟩ := hret
      cases e1
    | areturn =>
      obtain ⟨e1 | ⟨a, e1⟩, -⟩ := hret <;> cases e1
    | return_ => cases hret.1
    | _ => exact False.elim hret
end
section
/-! THE MEMORY'S FIXED PART: after the constructors, places below 57 keep their kinds, lengths and final fields -/
def fxK : List Nat := [30, 30, 30, 30, 30, 30, 30, 30, 30, 30, 30, 30, 30, 31, 31, 31, 31, 31, 31, 31, 31, 31, 31, 31, 31, 31, 32, 33, 11, 10, 23, 24, 24, 25, 10, 23, 24, 24, 25, 5, 24, 20, 9, 20, 21, 22, 12, 20, 20, 20, 22, 21, 21, 20, 20, 22, 20]
def fxN : List (Option Nat) := [some 0, some 0, some 0, some 0, some 0, some 0, some 0, some 0, some 0, some 0, some 0, some 0, some 0, some 0, some 4, some 4, some 4, some 3, some 3, some 5, some 4, some 5, some 3, some 5, some 4, some 5, none, some 0, some 0, some 0, some 100, some 0, some 5, some 5, some 0, some 100, some 0, some 5, some 5, some 0, some 10, some 100, some 0, some 20, some 4, some 256, some 0, some 1562, some 1562, some 5, some 64, some 16, some 4, some 4, some 16, some 256, some 20]
def fxR : List (List (Option Nat)) := [[some 13], [some 14], [some 15], [some 16], [some 17], [some 18], [some 19], [some 20], [some 21], [some 22], [some 23], [some 24], [some 25], [], [], [], [], [], [], [], [], [], [], [], [], [], [], [], [some 29, some 34, some 39, some 42, some 44, some 45], [some 30, none, none, none, some 32, none, some 33], [], [], [], [], [some 35, none, none, none, some 37, none, some 38], [], [], [], [], [some 29, some 40, some 41], [], [], [some 43], [], [], [], [none, some 47, some 48, none, none, none, none, none, none, none, some 49, some 50, none, none, none, some 51, some 52, some 53, some 54, some 55, some 56], [], [], [], [], [], [], [], [], [], []]
def nxt (o : Option Nat) (x : Nat) : Nat := match o with
  | some y => y
  | none => x
def nxo (o : Option Nat) (x : Option Nat) : Option Nat := match o with
  | some y => some y
  | none => x
def fx (ν : MM) : MM := (fun q => nxt fxK[q]? (shp ν q), fun q => nxt (fxN.getD q none) (aln ν q), msz ν + 57, msl ν, ν.2.2.2.2.1, ν.2.2.2.2.2.1, fun q k => nxo ((fxR.getD q []).getD k none) (gR ν q k))
end
section
/-! block equations -/
theorem e_96_0 (d : Nat) (ν : MM) : ev (d + 1) 96 0 [.ref 28] [] (fx ν) = bnd 1 (ev d 49 0 [.ref 29, .int 0] [] (fx ν)) fun rs μ1 => ev (d + 1) 96 1 [.ref 28] (rs ++ []) μ1 := (ev_eq ..).trans rfl
theorem e_96_1 (d : Nat) (s0 : Int32) (ν : MM) : ev d 96 1 [.ref 28] [.int s0] (fx ν) = if s0 = 0 then (ev d 96 2 [] [] (fx ν)) else (ev d 96 3 [.ref 28] [] (fx ν)) := (ev_eq ..).trans rfl
theorem e_96_2 (d : Nat) (ν : MM) : ev d 96 2 [] [] (fx ν) = some (some (.int (-3)), (fx ν)) := (ev_eq ..).trans rfl
theorem e_96_3 (d : Nat) (ν : MM) : ev (d + 1) 96 3 [.ref 28] [] (fx ν) = bnd 1 (ev d 107 0 [.int (gI ν 29 9), .int 0] [] (fx ν)) fun rs μ1 => ev (d + 1) 96 4 [.ref 28] (rs ++ [.int 1]) μ1 := (ev_eq ..).trans rfl
theorem e_96_4 (d : Nat) (s0 : Int32) (s1 : Int32) (ν : MM) : ev d 96 4 [.ref 28] [.int s0, .int s1] (fx ν) = ev d 96 5 [.ref 28, .int (s1 <<< (s0 &&& 31)), .int 0] [] (fx ν) := (ev_eq ..).trans rfl
theorem e_56_0 (d : Nat) (v1 : Nat) (ν : MM) : ev (d + 1) 56 0 [.ref 29, .ref v1] [] (fx ν) = gd (cin [0, 1, 2, 4, 6, 7, 8] (shp (fx ν) v1)) (match Nat.beq (shp (fx ν) v1) 0 with | true => bnd 1 (ev d 35 0 [] [] (fx ν)) fun rs μ1 => ev (d + 1) 56 1 [.ref 29, .ref v1] (rs ++ [.int (gI ν v1 4)]) μ1 | false => (match Nat.beq (shp (fx ν) v1) 1 with | true => bnd 1 (ev d 35 0 [] [] (fx ν)) fun rs μ1 => ev (d + 1) 56 1 [.ref 29, .ref v1] (rs ++ [.int (gI ν v1 4)]) μ1 | false => (match Nat.beq (shp (fx ν) v1) 2 with | true => bnd 1 (ev d 35 0 [] [] (fx ν)) fun rs μ1 => ev (d + 1) 56 1 [.ref 29, .ref v1] (rs ++ [.int (gI ν v1 4)]) μ1 | false => (match Nat.beq (shp (fx ν) v1) 4 with | true => bnd 1 (ev d 35 0 [] [] (fx ν)) fun rs μ1 => ev (d + 1) 56 1 [.ref 29, .ref v1] (rs ++ [.int (gI ν v1 4)]) μ1 | false => (match Nat.beq (shp (fx ν) v1) 6 with | true => bnd 1 (ev d 35 0 [] [] (fx ν)) fun rs μ1 => ev (d + 1) 56 1 [.ref 29, .ref v1] (rs ++ [.int (gI ν v1 4)]) μ1 | false => (match Nat.beq (shp (fx ν) v1) 7 with | true => bnd 1 (ev d 40 0 [.ref v1] [] (fx ν)) fun rs μ1 => ev (d + 1) 56 1 [.ref 29, .ref v1] (rs ++ [.int (gI ν v1 4)]) μ1 | false => (match Nat.beq (shp (fx ν) v1) 8 with | true => bnd 1 (ev d 35 0 [] [] (fx ν)) fun rs μ1 => ev (d + 1) 56 1 [.ref 29, .ref v1] (rs ++ [.int (gI ν v1 4)]) μ1 | false => (none)))))))) := (ev_eq ..).trans rfl
theorem e_96_5 (d : Nat) (v1 : Int32) (v2 : Int32) (ν : MM) : ev d 96 5 [.ref 28, .int v1, .int v2] [] (fx ν) = if (gI ν 29 14) ≤ v2 then (ev d 96 12 [] [] (fx ν)) else (ev d 96 6 [.ref 28, .int v1, .int v2] [] (fx ν)) := (ev_eq ..).trans rfl
theorem e_56_1 (d : Nat) (v1 : Nat) (s0 : Int32) (s1 : Int32) (ν : MM) : ev (d + 1) 56 1 [.ref 29, .ref v1] [.int s0, .int s1] (fx ν) = gd (cin [0, 1, 2, 4, 6, 7, 8] (shp (fx ν) v1)) (bnd 1 (ev d 111 0 [.int (gI ν v1 0), .int (gI ν 29 10)] [] (fx ν)) fun rs μ1 => ev (d + 1) 56 2 [] (rs ++ [.int 2, .ref 29, .int (s1 + s0)]) μ1) := (ev_eq ..).trans rfl
theorem e_96_12 (d : Nat) (ν : MM) : ev d 96 12 [] [] (fx ν) = some (some (.int (-5)), (fx ν)) := (ev_eq ..).trans rfl
theorem e_96_6 (d : Nat) (v1 : Int32) (v2 : Int32) (ν : MM) : ev (d + 1) 96 6 [.ref 28, .int v1, .int v2] [] (fx ν) = bnd 1 (ev d 107 0 [.int (gI ν 29 13), .int v2] [] (fx ν)) fun rs μ1 => ev (d + 1) 96 7 [.ref 28, .int v1, .int v2] (rs ++ []) μ1 := (ev_eq ..).trans rfl
theorem e_21_0 (d : Nat) (v1 : Int32) (v2 : Int32) (ν : MM) : ev (d + 1) 21 0 [.ref 39, .int v1, .int v2] [] (fx ν) = bnd 3 (ev d 207 0 [.ref 41, .int (if 0 < (gI (alc (fx ν) 3 0 3) 39 3) then (gI (alc (fx ν) 3 0 3) 39 3) else 0)] [] (alc (fx ν) 3 0 3)) fun rs μ1 => ev (d + 1) 21 1 [] (rs ++ [.int v2, .int v1, .ref (msz (fx ν)), .ref (msz (fx ν))]) μ1 := (ev_eq ..).trans rfl
theorem e_57_0 (d : Nat) (v1 : Int32) (v2 : Int32) (ν : MM) : ev d 57 0 [.ref 29, .int v1, .int v2] [] (fx ν) = asN (rv (gR ν 29 2)) (none) fun a1 => gd (cin [20, 21, 22, 23, 24, 25, 31, 32] (shp (fx ν) a1)) (ev d 57 1 [.int v1, .int v2, .int 0, .ref a1, .int (Int32.ofNat (aln (fx ν) a1)), .int 0] [] (fx ν)) := (ev_eq ..).trans rfl
theorem e_56_2 (d : Nat) (s0 : Int32) (s1 : Int32) (s3 : Int32) (ν : MM) : ev (d + 1) 56 2 [] [.int s0, .int s1, .ref 29, .int s3] (fx ν) = bnd 1 (ev d 57 0 [.ref 29, .int s1, .int s0] [] (fx ν)) fun rs μ1 => ev (d + 1) 56 3 [] (rs ++ [.int s3]) μ1 := (ev_eq ..).trans rfl
theorem e_96_7 (d : Nat) (v1 : Int32) (v2 : Int32) (s0 : Int32) (ν : MM) : ev d 96 7 [.ref 28, .int v1, .int v2] [.int s0] (fx ν) = if ((v1 >>> (s0 &&& 31)) &&& 1) = 0 then (ev d 96 8 [.int v2] [] (fx ν)) else (ev d 96 9 [.ref 28, .int v2, .int s0] [] (fx ν)) := (ev_eq ..).trans rfl
theorem e_134_0 (d : Nat) (v1 : Int32) (ν : MM) : ev d 134 0 [.ref 46, .int v1] [] (fx ν) = if v1 = (-1) then (ev d 134 1 [.ref 46, .int (162 + (140 * v1))] [] (fx (sI (sI (sI ν 46 12 0) 46 13 0) 46 14 0))) else (ev d 134 2 [.ref 46, .int v1, .int (162 + (140 * v1))] [] (fx (sI (sI (sI ν 46 12 0) 46 13 0) 46 14 0))) := (ev_eq ..).trans rfl
theorem e_57_1 (d : Nat) (v1 : Int32) (v2 : Int32) (v3 : Int32) (v4 : Nat) (v5 : Int32) (v6 : Int32) (ν : MM) : ev d 57 1 [.int v1, .int v2, .int v3, .ref v4, .int v5, .int v6] [] (fx ν) = if v5 ≤ v6 then (ev d 57 8 [.int v1, .int v3] [] (fx ν)) else (ev d 57 2 [.int v1, .int v2, .int v3, .ref v4, .int v5, .int v6] [] (fx ν)) := (ev_eq ..).trans rfl
theorem e_56_3 (d : Nat) (s0 : Int32) (s1 : Int32) (ν : MM) : ev d 56 3 [] [.int s0, .int s1] (fx ν) = some (some (.int (s1 + s0)), (fx ν)) := (ev_eq ..).trans rfl
theorem e_96_8 (d : Nat) (v2 : Int32) (ν : MM) : ev d 96 8 [.int v2] [] (fx ν) = some (some (.int v2), (fx ν)) := (ev_eq ..).trans rfl
theorem e_96_9 (d : Nat) (v2 : Int32) (v3 : Int32) (ν : MM) : ev (d + 1) 96 9 [.ref 28, .int v2, .int v3] [] (fx ν) = bnd 1 (ev d 58 0 [.ref 29, .int 0, .int ((gI ν 29 10) + v2)] [] (fx ν)) fun rs μ1 => ev (d + 1) 96 10 [.ref 28, .int v2, .int v3] (rs ++ []) μ1 := (ev_eq ..).trans rfl
theorem e_134_1 (d : Nat) (v2 : Int32) (ν : MM) : ev d 134 1 [.ref 46, .int v2] [] (fx ν) = ev d 134 3 [.ref 46, .int v2] [.int 0] (fx ν) := (ev_eq ..).trans rfl
theorem e_134_2 (d : Nat) (v1 : Int32) (v2 : Int32) (ν : MM) : ev d 134 2 [.ref 46, .int v1, .int v2] [] (fx ν) = gd (inb (152 + v1) 1562) (ev d 134 3 [.ref 46, .int v2] [.int (gI ν 47 (152 + v1).toNatClampNeg)] (fx ν)) := (ev_eq ..).trans rfl
theorem e_30_0 (d : Nat) (ν : MM) : ev d 30 0 [.ref 39] [] (fx ν) = if (gI ν 39 5) < 0 then (ev d 30 4 [.ref 39] [] (fx ν)) else (ev d 30 1 [.ref 39] [] (fx ν)) := (ev_eq ..).trans rfl
theorem e_57_8 (d : Nat) (v1 : Int32) (v3 : Int32) (ν : MM) : ev d 57 8 [.int v1, .int v3] [] (fx ν) = if v1 = 1 then (ev d 57 9 [.int v3] [] (fx ν)) else (ev d 57 10 [.int v3] [] (fx ν)) := (ev_eq ..).trans rfl
theorem e_57_2 (d : Nat) (v1 : Int32) (v2 : Int32) (v3 : Int32) (v4 : Nat) (v5 : Int32) (v6 : Int32) (ν : MM) : ev d 57 2 [.int v1, .int v2, .int v3, .ref v4, .int v5, .int v6] [] (fx ν) = gd (cin [24, 25] (shp (fx ν) v4) && inb v6 (aln (fx ν) v4)) (asN (rv (gR (fx ν) v4 v6.toNatClampNeg)) (ev d 57 7 [.int v1, .int v2, .int v3, .ref v4, .int v5, .int v6] [] (fx ν)) fun a1 => ev d 57 3 [.int v1, .int v2, .int v3, .ref v4, .int v5, .int v6, .ref a1] [] (fx ν)) := (ev_eq ..).trans rfl
theorem e_96_10 (d : Nat) (v2 : Int32) (v3 : Int32) (s0 : Int32) (ν : MM) : ev (d + 1) 96 10 [.ref 28, .int v2, .int v3] [.int s0] (fx ν) = bnd 1 (ev d 109 0 [.int s0, .int v3] [] (fx ν)) fun rs μ1 => ev (d + 1) 96 11 [.ref 28, .int v2] (rs ++ []) μ1 := (ev_eq ..).trans rfl
theorem e_134_3 (d : Nat) (v2 : Int32) (s0 : Int32) (ν : MM) : ev d 134 3 [.ref 46, .int v2] [.int s0] (fx ν) = ev d 134 4 [.ref 46, .int v2, .int s0, .int 0, .int v2] [] (fx ν) := (ev_eq ..).trans rfl
theorem e_30_4 (d : Nat) (ν : MM) : ev d 30 4 [.ref 39] [] (fx ν) = ev d 30 5 [.ref 39] [.int 0] (fx ν) := (ev_eq ..).trans rfl
theorem e_30_1 (d : Nat) (ν : MM) : ev d 30 1 [.ref 39] [] (fx ν) = if (gI ν 29 1) ≤ (gI ν 39 5) then (ev d 30 4 [.ref 39] [] (fx ν)) else (ev d 30 2 [.ref 39] [] (fx ν)) := (ev_eq ..).trans rfl
theorem e_57_9 (d : Nat) (v3 : Int32) (ν : MM) : ev d 57 9 [.int v3] [] (fx ν) = ev d 57 11 [] [.int (if v3 < 2 then v3 else 2)] (fx ν) := (ev_eq ..).trans rfl
theorem e_57_10 (d : Nat) (v3 : Int32) (ν : MM) : ev d 57 10 [.int v3] [] (fx ν) = ev d 57 11 [] [.int v3] (fx ν) := (ev_eq ..).trans rfl
theorem e_57_7 (d : Nat) (v1 : Int32) (v2 : Int32) (v3 : Int32) (v4 : Nat) (v5 : Int32) (v6 : Int32) (ν : MM) : ev d 57 7 [.int v1, .int v2, .int v3, .ref v4, .int v5, .int v6] [] (fx ν) = ev d 57 1 [.int v1, .int v2, .int v3, .ref v4, .int v5, .int (v6 + 1)] [] (fx ν) := (ev_eq ..).trans rfl
theorem e_57_3 (d : Nat) (v1 : Int32) (v2 : Int32) (v3 : Int32) (v4 : Nat) (v5 : Int32) (v6 : Int32) (v7 : Nat) (ν : MM) : ev d 57 3 [.int v1, .int v2, .int v3, .ref v4, .int v5, .int v6, .ref v7] [] (fx ν) = gd (cin [3] (shp (fx ν) v7)) (if (gI ν v7 0) = v1 then (ev d 57 4 [.int v1, .int v2, .int v3, .ref v4, .int v5, .int v6, .ref v7] [] (fx ν)) else (ev d 57 7 [.int v1, .int v2, .int v3, .ref v4, .int v5, .int v6] [] (fx ν))) := (ev_eq ..).trans rfl
theorem e_96_11 (d : Nat) (v2 : Int32) (s0 : Int32) (ν : MM) : ev d 96 11 [.ref 28, .int v2] [.int s0] (fx ν) = ev d 96 5 [.ref 28, .int s0, .int (v2 + 1)] [] (fx ν) := (ev_eq ..).trans rfl
theorem e_134_4 (d : Nat) (v2 : Int32) (v3 : Int32) (v4 : Int32) (v5 : Int32) (ν : MM) : ev d 134 4 [.ref 46, .int v2, .int v3, .int v4, .int v5] [] (fx ν) = if (v2 + v3) ≤ v5 then (ev d 134 39 [.ref 46] [] (fx ν)) else (ev d 134 5 [.ref 46, .int v2, .int v3, .int v4, .int v5] [] (fx ν)) := (ev_eq ..).trans rfl
theorem e_30_5 (d : Nat) (s0 : Int32) (ν : MM) : ev d 30 5 [.ref 39] [.int s0] (fx ν) = if s0 = 0 then (ev d 30 7 [] [] (fx ν)) else (ev d 30 6 [.ref 39] [] (fx ν)) := (ev_eq ..).trans rfl
theorem e_30_2 (d : Nat) (ν : MM) : ev d 30 2 [.ref 39] [] (fx ν) = if 100 ≤ (gI ν 39 5) then (ev d 30 4 [.ref 39] [] (fx ν)) else (ev d 30 3 [.ref 39] [] (fx ν)) := (ev_eq ..).trans rfl
theorem e_57_11 (d : Nat) (s0 : Int32) (ν : MM) : ev d 57 11 [] [.int s0] (fx ν) = some (some (.int s0), (fx ν)) := (ev_eq ..).trans rfl
theorem e_57_4 (d : Nat) (v1 : Int32) (v2 : Int32) (v3 : Int32) (v4 : Nat) (v5 : Int32) (v6 : Int32) (v7 : Nat) (ν : MM) : ev (d + 1) 57 4 [.int v1, .int v2, .int v3, .ref v4, .int v5, .int v6, .ref v7] [] (fx ν) = match Nat.beq (shp (fx ν) v7) 3 with | true => bnd 1 (ev d 11 0 [.ref v7, .int v2] [] (fx ν)) fun rs μ1 => ev (d + 1) 57 5 [.int v1, .int v2, .int v3, .ref v4, .int v5, .int v6, .ref v7] (rs ++ []) μ1 | false => (none) := (ev_eq ..).trans rfl
theorem e_70_0 (d : Nat) (v1 : Int32) (v2 : Int32) (v3 : Int32) (v4 : Int32) (ν : MM) : ev d 70 0 [.ref 28, .int v1, .int v2, .int v3, .int v4] [] (fx ν) = if v1 = 1 then (ev d 70 1 [.ref 28, .int v1, .int v2, .int v3, .int v4, .int (gI ν 29 7)] [] (fx ν)) else if v1 = 2 then (ev d 70 3 [.ref 28, .int v1, .int v2, .int v3, .int v4, .int (gI ν 29 7)] [] (fx ν)) else if v1 = 3 then (ev d 70 5 [.ref 28, .int v1, .int v2, .int v3, .int v4, .int (gI ν 29 7)] [] (fx ν)) else if v1 = 4 then (ev d 70 7 [.ref 28, .int v1, .int v2, .int v3, .int v4, .int (gI ν 29 7)] [] (fx ν)) else if v1 = 5 then (ev d 70 9 [.ref 28, .int v1, .int v2, .int v3, .int v4, .int (gI ν 29 7)] [] (fx ν)) else if v1 = 6 then (ev d 70 11 [.ref 28, .int v2, .int v3, .int v4, .int (gI ν 29 7)] [] (fx ν)) else (ev d 70 13 [.ref 28, .int v2, .int v3, .int v4, .int (gI ν 29 7)] [] (fx ν)) := (ev_eq ..).trans rfl
theorem e_134_39 (d : Nat) (ν : MM) : ev d 134 39 [.ref 46] [] (fx ν) = if (gI ν 46 13) ≤ 2 then (ev d 134 41 [.ref 46] [.ref 46] (fx ν)) else (ev d 134 40 [.ref 46] [.ref 46] (fx ν)) := (ev_eq ..).trans rfl
end
