-- ===== PART A: goes FIRST, ahead of the names: the tables' words, and 'selects' of the private methods out of them =====
/-- a private method of a class that the tables say can be made, by its rows of tables_1 -/
def lw_okq (q : MethodName × Nat) : Prop := (q.1.cls ≠ "java/lang/invoke/MethodHandle" ∧ q.1.cls ≠ "java/lang/invoke/VarHandle") ∧ Cond.instantiable q.1.cls q.2 ∈ tables_1 ∧ Cond.privateMethod q.1 ∈ tables_1 ∧ Cond.instanceMethod q.1 ∈ tables_1
theorem lw_p0 : lw_okq (⟨"SwornCourt$Kinship", "stepsOf", "(II)I"⟩, 4) := ⟨⟨by decide +kernel, by decide +kernel⟩, List.mem_of_getElem? (i := 110) (by decide +kernel), List.mem_of_getElem? (i := 498) (by decide +kernel), List.mem_of_getElem? (i := 499) (by decide +kernel)⟩
theorem lw_p1 : lw_okq (⟨"SwornCourt$Feuds", "isOf", "(III)Z"⟩, 5) := ⟨⟨by decide +kernel, by decide +kernel⟩, List.mem_of_getElem? (i := 86) (by decide +kernel), List.mem_of_getElem? (i := 528) (by decide +kernel), List.mem_of_getElem? (i := 529) (by decide +kernel)⟩
theorem lw_p2 : lw_okq (⟨"SwornCourt", "isPast", "(I)Z"⟩, 11) := ⟨⟨by decide +kernel, by decide +kernel⟩, List.mem_of_getElem? (i := 21) (by decide +kernel), List.mem_of_getElem? (i := 548) (by decide +kernel), List.mem_of_getElem? (i := 549) (by decide +kernel)⟩
theorem lw_p3 : lw_okq (⟨"SwornCourt$LawReader", "skipBlanks", "()V"⟩, 6) := ⟨⟨by decide +kernel, by decide +kernel⟩, List.mem_of_getElem? (i := 158) (by decide +kernel), List.mem_of_getElem? (i := 577) (by decide +kernel), List.mem_of_getElem? (i := 578) (by decide +kernel)⟩
theorem lw_p4 : lw_okq (⟨"SwornCourt$LawReader", "parseHead", "()Z"⟩, 6) := ⟨⟨by decide +kernel, by decide +kernel⟩, List.mem_of_getElem? (i := 158) (by decide +kernel), List.mem_of_getElem? (i := 581) (by decide +kernel), List.mem_of_getElem? (i := 582) (by decide +kernel)⟩
theorem lw_p5 : lw_okq (⟨"SwornCourt$LawReader", "wordEnd", "(I)I"⟩, 6) := ⟨⟨by decide +kernel, by decide +kernel⟩, List.mem_of_getElem? (i := 158) (by decide +kernel), List.mem_of_getElem? (i := 585) (by decide +kernel), List.mem_of_getElem? (i := 586) (by decide +kernel)⟩
theorem lw_p6 : lw_okq (⟨"SwornCourt$LawReader", "isWord", "(IILjava/lang/String;)Z"⟩, 6) := ⟨⟨by decide +kernel, by decide +kernel⟩, List.mem_of_getElem? (i := 158) (by decide +kernel), List.mem_of_getElem? (i := 590) (by decide +kernel), List.mem_of_getElem? (i := 591) (by decide +kernel)⟩
theorem lw_p7 : lw_okq (⟨"SwornCourt$LawReader", "blame", "(II)Z"⟩, 6) := ⟨⟨by decide +kernel, by decide +kernel⟩, List.mem_of_getElem? (i := 158) (by decide +kernel), List.mem_of_getElem? (i := 642) (by decide +kernel), List.mem_of_getElem? (i := 643) (by decide +kernel)⟩
theorem lw_p8 : lw_okq (⟨"SwornCourt$LawReader", "parseNumber", "(I)I"⟩, 6) := ⟨⟨by decide +kernel, by decide +kernel⟩, List.mem_of_getElem? (i := 158) (by decide +kernel), List.mem_of_getElem? (i := 646) (by decide +kernel), List.mem_of_getElem? (i := 647) (by decide +kernel)⟩
theorem lw_p9 : lw_okq (⟨"SwornCourt$LawReader", "parseRules", "()Z"⟩, 6) := ⟨⟨by decide +kernel, by decide +kernel⟩, List.mem_of_getElem? (i := 158) (by decide +kernel), List.mem_of_getElem? (i := 654) (by decide +kernel), List.mem_of_getElem? (i := 655) (by decide +kernel)⟩
theorem lw_p10 : lw_okq (⟨"SwornCourt$LawReader", "parseRule", "()Z"⟩, 6) := ⟨⟨by decide +kernel, by decide +kernel⟩, List.mem_of_getElem? (i := 158) (by decide +kernel), List.mem_of_getElem? (i := 658) (by decide +kernel), List.mem_of_getElem? (i := 659) (by decide +kernel)⟩
theorem lw_p11 : lw_okq (⟨"SwornCourt$LawReader", "ruleNamed", "(II)I"⟩, 6) := ⟨⟨by decide +kernel, by decide +kernel⟩, List.mem_of_getElem? (i := 158) (by decide +kernel), List.mem_of_getElem? (i := 662) (by decide +kernel), List.mem_of_getElem? (i := 663) (by decide +kernel)⟩
theorem lw_p12 : lw_okq (⟨"SwornCourt$Anew", "workOath", "(I)V"⟩, 12) := ⟨⟨by decide +kernel, by decide +kernel⟩, List.mem_of_getElem? (i := 280) (by decide +kernel), List.mem_of_getElem? (i := 741) (by decide +kernel), List.mem_of_getElem? (i := 742) (by decide +kernel)⟩
theorem lw_p13 : lw_okq (⟨"SwornCourt$Anew", "obstacleIn", "(IIIIII)I"⟩, 12) := ⟨⟨by decide +kernel, by decide +kernel⟩, List.mem_of_getElem? (i := 280) (by decide +kernel), List.mem_of_getElem? (i := 749) (by decide +kernel), List.mem_of_getElem? (i := 750) (by decide +kernel)⟩
theorem lw_p14 : lw_okq (⟨"SwornCourt$Anew", "isTooYoung", "(III)Z"⟩, 12) := ⟨⟨by decide +kernel, by decide +kernel⟩, List.mem_of_getElem? (i := 280) (by decide +kernel), List.mem_of_getElem? (i := 757) (by decide +kernel), List.mem_of_getElem? (i := 758) (by decide +kernel)⟩
theorem lw_p15 : lw_okq (⟨"SwornCourt$Anew", "isTooNear", "(III)Z"⟩, 12) := ⟨⟨by decide +kernel, by decide +kernel⟩, List.mem_of_getElem? (i := 280) (by decide +kernel), List.mem_of_getElem? (i := 762) (by decide +kernel), List.mem_of_getElem? (i := 763) (by decide +kernel)⟩
def lw_privs_1 : List (MethodName × Nat) := [(⟨"SwornCourt$Kinship", "stepsOf", "(II)I"⟩, 4), (⟨"SwornCourt$Feuds", "isOf", "(III)Z"⟩, 5), (⟨"SwornCourt", "isPast", "(I)Z"⟩, 11), (⟨"SwornCourt$LawReader", "skipBlanks", "()V"⟩, 6), (⟨"SwornCourt$LawReader", "parseHead", "()Z"⟩, 6), (⟨"SwornCourt$LawReader", "wordEnd", "(I)I"⟩, 6), (⟨"SwornCourt$LawReader", "isWord", "(IILjava/lang/String;)Z"⟩, 6), (⟨"SwornCourt$LawReader", "blame", "(II)Z"⟩, 6), (⟨"SwornCourt$LawReader", "parseNumber", "(I)I"⟩, 6), (⟨"SwornCourt$LawReader", "parseRules", "()Z"⟩, 6), (⟨"SwornCourt$LawReader", "parseRule", "()Z"⟩, 6), (⟨"SwornCourt$LawReader", "ruleNamed", "(II)I"⟩, 6), (⟨"SwornCourt$Anew", "workOath", "(I)V"⟩, 12), (⟨"SwornCourt$Anew", "obstacleIn", "(IIIIII)I"⟩, 12), (⟨"SwornCourt$Anew", "isTooYoung", "(III)Z"⟩, 12), (⟨"SwornCourt$Anew", "isTooNear", "(III)Z"⟩, 12)]
theorem lw_r1 : ∀ q ∈ lw_privs_1, lw_okq q := List.forall_mem_cons.mpr ⟨lw_p0, List.forall_mem_cons.mpr ⟨lw_p1, List.forall_mem_cons.mpr ⟨lw_p2, List.forall_mem_cons.mpr ⟨lw_p3, List.forall_mem_cons.mpr ⟨lw_p4, List.forall_mem_cons.mpr ⟨lw_p5, List.forall_mem_cons.mpr ⟨lw_p6, List.forall_mem_cons.mpr ⟨lw_p7, List.forall_mem_cons.mpr ⟨lw_p8, List.forall_mem_cons.mpr ⟨lw_p9, List.forall_mem_cons.mpr ⟨lw_p10, List.forall_mem_cons.mpr ⟨lw_p11, List.forall_mem_cons.mpr ⟨lw_p12, List.forall_mem_cons.mpr ⟨lw_p13, List.forall_mem_cons.mpr ⟨lw_p14, List.forall_mem_cons.mpr ⟨lw_p15, fun _ h => absurd h List.not_mem_nil⟩⟩⟩⟩⟩⟩⟩⟩⟩⟩⟩⟩⟩⟩⟩⟩
theorem lw_p16 : lw_okq (⟨"SwornCourt$Anew", "sworeFalsely", "(IIII)Z"⟩, 12) := ⟨⟨by decide +kernel, by decide +kernel⟩, List.mem_of_getElem? (i := 280) (by decide +kernel), List.mem_of_getElem? (i := 771) (by decide +kernel), List.mem_of_getElem? (i := 772) (by decide +kernel)⟩
theorem lw_p17 : lw_okq (⟨"SwornCourt$Anew", "lostLately", "(III)Z"⟩, 12) := ⟨⟨by decide +kernel, by decide +kernel⟩, List.mem_of_getElem? (i := 280) (by decide +kernel), List.mem_of_getElem? (i := 782) (by decide +kernel), List.mem_of_getElem? (i := 783) (by decide +kernel)⟩
theorem lw_p18 : lw_okq (⟨"SwornCourt$Anew", "decide", "(III)V"⟩, 12) := ⟨⟨by decide +kernel, by decide +kernel⟩, List.mem_of_getElem? (i := 280) (by decide +kernel), List.mem_of_getElem? (i := 797) (by decide +kernel), List.mem_of_getElem? (i := 798) (by decide +kernel)⟩
theorem lw_p19 : lw_okq (⟨"SwornCourt", "maySwear", "(II)Z"⟩, 11) := ⟨⟨by decide +kernel, by decide +kernel⟩, List.mem_of_getElem? (i := 21) (by decide +kernel), List.mem_of_getElem? (i := 806) (by decide +kernel), List.mem_of_getElem? (i := 807) (by decide +kernel)⟩
theorem lw_p20 : lw_okq (⟨"SwornCourt$Docket", "addEvent", "(II)V"⟩, 17) := ⟨⟨by decide +kernel, by decide +kernel⟩, List.mem_of_getElem? (i := 189) (by decide +kernel), List.mem_of_getElem? (i := 827) (by decide +kernel), List.mem_of_getElem? (i := 828) (by decide +kernel)⟩
theorem lw_p21 : lw_okq (⟨"SwornCourt", "debtOf", "(I)I"⟩, 11) := ⟨⟨by decide +kernel, by decide +kernel⟩, List.mem_of_getElem? (i := 21) (by decide +kernel), List.mem_of_getElem? (i := 881) (by decide +kernel), List.mem_of_getElem? (i := 882) (by decide +kernel)⟩
theorem lw_p22 : lw_okq (⟨"SwornCourt$Finding", "gatherCallable", "(II)I"⟩, 18) := ⟨⟨by decide +kernel, by decide +kernel⟩, List.mem_of_getElem? (i := 348) (by decide +kernel), List.mem_of_getElem? (i := 926) (by decide +kernel), List.mem_of_getElem? (i := 927) (by decide +kernel)⟩
theorem lw_p23 : lw_okq (⟨"SwornCourt$Finding", "gatherEnough", "(III)V"⟩, 18) := ⟨⟨by decide +kernel, by decide +kernel⟩, List.mem_of_getElem? (i := 348) (by decide +kernel), List.mem_of_getElem? (i := 934) (by decide +kernel), List.mem_of_getElem? (i := 935) (by decide +kernel)⟩
theorem lw_p24 : lw_okq (⟨"SwornCourt$Finding", "addEnough", "(II)V"⟩, 18) := ⟨⟨by decide +kernel, by decide +kernel⟩, List.mem_of_getElem? (i := 348) (by decide +kernel), List.mem_of_getElem? (i := 939) (by decide +kernel), List.mem_of_getElem? (i := 940) (by decide +kernel)⟩
theorem lw_p25 : lw_okq (⟨"SwornCourt$Finding", "measureRoom", "(I)V"⟩, 18) := ⟨⟨by decide +kernel, by decide +kernel⟩, List.mem_of_getElem? (i := 348) (by decide +kernel), List.mem_of_getElem? (i := 943) (by decide +kernel), List.mem_of_getElem? (i := 944) (by decide +kernel)⟩
theorem lw_p26 : lw_okq (⟨"SwornCourt$Finding", "compare", "()V"⟩, 18) := ⟨⟨by decide +kernel, by decide +kernel⟩, List.mem_of_getElem? (i := 348) (by decide +kernel), List.mem_of_getElem? (i := 951) (by decide +kernel), List.mem_of_getElem? (i := 952) (by decide +kernel)⟩
theorem lw_p27 : lw_okq (⟨"SwornCourt$Finding", "take", "(II)V"⟩, 18) := ⟨⟨by decide +kernel, by decide +kernel⟩, List.mem_of_getElem? (i := 348) (by decide +kernel), List.mem_of_getElem? (i := 957) (by decide +kernel), List.mem_of_getElem? (i := 958) (by decide +kernel)⟩
theorem lw_p28 : lw_okq (⟨"SwornCourt$Finding", "giveBack", "(II)V"⟩, 18) := ⟨⟨by decide +kernel, by decide +kernel⟩, List.mem_of_getElem? (i := 348) (by decide +kernel), List.mem_of_getElem? (i := 961) (by decide +kernel), List.mem_of_getElem? (i := 962) (by decide +kernel)⟩
theorem lw_p29 : lw_okq (⟨"SwornCourt$Rings", "gather", "(LSwornCourt$Docket;I)V"⟩, 4) := ⟨⟨by decide +kernel, by decide +kernel⟩, List.mem_of_getElem? (i := 414) (by decide +kernel), List.mem_of_getElem? (i := 1000) (by decide +kernel), List.mem_of_getElem? (i := 1001) (by decide +kernel)⟩
theorem lw_p30 : lw_okq (⟨"SwornCourt$Rings", "measure", "(II)V"⟩, 4) := ⟨⟨by decide +kernel, by decide +kernel⟩, List.mem_of_getElem? (i := 414) (by decide +kernel), List.mem_of_getElem? (i := 1004) (by decide +kernel), List.mem_of_getElem? (i := 1005) (by decide +kernel)⟩
theorem lw_p31 : lw_okq (⟨"SwornCourt$Rings", "nearest", "(III)I"⟩, 4) := ⟨⟨by decide +kernel, by decide +kernel⟩, List.mem_of_getElem? (i := 414) (by decide +kernel), List.mem_of_getElem? (i := 1008) (by decide +kernel), List.mem_of_getElem? (i := 1009) (by decide +kernel)⟩
def lw_privs_2 : List (MethodName × Nat) := [(⟨"SwornCourt$Anew", "sworeFalsely", "(IIII)Z"⟩, 12), (⟨"SwornCourt$Anew", "lostLately", "(III)Z"⟩, 12), (⟨"SwornCourt$Anew", "decide", "(III)V"⟩, 12), (⟨"SwornCourt", "maySwear", "(II)Z"⟩, 11), (⟨"SwornCourt$Docket", "addEvent", "(II)V"⟩, 17), (⟨"SwornCourt", "debtOf", "(I)I"⟩, 11), (⟨"SwornCourt$Finding", "gatherCallable", "(II)I"⟩, 18), (⟨"SwornCourt$Finding", "gatherEnough", "(III)V"⟩, 18), (⟨"SwornCourt$Finding", "addEnough", "(II)V"⟩, 18), (⟨"SwornCourt$Finding", "measureRoom", "(I)V"⟩, 18), (⟨"SwornCourt$Finding", "compare", "()V"⟩, 18), (⟨"SwornCourt$Finding", "take", "(II)V"⟩, 18), (⟨"SwornCourt$Finding", "giveBack", "(II)V"⟩, 18), (⟨"SwornCourt$Rings", "gather", "(LSwornCourt$Docket;I)V"⟩, 4), (⟨"SwornCourt$Rings", "measure", "(II)V"⟩, 4), (⟨"SwornCourt$Rings", "nearest", "(III)I"⟩, 4)]
theorem lw_r2 : ∀ q ∈ lw_privs_2, lw_okq q := List.forall_mem_cons.mpr ⟨lw_p16, List.forall_mem_cons.mpr ⟨lw_p17, List.forall_mem_cons.mpr ⟨lw_p18, List.forall_mem_cons.mpr ⟨lw_p19, List.forall_mem_cons.mpr ⟨lw_p20, List.forall_mem_cons.mpr ⟨lw_p21, List.forall_mem_cons.mpr ⟨lw_p22, List.forall_mem_cons.mpr ⟨lw_p23, List.forall_mem_cons.mpr ⟨lw_p24, List.forall_mem_cons.mpr ⟨lw_p25, List.forall_mem_cons.mpr ⟨lw_p26, List.forall_mem_cons.mpr ⟨lw_p27, List.forall_mem_cons.mpr ⟨lw_p28, List.forall_mem_cons.mpr ⟨lw_p29, List.forall_mem_cons.mpr ⟨lw_p30, List.forall_mem_cons.mpr ⟨lw_p31, fun _ h => absurd h List.not_mem_nil⟩⟩⟩⟩⟩⟩⟩⟩⟩⟩⟩⟩⟩⟩⟩⟩
theorem lw_p32 : lw_okq (⟨"SwornCourt", "allDebts", "()I"⟩, 11) := ⟨⟨by decide +kernel, by decide +kernel⟩, List.mem_of_getElem? (i := 21) (by decide +kernel), List.mem_of_getElem? (i := 1033) (by decide +kernel), List.mem_of_getElem? (i := 1034) (by decide +kernel)⟩
theorem lw_p33 : lw_okq (⟨"SwornCourtModel", "isPerson", "(I)Z"⟩, 67) := ⟨⟨by decide +kernel, by decide +kernel⟩, List.mem_of_getElem? (i := 1041) (by decide +kernel), List.mem_of_getElem? (i := 1254) (by decide +kernel), List.mem_of_getElem? (i := 1255) (by decide +kernel)⟩
theorem lw_p34 : lw_okq (⟨"SwornCourtModel", "rankOf", "(II)I"⟩, 67) := ⟨⟨by decide +kernel, by decide +kernel⟩, List.mem_of_getElem? (i := 1041) (by decide +kernel), List.mem_of_getElem? (i := 1272) (by decide +kernel), List.mem_of_getElem? (i := 1273) (by decide +kernel)⟩
theorem lw_p35 : lw_okq (⟨"SwornCourtModel", "feudOf", "(III)I"⟩, 67) := ⟨⟨by decide +kernel, by decide +kernel⟩, List.mem_of_getElem? (i := 1041) (by decide +kernel), List.mem_of_getElem? (i := 1288) (by decide +kernel), List.mem_of_getElem? (i := 1289) (by decide +kernel)⟩
theorem lw_p36 : lw_okq (⟨"SwornCourtModel", "isDay", "(I)Z"⟩, 67) := ⟨⟨by decide +kernel, by decide +kernel⟩, List.mem_of_getElem? (i := 1041) (by decide +kernel), List.mem_of_getElem? (i := 1305) (by decide +kernel), List.mem_of_getElem? (i := 1306) (by decide +kernel)⟩
theorem lw_p37 : lw_okq (⟨"SwornCourtModel", "findKin", "(II)V"⟩, 67) := ⟨⟨by decide +kernel, by decide +kernel⟩, List.mem_of_getElem? (i := 1041) (by decide +kernel), List.mem_of_getElem? (i := 1314) (by decide +kernel), List.mem_of_getElem? (i := 1315) (by decide +kernel)⟩
theorem lw_p38 : lw_okq (⟨"SwornCourtModel", "climb", "(I[I)V"⟩, 67) := ⟨⟨by decide +kernel, by decide +kernel⟩, List.mem_of_getElem? (i := 1041) (by decide +kernel), List.mem_of_getElem? (i := 1318) (by decide +kernel), List.mem_of_getElem? (i := 1319) (by decide +kernel)⟩
theorem lw_p39 : lw_okq (⟨"SwornCourtModel", "readPart", "(I)I"⟩, 67) := ⟨⟨by decide +kernel, by decide +kernel⟩, List.mem_of_getElem? (i := 1041) (by decide +kernel), List.mem_of_getElem? (i := 1332) (by decide +kernel), List.mem_of_getElem? (i := 1333) (by decide +kernel)⟩
theorem lw_p40 : lw_okq (⟨"SwornCourtModel", "readWord", "()V"⟩, 67) := ⟨⟨by decide +kernel, by decide +kernel⟩, List.mem_of_getElem? (i := 1041) (by decide +kernel), List.mem_of_getElem? (i := 1336) (by decide +kernel), List.mem_of_getElem? (i := 1337) (by decide +kernel)⟩
theorem lw_p41 : lw_okq (⟨"SwornCourtModel", "here", "()I"⟩, 67) := ⟨⟨by decide +kernel, by decide +kernel⟩, List.mem_of_getElem? (i := 1041) (by decide +kernel), List.mem_of_getElem? (i := 1340) (by decide +kernel), List.mem_of_getElem? (i := 1341) (by decide +kernel)⟩
theorem lw_p42 : lw_okq (⟨"SwornCourtModel", "fails", "(II)I"⟩, 67) := ⟨⟨by decide +kernel, by decide +kernel⟩, List.mem_of_getElem? (i := 1041) (by decide +kernel), List.mem_of_getElem? (i := 1353) (by decide +kernel), List.mem_of_getElem? (i := 1354) (by decide +kernel)⟩
theorem lw_p43 : lw_okq (⟨"SwornCourtModel", "readNumber", "(I)I"⟩, 67) := ⟨⟨by decide +kernel, by decide +kernel⟩, List.mem_of_getElem? (i := 1041) (by decide +kernel), List.mem_of_getElem? (i := 1357) (by decide +kernel), List.mem_of_getElem? (i := 1358) (by decide +kernel)⟩
theorem lw_p44 : lw_okq (⟨"SwornCourtModel", "readRule", "(I)I"⟩, 67) := ⟨⟨by decide +kernel, by decide +kernel⟩, List.mem_of_getElem? (i := 1041) (by decide +kernel), List.mem_of_getElem? (i := 1363) (by decide +kernel), List.mem_of_getElem? (i := 1364) (by decide +kernel)⟩
theorem lw_p45 : lw_okq (⟨"SwornCourtModel", "ruleOf", "()I"⟩, 67) := ⟨⟨by decide +kernel, by decide +kernel⟩, List.mem_of_getElem? (i := 1041) (by decide +kernel), List.mem_of_getElem? (i := 1367) (by decide +kernel), List.mem_of_getElem? (i := 1368) (by decide +kernel)⟩
theorem lw_p46 : lw_okq (⟨"SwornCourtModel", "ruleOn", "(III)I"⟩, 67) := ⟨⟨by decide +kernel, by decide +kernel⟩, List.mem_of_getElem? (i := 1041) (by decide +kernel), List.mem_of_getElem? (i := 1387) (by decide +kernel), List.mem_of_getElem? (i := 1388) (by decide +kernel)⟩
theorem lw_p47 : lw_okq (⟨"SwornCourtModel", "isCharge", "(I)Z"⟩, 67) := ⟨⟨by decide +kernel, by decide +kernel⟩, List.mem_of_getElem? (i := 1041) (by decide +kernel), List.mem_of_getElem? (i := 1402) (by decide +kernel), List.mem_of_getElem? (i := 1403) (by decide +kernel)⟩
def lw_privs_3 : List (MethodName × Nat) := [(⟨"SwornCourt", "allDebts", "()I"⟩, 11), (⟨"SwornCourtModel", "isPerson", "(I)Z"⟩, 67), (⟨"SwornCourtModel", "rankOf", "(II)I"⟩, 67), (⟨"SwornCourtModel", "feudOf", "(III)I"⟩, 67), (⟨"SwornCourtModel", "isDay", "(I)Z"⟩, 67), (⟨"SwornCourtModel", "findKin", "(II)V"⟩, 67), (⟨"SwornCourtModel", "climb", "(I[I)V"⟩, 67), (⟨"SwornCourtModel", "readPart", "(I)I"⟩, 67), (⟨"SwornCourtModel", "readWord", "()V"⟩, 67), (⟨"SwornCourtModel", "here", "()I"⟩, 67), (⟨"SwornCourtModel", "fails", "(II)I"⟩, 67), (⟨"SwornCourtModel", "readNumber", "(I)I"⟩, 67), (⟨"SwornCourtModel", "readRule", "(I)I"⟩, 67), (⟨"SwornCourtModel", "ruleOf", "()I"⟩, 67), (⟨"SwornCourtModel", "ruleOn", "(III)I"⟩, 67), (⟨"SwornCourtModel", "isCharge", "(I)Z"⟩, 67)]
theorem lw_r3 : ∀ q ∈ lw_privs_3, lw_okq q := List.forall_mem_cons.mpr ⟨lw_p32, List.forall_mem_cons.mpr ⟨lw_p33, List.forall_mem_cons.mpr ⟨lw_p34, List.forall_mem_cons.mpr ⟨lw_p35, List.forall_mem_cons.mpr ⟨lw_p36, List.forall_mem_cons.mpr ⟨lw_p37, List.forall_mem_cons.mpr ⟨lw_p38, List.forall_mem_cons.mpr ⟨lw_p39, List.forall_mem_cons.mpr ⟨lw_p40, List.forall_mem_cons.mpr ⟨lw_p41, List.forall_mem_cons.mpr ⟨lw_p42, List.forall_mem_cons.mpr ⟨lw_p43, List.forall_mem_cons.mpr ⟨lw_p44, List.forall_mem_cons.mpr ⟨lw_p45, List.forall_mem_cons.mpr ⟨lw_p46, List.forall_mem_cons.mpr ⟨lw_p47, fun _ h => absurd h List.not_mem_nil⟩⟩⟩⟩⟩⟩⟩⟩⟩⟩⟩⟩⟩⟩⟩⟩
theorem lw_p48 : lw_okq (⟨"SwornCourtModel", "work", "(I)V"⟩, 67) := ⟨⟨by decide +kernel, by decide +kernel⟩, List.mem_of_getElem? (i := 1041) (by decide +kernel), List.mem_of_getElem? (i := 1406) (by decide +kernel), List.mem_of_getElem? (i := 1407) (by decide +kernel)⟩
theorem lw_p49 : lw_okq (⟨"SwornCourtModel", "decide", "(III)V"⟩, 67) := ⟨⟨by decide +kernel, by decide +kernel⟩, List.mem_of_getElem? (i := 1041) (by decide +kernel), List.mem_of_getElem? (i := 1410) (by decide +kernel), List.mem_of_getElem? (i := 1411) (by decide +kernel)⟩
theorem lw_p50 : lw_okq (⟨"SwornCourtModel", "barredFrom", "(IIII)I"⟩, 67) := ⟨⟨by decide +kernel, by decide +kernel⟩, List.mem_of_getElem? (i := 1041) (by decide +kernel), List.mem_of_getElem? (i := 1414) (by decide +kernel), List.mem_of_getElem? (i := 1415) (by decide +kernel)⟩
theorem lw_p51 : lw_okq (⟨"SwornCourtModel", "barredBy", "(IIIIIII)I"⟩, 67) := ⟨⟨by decide +kernel, by decide +kernel⟩, List.mem_of_getElem? (i := 1041) (by decide +kernel), List.mem_of_getElem? (i := 1418) (by decide +kernel), List.mem_of_getElem? (i := 1419) (by decide +kernel)⟩
theorem lw_p52 : lw_okq (⟨"SwornCourtModel", "isFound", "(II)Z"⟩, 67) := ⟨⟨by decide +kernel, by decide +kernel⟩, List.mem_of_getElem? (i := 1041) (by decide +kernel), List.mem_of_getElem? (i := 1422) (by decide +kernel), List.mem_of_getElem? (i := 1423) (by decide +kernel)⟩
theorem lw_p53 : lw_okq (⟨"SwornCourtModel", "ruleFor", "(II)I"⟩, 67) := ⟨⟨by decide +kernel, by decide +kernel⟩, List.mem_of_getElem? (i := 1041) (by decide +kernel), List.mem_of_getElem? (i := 1426) (by decide +kernel), List.mem_of_getElem? (i := 1427) (by decide +kernel)⟩
theorem lw_p54 : lw_okq (⟨"SwornCourtModel", "hasSworn", "(II)Z"⟩, 67) := ⟨⟨by decide +kernel, by decide +kernel⟩, List.mem_of_getElem? (i := 1041) (by decide +kernel), List.mem_of_getElem? (i := 1434) (by decide +kernel), List.mem_of_getElem? (i := 1435) (by decide +kernel)⟩
theorem lw_p55 : lw_okq (⟨"SwornCourtModel", "swornToday", "(I)I"⟩, 67) := ⟨⟨by decide +kernel, by decide +kernel⟩, List.mem_of_getElem? (i := 1041) (by decide +kernel), List.mem_of_getElem? (i := 1438) (by decide +kernel), List.mem_of_getElem? (i := 1439) (by decide +kernel)⟩
theorem lw_p56 : lw_okq (⟨"SwornCourtModel", "tell", "(II)V"⟩, 67) := ⟨⟨by decide +kernel, by decide +kernel⟩, List.mem_of_getElem? (i := 1041) (by decide +kernel), List.mem_of_getElem? (i := 1442) (by decide +kernel), List.mem_of_getElem? (i := 1443) (by decide +kernel)⟩
theorem lw_p57 : lw_okq (⟨"SwornCourtModel", "lackOf", "(I)I"⟩, 67) := ⟨⟨by decide +kernel, by decide +kernel⟩, List.mem_of_getElem? (i := 1041) (by decide +kernel), List.mem_of_getElem? (i := 1450) (by decide +kernel), List.mem_of_getElem? (i := 1451) (by decide +kernel)⟩
theorem lw_p58 : lw_okq (⟨"SwornCourtModel", "finesOf", "(II)I"⟩, 67) := ⟨⟨by decide +kernel, by decide +kernel⟩, List.mem_of_getElem? (i := 1041) (by decide +kernel), List.mem_of_getElem? (i := 1474) (by decide +kernel), List.mem_of_getElem? (i := 1475) (by decide +kernel)⟩
theorem lw_p59 : lw_okq (⟨"SwornCourtModel", "paidOf", "(II)I"⟩, 67) := ⟨⟨by decide +kernel, by decide +kernel⟩, List.mem_of_getElem? (i := 1041) (by decide +kernel), List.mem_of_getElem? (i := 1478) (by decide +kernel), List.mem_of_getElem? (i := 1479) (by decide +kernel)⟩
theorem lw_p60 : lw_okq (⟨"SwornCourtModel", "hold", "(I)I"⟩, 67) := ⟨⟨by decide +kernel, by decide +kernel⟩, List.mem_of_getElem? (i := 1041) (by decide +kernel), List.mem_of_getElem? (i := 1496) (by decide +kernel), List.mem_of_getElem? (i := 1497) (by decide +kernel)⟩
theorem lw_p61 : lw_okq (⟨"SwornCourtModel", "findCallable", "(I)V"⟩, 67) := ⟨⟨by decide +kernel, by decide +kernel⟩, List.mem_of_getElem? (i := 1041) (by decide +kernel), List.mem_of_getElem? (i := 1503) (by decide +kernel), List.mem_of_getElem? (i := 1504) (by decide +kernel)⟩
theorem lw_p62 : lw_okq (⟨"SwornCourtModel", "seek", "()V"⟩, 67) := ⟨⟨by decide +kernel, by decide +kernel⟩, List.mem_of_getElem? (i := 1041) (by decide +kernel), List.mem_of_getElem? (i := 1507) (by decide +kernel), List.mem_of_getElem? (i := 1508) (by decide +kernel)⟩
theorem lw_p63 : lw_okq (⟨"SwornCourtModel", "call", "(III)V"⟩, 67) := ⟨⟨by decide +kernel, by decide +kernel⟩, List.mem_of_getElem? (i := 1041) (by decide +kernel), List.mem_of_getElem? (i := 1511) (by decide +kernel), List.mem_of_getElem? (i := 1512) (by decide +kernel)⟩
def lw_privs_4 : List (MethodName × Nat) := [(⟨"SwornCourtModel", "work", "(I)V"⟩, 67), (⟨"SwornCourtModel", "decide", "(III)V"⟩, 67), (⟨"SwornCourtModel", "barredFrom", "(IIII)I"⟩, 67), (⟨"SwornCourtModel", "barredBy", "(IIIIIII)I"⟩, 67), (⟨"SwornCourtModel", "isFound", "(II)Z"⟩, 67), (⟨"SwornCourtModel", "ruleFor", "(II)I"⟩, 67), (⟨"SwornCourtModel", "hasSworn", "(II)Z"⟩, 67), (⟨"SwornCourtModel", "swornToday", "(I)I"⟩, 67), (⟨"SwornCourtModel", "tell", "(II)V"⟩, 67), (⟨"SwornCourtModel", "lackOf", "(I)I"⟩, 67), (⟨"SwornCourtModel", "finesOf", "(II)I"⟩, 67), (⟨"SwornCourtModel", "paidOf", "(II)I"⟩, 67), (⟨"SwornCourtModel", "hold", "(I)I"⟩, 67), (⟨"SwornCourtModel", "findCallable", "(I)V"⟩, 67), (⟨"SwornCourtModel", "seek", "()V"⟩, 67), (⟨"SwornCourtModel", "call", "(III)V"⟩, 67)]
theorem lw_r4 : ∀ q ∈ lw_privs_4, lw_okq q := List.forall_mem_cons.mpr ⟨lw_p48, List.forall_mem_cons.mpr ⟨lw_p49, List.forall_mem_cons.mpr ⟨lw_p50, List.forall_mem_cons.mpr ⟨lw_p51, List.forall_mem_cons.mpr ⟨lw_p52, List.forall_mem_cons.mpr ⟨lw_p53, List.forall_mem_cons.mpr ⟨lw_p54, List.forall_mem_cons.mpr ⟨lw_p55, List.forall_mem_cons.mpr ⟨lw_p56, List.forall_mem_cons.mpr ⟨lw_p57, List.forall_mem_cons.mpr ⟨lw_p58, List.forall_mem_cons.mpr ⟨lw_p59, List.forall_mem_cons.mpr ⟨lw_p60, List.forall_mem_cons.mpr ⟨lw_p61, List.forall_mem_cons.mpr ⟨lw_p62, List.forall_mem_cons.mpr ⟨lw_p63, fun _ h => absurd h List.not_mem_nil⟩⟩⟩⟩⟩⟩⟩⟩⟩⟩⟩⟩⟩⟩⟩⟩
theorem lw_p64 : lw_okq (⟨"SwornCourtModel", "isWithin", "(II)Z"⟩, 67) := ⟨⟨by decide +kernel, by decide +kernel⟩, List.mem_of_getElem? (i := 1041) (by decide +kernel), List.mem_of_getElem? (i := 1515) (by decide +kernel), List.mem_of_getElem? (i := 1516) (by decide +kernel)⟩
theorem lw_p65 : lw_okq (⟨"SwornCourtModel", "compare", "(I)V"⟩, 67) := ⟨⟨by decide +kernel, by decide +kernel⟩, List.mem_of_getElem? (i := 1041) (by decide +kernel), List.mem_of_getElem? (i := 1519) (by decide +kernel), List.mem_of_getElem? (i := 1520) (by decide +kernel)⟩
theorem lw_p66 : lw_okq (⟨"SwornCourtModel", "stoodFor", "(II)I"⟩, 67) := ⟨⟨by decide +kernel, by decide +kernel⟩, List.mem_of_getElem? (i := 1041) (by decide +kernel), List.mem_of_getElem? (i := 1535) (by decide +kernel), List.mem_of_getElem? (i := 1536) (by decide +kernel)⟩
theorem lw_p67 : lw_okq (⟨"SwornCourtModel", "leftFor", "(II)I"⟩, 67) := ⟨⟨by decide +kernel, by decide +kernel⟩, List.mem_of_getElem? (i := 1041) (by decide +kernel), List.mem_of_getElem? (i := 1547) (by decide +kernel), List.mem_of_getElem? (i := 1548) (by decide +kernel)⟩
def lw_privs_5 : List (MethodName × Nat) := [(⟨"SwornCourtModel", "isWithin", "(II)Z"⟩, 67), (⟨"SwornCourtModel", "compare", "(I)V"⟩, 67), (⟨"SwornCourtModel", "stoodFor", "(II)I"⟩, 67), (⟨"SwornCourtModel", "leftFor", "(II)I"⟩, 67)]
theorem lw_r5 : ∀ q ∈ lw_privs_5, lw_okq q := List.forall_mem_cons.mpr ⟨lw_p64, List.forall_mem_cons.mpr ⟨lw_p65, List.forall_mem_cons.mpr ⟨lw_p66, List.forall_mem_cons.mpr ⟨lw_p67, fun _ h => absurd h List.not_mem_nil⟩⟩⟩⟩
def lw_privs : List (MethodName × Nat) := lw_privs_1 ++ (lw_privs_2 ++ (lw_privs_3 ++ (lw_privs_4 ++ (lw_privs_5))))
def lw_tbl : List Cond := k2_sels lw_privs ++ tables_1
theorem lw_privs_ok : ∀ q ∈ lw_privs, lw_okq q := by
  show ∀ q ∈ lw_privs_1 ++ (lw_privs_2 ++ (lw_privs_3 ++ (lw_privs_4 ++ (lw_privs_5)))), lw_okq q
  exact List.forall_mem_append.mpr ⟨lw_r1, List.forall_mem_append.mpr ⟨lw_r2, List.forall_mem_append.mpr ⟨lw_r3, List.forall_mem_append.mpr ⟨lw_r4, lw_r5⟩⟩⟩⟩
def RX0 : String := "SwornCourt$Anew"
def TX0 : u_T := fun k => match k with
  | 0 => ("SwornCourt$Anew", "people", "LSwornCourt$People;", true)
  | 1 => ("SwornCourt$Anew", "feuds", "LSwornCourt$Feuds;", true)
  | 2 => ("SwornCourt$Anew", "kinship", "LSwornCourt$Kinship;", true)
  | 3 => ("SwornCourt$Anew", "laws", "LSwornCourt$Laws;", true)
  | 4 => ("SwornCourt$Anew", "docket", "LSwornCourt$Docket;", true)
  | 5 => ("SwornCourt$Anew", "state", "[I", true)
  | 6 => ("SwornCourt$Anew", "decidedOn", "[I", true)
  | 7 => ("SwornCourt$Anew", "total", "[I", true)
  | 8 => ("SwornCourt$Anew", "oathCounts", "[I", true)
  | 9 => ("SwornCourt$Anew", "remembered", "[I", true)
  | 10 => ("SwornCourt$Anew", "seen", "I", false)
  | _ => ("SwornCourt$Anew", "worked", "I", false)
def tyX0 : Nat → FieldType := fun k => match k with
  | 0 => .object "SwornCourt$People"
  | 1 => .object "SwornCourt$Feuds"
  | 2 => .object "SwornCourt$Kinship"
  | 3 => .object "SwornCourt$Laws"
  | 4 => .object "SwornCourt$Docket"
  | 5 => .array .int
  | 6 => .array .int
  | 7 => .array .int
  | 8 => .array .int
  | 9 => .array .int
  | 10 => .int
  | _ => .int
theorem nmX0 : ∀ a, a < 12 → ∀ b, b < 12 → a ≠ b → (TX0 a).2.1 ≠ (TX0 b).2.1 := by decide +kernel
theorem tyX0_ok : ∀ k, k < 12 → parseFieldDescriptor (TX0 k).2.2.1 = some (tyX0 k) := by decide +kernel
abbrev cX0_init : ByteArray := prog_2_method_1_code
def yX0_init : MethodName := ⟨RX0, "<init>", "(LSwornCourt$People;LSwornCourt$Feuds;LSwornCourt$Kinship;LSwornCourt$Laws;LSwornCourt$Docket;)V"⟩
abbrev cX0_work : ByteArray := prog_2_method_2_code
def yX0_work : MethodName := ⟨RX0, "work", "(I)V"⟩
abbrev cX0_workOath : ByteArray := prog_2_method_3_code
def yX0_workOath : MethodName := ⟨RX0, "workOath", "(I)V"⟩
abbrev cX0_decide : ByteArray := prog_2_method_4_code
def yX0_decide : MethodName := ⟨RX0, "decide", "(III)V"⟩
abbrev cX0_remember : ByteArray := prog_2_method_5_code
def yX0_remember : MethodName := ⟨RX0, "remember", "()V"⟩
abbrev cX0_differing : ByteArray := prog_2_method_6_code
def yX0_differing : MethodName := ⟨RX0, "differing", "(I)I"⟩
abbrev cX0_needOf : ByteArray := prog_2_method_7_code
def yX0_needOf : MethodName := ⟨RX0, "needOf", "(I)I"⟩
abbrev cX0_lackOf : ByteArray := prog_2_method_8_code
def yX0_lackOf : MethodName := ⟨RX0, "lackOf", "(I)I"⟩
abbrev cX0_chargesIn : ByteArray := prog_2_method_9_code
def yX0_chargesIn : MethodName := ⟨RX0, "chargesIn", "(I)I"⟩
abbrev cX0_allOpen : ByteArray := prog_2_method_10_code
def yX0_allOpen : MethodName := ⟨RX0, "allOpen", "(I)Z"⟩
abbrev cX0_weightOf : ByteArray := prog_2_method_11_code
def yX0_weightOf : MethodName := ⟨RX0, "weightOf", "(III)I"⟩
abbrev cX0_obstacle : ByteArray := prog_2_method_12_code
def yX0_obstacle : MethodName := ⟨RX0, "obstacle", "(III)I"⟩
abbrev cX0_obstacleIn : ByteArray := prog_2_method_13_code
def yX0_obstacleIn : MethodName := ⟨RX0, "obstacleIn", "(IIIIII)I"⟩
abbrev cX0_isTooYoung : ByteArray := prog_2_method_14_code
def yX0_isTooYoung : MethodName := ⟨RX0, "isTooYoung", "(III)Z"⟩
abbrev cX0_isTooNear : ByteArray := prog_2_method_15_code
def yX0_isTooNear : MethodName := ⟨RX0, "isTooNear", "(III)Z"⟩
abbrev cX0_sworeFalsely : ByteArray := prog_2_method_16_code
def yX0_sworeFalsely : MethodName := ⟨RX0, "sworeFalsely", "(IIII)Z"⟩
abbrev cX0_lostLately : ByteArray := prog_2_method_17_code
def yX0_lostLately : MethodName := ⟨RX0, "lostLately", "(III)Z"⟩
abbrev cX0_isLately : ByteArray := prog_2_method_18_code
def yX0_isLately : MethodName := ⟨RX0, "isLately", "(III)Z"⟩
abbrev cX0_helpInSight : ByteArray := prog_2_method_19_code
def yX0_helpInSight : MethodName := ⟨RX0, "helpInSight", "(II)I"⟩
abbrev cX0_helpAgainst : ByteArray := prog_2_method_20_code
def yX0_helpAgainst : MethodName := ⟨RX0, "helpAgainst", "(III)I"⟩
abbrev cX0_finesOf : ByteArray := prog_2_method_21_code
def yX0_finesOf : MethodName := ⟨RX0, "finesOf", "(I)I"⟩
def RX1 : String := "SwornCourt$Docket"
def TX1 : u_T := fun k => match k with
  | 0 => ("SwornCourt$Docket", "kind", "[I", true)
  | 1 => ("SwornCourt$Docket", "accused", "[I", true)
  | 2 => ("SwornCourt$Docket", "accuser", "[I", true)
  | 3 => ("SwornCourt$Docket", "deed", "[I", true)
  | 4 => ("SwornCourt$Docket", "toldOn", "[I", true)
  | 5 => ("SwornCourt$Docket", "lawRow", "[I", true)
  | 6 => ("SwornCourt$Docket", "foundOn", "[I", true)
  | 7 => ("SwornCourt$Docket", "metBy", "[I", true)
  | 8 => ("SwornCourt$Docket", "oathWho", "[I", true)
  | 9 => ("SwornCourt$Docket", "oathFor", "[I", true)
  | 10 => ("SwornCourt$Docket", "oathOn", "[I", true)
  | 11 => ("SwornCourt$Docket", "oathWeight", "[I", true)
  | 12 => ("SwornCourt$Docket", "eventIs", "[I", true)
  | 13 => ("SwornCourt$Docket", "eventOn", "[I", true)
  | 14 => ("SwornCourt$Docket", "charges", "I", false)
  | 15 => ("SwornCourt$Docket", "oaths", "I", false)
  | _ => ("SwornCourt$Docket", "events", "I", false)
def tyX1 : Nat → FieldType := fun k => match k with
  | 0 => .array .int
  | 1 => .array .int
  | 2 => .array .int
  | 3 => .array .int
  | 4 => .array .int
  | 5 => .array .int
  | 6 => .array .int
  | 7 => .array .int
  | 8 => .array .int
  | 9 => .array .int
  | 10 => .array .int
  | 11 => .array .int
  | 12 => .array .int
  | 13 => .array .int
  | 14 => .int
  | 15 => .int
  | _ => .int
theorem nmX1 : ∀ a, a < 17 → ∀ b, b < 17 → a ≠ b → (TX1 a).2.1 ≠ (TX1 b).2.1 := by decide +kernel
theorem tyX1_ok : ∀ k, k < 17 → parseFieldDescriptor (TX1 k).2.2.1 = some (tyX1 k) := by decide +kernel
abbrev cX1_init : ByteArray := prog_3_method_1_code
def yX1_init : MethodName := ⟨RX1, "<init>", "()V"⟩
abbrev cX1_hasCharge : ByteArray := prog_3_method_2_code
def yX1_hasCharge : MethodName := ⟨RX1, "hasCharge", "(I)Z"⟩
abbrev cX1_hasAll : ByteArray := prog_3_method_3_code
def yX1_hasAll : MethodName := ⟨RX1, "hasAll", "(I)Z"⟩
abbrev cX1_addCharge : ByteArray := prog_3_method_4_code
def yX1_addCharge : MethodName := ⟨RX1, "addCharge", "(IIIIII)I"⟩
abbrev cX1_addOath : ByteArray := prog_3_method_5_code
def yX1_addOath : MethodName := ⟨RX1, "addOath", "(IIII)I"⟩
abbrev cX1_addClosing : ByteArray := prog_3_method_6_code
def yX1_addClosing : MethodName := ⟨RX1, "addClosing", "(II)V"⟩
abbrev cX1_addEvent : ByteArray := prog_3_method_7_code
def yX1_addEvent : MethodName := ⟨RX1, "addEvent", "(II)V"⟩
abbrev cX1_hasSworn : ByteArray := prog_3_method_8_code
def yX1_hasSworn : MethodName := ⟨RX1, "hasSworn", "(II)Z"⟩
abbrev cX1_isFound : ByteArray := prog_3_method_9_code
def yX1_isFound : MethodName := ⟨RX1, "isFound", "(II)Z"⟩
abbrev cX1_oathsFor : ByteArray := prog_3_method_10_code
def yX1_oathsFor : MethodName := ⟨RX1, "oathsFor", "(I)I"⟩
abbrev cX1_oathsOfOn : ByteArray := prog_3_method_11_code
def yX1_oathsOfOn : MethodName := ⟨RX1, "oathsOfOn", "(II)I"⟩
abbrev cX1_oathsOfFor : ByteArray := prog_3_method_12_code
def yX1_oathsOfFor : MethodName := ⟨RX1, "oathsOfFor", "(II)I"⟩
def RX2 : String := "SwornCourt$Feuds"
def TX2 : u_T := fun k => match k with
  | 0 => ("SwornCourt$Feuds", "oneHouse", "[I", true)
  | 1 => ("SwornCourt$Feuds", "otherHouse", "[I", true)
  | 2 => ("SwornCourt$Feuds", "begun", "[I", true)
  | 3 => ("SwornCourt$Feuds", "ended", "[I", true)
  | _ => ("SwornCourt$Feuds", "size", "I", false)
def tyX2 : Nat → FieldType := fun k => match k with
  | 0 => .array .int
  | 1 => .array .int
  | 2 => .array .int
  | 3 => .array .int
  | _ => .int
theorem nmX2 : ∀ a, a < 5 → ∀ b, b < 5 → a ≠ b → (TX2 a).2.1 ≠ (TX2 b).2.1 := by decide +kernel
theorem tyX2_ok : ∀ k, k < 5 → parseFieldDescriptor (TX2 k).2.2.1 = some (tyX2 k) := by decide +kernel
abbrev cX2_init : ByteArray := prog_4_method_1_code
def yX2_init : MethodName := ⟨RX2, "<init>", "()V"⟩
abbrev cX2_add : ByteArray := prog_4_method_2_code
def yX2_add : MethodName := ⟨RX2, "add", "(III)V"⟩
abbrev cX2_isOf : ByteArray := prog_4_method_3_code
def yX2_isOf : MethodName := ⟨RX2, "isOf", "(III)Z"⟩
abbrev cX2_standing : ByteArray := prog_4_method_4_code
def yX2_standing : MethodName := ⟨RX2, "standing", "(II)I"⟩
abbrev cX2_allStanding : ByteArray := prog_4_method_5_code
def yX2_allStanding : MethodName := ⟨RX2, "allStanding", "()I"⟩
abbrev cX2_holds : ByteArray := prog_4_method_6_code
def yX2_holds : MethodName := ⟨RX2, "holds", "(III)Z"⟩
def RX3 : String := "SwornCourt$Finding"
def TX3 : u_T := fun k => match k with
  | 0 => ("SwornCourt$Finding", "people", "LSwornCourt$People;", true)
  | 1 => ("SwornCourt$Finding", "docket", "LSwornCourt$Docket;", true)
  | 2 => ("SwornCourt$Finding", "anew", "LSwornCourt$Anew;", true)
  | 3 => ("SwornCourt$Finding", "charges", "[I", true)
  | 4 => ("SwornCourt$Finding", "enoughSize", "[I", true)
  | 5 => ("SwornCourt$Finding", "enough", "[I", true)
  | 6 => ("SwornCourt$Finding", "callable", "[I", true)
  | 7 => ("SwornCourt$Finding", "weight", "[I", true)
  | 8 => ("SwornCourt$Finding", "room", "[I", true)
  | 9 => ("SwornCourt$Finding", "way", "[I", true)
  | 10 => ("SwornCourt$Finding", "best", "[I", true)
  | 11 => ("SwornCourt$Finding", "size", "I", false)
  | 12 => ("SwornCourt$Finding", "busy", "I", false)
  | 13 => ("SwornCourt$Finding", "bound", "I", false)
  | 14 => ("SwornCourt$Finding", "looks", "I", false)
  | 15 => ("SwornCourt$Finding", "spent", "Z", false)
  | 16 => ("SwornCourt$Finding", "bestMet", "I", false)
  | _ => ("SwornCourt$Finding", "bestCalls", "I", false)
def tyX3 : Nat → FieldType := fun k => match k with
  | 0 => .object "SwornCourt$People"
  | 1 => .object "SwornCourt$Docket"
  | 2 => .object "SwornCourt$Anew"
  | 3 => .array .int
  | 4 => .array .int
  | 5 => .array .int
  | 6 => .array .int
  | 7 => .array .int
  | 8 => .array .int
  | 9 => .array .int
  | 10 => .array .int
  | 11 => .int
  | 12 => .int
  | 13 => .int
  | 14 => .int
  | 15 => .boolean
  | 16 => .int
  | _ => .int
theorem nmX3 : ∀ a, a < 18 → ∀ b, b < 18 → a ≠ b → (TX3 a).2.1 ≠ (TX3 b).2.1 := by decide +kernel
theorem tyX3_ok : ∀ k, k < 18 → parseFieldDescriptor (TX3 k).2.2.1 = some (tyX3 k) := by decide +kernel
abbrev cX3_init : ByteArray := prog_5_method_1_code
def yX3_init : MethodName := ⟨RX3, "<init>", "(LSwornCourt$People;LSwornCourt$Docket;LSwornCourt$Anew;)V"⟩
abbrev cX3_seekFor : ByteArray := prog_5_method_2_code
def yX3_seekFor : MethodName := ⟨RX3, "seekFor", "(II)V"⟩
abbrev cX3_calledFor : ByteArray := prog_5_method_3_code
def yX3_calledFor : MethodName := ⟨RX3, "calledFor", "(I)I"⟩
abbrev cX3_measureRoom : ByteArray := prog_5_method_4_code
def yX3_measureRoom : MethodName := ⟨RX3, "measureRoom", "(I)V"⟩
abbrev cX3_gatherEnough : ByteArray := prog_5_method_5_code
def yX3_gatherEnough : MethodName := ⟨RX3, "gatherEnough", "(III)V"⟩
abbrev cX3_gatherCallable : ByteArray := prog_5_method_6_code
def yX3_gatherCallable : MethodName := ⟨RX3, "gatherCallable", "(II)I"⟩
abbrev cX3_addEnough : ByteArray := prog_5_method_7_code
def yX3_addEnough : MethodName := ⟨RX3, "addEnough", "(II)V"⟩
abbrev cX3_descend : ByteArray := prog_5_method_8_code
def yX3_descend : MethodName := ⟨RX3, "descend", "(LSwornCourt$Finding;I)V"⟩
abbrev cX3_take : ByteArray := prog_5_method_9_code
def yX3_take : MethodName := ⟨RX3, "take", "(II)V"⟩
abbrev cX3_giveBack : ByteArray := prog_5_method_10_code
def yX3_giveBack : MethodName := ⟨RX3, "giveBack", "(II)V"⟩
abbrev cX3_compare : ByteArray := prog_5_method_11_code
def yX3_compare : MethodName := ⟨RX3, "compare", "()V"⟩
def RX4 : String := "SwornCourt$Kinship"
def TX4 : u_T := fun k => match k with
  | 0 => ("SwornCourt$Kinship", "steps", "[I", true)
  | 1 => ("SwornCourt$Kinship", "degree", "I", false)
  | 2 => ("SwornCourt$Kinship", "tie", "I", false)
  | _ => ("SwornCourt$Kinship", "half", "Z", false)
def tyX4 : Nat → FieldType := fun k => match k with
  | 0 => .array .int
  | 1 => .int
  | 2 => .int
  | _ => .boolean
theorem nmX4 : ∀ a, a < 4 → ∀ b, b < 4 → a ≠ b → (TX4 a).2.1 ≠ (TX4 b).2.1 := by decide +kernel
theorem tyX4_ok : ∀ k, k < 4 → parseFieldDescriptor (TX4 k).2.2.1 = some (tyX4 k) := by decide +kernel
abbrev cX4_init : ByteArray := prog_6_method_1_code
def yX4_init : MethodName := ⟨RX4, "<init>", "()V"⟩
abbrev cX4_learn : ByteArray := prog_6_method_2_code
def yX4_learn : MethodName := ⟨RX4, "learn", "(III)V"⟩
abbrev cX4_stepsOf : ByteArray := prog_6_method_3_code
def yX4_stepsOf : MethodName := ⟨RX4, "stepsOf", "(II)I"⟩
abbrev cX4_measure : ByteArray := prog_6_method_4_code
def yX4_measure : MethodName := ⟨RX4, "measure", "(II)V"⟩
def RX5 : String := "SwornCourt$LawReader"
def TX5 : u_T := fun k => match k with
  | 0 => ("SwornCourt$LawReader", "text", "[I", true)
  | 1 => ("SwornCourt$LawReader", "draft", "LSwornCourt$Laws;", true)
  | 2 => ("SwornCourt$LawReader", "length", "I", false)
  | 3 => ("SwornCourt$LawReader", "at", "I", false)
  | 4 => ("SwornCourt$LawReader", "faultNumber", "I", false)
  | _ => ("SwornCourt$LawReader", "faultByte", "I", false)
def tyX5 : Nat → FieldType := fun k => match k with
  | 0 => .array .int
  | 1 => .object "SwornCourt$Laws"
  | 2 => .int
  | 3 => .int
  | 4 => .int
  | _ => .int
theorem nmX5 : ∀ a, a < 6 → ∀ b, b < 6 → a ≠ b → (TX5 a).2.1 ≠ (TX5 b).2.1 := by decide +kernel
theorem tyX5_ok : ∀ k, k < 6 → parseFieldDescriptor (TX5 k).2.2.1 = some (tyX5 k) := by decide +kernel
abbrev cX5_init : ByteArray := prog_7_method_1_code
def yX5_init : MethodName := ⟨RX5, "<init>", "()V"⟩
abbrev cX5_append : ByteArray := prog_7_method_2_code
def yX5_append : MethodName := ⟨RX5, "append", "(IJ)V"⟩
abbrev cX5_parse : ByteArray := prog_7_method_3_code
def yX5_parse : MethodName := ⟨RX5, "parse", "()Z"⟩
abbrev cX5_parseHead : ByteArray := prog_7_method_4_code
def yX5_parseHead : MethodName := ⟨RX5, "parseHead", "()Z"⟩
abbrev cX5_parseRules : ByteArray := prog_7_method_5_code
def yX5_parseRules : MethodName := ⟨RX5, "parseRules", "()Z"⟩
abbrev cX5_parseRule : ByteArray := prog_7_method_6_code
def yX5_parseRule : MethodName := ⟨RX5, "parseRule", "()Z"⟩
abbrev cX5_parseNumber : ByteArray := prog_7_method_7_code
def yX5_parseNumber : MethodName := ⟨RX5, "parseNumber", "(I)I"⟩
abbrev cX5_blame : ByteArray := prog_7_method_8_code
def yX5_blame : MethodName := ⟨RX5, "blame", "(II)Z"⟩
abbrev cX5_skipBlanks : ByteArray := prog_7_method_9_code
def yX5_skipBlanks : MethodName := ⟨RX5, "skipBlanks", "()V"⟩
abbrev cX5_wordEnd : ByteArray := prog_7_method_10_code
def yX5_wordEnd : MethodName := ⟨RX5, "wordEnd", "(I)I"⟩
abbrev cX5_isWord : ByteArray := prog_7_method_11_code
def yX5_isWord : MethodName := ⟨RX5, "isWord", "(IILjava/lang/String;)Z"⟩
abbrev cX5_ruleNamed : ByteArray := prog_7_method_12_code
def yX5_ruleNamed : MethodName := ⟨RX5, "ruleNamed", "(II)I"⟩
abbrev cX5_nameOf : ByteArray := prog_7_method_13_code
def yX5_nameOf : MethodName := ⟨RX5, "nameOf", "(I)Ljava/lang/String;"⟩
abbrev cX5_limitOf : ByteArray := prog_7_method_14_code
def yX5_limitOf : MethodName := ⟨RX5, "limitOf", "(I)I"⟩
def RX6 : String := "SwornCourt$Laws"
def TX6 : u_T := fun k => match k with
  | 0 => ("SwornCourt$Laws", "from", "[I", true)
  | 1 => ("SwornCourt$Laws", "values", "[I", true)
  | _ => ("SwornCourt$Laws", "parts", "I", false)
def tyX6 : Nat → FieldType := fun k => match k with
  | 0 => .array .int
  | 1 => .array .int
  | _ => .int
theorem nmX6 : ∀ a, a < 3 → ∀ b, b < 3 → a ≠ b → (TX6 a).2.1 ≠ (TX6 b).2.1 := by decide +kernel
theorem tyX6_ok : ∀ k, k < 3 → parseFieldDescriptor (TX6 k).2.2.1 = some (tyX6 k) := by decide +kernel
abbrev cX6_init : ByteArray := prog_8_method_1_code
def yX6_init : MethodName := ⟨RX6, "<init>", "()V"⟩
abbrev cX6_isKeyed : ByteArray := prog_8_method_2_code
def yX6_isKeyed : MethodName := ⟨RX6, "isKeyed", "(I)Z"⟩
abbrev cX6_slotOf : ByteArray := prog_8_method_3_code
def yX6_slotOf : MethodName := ⟨RX6, "slotOf", "(I)I"⟩
abbrev cX6_startPart : ByteArray := prog_8_method_4_code
def yX6_startPart : MethodName := ⟨RX6, "startPart", "(I)V"⟩
abbrev cX6_say : ByteArray := prog_8_method_5_code
def yX6_say : MethodName := ⟨RX6, "say", "(II)V"⟩
abbrev cX6_rowOn : ByteArray := prog_8_method_6_code
def yX6_rowOn : MethodName := ⟨RX6, "rowOn", "(I)I"⟩
abbrev cX6_valueOf : ByteArray := prog_8_method_7_code
def yX6_valueOf : MethodName := ⟨RX6, "valueOf", "(II)I"⟩
abbrev cX6_takeFrom : ByteArray := prog_8_method_8_code
def yX6_takeFrom : MethodName := ⟨RX6, "takeFrom", "(LSwornCourt$Laws;)V"⟩
def RX7 : String := "SwornCourt$People"
def TX7 : u_T := fun k => match k with
  | 0 => ("SwornCourt$People", "born", "[I", true)
  | 1 => ("SwornCourt$People", "house", "[I", true)
  | 2 => ("SwornCourt$People", "firstRank", "[I", true)
  | 3 => ("SwornCourt$People", "father", "[I", true)
  | 4 => ("SwornCourt$People", "mother", "[I", true)
  | 5 => ("SwornCourt$People", "will", "[I", true)
  | 6 => ("SwornCourt$People", "death", "[I", true)
  | 7 => ("SwornCourt$People", "rankedWho", "[I", true)
  | 8 => ("SwornCourt$People", "rankedAs", "[I", true)
  | 9 => ("SwornCourt$People", "rankedOn", "[I", true)
  | 10 => ("SwornCourt$People", "size", "I", false)
  | _ => ("SwornCourt$People", "rankings", "I", false)
def tyX7 : Nat → FieldType := fun k => match k with
  | 0 => .array .int
  | 1 => .array .int
  | 2 => .array .int
  | 3 => .array .int
  | 4 => .array .int
  | 5 => .array .int
  | 6 => .array .int
  | 7 => .array .int
  | 8 => .array .int
  | 9 => .array .int
  | 10 => .int
  | _ => .int
theorem nmX7 : ∀ a, a < 12 → ∀ b, b < 12 → a ≠ b → (TX7 a).2.1 ≠ (TX7 b).2.1 := by decide +kernel
theorem tyX7_ok : ∀ k, k < 12 → parseFieldDescriptor (TX7 k).2.2.1 = some (tyX7 k) := by decide +kernel
abbrev cX7_init : ByteArray := prog_9_method_1_code
def yX7_init : MethodName := ⟨RX7, "<init>", "()V"⟩
abbrev cX7_has : ByteArray := prog_9_method_2_code
def yX7_has : MethodName := ⟨RX7, "has", "(I)Z"⟩
abbrev cX7_hasOrNone : ByteArray := prog_9_method_3_code
def yX7_hasOrNone : MethodName := ⟨RX7, "hasOrNone", "(I)Z"⟩
abbrev cX7_add : ByteArray := prog_9_method_4_code
def yX7_add : MethodName := ⟨RX7, "add", "(IIIIII)I"⟩
abbrev cX7_addRanking : ByteArray := prog_9_method_5_code
def yX7_addRanking : MethodName := ⟨RX7, "addRanking", "(III)V"⟩
abbrev cX7_rankOn : ByteArray := prog_9_method_6_code
def yX7_rankOn : MethodName := ⟨RX7, "rankOn", "(II)I"⟩
abbrev cX7_isDead : ByteArray := prog_9_method_7_code
def yX7_isDead : MethodName := ⟨RX7, "isDead", "(II)Z"⟩
def RX8 : String := "SwornCourt$Purse"
def TX8 : u_T := fun k => match k with
  | 0 => ("SwornCourt$Purse", "payer", "[I", true)
  | 1 => ("SwornCourt$Purse", "paid", "[I", true)
  | 2 => ("SwornCourt$Purse", "paidOn", "[I", true)
  | _ => ("SwornCourt$Purse", "size", "I", false)
def tyX8 : Nat → FieldType := fun k => match k with
  | 0 => .array .int
  | 1 => .array .int
  | 2 => .array .int
  | _ => .int
theorem nmX8 : ∀ a, a < 4 → ∀ b, b < 4 → a ≠ b → (TX8 a).2.1 ≠ (TX8 b).2.1 := by decide +kernel
theorem tyX8_ok : ∀ k, k < 4 → parseFieldDescriptor (TX8 k).2.2.1 = some (tyX8 k) := by decide +kernel
abbrev cX8_init : ByteArray := prog_10_method_1_code
def yX8_init : MethodName := ⟨RX8, "<init>", "()V"⟩
abbrev cX8_add : ByteArray := prog_10_method_2_code
def yX8_add : MethodName := ⟨RX8, "add", "(III)V"⟩
abbrev cX8_paidBy : ByteArray := prog_10_method_3_code
def yX8_paidBy : MethodName := ⟨RX8, "paidBy", "(II)I"⟩
def RX9 : String := "SwornCourt$Rings"
def TX9 : u_T := fun k => match k with
  | 0 => ("SwornCourt$Rings", "stoodFor", "[I", true)
  | 1 => ("SwornCourt$Rings", "distance", "[I", true)
  | 2 => ("SwornCourt$Rings", "row", "[I", true)
  | _ => ("SwornCourt$Rings", "length", "I", false)
def tyX9 : Nat → FieldType := fun k => match k with
  | 0 => .array .int
  | 1 => .array .int
  | 2 => .array .int
  | _ => .int
theorem nmX9 : ∀ a, a < 4 → ∀ b, b < 4 → a ≠ b → (TX9 a).2.1 ≠ (TX9 b).2.1 := by decide +kernel
theorem tyX9_ok : ∀ k, k < 4 → parseFieldDescriptor (TX9 k).2.2.1 = some (tyX9 k) := by decide +kernel
abbrev cX9_init : ByteArray := prog_11_method_1_code
def yX9_init : MethodName := ⟨RX9, "<init>", "()V"⟩
abbrev cX9_seek : ByteArray := prog_11_method_2_code
def yX9_seek : MethodName := ⟨RX9, "seek", "(ILSwornCourt$Docket;I)V"⟩
abbrev cX9_gather : ByteArray := prog_11_method_3_code
def yX9_gather : MethodName := ⟨RX9, "gather", "(LSwornCourt$Docket;I)V"⟩
abbrev cX9_measure : ByteArray := prog_11_method_4_code
def yX9_measure : MethodName := ⟨RX9, "measure", "(II)V"⟩
abbrev cX9_nearest : ByteArray := prog_11_method_5_code
def yX9_nearest : MethodName := ⟨RX9, "nearest", "(III)I"⟩
def RX10 : String := "SwornCourt"
def TX10 : u_T := fun k => match k with
  | 0 => ("SwornCourt", "people", "LSwornCourt$People;", true)
  | 1 => ("SwornCourt", "feuds", "LSwornCourt$Feuds;", true)
  | 2 => ("SwornCourt", "kinship", "LSwornCourt$Kinship;", true)
  | 3 => ("SwornCourt", "laws", "LSwornCourt$Laws;", true)
  | 4 => ("SwornCourt", "reader", "LSwornCourt$LawReader;", true)
  | 5 => ("SwornCourt", "docket", "LSwornCourt$Docket;", true)
  | 6 => ("SwornCourt", "anew", "LSwornCourt$Anew;", true)
  | 7 => ("SwornCourt", "purse", "LSwornCourt$Purse;", true)
  | 8 => ("SwornCourt", "finding", "LSwornCourt$Finding;", true)
  | 9 => ("SwornCourt", "rings", "LSwornCourt$Rings;", true)
  | _ => ("SwornCourt", "now", "I", false)
def tyX10 : Nat → FieldType := fun k => match k with
  | 0 => .object "SwornCourt$People"
  | 1 => .object "SwornCourt$Feuds"
  | 2 => .object "SwornCourt$Kinship"
  | 3 => .object "SwornCourt$Laws"
  | 4 => .object "SwornCourt$LawReader"
  | 5 => .object "SwornCourt$Docket"
  | 6 => .object "SwornCourt$Anew"
  | 7 => .object "SwornCourt$Purse"
  | 8 => .object "SwornCourt$Finding"
  | 9 => .object "SwornCourt$Rings"
  | _ => .int
theorem nmX10 : ∀ a, a < 11 → ∀ b, b < 11 → a ≠ b → (TX10 a).2.1 ≠ (TX10 b).2.1 := by decide +kernel
theorem tyX10_ok : ∀ k, k < 11 → parseFieldDescriptor (TX10 k).2.2.1 = some (tyX10 k) := by decide +kernel
abbrev cX10_init : ByteArray := prog_1_method_1_code
def yX10_init : MethodName := ⟨RX10, "<init>", "()V"⟩
abbrev cX10_person : ByteArray := prog_1_method_2_code
def yX10_person : MethodName := ⟨RX10, "person", "(IIIIII)I"⟩
abbrev cX10_rank : ByteArray := prog_1_method_3_code
def yX10_rank : MethodName := ⟨RX10, "rank", "(II)I"⟩
abbrev cX10_die : ByteArray := prog_1_method_4_code
def yX10_die : MethodName := ⟨RX10, "die", "(I)I"⟩
abbrev cX10_feud : ByteArray := prog_1_method_5_code
def yX10_feud : MethodName := ⟨RX10, "feud", "(II)I"⟩
abbrev cX10_peace : ByteArray := prog_1_method_6_code
def yX10_peace : MethodName := ⟨RX10, "peace", "(II)I"⟩
abbrev cX10_go : ByteArray := prog_1_method_7_code
def yX10_go : MethodName := ⟨RX10, "go", "(I)I"⟩
abbrev cX10_told : ByteArray := prog_1_method_8_code
def yX10_told : MethodName := ⟨RX10, "told", "(III)I"⟩
abbrev cX10_kin : ByteArray := prog_1_method_9_code
def yX10_kin : MethodName := ⟨RX10, "kin", "(III)I"⟩
abbrev cX10_feed : ByteArray := prog_1_method_10_code
def yX10_feed : MethodName := ⟨RX10, "feed", "(IJ)I"⟩
abbrev cX10_read : ByteArray := prog_1_method_11_code
def yX10_read : MethodName := ⟨RX10, "read", "()I"⟩
abbrev cX10_fault : ByteArray := prog_1_method_12_code
def yX10_fault : MethodName := ⟨RX10, "fault", "()I"⟩
abbrev cX10_law : ByteArray := prog_1_method_13_code
def yX10_law : MethodName := ⟨RX10, "law", "(III)I"⟩
abbrev cX10_charge : ByteArray := prog_1_method_14_code
def yX10_charge : MethodName := ⟨RX10, "charge", "(IIII)I"⟩
abbrev cX10_barred : ByteArray := prog_1_method_15_code
def yX10_barred : MethodName := ⟨RX10, "barred", "(IIII)I"⟩
abbrev cX10_swear : ByteArray := prog_1_method_16_code
def yX10_swear : MethodName := ⟨RX10, "swear", "(II)I"⟩
abbrev cX10_close : ByteArray := prog_1_method_17_code
def yX10_close : MethodName := ⟨RX10, "close", "(I)I"⟩
abbrev cX10_find : ByteArray := prog_1_method_18_code
def yX10_find : MethodName := ⟨RX10, "find", "(I)I"⟩
abbrev cX10_oath : ByteArray := prog_1_method_19_code
def yX10_oath : MethodName := ⟨RX10, "oath", "(II)I"⟩
abbrev cX10_state : ByteArray := prog_1_method_20_code
def yX10_state : MethodName := ⟨RX10, "state", "(III)I"⟩
abbrev cX10_turned : ByteArray := prog_1_method_21_code
def yX10_turned : MethodName := ⟨RX10, "turned", "(II)I"⟩
abbrev cX10_pay : ByteArray := prog_1_method_22_code
def yX10_pay : MethodName := ⟨RX10, "pay", "(II)I"⟩
abbrev cX10_owes : ByteArray := prog_1_method_23_code
def yX10_owes : MethodName := ⟨RX10, "owes", "(III)I"⟩
abbrev cX10_bound : ByteArray := prog_1_method_24_code
def yX10_bound : MethodName := ⟨RX10, "bound", "(I)I"⟩
abbrev cX10_session : ByteArray := prog_1_method_25_code
def yX10_session : MethodName := ⟨RX10, "session", "(II)I"⟩
abbrev cX10_called : ByteArray := prog_1_method_26_code
def yX10_called : MethodName := ⟨RX10, "called", "(II)I"⟩
abbrev cX10_lacks : ByteArray := prog_1_method_27_code
def yX10_lacks : MethodName := ⟨RX10, "lacks", "(I)I"⟩
abbrev cX10_stood : ByteArray := prog_1_method_28_code
def yX10_stood : MethodName := ⟨RX10, "stood", "(III)I"⟩
abbrev cX10_ring : ByteArray := prog_1_method_29_code
def yX10_ring : MethodName := ⟨RX10, "ring", "(II)I"⟩
abbrev cX10_left : ByteArray := prog_1_method_30_code
def yX10_left : MethodName := ⟨RX10, "left", "(III)I"⟩
abbrev cX10_forsaken : ByteArray := prog_1_method_31_code
def yX10_forsaken : MethodName := ⟨RX10, "forsaken", "(III)I"⟩
abbrev cX10_count : ByteArray := prog_1_method_32_code
def yX10_count : MethodName := ⟨RX10, "count", "(I)I"⟩
abbrev cX10_within : ByteArray := prog_1_method_33_code
def yX10_within : MethodName := ⟨RX10, "within", "(III)Z"⟩
abbrev cX10_isHouse : ByteArray := prog_1_method_34_code
def yX10_isHouse : MethodName := ⟨RX10, "isHouse", "(I)Z"⟩
abbrev cX10_isKind : ByteArray := prog_1_method_35_code
def yX10_isKind : MethodName := ⟨RX10, "isKind", "(I)Z"⟩
abbrev cX10_isSessionSize : ByteArray := prog_1_method_36_code
def yX10_isSessionSize : MethodName := ⟨RX10, "isSessionSize", "(I)Z"⟩
abbrev cX10_isPast : ByteArray := prog_1_method_37_code
def yX10_isPast : MethodName := ⟨RX10, "isPast", "(I)Z"⟩
abbrev cX10_maySwear : ByteArray := prog_1_method_38_code
def yX10_maySwear : MethodName := ⟨RX10, "maySwear", "(II)Z"⟩
abbrev cX10_debtOf : ByteArray := prog_1_method_39_code
def yX10_debtOf : MethodName := ⟨RX10, "debtOf", "(I)I"⟩
abbrev cX10_allDebts : ByteArray := prog_1_method_40_code
def yX10_allDebts : MethodName := ⟨RX10, "allDebts", "()I"⟩
def RX11 : String := "SwornCourtModel"
def TX11 : u_T := fun k => match k with
  | 0 => ("SwornCourtModel", "now", "I", false)
  | 1 => ("SwornCourtModel", "persons", "I", false)
  | 2 => ("SwornCourtModel", "born", "[I", true)
  | 3 => ("SwornCourtModel", "house", "[I", true)
  | 4 => ("SwornCourtModel", "firstRank", "[I", true)
  | 5 => ("SwornCourtModel", "father", "[I", true)
  | 6 => ("SwornCourtModel", "mother", "[I", true)
  | 7 => ("SwornCourtModel", "will", "[I", true)
  | 8 => ("SwornCourtModel", "dead", "[I", true)
  | 9 => ("SwornCourtModel", "changes", "I", false)
  | 10 => ("SwornCourtModel", "ranks", "[I", true)
  | 11 => ("SwornCourtModel", "feuds", "I", false)
  | 12 => ("SwornCourtModel", "quarrels", "[I", true)
  | 13 => ("SwornCourtModel", "text", "[I", true)
  | 14 => ("SwornCourtModel", "texted", "I", false)
  | 15 => ("SwornCourtModel", "faultPlace", "I", false)
  | 16 => ("SwornCourtModel", "parts", "I", false)
  | 17 => ("SwornCourtModel", "partDay", "[I", true)
  | 18 => ("SwornCourtModel", "says", "[I", true)
  | 19 => ("SwornCourtModel", "freshDay", "[I", true)
  | 20 => ("SwornCourtModel", "freshSays", "[I", true)
  | 21 => ("SwornCourtModel", "charges", "I", false)
  | 22 => ("SwornCourtModel", "kind", "[I", true)
  | 23 => ("SwornCourtModel", "accused", "[I", true)
  | 24 => ("SwornCourtModel", "accuser", "[I", true)
  | 25 => ("SwornCourtModel", "deed", "[I", true)
  | 26 => ("SwornCourtModel", "toldOn", "[I", true)
  | 27 => ("SwornCourtModel", "foundOn", "[I", true)
  | 28 => ("SwornCourtModel", "deeds", "I", false)
  | 29 => ("SwornCourtModel", "deedPerson", "[I", true)
  | 30 => ("SwornCourtModel", "deedCharge", "[I", true)
  | 31 => ("SwornCourtModel", "deedDay", "[I", true)
  | 32 => ("SwornCourtModel", "deedMet", "[Z", true)
  | 33 => ("SwornCourtModel", "deedRank", "[I", true)
  | 34 => ("SwornCourtModel", "oaths", "I", false)
  | 35 => ("SwornCourtModel", "payments", "I", false)
  | 36 => ("SwornCourtModel", "paid", "[I", true)
  | 37 => ("SwornCourtModel", "bound", "I", false)
  | 38 => ("SwornCourtModel", "upOne", "[I", true)
  | 39 => ("SwornCourtModel", "upTwo", "[I", true)
  | 40 => ("SwornCourtModel", "degree", "I", false)
  | 41 => ("SwornCourtModel", "tie", "I", false)
  | 42 => ("SwornCourtModel", "isHalf", "Z", false)
  | 43 => ("SwornCourtModel", "at", "I", false)
  | 44 => ("SwornCourtModel", "word", "J", false)
  | 45 => ("SwornCourtModel", "wordEnd", "I", false)
  | 46 => ("SwornCourtModel", "numberFrom", "I", false)
  | 47 => ("SwornCourtModel", "number", "I", false)
  | 48 => ("SwornCourtModel", "states", "[I", true)
  | 49 => ("SwornCourtModel", "decided", "[I", true)
  | 50 => ("SwornCourtModel", "total", "[I", true)
  | 51 => ("SwornCourtModel", "counts", "[I", true)
  | 52 => ("SwornCourtModel", "before", "[I", true)
  | 53 => ("SwornCourtModel", "many", "I", false)
  | 54 => ("SwornCourtModel", "asked", "[I", true)
  | 55 => ("SwornCourtModel", "callMany", "[I", true)
  | 56 => ("SwornCourtModel", "callWho", "[I", true)
  | 57 => ("SwornCourtModel", "isEnough", "[Z", true)
  | 58 => ("SwornCourtModel", "tried", "[I", true)
  | 59 => ("SwornCourtModel", "bestSets", "[I", true)
  | 60 => ("SwornCourtModel", "times", "[I", true)
  | 61 => ("SwornCourtModel", "most", "[I", true)
  | 62 => ("SwornCourtModel", "looks", "I", false)
  | 63 => ("SwornCourtModel", "isSpent", "Z", false)
  | 64 => ("SwornCourtModel", "bestMet", "I", false)
  | 65 => ("SwornCourtModel", "bestCalls", "I", false)
  | _ => ("SwornCourtModel", "away", "[I", true)
def tyX11 : Nat → FieldType := fun k => match k with
  | 0 => .int
  | 1 => .int
  | 2 => .array .int
  | 3 => .array .int
  | 4 => .array .int
  | 5 => .array .int
  | 6 => .array .int
  | 7 => .array .int
  | 8 => .array .int
  | 9 => .int
  | 10 => .array .int
  | 11 => .int
  | 12 => .array .int
  | 13 => .array .int
  | 14 => .int
  | 15 => .int
  | 16 => .int
  | 17 => .array .int
  | 18 => .array .int
  | 19 => .array .int
  | 20 => .array .int
  | 21 => .int
  | 22 => .array .int
  | 23 => .array .int
  | 24 => .array .int
  | 25 => .array .int
  | 26 => .array .int
  | 27 => .array .int
  | 28 => .int
  | 29 => .array .int
  | 30 => .array .int
  | 31 => .array .int
  | 32 => .array .boolean
  | 33 => .array .int
  | 34 => .int
  | 35 => .int
  | 36 => .array .int
  | 37 => .int
  | 38 => .array .int
  | 39 => .array .int
  | 40 => .int
  | 41 => .int
  | 42 => .boolean
  | 43 => .int
  | 44 => .long
  | 45 => .int
  | 46 => .int
  | 47 => .int
  | 48 => .array .int
  | 49 => .array .int
  | 50 => .array .int
  | 51 => .array .int
  | 52 => .array .int
  | 53 => .int
  | 54 => .array .int
  | 55 => .array .int
  | 56 => .array .int
  | 57 => .array .boolean
  | 58 => .array .int
  | 59 => .array .int
  | 60 => .array .int
  | 61 => .array .int
  | 62 => .int
  | 63 => .boolean
  | 64 => .int
  | 65 => .int
  | _ => .array .int
theorem nmX11 : ∀ a, a < 67 → ∀ b, b < 67 → a ≠ b → (TX11 a).2.1 ≠ (TX11 b).2.1 := by decide +kernel
theorem tyX11_ok : ∀ k, k < 67 → parseFieldDescriptor (TX11 k).2.2.1 = some (tyX11 k) := by decide +kernel
abbrev cX11_init : ByteArray := prog_13_method_1_code
def yX11_init : MethodName := ⟨RX11, "<init>", "()V"⟩
abbrev cX11_in : ByteArray := prog_13_method_3_code
def yX11_in : MethodName := ⟨RX11, "in", "(JJJ)Z"⟩
abbrev cX11_isPerson : ByteArray := prog_13_method_4_code
def yX11_isPerson : MethodName := ⟨RX11, "isPerson", "(I)Z"⟩
abbrev cX11_isCharge : ByteArray := prog_13_method_5_code
def yX11_isCharge : MethodName := ⟨RX11, "isCharge", "(I)Z"⟩
abbrev cX11_isDay : ByteArray := prog_13_method_6_code
def yX11_isDay : MethodName := ⟨RX11, "isDay", "(I)Z"⟩
abbrev cX11_person : ByteArray := prog_13_method_7_code
def yX11_person : MethodName := ⟨RX11, "person", "(IIIIII)I"⟩
abbrev cX11_rankOf : ByteArray := prog_13_method_8_code
def yX11_rankOf : MethodName := ⟨RX11, "rankOf", "(II)I"⟩
abbrev cX11_rank : ByteArray := prog_13_method_9_code
def yX11_rank : MethodName := ⟨RX11, "rank", "(II)I"⟩
abbrev cX11_die : ByteArray := prog_13_method_10_code
def yX11_die : MethodName := ⟨RX11, "die", "(I)I"⟩
abbrev cX11_isHouse : ByteArray := prog_13_method_11_code
def yX11_isHouse : MethodName := ⟨RX11, "isHouse", "(I)Z"⟩
abbrev cX11_feudOf : ByteArray := prog_13_method_12_code
def yX11_feudOf : MethodName := ⟨RX11, "feudOf", "(III)I"⟩
abbrev cX11_feud : ByteArray := prog_13_method_13_code
def yX11_feud : MethodName := ⟨RX11, "feud", "(II)I"⟩
abbrev cX11_peace : ByteArray := prog_13_method_14_code
def yX11_peace : MethodName := ⟨RX11, "peace", "(II)I"⟩
abbrev cX11_go : ByteArray := prog_13_method_15_code
def yX11_go : MethodName := ⟨RX11, "go", "(I)I"⟩
abbrev cX11_told : ByteArray := prog_13_method_16_code
def yX11_told : MethodName := ⟨RX11, "told", "(III)I"⟩
abbrev cX11_climb : ByteArray := prog_13_method_17_code
def yX11_climb : MethodName := ⟨RX11, "climb", "(I[I)V"⟩
abbrev cX11_findKin : ByteArray := prog_13_method_18_code
def yX11_findKin : MethodName := ⟨RX11, "findKin", "(II)V"⟩
abbrev cX11_kin : ByteArray := prog_13_method_19_code
def yX11_kin : MethodName := ⟨RX11, "kin", "(III)I"⟩
abbrev cX11_feed : ByteArray := prog_13_method_20_code
def yX11_feed : MethodName := ⟨RX11, "feed", "(IJ)I"⟩
abbrev cX11_hasKinds : ByteArray := prog_13_method_21_code
def yX11_hasKinds : MethodName := ⟨RX11, "hasKinds", "(I)Z"⟩
abbrev cX11_placeOf : ByteArray := prog_13_method_22_code
def yX11_placeOf : MethodName := ⟨RX11, "placeOf", "(II)I"⟩
abbrev cX11_atFirst : ByteArray := prog_13_method_23_code
def yX11_atFirst : MethodName := ⟨RX11, "atFirst", "(I)I"⟩
abbrev cX11_ruleOn : ByteArray := prog_13_method_24_code
def yX11_ruleOn : MethodName := ⟨RX11, "ruleOn", "(III)I"⟩
abbrev cX11_here : ByteArray := prog_13_method_25_code
def yX11_here : MethodName := ⟨RX11, "here", "()I"⟩
abbrev cX11_fails : ByteArray := prog_13_method_26_code
def yX11_fails : MethodName := ⟨RX11, "fails", "(II)I"⟩
abbrev cX11_readWord : ByteArray := prog_13_method_27_code
def yX11_readWord : MethodName := ⟨RX11, "readWord", "()V"⟩
abbrev cX11_code : ByteArray := prog_13_method_28_code
def yX11_code : MethodName := ⟨RX11, "code", "(IIIII)J"⟩
abbrev cX11_ruleOf : ByteArray := prog_13_method_29_code
def yX11_ruleOf : MethodName := ⟨RX11, "ruleOf", "()I"⟩
abbrev cX11_readNumber : ByteArray := prog_13_method_30_code
def yX11_readNumber : MethodName := ⟨RX11, "readNumber", "(I)I"⟩
abbrev cX11_readRule : ByteArray := prog_13_method_31_code
def yX11_readRule : MethodName := ⟨RX11, "readRule", "(I)I"⟩
abbrev cX11_readPart : ByteArray := prog_13_method_32_code
def yX11_readPart : MethodName := ⟨RX11, "readPart", "(I)I"⟩
abbrev cX11_read : ByteArray := prog_13_method_33_code
def yX11_read : MethodName := ⟨RX11, "read", "()I"⟩
abbrev cX11_fault : ByteArray := prog_13_method_34_code
def yX11_fault : MethodName := ⟨RX11, "fault", "()I"⟩
abbrev cX11_law : ByteArray := prog_13_method_35_code
def yX11_law : MethodName := ⟨RX11, "law", "(III)I"⟩
abbrev cX11_charge : ByteArray := prog_13_method_36_code
def yX11_charge : MethodName := ⟨RX11, "charge", "(IIII)I"⟩
abbrev cX11_ruleFor : ByteArray := prog_13_method_37_code
def yX11_ruleFor : MethodName := ⟨RX11, "ruleFor", "(II)I"⟩
abbrev cX11_isFound : ByteArray := prog_13_method_38_code
def yX11_isFound : MethodName := ⟨RX11, "isFound", "(II)Z"⟩
abbrev cX11_barredBy : ByteArray := prog_13_method_39_code
def yX11_barredBy : MethodName := ⟨RX11, "barredBy", "(IIIIIII)I"⟩
abbrev cX11_barredFrom : ByteArray := prog_13_method_40_code
def yX11_barredFrom : MethodName := ⟨RX11, "barredFrom", "(IIII)I"⟩
abbrev cX11_decide : ByteArray := prog_13_method_41_code
def yX11_decide : MethodName := ⟨RX11, "decide", "(III)V"⟩
abbrev cX11_work : ByteArray := prog_13_method_42_code
def yX11_work : MethodName := ⟨RX11, "work", "(I)V"⟩
abbrev cX11_lackOf : ByteArray := prog_13_method_43_code
def yX11_lackOf : MethodName := ⟨RX11, "lackOf", "(I)I"⟩
abbrev cX11_barred : ByteArray := prog_13_method_44_code
def yX11_barred : MethodName := ⟨RX11, "barred", "(IIII)I"⟩
abbrev cX11_hasSworn : ByteArray := prog_13_method_45_code
def yX11_hasSworn : MethodName := ⟨RX11, "hasSworn", "(II)Z"⟩
abbrev cX11_swornToday : ByteArray := prog_13_method_46_code
def yX11_swornToday : MethodName := ⟨RX11, "swornToday", "(I)I"⟩
abbrev cX11_tell : ByteArray := prog_13_method_47_code
def yX11_tell : MethodName := ⟨RX11, "tell", "(II)V"⟩
abbrev cX11_swear : ByteArray := prog_13_method_48_code
def yX11_swear : MethodName := ⟨RX11, "swear", "(II)I"⟩
abbrev cX11_close : ByteArray := prog_13_method_49_code
def yX11_close : MethodName := ⟨RX11, "close", "(I)I"⟩
abbrev cX11_find : ByteArray := prog_13_method_50_code
def yX11_find : MethodName := ⟨RX11, "find", "(I)I"⟩
abbrev cX11_oath : ByteArray := prog_13_method_51_code
def yX11_oath : MethodName := ⟨RX11, "oath", "(II)I"⟩
abbrev cX11_state : ByteArray := prog_13_method_52_code
def yX11_state : MethodName := ⟨RX11, "state", "(III)I"⟩
abbrev cX11_turned : ByteArray := prog_13_method_53_code
def yX11_turned : MethodName := ⟨RX11, "turned", "(II)I"⟩
abbrev cX11_finesOf : ByteArray := prog_13_method_54_code
def yX11_finesOf : MethodName := ⟨RX11, "finesOf", "(II)I"⟩
abbrev cX11_paidOf : ByteArray := prog_13_method_55_code
def yX11_paidOf : MethodName := ⟨RX11, "paidOf", "(II)I"⟩
abbrev cX11_pay : ByteArray := prog_13_method_56_code
def yX11_pay : MethodName := ⟨RX11, "pay", "(II)I"⟩
abbrev cX11_owes : ByteArray := prog_13_method_57_code
def yX11_owes : MethodName := ⟨RX11, "owes", "(III)I"⟩
abbrev cX11_bound : ByteArray := prog_13_method_58_code
def yX11_bound : MethodName := ⟨RX11, "bound", "(I)I"⟩
abbrev cX11_bits : ByteArray := prog_13_method_59_code
def yX11_bits : MethodName := ⟨RX11, "bits", "(I)I"⟩
abbrev cX11_findCallable : ByteArray := prog_13_method_60_code
def yX11_findCallable : MethodName := ⟨RX11, "findCallable", "(I)V"⟩
abbrev cX11_call : ByteArray := prog_13_method_61_code
def yX11_call : MethodName := ⟨RX11, "call", "(III)V"⟩
abbrev cX11_isWithin : ByteArray := prog_13_method_62_code
def yX11_isWithin : MethodName := ⟨RX11, "isWithin", "(II)Z"⟩
abbrev cX11_compare : ByteArray := prog_13_method_63_code
def yX11_compare : MethodName := ⟨RX11, "compare", "(I)V"⟩
abbrev cX11_seek : ByteArray := prog_13_method_64_code
def yX11_seek : MethodName := ⟨RX11, "seek", "()V"⟩
abbrev cX11_hold : ByteArray := prog_13_method_65_code
def yX11_hold : MethodName := ⟨RX11, "hold", "(I)I"⟩
abbrev cX11_session : ByteArray := prog_13_method_66_code
def yX11_session : MethodName := ⟨RX11, "session", "(II)I"⟩
abbrev cX11_called : ByteArray := prog_13_method_67_code
def yX11_called : MethodName := ⟨RX11, "called", "(II)I"⟩
abbrev cX11_lacks : ByteArray := prog_13_method_68_code
def yX11_lacks : MethodName := ⟨RX11, "lacks", "(I)I"⟩
abbrev cX11_stoodFor : ByteArray := prog_13_method_69_code
def yX11_stoodFor : MethodName := ⟨RX11, "stoodFor", "(II)I"⟩
abbrev cX11_stood : ByteArray := prog_13_method_70_code
def yX11_stood : MethodName := ⟨RX11, "stood", "(III)I"⟩
abbrev cX11_ring : ByteArray := prog_13_method_71_code
def yX11_ring : MethodName := ⟨RX11, "ring", "(II)I"⟩
abbrev cX11_leftFor : ByteArray := prog_13_method_72_code
def yX11_leftFor : MethodName := ⟨RX11, "leftFor", "(II)I"⟩
abbrev cX11_left : ByteArray := prog_13_method_73_code
def yX11_left : MethodName := ⟨RX11, "left", "(III)I"⟩
abbrev cX11_forsaken : ByteArray := prog_13_method_74_code
def yX11_forsaken : MethodName := ⟨RX11, "forsaken", "(III)I"⟩
abbrev cX11_count : ByteArray := prog_13_method_75_code
def yX11_count : MethodName := ⟨RX11, "count", "(I)I"⟩
def RJ6 : String := "java/lang/Integer"
abbrev cJ6_bitCount_0f7a4 : ByteArray := prog_14_method_49_code
def yJ6_bitCount_0f7a4 : MethodName := ⟨RJ6, "bitCount", "(I)I"⟩
def RJ9 : String := "java/lang/Math"
abbrev cJ9_max_7cf53 : ByteArray := prog_15_method_65_code
def yJ9_max_7cf53 : MethodName := ⟨RJ9, "max", "(II)I"⟩
abbrev cJ9_min_7cf53 : ByteArray := prog_15_method_69_code
def yJ9_min_7cf53 : MethodName := ⟨RJ9, "min", "(II)I"⟩
def RJ0 : String := "java/lang/String"
abbrev cJ0_length_8abf5 : ByteArray := prog_16_method_54_code
def yJ0_length_8abf5 : MethodName := ⟨RJ0, "length", "()I"⟩
abbrev cJ0_charAt_5068e : ByteArray := prog_16_method_56_code
def yJ0_charAt_5068e : MethodName := ⟨RJ0, "charAt", "(I)C"⟩
abbrev cJ0_coder_7d493 : ByteArray := prog_16_method_152_code
def yJ0_coder_7d493 : MethodName := ⟨RJ0, "coder", "()B"⟩
abbrev cJ0_isLatin1_aae02 : ByteArray := prog_16_method_154_code
def yJ0_isLatin1_aae02 : MethodName := ⟨RJ0, "isLatin1", "()Z"⟩
abbrev cJ0_checkIndex_df160 : ByteArray := prog_16_method_155_code
def yJ0_checkIndex_df160 : MethodName := ⟨RJ0, "checkIndex", "(II)V"⟩
def RJ1 : String := "java/lang/StringLatin1"
abbrev cJ1_charAt_3b067 : ByteArray := prog_17_method_2_code
def yJ1_charAt_3b067 : MethodName := ⟨RJ1, "charAt", "([BI)C"⟩
def RJ2 : String := "java/lang/StringUTF16"
abbrev cJ2_getChar_3b067 : ByteArray := prog_18_method_5_code
def yJ2_getChar_3b067 : MethodName := ⟨RJ2, "getChar", "([BI)C"⟩
abbrev cJ2_length_9d52b : ByteArray := prog_18_method_6_code
def yJ2_length_9d52b : MethodName := ⟨RJ2, "length", "([B)I"⟩
abbrev cJ2_charAt_3b067 : ByteArray := prog_18_method_83_code
def yJ2_charAt_3b067 : MethodName := ⟨RJ2, "charAt", "([BI)C"⟩
abbrev cJ2_checkIndex_2214a : ByteArray := prog_18_method_91_code
def yJ2_checkIndex_2214a : MethodName := ⟨RJ2, "checkIndex", "(I[B)V"⟩
def RJ10 : String := "java/lang/System"
def RJ3 : String := "jdk/internal/util/Preconditions"
abbrev cJ3_checkIndex_8e157 : ByteArray := prog_20_method_11_code
def yJ3_checkIndex_8e157 : MethodName := ⟨RJ3, "checkIndex", "(IILjava/util/function/BiFunction;)I"⟩
def RL : String := "SwornCourtLaw"
abbrev cL_law : ByteArray := code
def yL_law : MethodName := ⟨RL, "law", "([I)Z"⟩
abbrev cls : List vw_C := [(RX0, TX0, 12), (RX1, TX1, 17), (RX2, TX2, 5), (RX3, TX3, 18), (RX4, TX4, 4), (RX5, TX5, 6), (RX6, TX6, 3), (RX7, TX7, 12), (RX8, TX8, 4), (RX9, TX9, 4), (RX10, TX10, 11), (RX11, TX11, 67)]
abbrev Mt : Type := MethodName × ByteArray × Nat × Option FieldType
def mtab0 : List Mt := [(yL_law, cL_law, 4, some .boolean),
  (yX0_work, cX0_work, 4, none),
  (yX0_workOath, cX0_workOath, 4, none),
  (yX0_decide, cX0_decide, 4, none),
  (yX0_remember, cX0_remember, 1, none),
  (yX0_differing, cX0_differing, 4, some .int),
  (yX0_needOf, cX0_needOf, 2, some .int),
  (yX0_lackOf, cX0_lackOf, 2, some .int),
  (yX0_chargesIn, cX0_chargesIn, 4, some .int),
  (yX0_allOpen, cX0_allOpen, 3, (some Jvm.ClassFile.FieldType.boolean)),
  (yX0_weightOf, cX0_weightOf, 4, some .int),
  (yX0_obstacle, cX0_obstacle, 4, some .int),
  (yX0_obstacleIn, cX0_obstacleIn, 7, some .int),
  (yX0_isTooYoung, cX0_isTooYoung, 5, (some Jvm.ClassFile.FieldType.boolean)),
  (yX0_isTooNear, cX0_isTooNear, 5, (some Jvm.ClassFile.FieldType.boolean)),
  (yX0_sworeFalsely, cX0_sworeFalsely, 8, (some Jvm.ClassFile.FieldType.boolean)),
  (yX0_lostLately, cX0_lostLately, 6, (some Jvm.ClassFile.FieldType.boolean)),
  (yX0_isLately, cX0_isLately, 3, (some Jvm.ClassFile.FieldType.boolean)),
  (yX0_helpInSight, cX0_helpInSight, 6, some .int),
  (yX0_helpAgainst, cX0_helpAgainst, 6, some .int),
  (yX0_finesOf, cX0_finesOf, 5, some .int),
  (yX1_hasCharge, cX1_hasCharge, 2, (some Jvm.ClassFile.FieldType.boolean)),
  (yX1_hasAll, cX1_hasAll, 2, (some Jvm.ClassFile.FieldType.boolean)),
  (yX1_addCharge, cX1_addCharge, 8, some .int)]
def mtab1 : List Mt := [(yX1_addOath, cX1_addOath, 6, some .int),
  (yX1_addClosing, cX1_addClosing, 3, none),
  (yX1_addEvent, cX1_addEvent, 3, none),
  (yX1_hasSworn, cX1_hasSworn, 4, (some Jvm.ClassFile.FieldType.boolean)),
  (yX1_isFound, cX1_isFound, 3, (some Jvm.ClassFile.FieldType.boolean)),
  (yX1_oathsFor, cX1_oathsFor, 4, some .int),
  (yX1_oathsOfOn, cX1_oathsOfOn, 5, some .int),
  (yX1_oathsOfFor, cX1_oathsOfFor, 5, some .int),
  (yX2_add, cX2_add, 4, none),
  (yX2_isOf, cX2_isOf, 4, (some Jvm.ClassFile.FieldType.boolean)),
  (yX2_standing, cX2_standing, 4, some .int),
  (yX2_allStanding, cX2_allStanding, 3, some .int),
  (yX2_holds, cX2_holds, 5, (some Jvm.ClassFile.FieldType.boolean)),
  (yX3_seekFor, cX3_seekFor, 4, none),
  (yX3_calledFor, cX3_calledFor, 3, some .int),
  (yX3_measureRoom, cX3_measureRoom, 3, none),
  (yX3_gatherEnough, cX3_gatherEnough, 9, none),
  (yX3_gatherCallable, cX3_gatherCallable, 5, some .int),
  (yX3_addEnough, cX3_addEnough, 3, none),
  (yX3_descend, cX3_descend, 4, none),
  (yX3_take, cX3_take, 4, none),
  (yX3_giveBack, cX3_giveBack, 4, none),
  (yX3_compare, cX3_compare, 4, none),
  (yX4_learn, cX4_learn, 8, none)]
def mtab2 : List Mt := [(yX4_stepsOf, cX4_stepsOf, 3, some .int),
  (yX4_measure, cX4_measure, 7, none),
  (yX5_append, cX5_append, 5, none),
  (yX5_parse, cX5_parse, 2, (some Jvm.ClassFile.FieldType.boolean)),
  (yX5_parseHead, cX5_parseHead, 5, (some Jvm.ClassFile.FieldType.boolean)),
  (yX5_parseRules, cX5_parseRules, 2, (some Jvm.ClassFile.FieldType.boolean)),
  (yX5_parseRule, cX5_parseRule, 5, (some Jvm.ClassFile.FieldType.boolean)),
  (yX5_parseNumber, cX5_parseNumber, 4, some .int),
  (yX5_blame, cX5_blame, 3, (some Jvm.ClassFile.FieldType.boolean)),
  (yX5_skipBlanks, cX5_skipBlanks, 1, none),
  (yX5_wordEnd, cX5_wordEnd, 3, some .int),
  (yX5_isWord, cX5_isWord, 5, (some Jvm.ClassFile.FieldType.boolean)),
  (yX5_ruleNamed, cX5_ruleNamed, 4, some .int),
  (yX5_nameOf, cX5_nameOf, 1, (some (Jvm.ClassFile.FieldType.object "java/lang/String"))),
  (yX5_limitOf, cX5_limitOf, 1, some .int),
  (yX6_isKeyed, cX6_isKeyed, 1, (some Jvm.ClassFile.FieldType.boolean)),
  (yX6_slotOf, cX6_slotOf, 1, some .int),
  (yX6_startPart, cX6_startPart, 2, none),
  (yX6_say, cX6_say, 3, none),
  (yX6_rowOn, cX6_rowOn, 3, some .int),
  (yX6_valueOf, cX6_valueOf, 3, some .int),
  (yX6_takeFrom, cX6_takeFrom, 2, none),
  (yX7_has, cX7_has, 2, (some Jvm.ClassFile.FieldType.boolean)),
  (yX7_hasOrNone, cX7_hasOrNone, 2, (some Jvm.ClassFile.FieldType.boolean))]
def mtab3 : List Mt := [(yX7_add, cX7_add, 8, some .int),
  (yX7_addRanking, cX7_addRanking, 4, none),
  (yX7_rankOn, cX7_rankOn, 4, some .int),
  (yX7_isDead, cX7_isDead, 3, (some Jvm.ClassFile.FieldType.boolean)),
  (yX8_add, cX8_add, 4, none),
  (yX8_paidBy, cX8_paidBy, 5, some .int),
  (yX9_seek, cX9_seek, 5, none),
  (yX9_gather, cX9_gather, 4, none),
  (yX9_measure, cX9_measure, 6, none),
  (yX9_nearest, cX9_nearest, 6, some .int),
  (yX10_person, cX10_person, 8, some .int),
  (yX10_rank, cX10_rank, 4, some .int),
  (yX10_die, cX10_die, 2, some .int),
  (yX10_feud, cX10_feud, 3, some .int),
  (yX10_peace, cX10_peace, 4, some .int),
  (yX10_go, cX10_go, 2, some .int),
  (yX10_told, cX10_told, 4, some .int),
  (yX10_kin, cX10_kin, 4, some .int),
  (yX10_feed, cX10_feed, 4, some .int),
  (yX10_read, cX10_read, 2, some .int),
  (yX10_fault, cX10_fault, 1, some .int),
  (yX10_law, cX10_law, 4, some .int),
  (yX10_charge, cX10_charge, 5, some .int),
  (yX10_barred, cX10_barred, 5, some .int)]
def mtab4 : List Mt := [(yX10_swear, cX10_swear, 4, some .int),
  (yX10_close, cX10_close, 2, some .int),
  (yX10_find, cX10_find, 2, some .int),
  (yX10_oath, cX10_oath, 3, some .int),
  (yX10_state, cX10_state, 4, some .int),
  (yX10_turned, cX10_turned, 3, some .int),
  (yX10_pay, cX10_pay, 3, some .int),
  (yX10_owes, cX10_owes, 4, some .int),
  (yX10_bound, cX10_bound, 3, some .int),
  (yX10_session, cX10_session, 3, some .int),
  (yX10_called, cX10_called, 3, some .int),
  (yX10_lacks, cX10_lacks, 2, some .int),
  (yX10_stood, cX10_stood, 5, some .int),
  (yX10_ring, cX10_ring, 3, some .int),
  (yX10_left, cX10_left, 4, some .int),
  (yX10_forsaken, cX10_forsaken, 9, some .int),
  (yX10_count, cX10_count, 2, some .int),
  (yX10_within, cX10_within, 3, (some Jvm.ClassFile.FieldType.boolean)),
  (yX10_isHouse, cX10_isHouse, 1, (some Jvm.ClassFile.FieldType.boolean)),
  (yX10_isKind, cX10_isKind, 1, (some Jvm.ClassFile.FieldType.boolean)),
  (yX10_isSessionSize, cX10_isSessionSize, 1, (some Jvm.ClassFile.FieldType.boolean)),
  (yX10_isPast, cX10_isPast, 2, (some Jvm.ClassFile.FieldType.boolean)),
  (yX10_maySwear, cX10_maySwear, 3, (some Jvm.ClassFile.FieldType.boolean)),
  (yX10_debtOf, cX10_debtOf, 2, some .int)]
def mtab5 : List Mt := [(yX10_allDebts, cX10_allDebts, 3, some .int),
  (yX11_in, cX11_in, 6, (some Jvm.ClassFile.FieldType.boolean)),
  (yX11_isPerson, cX11_isPerson, 2, (some Jvm.ClassFile.FieldType.boolean)),
  (yX11_isCharge, cX11_isCharge, 2, (some Jvm.ClassFile.FieldType.boolean)),
  (yX11_isDay, cX11_isDay, 2, (some Jvm.ClassFile.FieldType.boolean)),
  (yX11_person, cX11_person, 8, some .int),
  (yX11_rankOf, cX11_rankOf, 6, some .int),
  (yX11_rank, cX11_rank, 4, some .int),
  (yX11_die, cX11_die, 2, some .int),
  (yX11_isHouse, cX11_isHouse, 1, (some Jvm.ClassFile.FieldType.boolean)),
  (yX11_feudOf, cX11_feudOf, 8, some .int),
  (yX11_feud, cX11_feud, 3, some .int),
  (yX11_peace, cX11_peace, 4, some .int),
  (yX11_go, cX11_go, 2, some .int),
  (yX11_told, cX11_told, 4, some .int),
  (yX11_climb, cX11_climb, 4, none),
  (yX11_findKin, cX11_findKin, 6, none),
  (yX11_kin, cX11_kin, 4, some .int),
  (yX11_feed, cX11_feed, 5, some .int),
  (yX11_hasKinds, cX11_hasKinds, 1, (some Jvm.ClassFile.FieldType.boolean)),
  (yX11_placeOf, cX11_placeOf, 2, some .int),
  (yX11_atFirst, cX11_atFirst, 1, some .int),
  (yX11_ruleOn, cX11_ruleOn, 7, some .int),
  (yX11_here, cX11_here, 1, some .int)]
def mtab6 : List Mt := [(yX11_fails, cX11_fails, 3, some .int),
  (yX11_readWord, cX11_readWord, 1, none),
  (yX11_code, cX11_code, 7, (some Jvm.ClassFile.FieldType.long)),
  (yX11_ruleOf, cX11_ruleOf, 4, some .int),
  (yX11_readNumber, cX11_readNumber, 3, some .int),
  (yX11_readRule, cX11_readRule, 5, some .int),
  (yX11_readPart, cX11_readPart, 4, some .int),
  (yX11_read, cX11_read, 4, some .int),
  (yX11_fault, cX11_fault, 1, some .int),
  (yX11_law, cX11_law, 4, some .int),
  (yX11_charge, cX11_charge, 6, some .int),
  (yX11_ruleFor, cX11_ruleFor, 3, some .int),
  (yX11_isFound, cX11_isFound, 3, (some Jvm.ClassFile.FieldType.boolean)),
  (yX11_barredBy, cX11_barredBy, 12, some .int),
  (yX11_barredFrom, cX11_barredFrom, 5, some .int),
  (yX11_decide, cX11_decide, 4, none),
  (yX11_work, cX11_work, 6, none),
  (yX11_lackOf, cX11_lackOf, 3, some .int),
  (yX11_barred, cX11_barred, 5, some .int),
  (yX11_hasSworn, cX11_hasSworn, 5, (some Jvm.ClassFile.FieldType.boolean)),
  (yX11_swornToday, cX11_swornToday, 4, some .int),
  (yX11_tell, cX11_tell, 3, none),
  (yX11_swear, cX11_swear, 3, some .int),
  (yX11_close, cX11_close, 2, some .int)]
def mtab7 : List Mt := [(yX11_find, cX11_find, 4, some .int),
  (yX11_oath, cX11_oath, 5, some .int),
  (yX11_state, cX11_state, 4, some .int),
  (yX11_turned, cX11_turned, 5, some .int),
  (yX11_finesOf, cX11_finesOf, 5, some .int),
  (yX11_paidOf, cX11_paidOf, 5, some .int),
  (yX11_pay, cX11_pay, 3, some .int),
  (yX11_owes, cX11_owes, 6, some .int),
  (yX11_bound, cX11_bound, 3, some .int),
  (yX11_bits, cX11_bits, 3, some .int),
  (yX11_findCallable, cX11_findCallable, 9, none),
  (yX11_call, cX11_call, 5, none),
  (yX11_isWithin, cX11_isWithin, 6, (some Jvm.ClassFile.FieldType.boolean)),
  (yX11_compare, cX11_compare, 5, none),
  (yX11_seek, cX11_seek, 3, none),
  (yX11_hold, cX11_hold, 3, some .int),
  (yX11_session, cX11_session, 4, some .int),
  (yX11_called, cX11_called, 8, some .int),
  (yX11_lacks, cX11_lacks, 5, some .int),
  (yX11_stoodFor, cX11_stoodFor, 5, some .int),
  (yX11_stood, cX11_stood, 4, some .int),
  (yX11_ring, cX11_ring, 8, some .int),
  (yX11_leftFor, cX11_leftFor, 6, some .int),
  (yX11_left, cX11_left, 4, some .int)]
def mtab8 : List Mt := [(yX11_forsaken, cX11_forsaken, 7, some .int),
  (yX11_count, cX11_count, 6, some .int),
  (yJ6_bitCount_0f7a4, cJ6_bitCount_0f7a4, 1, some .int),
  (yJ0_length_8abf5, cJ0_length_8abf5, 1, some .int),
  (yJ0_coder_7d493, cJ0_coder_7d493, 1, (some Jvm.ClassFile.FieldType.byte)),
  (yJ0_charAt_5068e, cJ0_charAt_5068e, 2, (some Jvm.ClassFile.FieldType.char)),
  (yJ0_isLatin1_aae02, cJ0_isLatin1_aae02, 1, (some Jvm.ClassFile.FieldType.boolean)),
  (yJ1_charAt_3b067, cJ1_charAt_3b067, 2, (some Jvm.ClassFile.FieldType.char)),
  (yJ0_checkIndex_df160, cJ0_checkIndex_df160, 2, none),
  (yJ3_checkIndex_8e157, cJ3_checkIndex_8e157, 3, some .int)]
def mtab : List Mt := mtab0 ++ (mtab1 ++ (mtab2 ++ (mtab3 ++ (mtab4 ++ (mtab5 ++ (mtab6 ++ (mtab7 ++ (mtab8))))))))
def mD : Mt := (yL_law, cL_law, 4, some .boolean)
def mY (k : Nat) : MethodName := (mtab.getD k mD).1
def mB (k : Nat) : ByteArray := (mtab.getD k mD).2.1
def mN (k : Nat) : Nat := (mtab.getD k mD).2.2.1
def mR (k : Nat) : Option FieldType := (mtab.getD k mD).2.2.2
def mcl : List Nat := [12, 0, 0, 0, 0, 0, 0, 0, 0, 0, 0, 0, 0, 0, 0, 0, 0, 0, 0, 0, 0, 1, 1, 1, 1, 1, 1, 1, 1, 1, 1, 1, 2, 2, 2, 2, 2, 3, 3, 3, 3, 3, 3, 3, 3, 3, 3, 4, 4, 4, 5, 5, 5, 5, 5, 5, 5, 5, 5, 5, 5, 5, 5, 6, 6, 6, 6, 6, 6, 6, 7, 7, 7, 7, 7, 7, 8, 8, 9, 9, 9, 9, 10, 10, 10, 10, 10, 10, 10, 10, 10, 10, 10, 10, 10, 10, 10, 10, 10, 10, 10, 10, 10, 10, 10, 10, 10, 10, 10, 10, 10, 10, 10, 10, 10, 10, 10, 10, 10, 10, 10, 11, 11, 11, 11, 11, 11, 11, 11, 11, 11, 11, 11, 11, 11, 11, 11, 11, 11, 11, 11, 11, 11, 11, 11, 11, 11, 11, 11, 11, 11, 11, 11, 11, 11, 11, 11, 11, 11, 11, 11, 11, 11, 11, 11, 11, 11, 11, 11, 11, 11, 11, 11, 11, 11, 11, 11, 11, 11, 11, 11, 11, 11, 11, 11, 11, 11, 11, 11, 11, 11, 11, 11, 11, 14, 13, 13, 13, 13, 14, 13, 14]
def nK : Nat := 202
def cpl : List Nat := [0, 2067, 2071, 2127, 2191, 2199, 2120, 2116, 2639, 2248, 2148, 2075, 2079, 2087, 2092, 2101, 2112, 2108, 2579, 2618, 2215, 2063, 2235, 2055, 2153, 2166, 2157, 2140, 2105, 2174, 2144, 2590, 1590, 1586, 1582, 2631, 2097, 2252, 2571, 2273, 2264, 2256, 2269, 2277, 2287, 2563, 2281, 1552, 1556, 1614, 1622, 1631, 1639, 1712, 1716, 1704, 1700, 1635, 1643, 1648, 1720, 1723, 1740, 1737, 1743, 1708, 1749, 1767, 1772, 1753, 1263, 1259, 1548, 1569, 1565, 2083, 2207, 2219, 2598, 2602, 2606, 2610, 1255, 1560, 1573, 1578, 1594, 1598, 1602, 1610, 1618, 1627, 1758, 1762, 2048, 2059, 2132, 2162, 2170, 2178, 2182, 2187, 2203, 2223, 2227, 2231, 2567, 2575, 2586, 2594, 2614, 2622, 2627, 1539, 1542, 2051, 2238, 1606, 2136, 2211, 2635, 3131, 3128, 3276, 3179, 3124, 3146, 3142, 3150, 3158, 3162, 3155, 3166, 3170, 3175, 3192, 3188, 3183, 3196, 3244, 3247, 3264, 3261, 3214, 3227, 3210, 3222, 3241, 3231, 3237, 3206, 3202, 3251, 3255, 3268, 3300, 3296, 3292, 3288, 3284, 3280, 3596, 3272, 3308, 3584, 3588, 3304, 3592, 3600, 3604, 3608, 3612, 3620, 3624, 3616, 3628, 3632, 3645, 3649, 3657, 3661, 3665, 3653, 3642, 3638, 3669, 3673, 3681, 3677, 3685, 3693, 3689, 3697, 3701, 2241, 1652, 1656, 1662, 1666, 1669, 1672, 1677]
-- 0: SwornCourtLaw.law
def cod0 : List Nat := [6488064, 1966083, 6488068, 18446744073710141447, 6488072, 1966091, 6488076, 36893488147419693071, 16, 55340232221129113617, 55340232221128917010, 393235, 1900564, 117440533, 18446744073710272535, 17247705708918499049496, 393243, 55340232221128917020, 1638429, 520093726, 55340232221129375776, 17210812220771013034017, 18446744073709945004, 393389, 55340232221128917166, 16777391, 721072, 1638577, 393394, 55340232221128917171, 33554612, 721077, 1638582, 393399, 55340232221128917176, 50331833, 721082, 1638587, 393404, 55340232221128917181, 67109054, 721087, 1638592, 393409, 55340232221128917186, 83886275, 721092, 1638597, 393414, 55340232221128917191, 100663496, 721098, 1638603, 10916816118416869477037516903107797516492, 2097359, 36893488147419496656, 393425, 55340232221128917202, 16777427, 721108, 1638613, 393430, 55340232221128917207, 33554648, 721113, 1638618, 393435, 55340232221128917212, 50331869, 721118, 1638623, 393440, 55340232221128917217, 67109090, 721123, 1638628, 393445, 55340232221128917222, 83886311, 721128, 1638633, 393450, 55340232221128917227, 100663532, 721134, 1638639, 11181734666253574227389616687106564096240, 2097395, 17210812220771012968692, 18446744073709945079, 393464, 55340232221128917241, 16777466, 721147, 1638652, 393469, 55340232221128917246, 33554687, 721152, 1638657, 10918400155686548596995909430648924078338, 2097413, 36893488147419496710, 393479, 55340232221128917256, 16777481, 721162, 1638667, 393484, 55340232221128917261, 33554702, 721167, 1638672, 11181828150420309388498056697923389161745, 2097428, 17210812220771012968725, 18446744073709945112, 393497, 55340232221128917274, 16777499, 721180, 1638685, 10918467672029190657831293288378074988830, 2097441, 36893488147419496738, 393507, 55340232221128917284, 16777509, 721190, 1638695, 11181869698938858349005044170343754039592, 2097451, 17210812220771012968748, 18446744073709945135, 393520, 55340232221128917297, 16777522, 721203, 1638708, 393525, 55340232221128917302, 33554743, 721208, 1638713, 10918493639853283758178136417760587350330, 2097469, 36893488147419496766, 393535, 55340232221128917312, 16777537, 721218, 1638723, 393540, 55340232221128917317, 33554758, 721223, 1638728, 11181895666762951449351887299726299955529, 2097484, 17210812220771012968781, 18446744073709945168, 393553, 55340232221128917330, 16777555, 721236, 1638741, 393558, 55340232221128917335, 33554776, 721241, 1638746, 10918576736890381679229004850748719432027, 2097502, 36893488147419496799, 393568, 55340232221128917345, 16777570, 721251, 1638756, 393573, 55340232221128917350, 33554791, 721256, 1638761, 11181952795975956270074359347405646004586, 2097517, 17210812220771012968814, 18446744073709945201, 393586, 55340232221128917363, 16777588, 721269, 1638774, 10918597511149656159473275214922055483767, 2097530, 36893488147419496827, 393596, 55340232221128917373, 16777598, 721279, 1638784, 11181973570235230750318629711578982056321, 2097540, 17210812220771012968837, 18446744073709945224, 393609, 55340232221128917386, 16777611, 721292, 1638797, 393614, 55340232221128917391, 33554832, 721297, 1638802, 393619, 55340232221128917396, 50332053, 721302, 1638807, 10918618285408930639772885811316520190360, 2097563, 36893488147419496860, 393629, 55340232221128917406, 16777631, 721312, 1638817, 393634, 55340232221128917411, 33554852, 721317, 1638822, 393639, 55340232221128917416, 50332073, 721322, 1638827, 11181999538059323850683919585035203969452, 2097583, 17210812220771012968880, 18446744073709945267, 393652, 55340232221128917429, 16777654, 721335, 1638840, 393657, 55340232221128917434, 33554875, 721340, 1638845, 393662, 55340232221128917439, 50332096, 721345, 1638850, 10918659833927479600298320027810594619843, 36893488147419496902, 393671, 55340232221128917448, 16777673, 721354, 1638859, 393676, 55340232221128917453, 33554894, 721359, 1638864, 393681, 55340232221128917458, 50332115, 721364, 1638869, 11182041086577872811209353801529311953366, 17210812220771012837849, 476, 2228701, 18446744073709945310, 393695, 55340232221128917472, 16777697, 721378, 1638883, 393700, 55340232221128917477, 33554918, 721383, 1638888, 917993, 536871402, 852460, 393709, 55340232221128917486, 50332143, 721392, 1638897, 918002, 1145713506358691502013160817139, 55340232221129441782, 73786976294838993399, 10918701382446028560805307500230959497720, 2097659, 36893488147419496956, 393725, 55340232221128917502, 16777727, 721408, 1638913, 393730, 55340232221128917507, 33554948, 721413, 1638918, 918023, 536871432, 852490, 393739, 55340232221128917516, 50332173, 721422, 1638927, 918032, 1145713506358691502013160817169, 55340232221129441812, 73786976294838993429, 11182108602920514872044737659258462863894, 2097689, 17210812220771012968986, 18446744073709945373, 10918748124529396141359527505639372030494, 2097697, 36893488147419496994, 11182139764309426592401919833481805103651, 2097702, 17210812220771012968999, 18446744073709945386, 10919428481520635369963512800729582862891, 2097710, 36893488147419497007, 11182394248985538975620204409507925000752, 2097715, 17210812220771012969012, 18446744073709945399, 393784, 55340232221128917561, 16777786, 721467, 1638972, 393789, 55340232221128917566, 33555007, 721472, 1638977, 393794, 55340232221128917571, 50332228, 721477, 1638982, 10919449255779909850281570141197757121095, 2097738, 36893488147419497035, 393804, 55340232221128917581, 16777806, 721487, 1638992, 393809, 55340232221128917586, 33555027, 721492, 1638997, 393814, 55340232221128917591, 50332248, 721497, 1639002, 11182415023244813455938261749976099258971, 2097758, 17210812220771012969055, 18446744073709945442, 393827, 55340232221128917604, 16777829, 721510, 1639015, 393832, 55340232221128917609, 33555050, 721515, 1639020, 393837, 55340232221128917614, 50332271, 721520, 1639025, 393842, 55340232221128917619, 67109492, 721525, 1639030, 10919521965687370531219526764136084341367, 2097786, 36893488147419497083, 393852, 55340232221128917629, 16777854, 721535, 1639040, 393857, 55340232221128917634, 33555075, 721540, 1639045, 393862, 55340232221128917639, 50332296, 721545, 1639050, 393867, 55340232221128917644, 67109517, 721550, 1639055, 11182482539587455516810539095852669272720, 2097811, 17210812220771012969108, 18446744073709945495, 393880, 55340232221128917657, 16777882, 721563, 1639068, 393885, 55340232221128917662, 33555103, 721568, 1639073, 393890, 55340232221128917667, 50332324, 721573, 1639078, 393895, 55340232221128917672, 67109545, 721578, 1639083, 10920991744531040009806762172613390566060, 2097839, 36893488147419497136, 393905, 55340232221128917682, 16777907, 721588, 1639093, 393910, 55340232221128917687, 33555128, 721593, 1639098, 393915, 55340232221128917692, 50332349, 721598, 1639103, 393920, 55340232221128917697, 67109570, 721603, 1639108, 11182503313846729997073256204099832316613, 2097864, 17210812220771012969161, 18446744073709945548, 393933, 55340232221128917710, 16777935, 721616, 1639121, 393938, 55340232221128917715, 33555156, 721621, 1639126, 10921370874762799274564455909974264316631, 2097882, 36893488147419497179, 393948, 55340232221128917725, 16777950, 721631, 1639136, 393953, 55340232221128917730, 33555171, 721636, 1639141, 11182669507920925839138099581928710931174, 2097897, 17210812220771012969194, 18446744073709945581, 393966, 55340232221128917743, 16777968, 721649, 1639154, 10921526681707357876516387477753287738099, 2097910, 36893488147419497207, 393976, 55340232221128917753, 16777978, 721659, 1639164, 11184165254588688418035284631641093636861, 2097920, 17210812220771012969217, 18446744073709945604, 393989, 55340232221128917766, 16777991, 721672, 1639177, 10921568230225906837041821694247362167562, 2097933, 36893488147419497230, 393999, 55340232221128917776, 16778001, 721682, 1639187, 11184206803107237378560718848135168066324, 2097943, 17210812220771012969240, 18446744073709945627, 394012, 55340232221128917789, 16778014, 721695, 1639200, 394017, 55340232221128917794, 33555235, 721700, 1639205, 10921609778744455797585702654815146148646, 2097961, 36893488147419497258, 394027, 55340232221128917804, 16778029, 721710, 1639215, 394032, 55340232221128917809, 33555250, 721715, 1639220, 11184227577366511858841882700455923221301, 2097976, 17210812220771012969273, 18446744073709945660, 394045, 55340232221128917822, 16778047, 721728, 1639233, 394050, 55340232221128917827, 33555268, 721733, 1639238, 394055, 55340232221128917832, 50332489, 721738, 1639243, 10921630553003730277866866507135901303628, 2097999, 36893488147419497296, 394065, 55340232221128917842, 16778067, 721748, 1639253, 394070, 55340232221128917847, 33555288, 721753, 1639258, 394075, 55340232221128917852, 50332509, 721758, 1639263, 11184248351625786339123046552776678376288, 2098019, 17210812220771012969316, 18446744073709945703, 394088, 55340232221128917865, 16778090, 721771, 1639276, 394093, 55340232221128917870, 33555311, 721776, 1639281, 10921656520827823378176816148370994561906, 2098037, 36893488147419497334, 394103, 55340232221128917880, 16778105, 721786, 1639291, 394108, 55340232221128917885, 33555326, 721791, 1639296, 11184269125885060819367316916950014428033, 2098052, 17210812220771012969349, 18446744073709945736, 394121, 55340232221128917898, 16778123, 721804, 1639309, 394126, 55340232221128917903, 33555344, 721809, 1639314, 10921739617864921299227684581359126643603, 2098070, 36893488147419497367, 394136, 55340232221128917913, 16778138, 721819, 1639324, 394141, 55340232221128917918, 33555359, 721824, 1639329, 11184289900144335299630034025197093585826, 2098085, 17210812220771012969382, 18446744073709945769, 394154, 55340232221128917931, 16778156, 721837, 1639342, 394159, 55340232221128917936, 33555377, 721842, 1639347, 394164, 55340232221128917941, 50332598, 721847, 1639352, 10921843489161293700559716866667997103033, 2098108, 36893488147419497405, 394174, 55340232221128917951, 16778176, 721857, 1639362, 394179, 55340232221128917956, 33555397, 721862, 1639367, 394184, 55340232221128917961, 50332618, 721867, 1639372, 11184352222922158740436632094011906393037, 2098128, 17210812220771012969425, 18446744073709945812, 394197, 55340232221128917974, 16778199, 721880, 1639385, 10921864263420568180785540486767623603162, 2098141, 36893488147419497438, 394207, 55340232221128917984, 16778209, 721890, 1639395, 11184372997181433220662455714111532893156, 2098151, 17210812220771012969448, 18446744073709945835, 394220, 55340232221128917997, 16778222, 721903, 1639408, 394225, 55340232221128918002, 33555443, 721908, 1639413, 10921885037679842661066704339088378758134, 2098169, 36893488147419497466, 394235, 55340232221128918012, 16778237, 721918, 1639423, 394240, 55340232221128918017, 33555458, 721923, 1639428, 11184404158570344941074978120555919901701, 2098184, 17210812220771012969481, 18446744073709945868, 394253, 55340232221128918030, 16778255, 721936, 1639441, 394258, 55340232221128918035, 33555476, 721941, 1639446, 10923630075458899003134941431838816928791, 2098202, 36893488147419497499, 394268, 55340232221128918045, 16778270, 721951, 1639456, 394273, 55340232221128918050, 33555491, 721956, 1639461, 11184565159079722163111035709470410081318, 2098217, 17210812220771012969514, 18446744073709945901, 394286, 55340232221128918063, 16778288, 721969, 1639474, 10923671623977447963641928904259181806643, 2098230, 36893488147419497527, 394296, 55340232221128918073, 16778298, 721979, 1639484, 11184585933338996643355306073643746133053, 2098240, 17210812220771012969537, 18446744073709945924, 394309, 55340232221128918086, 16778311, 721992, 1639497, 394314, 55340232221128918091, 33555532, 721997, 1639502, 394319, 55340232221128918096, 50332753, 722002, 1639507, 10923728753190452784401294440085946958932, 2098263, 36893488147419497560, 394329, 55340232221128918106, 16778331, 722012, 1639517, 394334, 55340232221128918111, 33555552, 722017, 1639522, 394339, 55340232221128918116, 50332773, 722022, 1639527, 11184606707598271123654916670038227616872, 2098283, 17210812220771012969580, 18446744073709945967, 394352, 55340232221128918129, 16778354, 722035, 1639540, 394357, 55340232221128918134, 33555575, 722040, 1639545, 10923770301709001744908281912506311836794, 2098301, 36893488147419497598, 394367, 55340232221128918144, 16778369, 722050, 1639555, 394372, 55340232221128918149, 33555590, 722055, 1639560, 11184648256116820084161904142458592494729, 2098316, 17210812220771012969613, 18446744073709946000, 394385, 55340232221128918162, 16778387, 722068, 1639573, 394390, 55340232221128918167, 33555608, 722073, 1639578, 394395, 55340232221128918172, 50332829, 722078, 1639583, 10923874173005374146240314197815182296224, 2098339, 36893488147419497636, 394405, 55340232221128918182, 16778407, 722088, 1639593, 394410, 55340232221128918187, 33555628, 722093, 1639598, 394415, 55340232221128918192, 50332849, 722098, 1639603, 11184669030376094564443067994779364426932, 2098359, 17210812220771012969656, 18446744073709946043, 394428, 55340232221128918205, 16778430, 722111, 1639616, 394433, 55340232221128918210, 33555651, 722116, 1639621, 394438, 55340232221128918215, 50332872, 722121, 1639626, 10923915721523923106765748414309256725707, 2098382, 36893488147419497679, 394448, 55340232221128918225, 16778450, 722131, 1639636, 394453, 55340232221128918230, 33555671, 722136, 1639641, 394458, 55340232221128918235, 50332892, 722141, 1639646, 11184710578894643524968502211273438856415, 2098402, 17210812220771012969699, 18446744073709946086, 394471, 55340232221128918248, 16778473, 722154, 1639659, 10923941689348016207057251311470640432364, 2098415, 36893488147419497712, 394481, 55340232221128918258, 16778483, 722164, 1639669, 11184731353153918005194325831373065356534, 2098425, 17210812220771012969722, 55340232221246751997, 184467440737096828160, 16778499, 2229508]
-- 1: SwornCourt$Anew.work
def cod1 : List Nat := [0, 36893488147419561985, 36893488147419365378, 393219, 332077415612090235036529721348, 231494787604620528438088171527, 442721857769080750090, 393229, 332386900640358324178964054030, 36893488147419365393, 18, 1769491, 393236, 333005870678447758390123167765, 36893488147419365400, 18446744073726328857, 1769498, 393243, 333624840716537192601282281500, 36893488147419365407, 32, 1769505, 36893488147436535842, 36893488147420413989, 393256, 41, 335172265820984150166034907178, 393261, 18446744073709813806, 335481750849252239308469239855, 50, 36893488147419562035, 36893488147419365428, 393269, 332077415612090235036529721398, 317531620371847945690996408377, 1272825341086010572860, 393279, 332077415612090235036529721408, 230875817566531094226929057859, 36893488147419365446, 1638471, 18446744073709813832, 1272825341086027350089, 393292, 332077415612090235036529721421, 230256847528441660015769944144, 36893488147419365459, 1638484, 55340232221129113685, 55340232221128917078, 1033017668127769559127, 393306, 55340232221128917083, 11080509505102118607239974208898840461404, 1235931852938541269087, 393314, 18446744073726328931, 55340232221128917092, 18446744073710272613, 33554534, 393319, 332077415612090235036529721448, 230875817566531094226929057899, 36893488147419365486, 1638511, 11080540729889034589573480687688218902640, 36893488147436535923, 590295810358706962550, 2162809]
-- 2: SwornCourt$Anew.workOath
def cod2 : List Nat := [393216, 332077415612090235036529721345, 227471482384709322176118259716, 18446744073709813767, 1638408, 36893488147419561993, 393226, 332077415612090235036529721355, 228709422442441446524726935566, 18446744073709813777, 1638418, 55340232221129113619, 393236, 334243810754626626812441395221, 18446744073709813784, 393241, 393242, 332077415612090235036529721371, 226233542326977197827509583902, 18446744073709813793, 1638434, 36893488147419365411, 55340232221128917028, 11091216025028607162570871165242271137829, 571849066285013991464, 393259, 332077415612090235036529721388, 229637877490352225804610830383, 18446744073709813810, 1638451, 590295810358706962484, 55, 1769528, 393273, 333624840716537192601282281530, 36893488147419365437, 2031678, 1638463, 393280, 334243810754626626812441395265, 18446744073709813828, 1638469, 720966, 1769543, 393288, 18446744073709813833, 16777290, 720971, 335172265820984150166034907212, 393295, 36893488147419365456, 11091428961186170585226828036626830393425, 1088357900348881436756, 393303, 36893488147419365464, 16777305, 55340232221128917082, 11080540729889034589573480687688218902619, 1309718829233379475550, 393313, 332077415612090235036529721442, 225305087279066418547625689189, 36893488147419365480, 1638505, 18446744073709813866, 1309718829233396121707, 393326, 36893488147419365487, 33554544, 55340232221128917105, 11080540729889034589573480687688218902642, 2162805]
-- 3: SwornCourt$Anew.decide
def cod3 : List Nat := [393216, 332386900640358324178964054017, 18446744073709813764, 1638405, 110680464442258423814, 2162697, 393226, 332386900640358324178964054027, 18446744073709813774, 393231, 332077415612090235036529721360, 18446744073709813779, 393236, 335481750849252239308469174293, 11070104184040607110556341820057077481496, 332041393326773043227, 50331678, 350488137400482791455, 36893488147419365410, 1769507, 393252, 333005870678447758390123167781, 18446744073709813800, 55340232221128917033, 1769514, 2162731]
-- 4: SwornCourt$Anew.remember
def cod4 : List Nat := [393216, 332386900640358324178964054017, 4, 393221, 334862780792716061023600508934, 9, 335544330, 11020038222200398822914458231188127940620, 2162703]
-- 5: SwornCourt$Anew.differing
def cod5 : List Nat := [0, 36893488147419561985, 2, 55340232221129113603, 55340232221128916996, 393221, 332077415612090235036529721350, 231494787604620528438088171529, 516508834063918956556, 393231, 332077415612090235036529721360, 222519722135334080707974004755, 55340232221128917014, 1638423, 18446744073709813784, 479615345916516630553, 393244, 332386900640358324178964054045, 55340232221128917024, 1638433, 393250, 334862780792716061023600508963, 55340232221128917030, 1638439, 479615345916449521704, 36893488147436535851, 55340232221146087470, 73786976294839517233, 36893488147419365428, 2228277]
-- 6: SwornCourt$Anew.needOf
def cod6 : List Nat := [393216, 331767930583822145894095388673, 393220, 332077415612090235036529721349, 223757662193066205056582680584, 18446744073709813771, 1638412, 13, 393230, 332077415612090235036529721359, 218805901943690963588438425618, 18446744073709813781, 1638422, 720919, 11004571783257056384918768896522347413528, 2228251]
-- 7: SwornCourt$Anew.lackOf
def cod7 : List Nat := [0, 393217, 18446744073709813762, 11091449735445445065489545144873842442243, 393222, 333624840716537192601282281479, 18446744073709813770, 1638411, 18446744073710272524, 45153971168768037219573502253426696454157, 2228240]
-- 8: SwornCourt$Anew.chargesIn
def cod8 : List Nat := [0, 36893488147419561985, 2, 55340232221129113603, 55340232221128916996, 393221, 332077415612090235036529721350, 231494787604620528438088171529, 332041393326823440396, 393231, 332386900640358324178964054032, 55340232221128917011, 1638420, 18446744073709813781, 295147905179370782742, 36893488147436535833, 55340232221146087452, 73786976294839517215, 36893488147419365410, 2228259]
-- 9: SwornCourt$Anew.allOpen
def cod9 : List Nat := [0, 36893488147419561985, 36893488147419365378, 393219, 332077415612090235036529721348, 231494787604620528438088171527, 424275113695371198474, 18446744073709813773, 36893488147419365390, 147573952589677133839, 16777232, 55340232221129375761, 16777234, 387381625547918540819, 393238, 332386900640358324178964054039, 36893488147419365402, 1638427, 387381625547901698076, 31, 2228256, 36893488147436535841, 36893488147420413988, 16777255, 2228264]
-- 10: SwornCourt$Anew.weightOf
def cod10 : List Nat := [393216, 331767930583822145894095388673, 36893488147419365380, 67108869, 393222, 330839475499017878466792390663, 18446744073709813770, 55340232221128917003, 10939693771624868052055896284263491108876, 720911, 11004571783257056384918768896522347413520, 2228243]
-- 11: SwornCourt$Anew.obstacle
def cod11 : List Nat := [393216, 18446744073709813761, 393218, 332077415612090235036529721347, 220043842001423087937047101446, 36893488147419365385, 1638410, 393227, 332077415612090235036529721356, 220972297049333867216930996239, 36893488147419365394, 1638419, 36893488147419365396, 393237, 332077415612090235036529721366, 223757662193066205056582680601, 36893488147419365404, 1638429, 55340232221128917022, 11080514707542657824064242432287309103135, 2228258]
-- 12: SwornCourt$Anew.obstacleIn
def cod12 : List Nat := [393216, 330839475499017878466792390657, 18446744073709813764, 110680464442257571845, 10942384038019245545312632246912294387719, 221360928884532510730, 393229, 18446744073709813774, 92233720368548020239, 110680464442257571857, 11080519909983197040740936703085950337043, 258254417031934836758, 16777241, 2228250, 18446744073709813787, 36893488147419365404, 368934881474192211997, 18446744073709813792, 55340232221128917025, 405828369621628092450, 33554469, 2228262, 393255, 18446744073709813800, 36893488147419365417, 92233720368548020266, 11080525108619856001758818966409436266540, 553402322211287662639, 50331698, 2228275, 393268, 331767930583822145894095388725, 92233720368548020280, 167772218, 11004571783257056384918768896522347413564, 16777279, 996124179980333744192, 393283, 331148960527285967609226723396, 393287, 330839475499017878466792390728, 170526240430007876941182795851, 18446744073709813838, 1638479, 393296, 330839475499017878466792390737, 170526240430007876941182795860, 36893488147419365463, 1638488, 110680464442257571929, 10963724395859264880217049782814436032603, 996124179980316901470, 67108961, 2228322, 393315, 18446744073709813860, 73786976294838468709, 92233720368548020327, 110680464442257571945, 11080530312328355303747350960068343693419, 1162144876643702866030, 83886193, 2228338, 393331, 18446744073709813876, 92233720368548020341, 110680464442257571959, 11080535518572774776175090958710687989881, 1309718829233379278972, 100663423, 1328165573307089027201, 132, 2228357]
-- 13: SwornCourt$Anew.isTooYoung
def cod13 : List Nat := [393216, 331767930583822145894095388673, 36893488147419365380, 218103813, 11004571783257056384918768896522347413511, 73786976294838665226, 73786976294838468620, 350488137400566480910, 55340232221128917009, 393234, 330839475499017878466792390675, 169597785382097097661298901014, 18446744073709813785, 1638426, 18446744073710272539, 73786976294838468636, 350488137400532992030, 16777249, 368934881474192343074, 37, 2228262]
-- 14: SwornCourt$Anew.isTooNear
def cod14 : List Nat := [393216, 331458445555554056751661056001, 18446744073709813764, 36893488147419365381, 10982483552133601817175861454002043813894, 393225, 331458445555554056751661056010, 194975556205894137370390167565, 18446744073726328848, 221360928884532576273, 20, 2228245, 393238, 331458445555554056751661056023, 196522981291894350861433176090, 461168601842739904541, 393248, 331767930583822145894095388705, 55340232221128917028, 150994981, 11004571783257056384918768896522347413543, 16777258, 461168601842756747307, 16777262, 479615345916449652783, 50, 73786976294838665267, 393269, 331458445555554056751661056054, 194975556205894137370390167609, 73786976294838468668, 720958, 393279, 331767930583822145894095388736, 55340232221128917059, 134217796, 11004571783257056384918768896522347413574, 737869762948450353225, 16777292, 756316507022092927053, 80, 2228305]
-- 15: SwornCourt$Anew.sworeFalsely
def cod15 : List Nat := [393216, 331767930583822145894095388673, 55340232221128916996, 184549381, 11004571783257056384918768896522347413511, 92233720368548216842, 12, 110680464442257768461, 110680464442257571855, 393233, 335172265820984150166034841618, 903890459611819540501, 393240, 332077415612090235036529721369, 227471482384709322176118259740, 110680464442257571871, 1638433, 129127208515967320098, 393252, 332077415612090235036529721381, 226233542326977197827509583912, 110680464442257571883, 1638445, 18446744073709813806, 866996971464366882863, 129127208515967123506, 36893488147419365428, 866996971464350105653, 393272, 332077415612090235036529721401, 129127208515967123516, 393278, 335481750849252239308469174335, 11070104184040607110556341820057077481538, 664082786653561749573, 866996971464350236744, 393291, 332077415612090235036529721420, 228709422442441446524726935631, 110680464442257571922, 1638484, 73786976294838468693, 92233720368548020311, 11080447244454648828144577555006411374681, 866996971464350040156, 16777311, 2228320, 110680464442274742369, 147573952589677723748, 103, 2228328]
-- 16: SwornCourt$Anew.lostLately
def cod16 : List Nat := [393216, 331767930583822145894095388673, 36893488147419365380, 201326597, 11004571783257056384918768896522347413511, 73786976294838665226, 12, 92233720368548216845, 92233720368548020239, 393233, 332077415612090235036529721362, 231494787604620528438088171541, 719423018874724024344, 393243, 332077415612090235036529721372, 220043842001423087937047101471, 92233720368548020258, 1638436, 18446744073709813797, 682529530727271366694, 393257, 332386900640358324178964054058, 92233720368548020269, 1638447, 33554480, 498062089990209404977, 682529530727254720564, 393271, 333005870678447758390123167800, 92233720368548020283, 1638461, 55340232221128917054, 73786976294838468671, 11080447244454648828144577555006411374657, 682529530727254523972, 16777287, 2228296, 92233720368565190729, 147573952589677723724, 79, 2228304]
-- 17: SwornCourt$Anew.isLately
def cod17 : List Nat := [262144, 18446744073709813761, 184467440737163804674, 18446744073709813765, 262150, 18446744073710272519, 36893488147419365384, 184467440737147027465, 16777228, 202914184810806378509, 16, 2228241]
-- 18: SwornCourt$Anew.helpInSight
def cod18 : List Nat := [0, 55340232221129113601, 2, 73786976294838665219, 73786976294838468613, 393223, 330839475499017878466792390664, 175787485762991439772890038283, 756316507022143127566, 393233, 332077415612090235036529721362, 73786976294838468629, 18446744073709813783, 11070285958946360672205972382663640940568, 424275113695337578523, 393246, 73786976294838468639, 18446744073709813793, 36893488147419365410, 11091216025028607162570871165242271137827, 424275113695337578534, 16777257, 442721857769030549546, 45, 92233720368548216878, 92233720368548020272, 719423018874673627186, 55340232221128917045, 393270, 73786976294838468663, 393273, 332077415612090235036529721402, 223757662193066205056582680637, 18446744073709813824, 1638465, 36893488147419365442, 11091595155395301891647564840714534977603, 720966, 55340232221129113671, 73786976294855639112, 73786976294839517259, 55340232221128917070, 2228303]
-- 19: SwornCourt$Anew.helpAgainst
def cod19 : List Nat := [0, 73786976294838665217, 3, 92233720368548216836, 92233720368548020230, 393224, 330839475499017878466792390665, 175787485762991439772890038284, 516508834063918956559, 393234, 92233720368548020243, 18446744073709813781, 18446744073726328854, 18446744073726328855, 36893488147419365400, 55340232221128917017, 11080514707542657824064242432287309103130, 479615345916466233373, 73786976294838468640, 393250, 92233720368548020259, 36893488147419365413, 55340232221128917030, 11091595155395301891647564840714534977575, 720938, 73786976294838665259, 92233720368565190701, 73786976294839517232, 73786976294838468659, 2228277]
-- 20: SwornCourt$Anew.finesOf
def cod20 : List Nat := [0, 36893488147419561985, 2, 55340232221129113603, 55340232221128916996, 393221, 332077415612090235036529721350, 231494787604620528438088171529, 1014570924054076850188, 393231, 332077415612090235036529721360, 220043842001423087937047101459, 55340232221128917014, 1638423, 18446744073709813784, 977677435906624192537, 393244, 332386900640358324178964054045, 55340232221128917024, 1638433, 33554466, 424275113695371198499, 977677435906607546406, 393257, 332077415612090235036529721386, 223757662193066205056582680621, 55340232221128917040, 1638449, 73786976294838665266, 36893488147419365428, 393269, 331767930583822145894095388726, 73786976294838468665, 234881083, 393277, 332077415612090235036529721406, 218805901943690963588438425665, 55340232221128917060, 1638469, 720966, 11004571783257056384918768896522347413575, 393290, 331767930583822145894095388747, 73786976294838468686, 301989968, 11004571783257056384918768896522347413586, 393301, 55340232221128917078, 11091428961186170585226828036626830393431, 36893488147419824218, 720987, 720988, 36893488147419562077, 55340232221146087518, 73786976294839517281, 100, 55340232221129113701, 55340232221128917094, 393319, 335172265820984150166034841704, 1733993942928749363307, 393326, 332077415612090235036529721455, 227471482384709322176118259826, 55340232221128917109, 1638518, 73786976294838665335, 393337, 332077415612090235036529721466, 226233542326977197827509583997, 55340232221128917120, 1638529, 18446744073709813890, 1697100454781296705667, 393350, 332386900640358324178964054151, 73786976294838468746, 1638540, 50331789, 1697100454781296705678, 36893488147419365521, 393362, 331767930583822145894095388819, 393366, 332077415612090235036529721495, 223757662193066205056582680730, 73786976294838468765, 1638559, 318767264, 11004571783257056384918768896522347413666, 721061, 36893488147419562150, 55340232221146087591, 1051464412201445753002, 36893488147419365549, 2228398]
-- 21: SwornCourt$Docket.hasCharge
def cod21 : List Nat := [18446744073709813760, 147573952589711081473, 18446744073709813764, 393221, 231185302594799183369363390470, 147573952589727924233, 16777228, 166020696663387275277, 16, 2228241]
-- 22: SwornCourt$Docket.hasAll
def cod22 : List Nat := [18446744073709813760, 393217, 231185302594799183369363390466, 147573952589677133829, 129127208515984752646, 16777225, 147573952589677723658, 13, 2228238]
-- 23: SwornCourt$Docket.addCharge
def cod23 : List Nat := [393216, 231185302594799183369363390465, 129127208515967320068, 129127208515967123462, 335544328, 147573952589711147018, 18446744073726328845, 2228238, 393231, 218496416933869618519713644560, 129127208515967123475, 18446744073709813781, 1769494, 393239, 219424871981780397799597539352, 129127208515967123483, 36893488147419365405, 1769502, 393247, 220662812039512522148206215200, 129127208515967123491, 55340232221128917029, 1769510, 393255, 221591267087423301428090109992, 129127208515967123499, 73786976294838468653, 1769519, 393264, 223138692173423514919133118513, 129127208515967123508, 92233720368548020278, 1769528, 393273, 222210237125512735639249223738, 129127208515967123517, 110680464442257571903, 1769537, 393282, 224376632231155639267741794371, 129127208515967123526, 18446744073726328904, 1769545, 393290, 224995602269245073478900908107, 129127208515967123534, 18446744073726328912, 1769553, 393298, 129127208515967123539, 16777301, 720982, 231185302594799183369363456087, 129127208515967123546, 2228316]
-- 24: SwornCourt$Docket.addOath
def cod24 : List Nat := [393216, 316912650333758511479837294593, 92233720368548216836, 92233720368548020230, 1677721608, 147573952589711147018, 18446744073726328845, 2228238, 393231, 225924057317155852758784802832, 92233720368548020243, 18446744073709813781, 1769494, 393239, 227161997374887977107393478680, 92233720368548020251, 36893488147419365405, 1769502, 393247, 228399937432620101456002154528, 92233720368548020259, 55340232221128917029, 1769510, 393255, 229328392480530880735886049320, 92233720368548020267, 73786976294838468653, 1769519, 393264, 92233720368548020273, 16777267, 720948, 316912650333758511479837360181, 393272, 92233720368548020281, 55340232221128917051, 11059283504588995562385352488605907746876, 92233720368548020287, 2228289]
-- 25: SwornCourt$Docket.addClosing
def cod25 : List Nat := [393216, 18446744073726328833, 18446744073709813762, 18446744073710272515, 36893488147419365380, 11059283504588995562385352488605907746821, 2162696]
-- 26: SwornCourt$Docket.addEvent
def cod26 : List Nat := [393216, 317841105381669290759721189377, 2013265924, 92233720368582492166, 2162697, 393226, 229947362518620314947045163019, 393230, 317841105381669290759721189391, 18446744073709813778, 1769491, 393236, 230566332556709749158204276757, 393240, 317841105381669290759721189401, 36893488147419365404, 1769501, 393246, 1966111, 317841105381669290759721189408, 16777251, 720932, 317841105381669290759721254949, 2162728]
-- 27: SwornCourt$Docket.hasSworn
def cod27 : List Nat := [0, 55340232221129113601, 55340232221128916994, 393219, 316912650333758511479837294596, 405828369621661646855, 393226, 225924057317155852758784802827, 55340232221128917006, 1638415, 18446744073709813776, 368934881474208989201, 393236, 227161997374887977107393478677, 55340232221128917016, 1638425, 36893488147419365402, 368934881474208989211, 16777246, 2228255, 55340232221146087456, 36893488147420413987, 38, 2228263]
-- 28: SwornCourt$Docket.isFound
def cod28 : List Nat := [393216, 224376632231155639267741794305, 18446744073709813764, 1638405, 18446744073726328838, 258254417031934902279, 393226, 224376632231155639267741794315, 18446744073709813774, 1638415, 36893488147419365392, 258254417032002011153, 16777236, 276701161105644584981, 24, 2228249]
-- 29: SwornCourt$Docket.oathsFor
def cod29 : List Nat := [0, 36893488147419561985, 2, 55340232221129113603, 55340232221128916996, 393221, 316912650333758511479837294598, 313594649253113888777, 393228, 227161997374887977107393478669, 55340232221128917008, 1638417, 18446744073709813778, 276701161105661231123, 36893488147436535830, 55340232221146087449, 73786976294839517212, 36893488147419365407, 2228256]
-- 30: SwornCourt$Docket.oathsOfOn
def cod30 : List Nat := [0, 55340232221129113601, 2, 73786976294838665219, 73786976294838468613, 393223, 316912650333758511479837294600, 424275113695371198475, 393230, 225924057317155852758784802831, 73786976294838468626, 1638420, 18446744073709813781, 387381625547918540822, 393241, 228399937432620101456002154522, 73786976294838468637, 1638431, 36893488147419365408, 387381625547918540833, 55340232221146087460, 73786976294855639079, 73786976294839517226, 55340232221128917037, 2228270]
-- 31: SwornCourt$Docket.oathsOfFor
def cod31 : List Nat := [0, 55340232221129113601, 2, 73786976294838665219, 73786976294838468613, 393223, 316912650333758511479837294600, 479615345916499853323, 393230, 225924057317155852758784802831, 73786976294838468626, 1638420, 18446744073709813781, 442721857769047195670, 393241, 219424871981780397799597539354, 393245, 227161997374887977107393478686, 73786976294838468641, 1638435, 1638436, 36893488147419365413, 442721857769047195686, 55340232221146087465, 73786976294855639084, 73786976294839517231, 55340232221128917042, 2228275]
-- 32: SwornCourt$Feuds.add
def cod32 : List Nat := [393216, 188166886045164778079540084737, 335544324, 92233720368582492166, 2162697, 393226, 186619460922271076441077973003, 393230, 188166886045164778079540084751, 18446744073709813778, 1769491, 393236, 186928945950539165583512305685, 393240, 188166886045164778079540084761, 36893488147419365404, 1769501, 393246, 187238430978807254725946638367, 393250, 188166886045164778079540084771, 55340232221128917030, 1769511, 393256, 187547916007075343868380971049, 393260, 188166886045164778079540084781, 18446744073726328880, 1769521, 393266, 1966131, 188166886045164778079540084788, 16777271, 720952, 188166886045164778079540150329, 2162748]
-- 33: SwornCourt$Feuds.isOf
def cod33 : List Nat := [393216, 186619460922271076441077972993, 18446744073709813764, 1638405, 36893488147419365382, 221360928884532576263, 393226, 186928945950539165583512305675, 18446744073709813774, 1638415, 55340232221128917008, 442721857769030418449, 393236, 186619460922271076441077973013, 18446744073709813784, 1638425, 55340232221128917018, 479615345916466298907, 393246, 186928945950539165583512305695, 18446744073709813794, 1638435, 36893488147419365412, 479615345916466298917, 16777256, 498062089990159204393, 44, 2228269]
-- 34: SwornCourt$Feuds.standing
def cod34 : List Nat := [0, 55340232221129113601, 55340232221128916994, 393219, 188166886045164778079540084740, 405828369621661646855, 393226, 187547916007075343868380971019, 55340232221128917006, 1638415, 18446744073726328848, 368934881474208989201, 393236, 55340232221128917013, 18446744073709813782, 36893488147419365399, 10952845887280681459919576299567671738392, 368934881474192146459, 55340232221128917022, 2228255, 55340232221146087456, 36893488147420413987, 18446744073726328870, 2228263]
-- 35: SwornCourt$Feuds.allStanding
def cod35 : List Nat := [0, 18446744073710010369, 2, 36893488147419561987, 36893488147419365380, 393221, 188166886045164778079540084742, 313594649253113888777, 393228, 187547916007075343868380971021, 36893488147419365392, 1638417, 18446744073726328850, 276701161105661231123, 18446744073726984214, 36893488147436535833, 73786976294839517212, 18446744073709813791, 2228256]
-- 36: SwornCourt$Feuds.holds
def cod36 : List Nat := [0, 73786976294838665217, 73786976294838468611, 393221, 188166886045164778079540084742, 627189298506176266249, 393228, 73786976294838468621, 18446744073709813775, 36893488147419365392, 10952845887280681459919576299567671738385, 590295810358706765844, 393239, 187238430978807254725946638360, 73786976294838468635, 1638429, 55340232221128917022, 590295810358773940255, 393250, 187547916007075343868380971043, 73786976294838468646, 1638440, 18446744073726328873, 553402322211287728170, 55340232221128917037, 393262, 187547916007075343868380971055, 73786976294838468658, 1638452, 590295810358757163061, 16777272, 2228281, 73786976294855639098, 36893488147420414013, 64, 2228289]
-- 37: SwornCourt$Finding.seekFor
def cod37 : List Nat := [393216, 1, 355288791477818323706905559042, 5, 55340232221129113606, 55340232221128916999, 393224, 352193941195137432282562166793, 231804272614441873506812952588, 1088357900348915056655, 393234, 355288791477818323706905493523, 83886102, 1088357900348915056663, 18446744073709813786, 55340232221128917019, 147573952589677133852, 16777245, 55340232221129375774, 387381625547918475295, 1051464412201445752866, 393253, 352812911251673610567430832166, 393257, 355288791477818323706905493546, 55340232221128917037, 1769518, 393263, 354669821421282145422036828208, 393267, 355288791477818323706905493556, 18446744073726328887, 1769528, 393273, 354979306449550234564471160890, 393277, 355288791477818323706905493566, 18446744073726328897, 1769538, 393283, 393284, 355288791477818323706905493573, 393288, 55340232221128917065, 36893488147419365450, 11123096958508437032507016198469645041739, 393294, 352503426223405521424996499535, 55340232221128917074, 11091428961231664881670565761729373208659, 11123102160948976249257497445563090927702, 393305, 1966170, 355288791477818323706905493595, 16777310, 720991, 355288791477818323706905559136, 55340232221146087523, 92233720368549068902, 393321, 36893488147419365482, 11123112556954334086018317737497165365355, 393326, 111, 356526731572443936202933338224, 393331, 116, 357145701610533370414092451957, 393336, 18446744073726328953, 357764671648622804625251565690, 393341, 126, 358383641686712238836410679423, 393346, 131, 11122982754605020541289628806419438764164, 2162823]
-- 38: SwornCourt$Finding.calledFor
def cod38 : List Nat := [0, 36893488147419561985, 36893488147419365378, 393219, 355288791477818323706905493508, 498062089990209404935, 393226, 352812911251673610567430832139, 36893488147419365390, 1638415, 18446744073709813776, 461168601842756747281, 393236, 354979306449550234564471160853, 36893488147419365400, 1638425, 18446744073726328858, 368934881474208989211, 30, 442721857769030549535, 393250, 354979306449550234564471160867, 36893488147419365414, 1638439, 2228264, 36893488147436535849, 36893488147420413996, 47, 2228272]
-- 39: SwornCourt$Finding.measureRoom
def cod39 : List Nat := [393216, 1, 355598276506086412849339891714, 5, 36893488147419561990, 36893488147419365383, 393224, 351884456166869343140127834121, 175478000753170094704165257228, 737869762948433575951, 393234, 354360336393014056279602495507, 36893488147419365398, 393239, 351884456166869343140127834136, 172692635572544268717094469659, 36893488147419365406, 1638431, 393248, 352193941195137432282562166817, 36893488147419365412, 18446744073709813797, 11070306733109694799424072519606037970982, 18446744073710272553, 1769514, 393259, 354360336393014056279602495532, 36893488147419365423, 1638448, 700976274801031184433, 393268, 1966133, 355598276506086412849339826230, 16777273, 36893488147419365434, 110680464442258030651, 73786976294838927420, 355598276506086412849339891773, 36893488147436535872, 92233720368549068867, 2162758]
-- 40: SwornCourt$Finding.gatherEnough
def cod40 : List Nat := [393216, 353122396279941699709865164801, 18446744073709813764, 5, 1769478, 7, 73786976294838665224, 73786976294838468618, 16777228, 36893488147419365389, 110680464442258030606, 1438846037749396537359, 18, 92233720368548216851, 21, 110680464442257768470, 24, 129127208515967320089, 27, 147573952589676871708, 147573952589676675102, 36893488147419365408, 1143698132570043711521, 73786976294838468644, 147573952589676675110, 147573952589677133864, 16777257, 55340232221129375786, 553402322211304439851, 1106804644422574407726, 129127208515967123505, 682529530727271301171, 393270, 354050851364745967137168162871, 147573952589676675130, 1638460, 793209995169512030269, 110680464442257571904, 393282, 354050851364745967137168162883, 147573952589676675142, 1638472, 46685241911227669363005478584528669442121, 110680464442257768524, 92233720368548020302, 393296, 354050851364745967137168162897, 147573952589676675156, 1638486, 720983, 92233720368548216920, 129127208515967123546, 16777308, 393309, 353741366336477877994733830238, 147573952589676675169, 1638499, 110680464442258030692, 73786976294838927461, 129127208515967320166, 147573952589693845608, 368934881474192343147, 92233720368548020334, 55340232221128917104, 1401952549601960657009, 73786976294838468724, 1328165573307088830582, 92233720368548020345, 110680464442257571963, 18446744073710272637, 55340232221128917118, 1401952549601977434239, 393346, 18446744073709813891, 129127208515967123588, 11123107359585635210256932964812884082822, 73786976294855639177, 129127208515968172172, 2162831]
-- 41: SwornCourt$Finding.gatherCallable
def cod41 : List Nat := [0, 55340232221129113601, 2, 73786976294838665219, 73786976294838468613, 393223, 351884456166869343140127834120, 175478000753170094704165257227, 885443715538109988878, 55340232221128917009, 167772178, 885443715538109988884, 393239, 352193941195137432282562166808, 73786976294838468635, 18446744073709813789, 11070285958846397014033677925465536659486, 848550227390657265697, 393252, 352503426223405521424996499493, 73786976294838468648, 18446744073709813802, 36893488147419365419, 11091216025086171374397641348025080414252, 479615345916449456175, 848550227390640685106, 393269, 353741366336477877994733830198, 55340232221128917049, 73786976294838468666, 1769532, 393277, 354050851364745967137168162878, 55340232221128917057, 393282, 352503426223405521424996499523, 73786976294838468678, 393288, 352193941195137432282562166857, 223448177183244859987857899596, 18446744073709813839, 1638480, 36893488147419365457, 11091595155295647718485091728585155477586, 1769557, 55340232221146087510, 73786976294855639129, 73786976294839517276, 55340232221128917087, 2228320]
-- 42: SwornCourt$Finding.addEnough
def cod42 : List Nat := [393216, 353122396279941699709865164801, 18446744073709813764, 1638405, 4227858438, 129127208516001595401, 2162700, 393229, 353431881308209788852299497486, 18446744073709813777, 4227858450, 36893488147419824149, 393238, 353122396279941699709865164823, 18446744073709813786, 1638427, 720924, 36893488147419365405, 1769502, 393247, 353122396279941699709865164832, 18446744073709813795, 2031652, 1638437, 16777254, 720935, 1769512, 2162729]
-- 43: SwornCourt$Finding.descend
def cod43 : List Nat := [18446744073709813760, 393217, 355288791477818323706905493506, 129127208516018372613, 18446744073709813768, 83886089, 184467440737130250250, 393229, 11123117759394873302731905496443326365710, 2162705, 18, 36893488147419562003, 36893488147419365396, 393237, 353122396279941699709865164822, 18446744073709813785, 1638426, 1272825341086010572827, 393246, 353431881308209788852299497503, 18446744073709813794, 4227858467, 36893488147419824166, 36893488147419365415, 720936, 1638441, 55340232221129113642, 55340232221128917035, 393260, 355598276506086412849339826221, 55340232221129375792, 608742554432416317489, 1235931852938541269044, 393271, 356526731572443936202933272632, 393275, 355907761534354501991774158908, 811656739243255005247, 393282, 16777283, 357145701610533370414092451908, 393287, 11123117759394873302731905496443326365768, 2162763, 393292, 1966157, 356526731572443936202933272654, 16777297, 720978, 356526731572443936202933338195, 393302, 18446744073709813847, 55340232221128917080, 11123122959299492349024731994479609053273, 393308, 18446744073709813853, 16777310, 720991, 11122982754605020541289628806419438764128, 393315, 18446744073709813860, 55340232221128917093, 11123128501553334409554366577034079305830, 393321, 357145701610533370414092386410, 1235931852938541072493, 2162800, 36893488147436535921, 221360928884515930228, 393335, 18446744073709813880, 16777337, 721018, 11122982754605020541289628806419438764155, 2162814]
-- 44: SwornCourt$Finding.take
def cod44 : List Nat := [393216, 354669821421282145422036828161, 18446744073709813764, 36893488147419365381, 1769478, 7, 55340232221129113608, 55340232221128917001, 393226, 351884456166869343140127834123, 175478000753170094704165257230, 774763251095852679185, 36893488147419365396, 55340232221128917013, 147573952589677133846, 16777239, 55340232221129375768, 350488137400499372057, 737869762948383375388, 393247, 354360336393014056279602495520, 55340232221128917027, 2031652, 1638437, 16777254, 18446744073710272551, 1769512, 393257, 354360336393014056279602495530, 55340232221128917037, 1638446, 737869762948450287663, 393266, 1966131, 355598276506086412849339826228, 16777271, 55340232221128917048, 110680464442258030649, 73786976294838927418, 355598276506086412849339891771, 55340232221146087486, 129127208515968172097, 2162756]
-- 45: SwornCourt$Finding.giveBack
def cod45 : List Nat := [393216, 354669821421282145422036828161, 18446744073709813764, 18446744073726328837, 1769478, 7, 55340232221129113608, 55340232221128917001, 393226, 351884456166869343140127834123, 175478000753170094704165257230, 534955578137628508177, 36893488147419365396, 55340232221128917013, 147573952589677133846, 16777239, 55340232221129375768, 16777241, 498062089990175850522, 393245, 354360336393014056279602495518, 55340232221128917025, 2031650, 1638435, 16777252, 720933, 1769510, 55340232221146087463, 129127208515968172074, 393261, 1966126, 355598276506086412849339826223, 36893488147419365426, 18446744073726328883, 92233720368548479028, 55340232221129375797, 355598276506086412849339891766, 2162745]
-- 46: SwornCourt$Finding.compare
def cod46 : List Nat := [0, 18446744073710010369, 2, 36893488147419561987, 4, 55340232221129113605, 55340232221128916998, 393223, 355288791477818323706905493512, 516508834063918956555, 393230, 354669821421282145422036828175, 55340232221128917010, 1638419, 18446744073726328852, 313594649253080334357, 479615345916449652760, 18446744073726984219, 36893488147419365406, 393247, 354669821421282145422036828192, 55340232221128917027, 1638436, 11293123892432234559855360327663904751653, 720936, 36893488147419562025, 55340232221146087466, 110680464442258620461, 18446744073709813808, 393265, 357764671648622804625251500082, 737869762948416798773, 18446744073709813816, 393273, 357764671648622804625251500090, 756316507022109573181, 36893488147419365440, 393281, 358383641686712238836410613826, 756316507022126350405, 2162760, 393289, 18446744073709813834, 357764671648622804625251565643, 393294, 36893488147419365455, 358383641686712238836410679376, 393299, 354669821421282145422036828244, 87, 393304, 354979306449550234564471160921, 92, 83886173, 11020038222228561958808200632442083016798, 2162785]
-- 47: SwornCourt$Kinship.learn
def cod47 : List Nat := [18446744073709813760, 92233720368582426625, 18446744073709813764, 503316485, 110680464442292043783, 2162698, 11, 73786976294838665228, 73786976294838468622, 503316496, 959230691832948195346, 393237, 36893488147419365398, 73786976294838468631, 10974108304877579021898439540999530545177, 92233720368548216860, 393246, 55340232221128917023, 73786976294838468640, 10974108304877579021898439540999530545186, 110680464442257768485, 92233720368548020263, 129127208515967320105, 92233720368548020267, 18446744073726328877, 590295810358706831406, 110680464442257571889, 18446744073726328883, 627189298506125934644, 110680464442257571895, 92233720368548020281, 627189298506176266299, 110680464442257571902, 129127208515967320128, 393282, 194047101157983358090506272835, 18446744073709813830, 503316551, 36893488147419824201, 73786976294838468682, 720972, 129127208515967123533, 18446744073726328911, 848550227390657331280, 18446744073726328915, 903890459611769339988, 129127208515967123543, 16777305, 720986, 1769563, 73786976294855639132, 147573952589677723743, 393314, 194047101157983358090506272867, 18446744073709813862, 503316583, 36893488147419824233, 18446744073709813866, 721003, 108, 1769581, 2162798]
-- 48: SwornCourt$Kinship.stepsOf
def cod48 : List Nat := [18446744073709813760, 184467440737130184705, 18446744073709813764, 503316485, 184467440737147027463, 36893488147419365386, 184467440737130184715, 36893488147419365390, 503316495, 221360928884549353489, 18446744073726328852, 2228245, 393238, 194047101157983358090506272791, 18446744073709813786, 503316507, 36893488147419824157, 36893488147419365406, 720927, 1638432, 2228257]
-- 49: SwornCourt$Kinship.measure
def cod49 : List Nat := [393216, 18446744073726328833, 194356586186251447232940670978, 393221, 18446744073726328838, 195285041234162226512824565767, 10, 55340232221129113611, 12, 73786976294838665229, 73786976294838468623, 18446744073709813777, 1401952549601994211346, 73786976294838468629, 36893488147419365399, 1401952549601994211352, 393243, 194047101157983358090506272796, 18446744073709813791, 503316512, 36893488147419824162, 73786976294838468643, 720933, 1638438, 92233720368548216871, 393257, 194047101157983358090506272810, 36893488147419365421, 503316526, 36893488147419824176, 73786976294838468657, 720947, 1638452, 110680464442257768501, 92233720368548020279, 18446744073726328889, 1365059061454507999290, 110680464442257571901, 18446744073726328895, 1365059061454507999296, 92233720368548020291, 110680464442257571909, 720967, 134217800, 848550227390724440138, 1365059061454508130381, 393296, 194356586186251447232940605521, 18446744073726328916, 1033017668127736070229, 92233720368548020312, 110680464442257571930, 720988, 393309, 194356586186251447232940605534, 1235931852938591469665, 393316, 92233720368548020325, 110680464442257571943, 721001, 194356586186251447232940671082, 393325, 73786976294838468718, 195285041234162226512824565872, 16777331, 55340232221129113716, 1365059061454508130421, 92233720368548020344, 110680464442257571962, 721020, 393341, 194356586186251447232940605566, 1365059061454524776577, 55340232221146087556, 73786976294855639175, 184467440737096827018, 393357, 55340232221128917134, 16777359, 1660206966633877602448, 393363, 195285041234162226512824500372, 18446744073709813911, 1660206966633860825240, 393371, 195285041234162226512824500380, 36893488147419365535, 1660206966633860825248, 16777379, 1678653710707570507940, 167, 195904011272251660723983679656, 2162859]
-- 50: SwornCourt$LawReader.append
def cod50 : List Nat := [18446744073709813760, 16777217, 18446744073710272514, 73786976294838665219, 73786976294838468613, 571849066285030768647, 393226, 210449806715408134880355549195, 4026531854, 571849066285047611409, 393236, 209521351649050611526762102805, 393240, 210449806715408134880355549209, 36893488147419430940, 134217757, 73786976294838468639, 36893488147419824161, 36893488147419955234, 502294170940043046544598040611, 55340232221129441318, 983079, 1769512, 393257, 1966122, 210449806715408134880355549227, 16777262, 720943, 210449806715408134880355614768, 309485083608321363580420147, 73786976294839517238, 2162745]
-- 51: SwornCourt$LawReader.parse
def cod51 : List Nat := [393216, 1, 211068776753497569091514728450, 393221, 6, 211378261781765658233949061127, 393226, 18446744073726328843, 211997231819855092445108174860, 393231, 209830836677318700669196435472, 19, 203950621509159888437151989780, 23, 18446744073710010392, 18446744073709813785, 134217754, 756316507022159904796, 393247, 11037926925734677322049823361903517564960, 393251, 211068776753497569091514662948, 393255, 210449806715408134880355549224, 571849066285030834219, 393262, 209830836677318700669196435503, 203950621509159888437151924274, 571849066285081100341, 16777272, 2228281, 393274, 11037932123103376197829654878661474844731, 682529530727254523966, 393281, 11037958177148755094345502030419380731970, 719423018874690404421, 72, 2228297, 18446744073726984266, 276701161105644585037, 80, 2228305]
-- 52: SwornCourt$LawReader.parseHead
def cod52 : List Nat := [393216, 211068776753497569091514662913, 18446744073710010372, 393221, 18446744073709813766, 11037937320472075073627933139493326225415, 36893488147419561994, 393227, 18446744073709813772, 36893488147419365389, 508793356146291292983542677518, 11037942519108734034682708890964231258128, 332041393326789820435, 393238, 16777239, 18446744073709813784, 11037947777339517001870529498789055889433, 2228252, 393245, 209830836677318700669196435486, 203950621509159888437151924257, 134217764, 516508834063902179366, 393257, 67108906, 18446744073709813803, 11037947777339517001870529498789055889452, 2228271, 393264, 36893488147419365425, 211068776753497569091514728498, 393269, 11037926925734677322049823361903517564982, 393273, 211068776753497569091514662970, 55340232221129113661, 393278, 167755382847, 11037952974708215877631914271473370726466, 73786976294838665285, 73786976294838468679, 18446744073726328905, 830103483316947779658, 77, 2228302, 393295, 209830836677318700669196435536, 203950621509159888437151924307, 1162144876643786752086, 73786976294838468697, 393307, 209830836677318700669196435548, 203331651452623710152283258975, 393314, 209830836677318700669196435555, 203950621509159888437151924326, 1638505, 1162144876643770040426, 393325, 50331758, 55340232221128917103, 11037947777339517001870529498789055889520, 2228339, 393332, 209830836677318700669196435573, 73786976294838468728, 11004239395009938982563839343572921155706, 16777341, 2228350]
-- 53: SwornCourt$LawReader.parseRules
def cod53 : List Nat := [0, 18446744073710010369, 18446744073709813762, 4026531843, 627189298506193043462, 393225, 11037926925734677322049823361903517564938, 393229, 211068776753497569091514662926, 393233, 210449806715408134880355549202, 498062089990209404949, 393240, 209521351649050611526762102809, 393244, 211068776753497569091514662941, 1638432, 989855777, 498062089990175850531, 393254, 1966119, 211068776753497569091514662952, 16777259, 720940, 211068776753497569091514728493, 16777264, 2228273, 393266, 11037963374517453970125333547177438674995, 590295810358723543094, 57, 2228282, 18446744073726984251, 36893488147420414014, 65, 2228290]
-- 54: SwornCourt$LawReader.parseRule
def cod54 : List Nat := [393216, 393217, 211068776753497569091514662914, 11037937320472075073627933139493326225413, 18446744073710010376, 393225, 393226, 211068776753497569091514662923, 18446744073709813774, 11037968571886152845942058552082999607311, 36893488147419562002, 36893488147419365395, 18446744073726328852, 368934881474208989205, 393240, 16777241, 393242, 211068776753497569091514662939, 11037947777339517001870529498789055889438, 2228257, 393250, 18446744073709813795, 211068776753497569091514728484, 36893488147419365415, 10995376182311222588925013439228039004200, 553402322211287662635, 393262, 50331695, 11037952974708215877631914271473370726448, 571849066284997410867, 54, 55340232221129113655, 55340232221128917048, 18446744073726328889, 682529530727271366714, 61, 2228286, 393279, 36893488147419365440, 11037911481980220152572087504853277212737, 11037952974708215877631914271473370726468, 73786976294838665287, 73786976294838468681, 18446744073726328907, 866996971464366882892, 79, 2228304, 393297, 209830836677318700669196435538, 36893488147419365461, 10995376189918983100353317918620623700054, 55340232221128917081, 720986, 73786976294838468699, 11004452331167502405275136447178692952157, 16777312, 2228321]
-- 55: SwornCourt$LawReader.parseNumber
def cod55 : List Nat := [393216, 11037926925734677322049823361903517564929, 393220, 211068776753497569091514662917, 36893488147419561992, 9, 55340232221129113610, 36893488147419365387, 393228, 210449806715408134880355549197, 774763251095852679184, 393235, 209521351649050611526762102804, 36893488147419365399, 1638424, 805306393, 774763251095835901979, 393246, 209521351649050611526762102815, 36893488147419365410, 1638435, 956301348, 774763251095869456422, 36893488147419365417, 393258, 211068776753497569091514662955, 18446744073710272558, 67108911, 737869762948433575984, 55340232221128917043, 167772212, 36893488147419824182, 393271, 209521351649050611526762102840, 36893488147419365435, 1638460, 720957, 805306430, 18446744073710272576, 55340232221129113665, 36893488147436535874, 129127208515968172101, 36893488147419365448, 393289, 211068776753497569091514662986, 996124179980333744205, 393296, 16777297, 393298, 211068776753497569091514662995, 11037947777339517001870529498789055889494, 2097241, 18446744073726328922, 2228315, 36893488147419365468, 393309, 211068776753497569091514663006, 18446744073710272609, 67108962, 1162144876643770040419, 55340232221128917094, 18446744073709813863, 1309718829233463230568, 393323, 33554540, 393325, 211068776753497569091514663022, 11037947777339517001870529498789055889521, 2097268, 18446744073726328949, 2228342, 393335, 36893488147419365496, 211068776753497569091514728569, 55340232221128917116, 2228349]
-- 56: SwornCourt$LawReader.blame
def cod56 : List Nat := [393216, 18446744073709813761, 211378261781765658233949061122, 393221, 36893488147419365382, 211997231819855092445108174855, 10, 2228235]
-- 57: SwornCourt$LawReader.skipBlanks
def cod57 : List Nat := [393216, 211068776753497569091514662913, 393220, 210449806715408134880355549189, 350488137400532992008, 393227, 209521351649050611526762102796, 393231, 211068776753497569091514662928, 1638419, 536870932, 350488137400499437590, 393241, 1966106, 211068776753497569091514662939, 16777246, 720927, 211068776753497569091514728480, 1310755, 2162726]
-- 58: SwornCourt$LawReader.wordEnd
def cod58 : List Nat := [18446744073709813760, 36893488147419561985, 36893488147419365378, 393219, 210449806715408134880355549188, 368934881474242543623, 393226, 209521351649050611526762102795, 36893488147419365390, 1638415, 1627389968, 368934881474225766418, 393237, 209521351649050611526762102806, 36893488147419365401, 1638426, 2046820379, 368934881474259320861, 36893488147436535840, 36893488147420413987, 36893488147419365414, 2228263]
-- 59: SwornCourt$LawReader.isWord
def cod59 : List Nat := [18446744073709813760, 221360928884549287937, 36893488147419365380, 393221, 210449806715408134880355549190, 221360928884582907913, 36893488147419365388, 18446744073709813773, 18446744073710272526, 55340232221129048079, 11195357386773124144565501300723358695440, 258254417031934902291, 22, 2228247, 24, 73786976294838665241, 73786976294838468635, 55340232221129048093, 11195357386773124144565501300723358695454, 627189298506176266273, 393252, 209521351649050611526762102821, 18446744073709813800, 73786976294838468649, 720939, 1638444, 55340232221129048109, 73786976294838468654, 11195409322421310345240740815414673866800, 590295810358706831411, 54, 2228279, 73786976294855639096, 295147905179354136635, 16777278, 2228287]
-- 60: SwornCourt$LawReader.ruleNamed
def cod60 : List Nat := [0, 55340232221129113601, 55340232221128916994, 184549379, 295147905179404337157, 393224, 18446744073709813769, 36893488147419365386, 55340232221128917003, 11037911460424898703525224813240984666124, 11037942519108734034682708890964231258127, 258254417031934836754, 55340232221128917013, 2228246, 55340232221146087447, 36893488147420413978, 18446744073726328861, 2228254]
-- 61: SwornCourt$LawReader.nameOf
def cod61 : List Nat := [262144, 309485415649714690336292865, 533552156931998898481541939256, 2359354, 533861641941820243550283497531, 2359357, 534171126951641588619025055806, 2359360, 534480611961462933687766614081, 2359363, 534790096971284278756508172356, 2359366, 535099581981105623825249730631, 2359369, 535409066990926968893991288906, 2359372, 535718552000748313962732847181, 2359375, 536028037010569659031474405456, 2359378, 536337522020391004100215963731, 2359381, 536647007030212349168957522006, 2359384]
-- 62: SwornCourt$LawReader.limitOf
def cod62 : List Nat := [262144, 16777217, 92233720368616046594, 1660944389, 2228231, 262152, 50331657, 202914184810806247434, 262157, 67108878, 239807672958242127887, 16777234, 258254417031935033363, 167755382806, 2228249]
-- 63: SwornCourt$Laws.isKeyed
def cod63 : List Nat := [262144, 147573952589677527041, 262148, 16777221, 147573952589677592582, 262153, 134217738, 184467440737113473036, 16777231, 202914184810806378512, 19, 2228244]
-- 64: SwornCourt$Laws.slotOf
def cod64 : List Nat := [262144, 166020696663420633089, 262148, 184549381, 166020696663437475847, 539741857128425799856019734538, 262157, 1638414, 184467440737096826895, 18, 2228243]
-- 65: SwornCourt$Laws.startPart
def cod65 : List Nat := [393216, 204260106518981233505876705281, 134217732, 92233720368582492166, 2162697, 393226, 203641136480891799294717591563, 393230, 204260106518981233505876705295, 335544338, 36893488147419824148, 393237, 203641136480891799294717591574, 393241, 204260106518981233505876705306, 16777245, 720926, 335544351, 36893488147419824161, 335544354, 11020038221724101392799408170420689895460, 393255, 1966120, 204260106518981233505876705321, 16777260, 720941, 204260106518981233505876770862, 393265, 203022166442802365083558477874, 393269, 204260106518981233505876705334, 18446744073709813817, 1769530, 2162747]
-- 66: SwornCourt$Laws.say
def cod66 : List Nat := [18446744073709813760, 276701161105677942785, 18446744073709813764, 335544325, 276701161105694785543, 393226, 203641136480891799294717591563, 393230, 204260106518981233505876705295, 335544338, 36893488147419824148, 18446744073709813781, 720918, 36893488147419365399, 1769496, 2162713]
-- 67: SwornCourt$Laws.rowOn
def cod67 : List Nat := [0, 36893488147419561985, 36893488147419365378, 393219, 204260106518981233505876705284, 295147905179404337159, 393226, 203022166442802365083558477835, 36893488147419365390, 16777231, 720912, 1638417, 18446744073709813778, 295147905179421114387, 36893488147436535830, 36893488147420413977, 36893488147419365404, 2228253]
-- 68: SwornCourt$Laws.valueOf
def cod68 : List Nat := [18446744073709813760, 184467440737130184705, 18446744073709813764, 134217733, 184467440737163804679, 36893488147419365386, 184467440737130184715, 36893488147419365390, 335544335, 221360928884549353489, 20, 2228245, 393238, 203641136480891799294717591575, 18446744073709813786, 335544347, 36893488147419824157, 36893488147419365406, 720927, 1638432, 2228257]
-- 69: SwornCourt$Laws.takeFrom
def cod69 : List Nat := [18446744073709944832, 55340232221131407361, 2162692, 18446744073709944837, 203022166442802365083558477830, 9, 393226, 203022166442802365083558477835, 14, 150994959, 11020038221724101392799408170420689895441, 18446744073709944852, 203641136480891799294717591573, 24, 393241, 203641136480891799294717591578, 29, 3019898910, 11020038221724101392799408170420689895457, 393252, 18446744073709944869, 204260106518981233505876705318, 204260106518981233505876770857, 2162732]
-- 70: SwornCourt$People.has
def cod70 : List Nat := [18446744073709813760, 147573952589711081473, 18446744073709813764, 393221, 174859030733527404566715695110, 147573952589727924233, 16777228, 166020696663387275277, 16, 2228241]
-- 71: SwornCourt$People.hasOrNone
def cod71 : List Nat := [18446744073709813760, 18446744073726328833, 129127208515968040962, 393221, 18446744073709813766, 10938125314867977091437178312197591597063, 166020696663387078666, 16777229, 184467440737096826894, 17, 2228242]
-- 72: SwornCourt$People.add
def cod72 : List Nat := [393216, 174859030733527404566715695105, 129127208515967320068, 129127208515967123462, 503316488, 147573952589711147018, 18446744073726328845, 2228238, 393231, 168978815362454407523849338896, 129127208515967123475, 18446744073709813781, 1769494, 393239, 169907270410365186803733233688, 129127208515967123483, 36893488147419365405, 1769502, 393247, 170835725458275966083617128480, 129127208515967123491, 55340232221128917029, 1769510, 393255, 171145210486544055226051461160, 129127208515967123499, 73786976294838468653, 1769519, 393264, 171764180524633489437210574897, 129127208515967123508, 92233720368548020278, 1769528, 393273, 172383150562722923648369688634, 129127208515967123517, 110680464442257571903, 1769537, 393282, 173311605610633702928253583427, 129127208515967123526, 18446744073726328904, 1769545, 393290, 129127208515967123531, 16777293, 720974, 174859030733527404566715760719, 129127208515967123538, 2228308]
-- 73: SwornCourt$People.addRanking
def cod73 : List Nat := [393216, 176406455801080873984049152001, 1006632964, 92233720368582492166, 2162697, 393226, 173930575648723137139412697099, 393230, 176406455801080873984049152015, 18446744073709813778, 1769491, 393236, 174240060676991226281847029781, 393240, 176406455801080873984049152025, 36893488147419365404, 1769501, 393246, 174549545705259315424281362463, 393250, 176406455801080873984049152035, 55340232221128917030, 1769511, 393256, 1966121, 176406455801080873984049152042, 16777261, 720942, 176406455801080873984049217583, 2162738]
-- 74: SwornCourt$People.rankOn
def cod74 : List Nat := [393216, 176406455801080873984049152001, 16777220, 18446744073710272517, 55340232221129113606, 55340232221128916999, 479615345916483010568, 393227, 173930575648723137139412697100, 55340232221128917007, 1638416, 18446744073709813777, 442721857769047195666, 393237, 174549545705259315424281362454, 55340232221128917017, 1638426, 36893488147419365403, 442721857769097527324, 393247, 174240060676991226281847029792, 55340232221128917027, 1638436, 2228261, 309485065161577289870868518, 92233720368549068841, 393260, 170835725458275966083617128493, 18446744073709813808, 1638449, 2228274]
-- 75: SwornCourt$People.isDead
def cod75 : List Nat := [393216, 173311605610633702928253583361, 18446744073709813764, 1638405, 18446744073726328838, 258254417031934902279, 393226, 173311605610633702928253583371, 18446744073709813774, 1638415, 36893488147419365392, 258254417032002011153, 16777236, 276701161105644584981, 24, 2228249]
-- 76: SwornCourt$Purse.add
def cod76 : List Nat := [393216, 346623211055246709193019097089, 1006632964, 92233720368582492166, 2162697, 393226, 345694755970442441765716099083, 393230, 346623211055246709193019097103, 18446744073709813778, 1769491, 393236, 346004240998710530908150431765, 393240, 346623211055246709193019097113, 36893488147419365404, 1769501, 393246, 346313726026978620050584764447, 393250, 346623211055246709193019097123, 55340232221128917030, 1769511, 393256, 1966121, 346623211055246709193019097130, 16777261, 720942, 346623211055246709193019162671, 2162738]
-- 77: SwornCourt$Purse.paidBy
def cod77 : List Nat := [0, 55340232221129113601, 2, 73786976294838665219, 73786976294838468613, 393223, 346623211055246709193019097096, 534955578137628508171, 393230, 345694755970442441765716099087, 73786976294838468626, 1638420, 18446744073709813781, 498062089990175850518, 393241, 346313726026978620050584764442, 73786976294838468637, 1638431, 36893488147419365408, 498062089990226182177, 55340232221128917028, 393253, 346004240998710530908150431782, 73786976294838468649, 1638443, 720940, 55340232221129113645, 73786976294855639086, 73786976294839517233, 55340232221128917044, 2228277]
-- 78: SwornCourt$Rings.seek
def cod78 : List Nat := [393216, 36893488147419496449, 55340232221128916994, 11144401391233194922632435136547155935235, 393222, 18446744073709813767, 55340232221128917000, 11144406588601893798412266653305213878281, 393228, 13, 373548406909703730172091891726, 393233, 18446744073709813778, 18446744073709813779, 55340232221128917012, 11144411785970592674210544914136981372949, 73786976294838665240, 73786976294838468634, 18446744073726328860, 387381625547918540829, 2162720, 393249, 372929436871614295960932712482, 37, 18446744073709813798, 1769511, 393256, 16777257, 373548406909703730172091891754, 73786976294838468653, 18446744073709813807, 1217485108864831586352, 393267, 373548406909703730172091826228, 503316535, 1217485108864881918009, 393276, 372929436871614295960932712509, 393280, 373548406909703730172091826241, 73786976294838468676, 1769542, 393287, 1966152, 373548406909703730172091826249, 16777292, 720973, 373548406909703730172091891790, 393297, 372619951843346206818498379858, 73786976294838468693, 1638487, 16777304, 1033017668127752847449, 18446744073709813852, 1125251388496283959389, 393312, 73786976294838468705, 18446744073709813859, 55340232221128917092, 11144411785970592674210544914136981373029, 73786976294838665320, 73786976294838468714, 18446744073726328940, 534955578137594953837, 2162800, 2162801]
-- 79: SwornCourt$Rings.gather
def cod79 : List Nat := [0, 55340232221129113601, 55340232221128916994, 36893488147419365379, 221360928884566130692, 393223, 372310466815078117676064047112, 55340232221128917003, 12, 1769485, 55340232221146087438, 36893488147420413969, 20, 55340232221129113621, 55340232221128917014, 18446744073709944855, 232423242652531307717972066328, 719423018874724024347, 393246, 372310466815078117676064047135, 18446744073709944866, 226543027336798542896234364963, 55340232221128917030, 1638439, 2031656, 1638441, 16777258, 18446744073709944875, 219734356991601742868322320428, 18446744073709944879, 227780967394530667244843040816, 55340232221128917043, 1638452, 1638453, 110680464442258030646, 73786976294838927415, 1769528, 55340232221146087481, 258254417031935033404, 2162751]
-- 80: SwornCourt$Rings.measure
def cod80 : List Nat := [0, 55340232221129113601, 55340232221128916994, 36893488147419365379, 313594649253113888772, 393223, 372619951843346206818498379784, 55340232221128917003, 55340232221128917004, 18446744073709813773, 239807672958242127886, 17, 258254417031935033362, 18446744073726328853, 1769494, 55340232221146087447, 36893488147420413978, 16777245, 55340232221129113630, 55340232221128917023, 36893488147419365408, 1328165573307139227681, 36, 73786976294838665253, 39, 92233720368548216872, 92233720368548020266, 36893488147419365420, 830103483316981334061, 393264, 372619951843346206818498379825, 92233720368548020276, 1638454, 55340232221128917047, 16777272, 18446744073710272569, 793209995169528676410, 73786976294838468669, 16777279, 92233720368548020288, 110680464442258030658, 73786976294838927427, 73786976294838665284, 92233720368565190726, 479615345916449652809, 76, 92233720368548216909, 92233720368548020303, 36893488147419365457, 1291272085159720124498, 393301, 372619951843346206818498379862, 92233720368548020313, 1638491, 18446744073726328924, 1254378597012267466845, 393312, 372310466815078117676064047201, 92233720368548020324, 1638502, 73786976294838468711, 55340232221129375849, 1254378597012250624106, 393325, 372619951843346206818498379886, 92233720368548020337, 55340232221128917107, 1769588, 92233720368565190773, 866996971464350236792, 55340232221146087547, 350488137400482791550, 2162817]
-- 81: SwornCourt$Rings.nearest
def cod81 : List Nat := [18446744073726328832, 73786976294838665217, 3, 92233720368548216836, 92233720368548020230, 55340232221128917000, 774763251095852679177, 92233720368548020236, 36893488147419365390, 737869762948383244303, 393234, 372310466815078117676064047123, 18446744073709813782, 1638423, 92233720368548020248, 147573952589677133850, 16777243, 55340232221129375772, 737869762948383178781, 393248, 372619951843346206818498379809, 92233720368548020260, 1638438, 18446744073726328871, 479615345916466298920, 737869762948383375403, 73786976294838468654, 18446744073726328880, 700976274800964141105, 393268, 372619951843346206818498379829, 92233720368548020280, 1638458, 393275, 372619951843346206818498379836, 73786976294838468671, 1638465, 737869762948433576002, 92233720368548020293, 73786976294838665287, 92233720368565190729, 73786976294839517260, 73786976294838468687, 2228305]
-- 82: SwornCourt.person
def cod82 : List Nat := [393216, 376952741962398293706952540161, 73786976294838468612, 10938104540608702611174461203950579548166, 184467440737096630281, 393228, 376952741962398293706952540173, 92233720368548020240, 10938104540608702611174461203950579548178, 221360928884532510741, 475368975104032771312711696408, 2228250, 18446744073709813787, 18446744224704495644, 393247, 380047592245079185131295866912, 10910305339524891095962015455563613601827, 479615345916449456166, 36893488147419365417, 10910305343328771351639274207112495235114, 479615345916449456173, 55340232221128917040, 49, 50331698, 10910305339524891095962015455563613601843, 516508834063885336630, 477535370172782186793801941049, 2228283, 110680464442257571900, 16777278, 67108927, 10910305339524891095962015455563613601856, 719423018874673627203, 73786976294838468678, 92233720368548020296, 756316507022109573194, 73786976294838468685, 18446744073726328911, 756316507022092795984, 477535370172782186793801941075, 2228309, 393302, 376952741962398293706952540247, 175168515743348749635440476250, 503316573, 885443715538093211743, 477844855182603531862560276578, 2228324, 393317, 376952741962398293706952540262, 18446744073709813865, 36893488147419365482, 55340232221128917099, 73786976294838468716, 92233720368548020334, 110680464442257571952, 10939605480841283810248005995166976770162, 129127208515967320181, 393335, 377571712018934471991821205624, 129127208515967123579, 73786976294838468733, 92233720368548020351, 10982161550965675598388304697121428537473, 129127208515967123588, 2228358]
-- 83: SwornCourt.rank
def cod83 : List Nat := [393216, 376952741962398293706952540161, 18446744073709813764, 10938125314961132079393403177883750694917, 129127208515984752648, 475368975104032771312711696395, 2228237, 36893488147419365390, 15, 50331664, 10910305339524891095962015455563613601809, 258254417031951613972, 477535370172782186793801941015, 2228249, 393242, 376952741962398293706952540187, 176096970791259528915324370974, 1006632993, 387381625547935318051, 477844855182603531862560276518, 2228264, 393257, 376952741962398293706952540202, 18446744073709813805, 393262, 380047592245079185131295866927, 10939693771443200351290766728922044629042, 55340232221129113653, 393270, 376952741962398293706952540215, 18446744073709813818, 36893488147419365435, 393276, 380047592245079185131295866941, 10939714545702474831571930581242766229568, 55340232221128917059, 2228292]
-- 84: SwornCourt.die
def cod84 : List Nat := [393216, 376952741962398293706952540161, 18446744073709813764, 10938125314961132079393403177883750694917, 129127208515984752648, 475368975104032771312711696395, 2228237, 393230, 376952741962398293706952540175, 173621090620455047996978364434, 18446744073709813781, 1638422, 18446744073726328855, 295147905179354005528, 487129405477243883924286930971, 2228253, 393246, 376952741962398293706952540191, 173621090620455047996978364450, 18446744073709813797, 393254, 380047592245079185131295866919, 1769514, 16777259, 2228268]
-- 85: SwornCourt.feud
def cod85 : List Nat := [18446744073709813760, 10910305343328771351639274207112495235073, 166020696663387078660, 36893488147419365383, 10910305343328771351639274207112495235080, 166020696663387078667, 18446744073709813774, 36893488147419365391, 202914184810823024656, 477535370172782186793801941011, 2228245, 393238, 377262226990666382849386872855, 18446744073709813786, 36893488147419365403, 10961049709977675546373775351935731564572, 18446744073726328863, 368934881474192212000, 487129405477243883924286930979, 2228261, 393254, 377262226990666382849386872871, 188476371054986123148264865834, 335544365, 498062089990192627759, 477844855182603531862560276530, 2228276, 393269, 377262226990666382849386872886, 18446744073709813817, 36893488147419365434, 393275, 380047592245079185131295866940, 10961091258496224506917656312503465214015, 393282, 377262226990666382849386872899, 188476371054986123148264865862, 2228297]
-- 86: SwornCourt.peace
def cod86 : List Nat := [18446744073709813760, 10910305343328771351639274207112495235073, 166020696663387078660, 36893488147419365383, 10910305343328771351639274207112495235080, 166020696663387078667, 18446744073709813774, 36893488147419365391, 202914184810823024656, 477535370172782186793801941011, 2228245, 393238, 377262226990666382849386872855, 18446744073709813786, 36893488147419365403, 10961049709977675546373775351935731564572, 55340232221129113631, 55340232221128917024, 18446744073726328865, 405828369621628092450, 487129405477243883924286930981, 2228263, 393256, 377262226990666382849386872873, 187857401016896688937105752108, 55340232221128917039, 393264, 380047592245079185131295866929, 1769524, 16777269, 2228278]
-- 87: SwornCourt.go
def cod87 : List Nat := [18446744073709813760, 1, 16777216002, 10910305339524891095962015455563613601797, 129127208515984752648, 477535370172782186793801941003, 2228237, 393230, 380047592245079185131295866895, 18446744073709813778, 720915, 150994944020, 276701161105728339991, 487129405477243883924286930970, 2228252, 393245, 1966110, 380047592245079185131295866911, 18446744073709813794, 720931, 380047592245079185131295932452, 393255, 380047592245079185131295866920, 2228267]
-- 88: SwornCourt.told
def cod88 : List Nat := [393216, 376952741962398293706952540161, 18446744073709813764, 10938125314961132079393403177883750694917, 129127208515984752648, 475368975104032771312711696395, 2228237, 393230, 36893488147419365391, 10910315809071624391538404447297579843600, 239807672958242062355, 477535370172782186793801941014, 2228248, 55340232221128917017, 618971071107102338895380506, 393284, 376952741962398293706952540229, 169288300372275752592574120008, 18446744073709813835, 1638476, 2228301, 393294, 376952741962398293706952540239, 170216755420186531872458014802, 18446744073709813845, 1638486, 2228311, 393304, 376952741962398293706952540249, 18446744073709813852, 36893488147419365469, 10939693771443200351290766728922044629086, 2228321, 393314, 376952741962398293706952540259, 171454695496365400294776242278, 18446744073709813865, 1638506, 2228331, 393324, 376952741962398293706952540269, 172073665534454834505935356016, 18446744073709813875, 1638516, 2228341, 393334, 376952741962398293706952540279, 173002120582365613785819250810, 18446744073709813885, 1638526, 2228351, 393344, 376952741962398293706952540289, 173621090620455047996978364548, 18446744073709813895, 1638536, 2228361, 477535370172782186793801941130, 2228364]
-- 89: SwornCourt.kin
def cod89 : List Nat := [393216, 376952741962398293706952540161, 18446744073709813764, 10938125314961132079393403177883750694917, 184467440737096630280, 393227, 376952741962398293706952540172, 36893488147419365391, 10938125314961132079393403177883750694928, 221360928884532510739, 475368975104032771312711696406, 2228248, 55340232221128917017, 26, 33554459, 10910305339524891095962015455563613601820, 350488137400499372063, 477535370172782186793801941026, 2228260, 393253, 377571712018934471991821205542, 18446744073709813801, 36893488147419365418, 10982483551984430042441973130876699344939, 55340232221128917038, 553402322211304439855, 393266, 377571712018934471991821205555, 194666071196072792301665386550, 2228281, 55340232221128917050, 16777275, 682529530727271366716, 393279, 377571712018934471991821205568, 195594526243983571581549281347, 2228294, 393287, 377571712018934471991821205576, 196213496282073005792708395083, 793209995169511833678, 16777297, 811656739243221581906, 85, 2228310]
-- 90: SwornCourt.feed
def cod90 : List Nat := [18446744073709813760, 16777217, 134217730, 10910305339524891095962015455563613601796, 129127208515984752647, 477535370172782186793801941002, 2228236, 393229, 378190682075470650276689870862, 210759291725229479949080330257, 18446744073709813780, 720917, 4026531862, 295147905179437891609, 477844855182603531862560276508, 2228254, 393247, 378190682075470650276689870880, 18446744073709813795, 36893488147419430948, 11046328044300654964866790086264230314021, 393256, 378190682075470650276689870889, 210759291725229479949080330284, 2228271]
-- 91: SwornCourt.read
def cod91 : List Nat := [393216, 378500167103738739419124203521, 232113757624263218575537733636, 110680464442342309895, 487129405477243883924286930954, 2228236, 393229, 378190682075470650276689870862, 11046374786384022545421010091672642846737, 18446744073710010388, 393237, 378190682075470650276689870870, 25, 210759291725229479949080395802, 18446744073709813789, 405828369621628026910, 18446744073877323809, 393251, 378190682075470650276689870884, 211687746791587003302673776679, 18446744073710272554, 2228267, 393260, 377881197047202561134255538221, 393264, 378190682075470650276689870897, 210140321687140045737921216564, 11004473105426776885519406811352062558263, 393274, 377881197047202561134255538235, 204569591528802578574601486398, 2228289]
-- 92: SwornCourt.fault
def cod92 : List Nat := [393216, 378190682075470650276689870849, 212306716829676437513832890372, 2228231]
-- 93: SwornCourt.law
def cod93 : List Nat := [18446744073709813760, 1, 167772162, 10910305339524891095962015455563613601796, 184467440737096630279, 55340232221128917002, 11, 167755382796, 10910305339524891095962015455563613601807, 221360928884532510738, 477535370172782186793801941013, 2228247, 36893488147419365400, 25, 18446744073709813786, 10995376182319888169200011101152332873755, 350488137400482594846, 50331681, 368934881474192343074, 37, 10910305339524891095962015455563613601830, 442721857769047130153, 477535370172782186793801941036, 2228270, 393263, 377881197047202561134255538224, 393267, 377881197047202561134255538228, 55340232221128917047, 11004545815334237566438916690216629895224, 18446744073709813819, 10995376189927339195618494235476192788540, 36893488147419365439, 720960, 11004571783158330666785759819599142256705, 2228292]
-- 94: SwornCourt.charge
def cod94 : List Nat := [393216, 376952741962398293706952540161, 36893488147419365380, 10938125314961132079393403177883750694917, 184467440737096630280, 393227, 376952741962398293706952540172, 55340232221128917007, 10938125314961132079393403177883750694928, 221360928884532510739, 475368975104032771312711696406, 2228248, 18446744073709813785, 10910305988720454737807104208915357106202, 405828369621611249693, 36893488147419365408, 55340232221128917025, 405828369621611315234, 393253, 73786976294838468646, 10910315809071624391538404447297579843624, 442721857769047130155, 477535370172782186793801941038, 2228272, 393265, 378500167103738739419124203570, 232113757624263218575537733685, 335544376, 571849066285030834234, 477844855182603531862560276541, 2228287, 393280, 378500167103738739419124203585, 18446744073709813828, 36893488147419365445, 55340232221128917062, 73786976294838468679, 393289, 377881197047202561134255538250, 73786976294838468685, 11004545815334237566438916690216629895247, 393298, 380047592245079185131295866963, 11069844505799676107346164943263971475542, 2228313]
-- 95: SwornCourt.barred
def cod95 : List Nat := [393216, 376952741962398293706952540161, 18446744073709813764, 10938125314961132079393403177883750694917, 184467440737096630280, 393227, 378500167103738739419124203532, 36893488147419365391, 11069886054318225067779365439389447815184, 221360928884532510739, 475368975104032771312711696406, 2228248, 393241, 55340232221128917018, 10910315809071624391538404447297579843611, 368934881474192146462, 393249, 73786976294838468642, 10910315809071624391538404447297579843620, 405828369621628026919, 477535370172782186793801941034, 2228268, 393261, 378809652132006828561558536238, 73786976294838468657, 11091174476510058202008543460600626610227, 393270, 378809652132006828561558536247, 18446744073709813818, 36893488147419365435, 55340232221128917052, 11091216025045938323120866489090858876989, 2228288]
-- 96: SwornCourt.swear
def cod96 : List Nat := [393216, 376952741962398293706952540161, 18446744073709813764, 10938125314961132079393403177883750694917, 184467440737096630280, 393227, 378500167103738739419124203532, 36893488147419365391, 11069886054318225067779365439389447815184, 221360928884532510739, 475368975104032771312711696406, 2228248, 393241, 378809652132006828561558536218, 393245, 380047592245079185131295866910, 11091174476510058202008543460600626610209, 393252, 18446744073709813797, 36893488147419365414, 10910404750137064659793431889485735723047, 442721857769047130154, 487129405477243883924286930989, 2228271, 393264, 378500167103738739419124203569, 317222135343579856548562075700, 1677721655, 571849066285030834233, 477844855182603531862560276540, 2228286, 393279, 378500167103738739419124203584, 18446744073709813827, 36893488147419365444, 393285, 380047592245079185131295866950, 393289, 378809652132006828561558536266, 18446744073709813837, 393294, 378500167103738739419124203599, 224067147202887550125307461714, 36893488147419365461, 1638486, 393303, 380047592245079185131295866968, 11091595155260366427365458390750530437211, 11070353475151900873745840607168775389278, 55340232221129113697, 393314, 378809652132006828561558536291, 393318, 380047592245079185131295866983, 11091174476510058202008543460600626610282, 393325, 378809652132006828561558536302, 36893488147419365489, 11091428961200097410668788564719445540978, 1217485108864848298101, 393336, 378500167103738739419124203641, 225614572288887763616350470268, 36893488147419365503, 55340232221128917120, 1769601, 393346, 378809652132006828561558536323, 333934325726358537670007062662, 36893488147419365513, 1638538, 2228363]
-- 97: SwornCourt.close
def cod97 : List Nat := [393216, 378500167103738739419124203521, 18446744073709813764, 11069886054318225067779365439389447815173, 129127208515984752648, 475368975104032771312711696395, 2228237, 393230, 378809652132006828561558536207, 393234, 380047592245079185131295866899, 11091174476510058202008543460600626610198, 393241, 378809652132006828561558536218, 332696385650179669247688835101, 18446744073709813792, 1638433, 368934881474192146466, 487129405477243883924286930981, 2228263, 393256, 378500167103738739419124203561, 18446744073709813804, 393261, 380047592245079185131295866926, 11070420991494542934562777720824216748081, 393268, 378809652132006828561558536245, 18446744073709813816, 11091428961200097410668788564719445540921, 2228284]
-- 98: SwornCourt.find
def cod98 : List Nat := [393216, 378500167103738739419124203521, 18446744073709813764, 11069886054318225067779365439389447815173, 129127208515984752648, 475368975104032771312711696395, 2228237, 393230, 378809652132006828561558536207, 393234, 380047592245079185131295866899, 11091174476510058202008543460600626610198, 393241, 378809652132006828561558536218, 332696385650179669247688835101, 18446744073709813792, 1638433, 16777250, 479615345916466298915, 393254, 378500167103738739419124203559, 224686117240976984336466575402, 18446744073709813805, 1638446, 18446744073726328879, 516508834063868624944, 487129405477243883924286930995, 2228277, 393270, 378500167103738739419124203575, 224686117240976984336466575418, 18446744073709813821, 393278, 380047592245079185131295866943, 1769538, 393283, 378500167103738739419124203588, 18446744073709813831, 11070462540013091895069765193244631957576, 2228299]
-- 99: SwornCourt.oath
def cod99 : List Nat := [36893488147419365376, 1, 50331650, 10910305339524891095962015455563613601795, 129127208515984752646, 477535370172782186793801941001, 2228235, 18446744073709813772, 13, 393230, 378500167103738739419124203535, 317222135343579856548562075666, 16777237, 18446744073710272534, 10910305339524891095962015455563613601815, 332041393326789820442, 18446744073726328861, 2228254, 36893488147419365407, 479615345916466233376, 393251, 378500167103738739419124203556, 226852512346619887964959146023, 18446744073709813802, 1638443, 2228268, 36893488147419365421, 16777262, 645636042579852263471, 393266, 378500167103738739419124203571, 228090452404352012313567821878, 18446744073709813817, 1638458, 2228283, 36893488147419365436, 33554493, 811656739243238228030, 393281, 378500167103738739419124203586, 229018907452262791593451716677, 18446744073709813832, 1638473, 2228298, 393291, 378809652132006828561558536268, 393295, 380047592245079185131295866960, 11091174476510058202008543460600626610259, 393302, 378809652132006828561558536279, 334553295764447971881166176346, 18446744073709813853, 1638494, 2228319]
-- 100: SwornCourt.state
def cod100 : List Nat := [393216, 378500167103738739419124203521, 18446744073709813764, 11069886054318225067779365439389447815173, 129127208515984752648, 475368975104032771312711696395, 2228237, 36893488147419365390, 393231, 378500167103738739419124203536, 222829207145155425776698785811, 18446744073709813782, 1638423, 393240, 380047592245079185131295866905, 10910305339524891095962015455563613601820, 405828369621611249695, 55340232221128917026, 35, 134217764, 10910305339524891095962015455563613601830, 442721857769047130153, 477535370172782186793801941036, 2228270, 393263, 378809652132006828561558536240, 36893488147419365427, 11091174476510058202008543460600626610228, 55340232221128917047, 928456449863328881811193912, 393320, 378809652132006828561558536297, 332696385650179669247688835180, 18446744073709813871, 1638512, 2228337, 393330, 378809652132006828561558536307, 333315355688269103458847948918, 18446744073709813881, 1638522, 2228347, 393340, 378809652132006828561558536317, 333934325726358537670007062656, 18446744073709813891, 1638532, 2228357, 393350, 378809652132006828561558536327, 18446744073709813898, 11091428961200097410668788564719445541003, 2228366, 393359, 378500167103738739419124203664, 219115386953512308657163206803, 18446744073709813910, 1638551, 2228376, 393369, 378500167103738739419124203674, 220353327011244433005771882653, 18446744073709813920, 1638561, 2228386, 393379, 378500167103738739419124203684, 221281782059155212285655777447, 18446744073709813930, 1638571, 2228396, 393389, 378500167103738739419124203694, 221900752097244646496814891185, 18446744073709813940, 1638581, 2228406, 393399, 378809652132006828561558536376, 18446744073709813947, 11091449735465871076137753919409677992124, 2228415]
-- 101: SwornCourt.turned
def cod101 : List Nat := [393216, 18446744073709813761, 10910315809071624391538404447297579843586, 147573952589677527045, 393224, 36893488147419365385, 10910315809071624391538404447297579843594, 184467440737113407501, 477535370172782186793801941008, 2228242, 393235, 378809652132006828561558536212, 18446744073709813783, 11091174476510058202008543460600626610200, 393243, 378809652132006828561558536220, 11091818478547567090134327072184860999711, 393250, 378809652132006828561558536227, 36893488147419365414, 11091174476510058202008543460600626610215, 393258, 378809652132006828561558536235, 18446744073709813806, 36893488147419365423, 46685241911205386442298341739580485206064, 11091860027066116050678208032752644980787, 2228278]
-- 102: SwornCourt.pay
def cod102 : List Nat := [393216, 376952741962398293706952540161, 18446744073709813764, 10938125314961132079393403177883750694917, 129127208515984752648, 475368975104032771312711696395, 2228237, 36893488147419365390, 16777231, 167755382800, 10910305339524891095962015455563613601811, 258254417031951613974, 477535370172782186793801941017, 2228251, 393244, 379119137160274917703992868893, 346932696065068054261743878176, 1006632995, 387381625547935318053, 477844855182603531862560276520, 2228266, 393259, 379119137160274917703992868908, 18446744073709813807, 36893488147419365424, 393265, 380047592245079185131295866930, 11113169223517223665206996650359798431797, 393272, 378809652132006828561558536249, 393276, 380047592245079185131295866941, 11091174476510058202008543460600626610240, 393283, 18446744073709813828, 10910415229827788122284048198811800371269, 2228296]
-- 103: SwornCourt.owes
def cod103 : List Nat := [393216, 376952741962398293706952540161, 18446744073709813764, 10938125314961132079393403177883750694917, 129127208515984752648, 475368975104032771312711696395, 2228237, 393230, 36893488147419365391, 10910315809071624391538404447297579843600, 295147905179353939987, 55340232221128917014, 23, 33554456, 10910305339524891095962015455563613601817, 332041393326789820444, 477535370172782186793801941023, 2228257, 393250, 378809652132006828561558536227, 36893488147419365414, 11091174476510058202008543460600626610215, 55340232221128917034, 534955578137594888235, 393262, 378809652132006828561558536239, 18446744073709813810, 11091943124103213971729076465741011943475, 2228278, 55340232221128917047, 16777272, 700976274800980918329, 393276, 379119137160274917703992868925, 18446744073709813824, 36893488147419365441, 11113231546295047105976701231027192135746, 2228293, 393286, 18446744073709813831, 10910415229827788122284048198811800371272, 2228299]
-- 104: SwornCourt.bound
def cod104 : List Nat := [18446744073709813760, 1677721601, 50331648003, 10910305339524891095962015455563613601798, 129127208515984752649, 477535370172782186793801941004, 2228238, 393231, 379428622188543006846427201552, 356217246544175847060498939923, 36893488147419562006, 393239, 379428622188543006846427201560, 18446744073709813787, 356217246544175847060499005468, 36893488147419365407, 2228256]
-- 105: SwornCourt.session
def cod105 : List Nat := [393216, 378500167103738739419124203521, 18446744073709813764, 11070779347467027719076201094011704115205, 129127208515984752648, 475368975104032771312711696395, 2228237, 18446744073709813774, 10910306225828990677322593816650407346191, 276701161105644388370, 36893488147419365397, 22, 50331671, 10910305339524891095962015455563613601816, 313594649253080268827, 477535370172782186793801941022, 2228256, 393249, 378809652132006828561558536226, 393253, 380047592245079185131295866918, 11091174476510058202008543460600626610217, 393260, 378809652132006828561558536237, 18446744073709813808, 11092114511742228433896492608778815209521, 534955578137594888244, 487129405477243883924286930999, 2228281, 393274, 379428622188543006846427201595, 18446744073709813822, 393279, 380047592245079185131295866944, 11134670581866620222110578287028994375747, 36893488147419365446, 1237940943175839886668529735, 393312, 379428622188543006846427201633, 358074156658444149693976281188, 2228327, 393320, 379428622188543006846427201641, 358693126696533583905135394924, 2228335, 393328, 379428622188543006846427201649, 356836216582265281271658053748, 2228343, 393336, 379428622188543006846427201657, 357455186620354715482817167484, 1014570924054026453119, 16777346, 1033017668127736201347, 134, 2228359]
-- 106: SwornCourt.called
def cod106 : List Nat := [393216, 378500167103738739419124203521, 18446744073709813764, 11070779347467027719076201094011704115205, 184467440737096630280, 393227, 378500167103738739419124203532, 36893488147419365391, 11069886054318225067779365439389447815184, 221360928884532510739, 475368975104032771312711696406, 2228248, 18446744073709813785, 10910306225828990677322593816650407346202, 387381625547901698077, 18446744073709813792, 36893488147419365409, 147573952589677133858, 16777251, 55340232221129375780, 424275113695337578533, 477535370172782186793801941032, 2228266, 393259, 378809652132006828561558536236, 393263, 380047592245079185131295866928, 11091174476510058202008543460600626610227, 393270, 378809652132006828561558536247, 18446744073709813818, 11092114511742228433896492608778815209531, 645636042579852197950, 487129405477243883924286931009, 2228291, 393284, 379428622188543006846427201605, 18446744073709813832, 393289, 380047592245079185131295866954, 11134670581866620222110578287028994375757, 393296, 379428622188543006846427201617, 36893488147419365460, 11136327329043760023043820925655850483797, 2228312]
-- 107: SwornCourt.lacks
def cod107 : List Nat := [393216, 378500167103738739419124203521, 18446744073709813764, 11069886054318225067779365439389447815173, 129127208515984752648, 475368975104032771312711696395, 2228237, 393230, 378809652132006828561558536207, 393234, 380047592245079185131295866899, 11091174476510058202008543460600626610198, 393241, 378809652132006828561558536218, 332696385650179669247688835101, 18446744073709813792, 1638433, 368934881474192146466, 487129405477243883924286930981, 2228263, 40, 393257, 378809652132006828561558536234, 18446744073709813805, 11091428961200097410668788564719445540910, 393265, 378809652132006828561558536242, 18446744073709813813, 393270, 380047592245079185131295866935, 11093833581697191675654780060294311116858, 18446744073710272573, 45153971168910709809101142330108820521022, 2228289]
-- 108: SwornCourt.stood
def cod108 : List Nat := [393216, 376952741962398293706952540161, 18446744073709813764, 10938125314961132079393403177883750694917, 184467440737096630280, 393227, 376952741962398293706952540172, 36893488147419365391, 10938125314961132079393403177883750694928, 221360928884532510739, 475368975104032771312711696406, 2228248, 55340232221128917017, 26, 16777243, 10910305339524891095962015455563613601820, 350488137400499372063, 477535370172782186793801941026, 2228260, 393253, 378500167103738739419124203558, 18446744073709813801, 36893488147419365418, 11072623062977637842410791195009372979243, 73786976294838665262, 55340232221128917040, 534955578137594888241, 73786976294838468660, 664082786653545168950, 73786976294838468665, 393275, 378500167103738739419124203580, 36893488147419365439, 18446744073709813824, 11072623062977637842410791195009372979265, 18446744073710272580, 2228293]
-- 109: SwornCourt.ring
def cod109 : List Nat := [393216, 376952741962398293706952540161, 18446744073709813764, 10938125314961132079393403177883750694917, 129127208515984752648, 475368975104032771312711696395, 2228237, 393230, 379738107216811095988861534223, 18446744073709813778, 393235, 378500167103738739419124203540, 393239, 376952741962398293706952540184, 175168515743348749635440476187, 11157735203226421418820515807435870765086, 36893488147419365409, 18446744073726328866, 424275113695337644067, 393254, 379738107216811095988861534247, 373857891919525075240816607274, 2228269, 36893488147419365422, 47, 393264, 379738107216811095988861534257, 373857891919525075240816607284, 16777271, 18446744073710272568, 10910305339524891095962015455563613601849, 700976274800964075580, 393279, 379738107216811095988861534272, 373238921881435641029657493571, 36893488147419365446, 1638471, 719423018874673823816, 18446744073726328907, 2228300]
-- 110: SwornCourt.left
def cod110 : List Nat := [393216, 376952741962398293706952540161, 18446744073709813764, 10938125314961132079393403177883750694917, 129127208515984752648, 475368975104032771312711696395, 2228237, 36893488147419365390, 10910305988720454737807104208915357106191, 258254417031934836754, 393237, 55340232221128917014, 10910315809071624391538404447297579843607, 295147905179370717210, 477535370172782186793801941021, 2228255, 393248, 378809652132006828561558536225, 393252, 380047592245079185131295866917, 11091174476510058202008543460600626610216, 393259, 378809652132006828561558536236, 18446744073709813807, 393264, 377881197047202561134255538225, 55340232221128917044, 11004545815334237566438916690216629895221, 55340232221128917048, 11094036130725117858234718609776568500281, 2228284]
-- 111: SwornCourt.forsaken
def cod111 : List Nat := [18446744073709813760, 10910305343328771351639274207112495235073, 184467440737096630276, 36893488147419365383, 10910305988720454737807104208915357106184, 184467440737096630283, 393230, 55340232221128917007, 10910315809071624391538404447297579843600, 221360928884532510739, 477535370172782186793801941014, 2228248, 393241, 378809652132006828561558536218, 393245, 380047592245079185131295866910, 11091174476510058202008543460600626610209, 393252, 377881197047202561134255538213, 55340232221128917032, 11004545815334237566438916690216629895209, 73786976294838665260, 393262, 377881197047202561134255538223, 73786976294838468658, 52, 36893488147419365429, 720950, 11004571783158330666785759819599142256695, 92233720368548216890, 60, 110680464442257768509, 63, 129127208515967320128, 129127208515967123522, 393284, 376952741962398293706952540229, 175168515743348749635440476232, 1494186269970525192267, 393294, 376952741962398293706952540239, 170216755420186531872458014802, 129127208515967123541, 1638487, 18446744073709813848, 1125251388496300605529, 393308, 376952741962398293706952540253, 169288300372275752592574120032, 129127208515967123555, 1638501, 55340232221128917094, 1125251388496350937191, 393322, 376952741962398293706952540267, 129127208515967123566, 55340232221128917104, 10942384038187295905645622619229850501233, 1125251388496300540020, 16777335, 1143698132569993511032, 123, 147573952589676871804, 147573952589676675198, 1457292781823055691904, 393347, 378809652132006828561558536324, 129127208515967123591, 73786976294838468745, 55340232221128917131, 11094036130725117858234718609776568500364, 92233720368548020367, 1457292781823106089105, 110680464442257571988, 16777366, 129127208515967123607, 110680464442258030745, 73786976294838927514, 110680464442257768603, 129127208515984294045, 627189298506126065824, 110680464442257572003, 2228389]
-- 112: SwornCourt.count
def cod112 : List Nat := [18446744073709813760, 1, 167772162, 10910305339524891095962015455563613601796, 129127208515984752647, 477535370172782186793801941002, 2228236, 393229, 378809652132006828561558536206, 393233, 380047592245079185131295866898, 11091174476510058202008543460600626610197, 18446744073709813784, 1547425786976488292007346201, 393300, 380047592245079185131295866965, 2228312, 393305, 376952741962398293706952540250, 175168515743348749635440476253, 2228320, 393313, 377262226990666382849386872930, 10966497759472407995234443501571638886501, 2228328, 393321, 377881197047202561134255538282, 204569591528802578574601486445, 2228336, 393329, 378500167103738739419124203634, 232113757624263218575537733749, 2228344, 393337, 378500167103738739419124203642, 317222135343579856548562075773, 2228352, 393345, 10910472882708308146303031833939195265154, 2228357, 393350, 378809652132006828561558536327, 18446744073709813898, 83886219, 18446744073710272652, 11094145195586308879577089939925866184845, 2228368]
-- 113: SwornCourt.within
def cod113 : List Nat := [262144, 18446744073709813761, 147573952589711147010, 262149, 36893488147419365382, 147573952589744701447, 16777226, 166020696663387275275, 14, 2228239]
-- 114: SwornCourt.isHouse
def cod114 : List Nat := [262144, 1, 117440514, 10910305339524891095962015455563613601796, 2228231]
-- 115: SwornCourt.isKind
def cod115 : List Nat := [262144, 1, 50331650, 10910305339524891095962015455563613601795, 2228230]
-- 116: SwornCourt.isSessionSize
def cod116 : List Nat := [262144, 11293123892418926704433042489708739166209, 16777220, 83886085, 10910305339524891095962015455563613601798, 2228233]
-- 117: SwornCourt.isPast
def cod117 : List Nat := [18446744073709813760, 1, 393218, 380047592245079185131295866883, 10910305339524891095962015455563613601798, 2228233]
-- 118: SwornCourt.maySwear
def cod118 : List Nat := [393216, 378809652132006828561558536193, 332696385650179669247688835076, 36893488147419365383, 1638408, 221360928884532510729, 393228, 378500167103738739419124203533, 18446744073709813776, 36893488147419365393, 11070285958809258812855116517218562932754, 258254417031934836757, 24, 2228249, 393242, 378500167103738739419124203547, 18446744073709813790, 393247, 380047592245079185131295866912, 11070306733068533293117833625465642090531, 393254, 376952741962398293706952540199, 173002120582365613785819250730, 18446744073709813805, 1638446, 516508834063902179375, 50, 2228275, 393268, 378809652132006828561558536245, 18446744073709813816, 36893488147419365433, 393274, 380047592245079185131295866939, 11091216025045938323120866489090858876990, 700976274800980852801, 16777284, 719423018874673823813, 72, 2228297]
-- 119: SwornCourt.debtOf
def cod119 : List Nat := [393216, 378809652132006828561558536193, 18446744073709813764, 11091943124103213971729076465741011943429, 393224, 379119137160274917703992868873, 18446744073709813772, 393229, 378809652132006828561558536206, 335791235859073584377193955345, 11113231546295047105976701231027192135700, 18446744073710272535, 2228248]
-- 120: SwornCourt.allDebts
def cod120 : List Nat := [0, 18446744073710010369, 2, 36893488147419561987, 36893488147419365380, 393221, 376952741962398293706952540166, 175168515743348749635440476169, 350488137400532992012, 18446744073709813775, 16, 393233, 36893488147419365394, 10910415229827788122284048198811800371219, 45153971168910709809101142330108820520982, 720921, 18446744073710010394, 36893488147436535835, 73786976294839517214, 18446744073709813793, 2228258]
-- 121: SwornCourtModel.in
def cod121 : List Nat := [327680, 36893488147419430913, 184467440737130315778, 184467440737130184707, 327686, 73786976294838534151, 184467440737163870217, 184467440737163739146, 16777229, 202914184810806378510, 17, 2228242]
-- 122: SwornCourtModel.isPerson
def cod122 : List Nat := [18446744073709813760, 917505, 131074, 393219, 819206821015547140988390998020, 16777223, 18446744073710272520, 917513, 11165519133308050642536334943298928377866, 2228237]
-- 123: SwornCourtModel.isCharge
def cod123 : List Nat := [18446744073709813760, 917505, 131074, 393219, 825396521580908923837077651460, 16777223, 18446744073710272520, 917513, 11165519133308050642536334943298928377866, 2228237]
-- 124: SwornCourtModel.isDay
def cod124 : List Nat := [18446744073709813760, 917505, 131074, 393219, 818897335987279051845956665348, 917511, 11165519133308050642536334943298928377864, 2228235]
-- 125: SwornCourtModel.person
def cod125 : List Nat := [73786976294838468608, 18446744073726328834, 129127208515968040963, 393222, 73786976294838468615, 11165690475300192551105656120839091060745, 258254417031934836748, 92233720368548020239, 18446744073726328849, 295147905179354005522, 393237, 92233720368548020246, 11165690475300192551105656120839091060760, 295147905179370717211, 969307050778899500997462261790, 2228256, 18446744073709813793, 917538, 969616535788720844539443740707, 393254, 818897335987279051845956665383, 917546, 11165519133308050642536334943298928377899, 866996971464350040110, 36893488147419365425, 917554, 131123, 969926020780095445383581466676, 11165519133308050642536334943298928377911, 866996971464350040122, 55340232221128917053, 917566, 131135, 970235505789916790452239138880, 11165519133308050642536334943298928377923, 866996971464350040134, 73786976294838468681, 756316507022126284875, 73786976294838468686, 92233720368548020304, 866996971464350105682, 110680464442257571925, 917591, 16908376, 970544990799738135520980697177, 11165519133308050642536334943298928377948, 903890459611785920607, 970854475828006226341102944354, 2228324, 393317, 819206821015547140988390998118, 503316585, 1014570924054043295851, 971163960837827571409861279854, 2228336, 393329, 819206821015547140988390998130, 129127208515967320181, 393335, 819516306043815230130825330808, 129127208515967123579, 18446744073709813885, 1769598, 393343, 819825791072083319273259663488, 129127208515967123587, 36893488147419365509, 1769606, 393351, 820135276100351408415693996168, 129127208515967123595, 55340232221128917133, 1769614, 393359, 820444761128619497558128328848, 129127208515967123603, 73786976294838468757, 1769623, 393368, 820754246156887586700562661529, 129127208515967123612, 92233720368548020382, 1769632, 393377, 821063731185155675842996994210, 129127208515967123621, 110680464442257572007, 1769641, 393386, 821373216213423764985431326891, 129127208515967123630, 18446744073726329008, 1769649, 393394, 1966259, 819206821015547140988390998196, 16777399, 721080, 819206821015547140988391063737, 129127208515967123644, 2228414]
-- 126: SwornCourtModel.rankOf
def cod126 : List Nat := [18446744073726328832, 55340232221129113601, 2, 73786976294838665219, 73786976294838468613, 393223, 821682701241691854127865659400, 1051464412201495953419, 393230, 821992186269959943270299992079, 50331666, 73786976294838468627, 36893488147419824149, 1638422, 18446744073709813783, 516508834063885402136, 393243, 821992186269959943270299992092, 50331679, 73786976294838468640, 36893488147419824162, 16777251, 720932, 1638437, 36893488147419365414, 516508834063935733799, 16777258, 534955578137578307627, 46, 92233720368548216879, 92233720368548020273, 977677435906607349811, 55340232221128917046, 940783947759221801015, 393274, 821992186269959943270299992123, 50331710, 73786976294838468671, 36893488147419824193, 16777282, 720963, 1638468, 393285, 821992186269959943270299992134, 50331721, 55340232221128917066, 36893488147419824203, 16777292, 720973, 1638478, 977677435906640969807, 73786976294838468690, 996124179980317098068, 55340232221128917079, 55340232221129113688, 73786976294855639129, 73786976294839517276, 55340232221128917087, 1180591620717462749280, 393315, 820135276100351408415693996132, 18446744073709813863, 1638504, 1328165573307089027177, 393324, 821992186269959943270299992173, 50331760, 55340232221128917105, 36893488147419824242, 33554547, 721012, 1638517, 2228342]
-- 127: SwornCourtModel.rank
def cod127 : List Nat := [393216, 18446744073709813761, 11165690475300192551105656120839091060738, 110680464442275201029, 969307050778899500997462261768, 2228234, 36893488147419365387, 917516, 131085, 970235505789916790452239138830, 11165519133308050642536334943298928377873, 258254417031951613972, 970854475828006226341102944279, 2228249, 393242, 821682701241691854127865659419, 1006632990, 368934881474208989216, 971163960837827571409861279779, 2228261, 393254, 18446744073709813799, 393256, 818897335987279051845956665385, 11165695690420332620236644833586900697132, 55340232221129113647, 393264, 821992186269959943270299992113, 50331700, 393269, 821682701241691854127865659446, 36893488147419824185, 18446744073709813818, 1769531, 393276, 821992186269959943270299992125, 50331712, 393281, 821682701241691854127865659458, 36893488147419824197, 16777286, 720967, 393288, 818897335987279051845956665417, 1769548, 393293, 821992186269959943270299992142, 50331729, 393298, 821682701241691854127865659475, 36893488147419824214, 33554519, 720984, 36893488147419365465, 1769562, 393307, 1966172, 821682701241691854127865659485, 16777312, 720993, 821682701241691854127865725026, 55340232221128917093, 2228326]
-- 128: SwornCourtModel.die
def cod128 : List Nat := [393216, 18446744073709813761, 11165690475300192551105656120839091060738, 110680464442275201029, 969307050778899500997462261768, 2228234, 393227, 821373216213423764985431326732, 18446744073709813775, 1638416, 239807672958258839569, 975187265965505057303266656276, 2228246, 393239, 821373216213423764985431326744, 18446744073709813787, 393244, 818897335987279051845956665373, 1769504, 16777249, 2228258]
-- 129: SwornCourtModel.isHouse
def cod129 : List Nat := [262144, 917505, 131074, 969926020780095445383581466627, 11165519133308050642536334943298928377862, 2228233]
-- 130: SwornCourtModel.feudOf
def cod130 : List Nat := [18446744073726328832, 73786976294838665217, 3, 92233720368548216836, 92233720368548020230, 393224, 822301671298228032412734324745, 1678653710707620708364, 393231, 822611156326496121555168657424, 67108883, 92233720368548020244, 36893488147419824150, 1638423, 18446744073709813784, 479615345916466298905, 393244, 822611156326496121555168657437, 67108896, 92233720368548020257, 36893488147419824163, 16777252, 720933, 1638438, 36893488147419365415, 811656739243221450792, 393259, 822611156326496121555168657452, 67108911, 92233720368548020272, 36893488147419824178, 1638451, 36893488147419365428, 848550227390657331253, 393272, 822611156326496121555168657465, 67108924, 92233720368548020285, 36893488147419824191, 16777280, 720961, 1638466, 18446744073709813827, 848550227390657331268, 16777287, 866996971464350236744, 75, 110680464442257768524, 393294, 822611156326496121555168657487, 67108946, 92233720368548020307, 36893488147419824213, 33554518, 720983, 1638488, 55340232221128917081, 1457292781823122866266, 393309, 822611156326496121555168657502, 67108961, 92233720368548020322, 36893488147419824228, 50331749, 720998, 1638503, 1420399293675670143080, 55340232221128917099, 393324, 822611156326496121555168657517, 67108976, 92233720368548020337, 36893488147419824243, 50331764, 721013, 1638518, 1457292781823106089079, 16777338, 1475739525896765440123, 126, 129127208515967320191, 110680464442257571969, 1604866734412732104835, 129127208515967123590, 1604866734412732104840, 92233720368548020363, 1623313478486441853069, 73786976294838468752, 73786976294838665362, 92233720368565190804, 73786976294839517335, 73786976294838468762, 2228380]
-- 131: SwornCourtModel.feud
def cod131 : List Nat := [18446744073709813760, 11165519167542972943926811612418199126017, 166020696663387078660, 36893488147419365383, 11165519167542972943926811612418199126024, 166020696663387078667, 18446744073709813774, 36893488147419365391, 202914184810823024656, 970854475828006226341102944275, 2228245, 393238, 18446744073709813783, 36893488147419365400, 393241, 818897335987279051845956665370, 11165700903004552518891532053203854360605, 368934881474225700896, 975187265965505057303266656291, 2228261, 393254, 822301671298228032412734324775, 335544362, 479615345916466298924, 971163960837827571409861279791, 2228273, 393266, 822611156326496121555168657459, 67108918, 393271, 822301671298228032412734324792, 36893488147419824187, 18446744073709813820, 1769533, 393278, 822611156326496121555168657471, 67108930, 393283, 822301671298228032412734324804, 36893488147419824199, 16777288, 720969, 36893488147419365450, 1769547, 393292, 822611156326496121555168657485, 67108944, 393297, 822301671298228032412734324818, 36893488147419824213, 33554518, 720983, 393304, 818897335987279051845956665433, 1769564, 393309, 822611156326496121555168657502, 67108961, 393314, 822301671298228032412734324835, 36893488147419824230, 50331751, 721000, 18446744073726328937, 1769578, 393323, 1966188, 822301671298228032412734324845, 16777328, 721009, 822301671298228032412734390386, 393333, 822301671298228032412734324854, 2228345]
-- 132: SwornCourtModel.peace
def cod132 : List Nat := [18446744073709813760, 11165519167542972943926811612418199126017, 166020696663387078660, 36893488147419365383, 11165519167542972943926811612418199126024, 166020696663387078667, 18446744073709813774, 36893488147419365391, 202914184810823024656, 970854475828006226341102944275, 2228245, 393238, 18446744073709813783, 36893488147419365400, 393241, 818897335987279051845956665370, 11165700903004552518891532053203854360605, 55340232221129113632, 55340232221128917025, 405828369621661581346, 975187265965505057303266656293, 2228263, 393256, 822611156326496121555168657449, 67108908, 55340232221128917037, 36893488147419824174, 50331695, 720944, 393265, 818897335987279051845956665394, 1769525, 16777270, 2228279]
-- 133: SwornCourtModel.go
def cod133 : List Nat := [18446744073709813760, 917505, 131074, 981376966143485212943058141187, 11165519133308050642536334943298928377862, 147573952589694304265, 970854475828006226341102944268, 2228238, 393231, 818897335987279051845956665360, 18446744073709813779, 720916, 150994944021, 295147905179437891608, 975187265965505057303266656283, 2228253, 393246, 1966111, 818897335987279051845956665376, 18446744073709813795, 720932, 818897335987279051845956730917, 393256, 818897335987279051845956665385, 2228268]
-- 134: SwornCourtModel.told
def cod134 : List Nat := [393216, 18446744073709813761, 11165690475300192551105656120839091060738, 110680464442275201029, 969307050778899500997462261768, 2228234, 393227, 36893488147419365388, 11165706116856732502729129787164939583501, 221360928884532510736, 970854475828006226341102944275, 2228245, 55340232221128917014, 1856910962818530024118091799, 393280, 819516306043815230130825330753, 18446744073709813828, 1638469, 2228294, 393287, 819825791072083319273259663432, 18446744073709813835, 1638476, 2228301, 393294, 18446744073709813839, 36893488147419365456, 11165695690420332620236644833586900697169, 2228308, 393301, 820444761128619497558128328790, 18446744073709813849, 1638490, 2228315, 393308, 820754246156887586700562661469, 18446744073709813856, 1638497, 2228322, 393315, 821063731185155675842996994148, 18446744073709813863, 1638504, 2228329, 393322, 821373216213423764985431326827, 18446744073709813870, 1638511, 2228336, 970854475828006226341102944369, 2228339]
-- 135: SwornCourtModel.climb
def cod135 : List Nat := [0, 55340232221129113601, 55340232221128916994, 503316483, 295147905179404337157, 36893488147419496456, 55340232221128917001, 55340232221128917002, 18446744073709813771, 221360928884532576268, 15, 239807672958225481744, 1660944403, 1769493, 55340232221146087446, 36893488147420413977, 18446744073709813788, 55340232221129113629, 55340232221128917022, 1881567895518408933407, 36893488147419496482, 55340232221128917027, 1638436, 1660944421, 1106804644422624608295, 393258, 820444761128619497558128328747, 55340232221128917038, 1638447, 1106804644422607765552, 36893488147419496499, 393268, 820444761128619497558128328757, 55340232221128917048, 1638457, 36893488147419496506, 55340232221128917051, 1638460, 16777277, 720958, 36893488147419496511, 393280, 820444761128619497558128328769, 55340232221128917060, 1638469, 1638470, 977677435906657747015, 36893488147419496522, 55340232221128917067, 1638476, 16777293, 720974, 1088357900348864856143, 36893488147419496530, 393299, 820444761128619497558128328788, 55340232221128917079, 1638488, 1638489, 1769562, 36893488147419496539, 55340232221128917084, 1638493, 1660944478, 1844674407371006672992, 393315, 820754246156887586700562661476, 55340232221128917095, 1638504, 1844674407370989830249, 36893488147419496556, 393325, 820754246156887586700562661486, 55340232221128917105, 1638514, 36893488147419496563, 55340232221128917108, 1638517, 16777334, 721015, 36893488147419496568, 393337, 820754246156887586700562661498, 55340232221128917117, 1638526, 1638527, 1715547198855039811712, 36893488147419496579, 55340232221128917124, 1638533, 16777350, 721031, 1826227663297246920840, 36893488147419496587, 393356, 820754246156887586700562661517, 55340232221128917136, 1638545, 1638546, 1769619, 309485065161577289870868628, 332041393326773239959, 2162842]
-- 136: SwornCourtModel.findKin
def cod136 : List Nat := [393216, 18446744073709813761, 393218, 830657767061466439258461306883, 11165716517933930680497493297582055948294, 393225, 36893488147419365386, 393227, 830967252089734528400895639564, 11165716517933930680497493297582055948303, 393234, 1660944403, 831276737118002617543330037781, 393240, 18446744073726328857, 831586222146270706685764370458, 29, 55340232221129113630, 31, 73786976294838665248, 73786976294838468642, 393252, 819206821015547140988390998053, 1328165573307139227688, 393259, 830657767061466439258461306924, 73786976294838468655, 1638449, 393266, 830967252089734528400895639603, 73786976294838468662, 1638456, 720953, 92233720368548216890, 92233720368548020284, 393278, 831276737118002617543329972287, 737869762948433576002, 16777285, 903890459611769339974, 92233720368548020297, 393291, 831276737118002617543329972300, 885443715538076434511, 55340232221128917074, 16777299, 720980, 903890459611769339989, 55340232221128917080, 55340232221129113689, 393306, 92233720368548020315, 393309, 831276737118002617543329972318, 1051464412201495953505, 73786976294838468708, 1088357900348864856166, 393321, 831586222146270706685764305002, 831586222146270706685764370541, 393328, 92233720368548020337, 393331, 831276737118002617543329972340, 1235931852938591469687, 92233720368548020346, 1272825341085960372348, 393343, 831276737118002617543329972352, 831276737118002617543330037891, 73786976294855639174, 368934881474192343177, 393356, 831276737118002617543329972365, 134217872, 1438846037749430091922, 16777365, 1457292781823055888534, 153, 73786976294838665370, 393372, 73786976294838468765, 1567973246265313001631, 18446744073726328994, 1604866734412732301475, 393382, 831276737118002617543329972391, 831276737118002617543330037930, 393389, 73786976294838468782, 1715547198854989414576, 18446744073726329011, 1752440687002408714420, 393399, 831586222146270706685764305080, 831586222146270706685764370619, 393406, 73786976294838468799, 2066035336255487672513, 393412, 831586222146270706685764305093, 18446744073709813960, 2066035336255470960841, 393420, 831586222146270706685764305101, 36893488147419365584, 2066035336255470960849, 55340232221128917204, 16777429, 2066035336255487738070, 16777433, 2084482080329180643546, 221, 831895707174538795828198703326, 2162913]
-- 137: SwornCourtModel.kin
def cod137 : List Nat := [393216, 18446744073709813761, 11165690475300192551105656120839091060738, 147573952589677527045, 393224, 36893488147419365385, 11165690475300192551105656120839091060746, 184467440737113407501, 969307050778899500997462261776, 2228242, 55340232221128917011, 917524, 131093, 985400271271162698819736633366, 11165519133308050642536334943298928377881, 332041393326789820444, 970854475828006226341102944287, 2228257, 393250, 18446744073709813795, 36893488147419365412, 11165711320565231804717661780824031559717, 55340232221128917032, 498062089990175785001, 393260, 831276737118002617543329972269, 719423018874673823792, 55340232221128917043, 16777268, 608742554432433160245, 393272, 831586222146270706685764304953, 719423018874673823804, 393279, 831895707174538795828198637632, 700976274800964075587, 16777286, 719423018874673823815, 74, 2228299]
-- 138: SwornCourtModel.feed
def cod138 : List Nat := [18446744073709813760, 917505, 16908290, 989423576398840184713259450371, 11165519133308050642536334943298928377862, 147573952589694304265, 970854475828006226341102944268, 2228238, 393231, 823230126383032299840037322768, 18446744073709813779, 720916, 4026531861, 295147905179437891608, 971163960837827571409861279771, 2228253, 18446744073709813790, 16777247, 18446744073710272544, 73786976294838665249, 73786976294838468643, 793209995169545388069, 393256, 822920641354764210697602990121, 393260, 823230126383032299840037322797, 36893488147419430960, 134217777, 73786976294838468659, 36893488147419824181, 18446744073710403638, 989733061408661529786128203831, 55340232221129441338, 983099, 1769532, 393277, 1966142, 823230126383032299840037322815, 16777282, 720963, 823230126383032299840037388356, 309485083608321363580420167, 368934881474192343114, 393293, 823230126383032299840037322830, 2228305]
-- 139: SwornCourtModel.hasKinds
def cod139 : List Nat := [262144, 147573952589677527041, 262148, 16777221, 147573952589677592582, 262153, 134217738, 184467440737113473036, 16777231, 202914184810806378512, 19, 2228244]
-- 140: SwornCourtModel.placeOf
def cod140 : List Nat := [262144, 73786976294856097793, 18446744073709813764, 516508834063868755973, 262152, 16777225, 202914184810823024650, 67108877, 18446744073709813774, 720911, 516508834063868755984, 262163, 134217748, 332041393326789885974, 134217753, 18446744073709813787, 720924, 516508834063868755997, 262176, 134217761, 461168601842790301731, 167772198, 262184, 720937, 516508834063868756010, 150994989, 262191, 720944, 2228273]
-- 141: SwornCourtModel.atFirst
def cod141 : List Nat := [262144, 73786976294856097793, 201326596, 424275113695320997894, 262153, 16777226, 184467440737096695819, 262158, 67108879, 221360928884532576272, 16777235, 424275113695320997908, 262167, 33554456, 313594649253080334361, 33554460, 424275113695320997917, 262176, 134217761, 405828369621628092451, 167772198, 424275113695320997928, 43, 2228268]
-- 142: SwornCourtModel.ruleOn
def cod142 : List Nat := [18446744073709813760, 11165519301946741979160190748353767014401, 73786976294838665220, 6, 92233720368548216839, 92233720368548020233, 393227, 823849096439568478124905988108, 627189298506176266255, 393234, 824468066496104656409774653459, 335544342, 92233720368548020248, 36893488147419824154, 18446744073709813787, 36893488147419365404, 11165519280391420530131774800815184019485, 720928, 1638433, 110680464442257768482, 393252, 824158581467836567267340320805, 92233720368548020264, 1638442, 55340232221128917035, 553402322211354837036, 110680464442257571887, 553402322211321217073, 110680464442257571892, 571849066284997410870, 73786976294838468665, 73786976294838665275, 92233720368565190717, 92233720368549068864, 73786976294838468675, 2228293]
-- 143: SwornCourtModel.here
def cod143 : List Nat := [393216, 832205192202806884970632970241, 393220, 823230126383032299840037322757, 350488137400532992008, 393227, 822920641354764210697602990092, 393231, 832205192202806884970632970256, 1638419, 536870932, 350488137400499437590, 393241, 1966106, 832205192202806884970632970267, 16777246, 720927, 832205192202806884970633035808, 1310755, 393254, 832205192202806884970632970279, 393258, 823230126383032299840037322795, 553402322211338059822, 393265, 822920641354764210697602990130, 393269, 832205192202806884970632970294, 1638457, 571849066284997410874, 18446744073726328893, 2228286]
-- 144: SwornCourtModel.fails
def cod144 : List Nat := [393216, 36893488147419365377, 823539611411300388982471720962, 18446744073709813765, 2228230]
-- 145: SwornCourtModel.readWord
def cod145 : List Nat := [393216, 11165732122719628160180601825363174424577, 2097156, 393221, 131078, 832514677231074974113067368455, 393226, 393227, 832205192202806884970632970252, 832824162259343063255501701135, 393234, 832824162259343063255501635603, 393238, 823230126383032299840037322775, 1033017668127786401818, 393245, 822920641354764210697602990110, 393249, 832824162259343063255501635618, 1638437, 917542, 994994306575624395951798681639, 995303791585445741020942893098, 11165519133308050642536334943298928377901, 1033017668127736004656, 393267, 393268, 832514677231074974113067302965, 995613276595268763809220853816, 608742554432500334651, 608742554432500203580, 995922761605105208372345634879, 885443715538059788354, 996232246614909776225523400773, 393288, 832514677231074974113067302985, 36893488147419889740, 393293, 822920641354764210697602990158, 393297, 832824162259343063255501635666, 1638485, 917590, 786519, 994994306575624395951798681688, 18446744073710338139, 16908380, 786525, 832514677231074974113067368542, 393313, 1966178, 832824162259343063255501635683, 16777318, 720999, 832824162259343063255501701224, 184467440737096826987, 2162798]
-- 146: SwornCourtModel.code
def cod146 : List Nat := [996232246614909776225523400704, 996232246614909776225523400707, 262150, 917511, 997470186654195156501580152840, 18446744073710338059, 36893488147419889676, 18446744073709813773, 917518, 786447, 997470186654195156501580152848, 18446744073710338067, 36893488147419889684, 36893488147419365397, 917526, 786455, 997470186654195156501580152856, 18446744073710338075, 92233720368548282396, 55340232221128917022, 424275113695337578527, 92233720368548085794, 571849066284997410852, 996232246614909776225523400743, 92233720368548085802, 36893488147419889708, 55340232221128917037, 917550, 786479, 997470186654195156501580152880, 18446744073710338099, 92233720368548282420, 73786976294838468662, 664082786653561749560, 92233720368548085819, 811656739243221581885, 996232246614909776225523400768, 92233720368548085827, 36893488147419889733, 73786976294838468678, 917576, 786505, 997470186654195156501580152906, 18446744073710338125, 2293838]
-- 147: SwornCourtModel.ruleOf
def cod147 : List Nat := [393216, 832514677231074974113067302913, 18446744073710075908, 18446744073709879301, 1845493766, 1694498824, 1694498826, 1677721612, 14, 11165519248692418399235846368900713676815, 258254417031951745042, 258254417031951613971, 22, 885443715538059788311, 18446744073709879322, 1660944411, 1862271005, 1962934303, 1845493793, 1946157091, 11165519248692418399235846368900713676837, 461168601842756812840, 461168601842756681769, 16777260, 885443715538059788333, 18446744073709879344, 1795162161, 1761607731, 1845493813, 55, 56, 11165519248692418399235846368900713676857, 664082786653561880636, 664082786653561749565, 33554496, 885443715538059788353, 18446744073709879364, 1744830533, 1627390023, 1811939401, 1711276107, 77, 11165519248692418399235846368900713676878, 866996971464366948433, 866996971464366817362, 50331733, 885443715538059788374, 18446744073726328921, 55340232221129113690, 18446744073709879387, 1711276124, 1694498910, 1962934368, 1677721698, 100, 11165519248692418399235846368900713676901, 1106804644422591119464, 1106804644422590988393, 67108972, 1733993942928699162733, 18446744073709879408, 1711276145, 1627390067, 1811939445, 1929379959, 1694498937, 11165519248692418399235846368900713676923, 1309718829233396187262, 1309718829233396056191, 83886210, 1733993942928699162755, 18446744073709879430, 1811939463, 1862271113, 1929379979, 1946157197, 143, 11165519248692418399235846368900713676944, 1512633014044201255059, 1512633014044201123988, 100663447, 1733993942928699162777, 18446744073709879452, 1627390109, 1728053407, 1694498977, 163, 164, 11165519248692418399235846368900713676965, 1715547198855006322856, 1715547198855006191785, 117440684, 1733993942928699162798, 55340232221128917169, 55340232221129113778, 18446744073709879475, 1711276212, 1761607862, 1845493944, 1694499002, 188, 11165519248692418399235846368900713676989, 1955354871813230493888, 1955354871813230362817, 134217924, 2379629985508533469382, 18446744073709879497, 1929380042, 1744830668, 1862271182, 1912602832, 1946157266, 11165519248692418399235846368900713677012, 2158269056624035561687, 2158269056624035430616, 150995163, 2379629985508533469405, 18446744073709879520, 1862271201, 1627390179, 1946157285, 1744830695, 233, 11165519248692418399235846368900713677034, 2361183241434840629485, 2361183241434840498414, 167772401, 2379629985508533469427, 55340232221128917238, 2228471]
-- 148: SwornCourtModel.readNumber
def cod148 : List Nat := [393216, 11165732122719628160180601825363174424577, 36893488147419561988, 36893488147419365381, 917510, 1000255551742587262119297875975, 1000565036752408607188173651978, 11165519133308050642536334943298928377869, 276701161105661165584, 393235, 16777236, 393237, 832205192202806884970632970262, 11165737331499967803139783549357503348761, 2228252, 393245, 393246, 832205192202806884970632970271, 833133647287611152397936033826, 393253, 38, 833443132315879241540370366503, 393258, 832205192202806884970632970283, 393262, 823230126383032299840037322799, 1254378597012301021234, 393269, 822920641354764210697602990134, 393273, 832205192202806884970632970298, 1638461, 917566, 1000255551742587262119297876031, 1000565036752408607188173652034, 11165519133308050642536334943298928377925, 1254378597012250624072, 393291, 393292, 832205192202806884970632970317, 393296, 833133647287611152397935968337, 18446744073710272596, 67108949, 1069911156275205505110, 167772249, 393307, 833443132315879241540370301020, 36893488147419824223, 393312, 822920641354764210697602990177, 393316, 832205192202806884970632970341, 1638504, 721001, 805306474, 18446744073710272620, 1106804644422574407789, 393328, 833443132315879241540370301041, 833443132315879241540370366580, 393335, 1966200, 832205192202806884970632970361, 16777340, 721021, 832205192202806884970633035902, 405828369621611446401, 393348, 832205192202806884970632970373, 393352, 833133647287611152397935968393, 18446744073710272652, 67109005, 1457292781823122866318, 393361, 833443132315879241540370301074, 18446744073709813909, 1567973246265396953238, 393369, 33554586, 393371, 833133647287611152397935968412, 11165737331499967803139783549357503348895, 1586419990339022749858, 165, 2228390]
-- 149: SwornCourtModel.readRule
def cod149 : List Nat := [393216, 11165726925350929284400770308605166813185, 393220, 11165752926141984600918486104615114047493, 36893488147419561992, 36893488147419365385, 239807672958275616778, 393229, 16777230, 393231, 832205192202806884970632970256, 11165737331499967803139783549357503348755, 2228246, 393239, 393240, 832824162259343063255501635609, 832205192202806884970633035804, 31, 55340232221129113632, 36893488147419365409, 11165519276587540274399175817045173731362, 608742554432416317477, 393256, 50331689, 11165742528868666678901168322041902071850, 73786976294838665261, 73786976294838468655, 553402322211371548721, 73786976294838468660, 2228278, 393271, 833443132315879241540370300984, 55340232221129113659, 393276, 36893488147419365437, 719423018874673627198, 36893488147419365441, 16777282, 756316507022109573187, 1660944454, 922337203685478891592, 36893488147419365451, 50331724, 866996971464350105677, 36893488147419365456, 67108945, 903890459611785986130, 16777301, 922337203685478891606, 167755382873, 11165742528868666678901168322041902071900, 73786976294838665311, 393313, 825087036552640834694643318882, 335544421, 18446744073709813863, 36893488147419824232, 36893488147419365481, 55340232221128917098, 11165519280391420530131774800815184019563, 721006, 393327, 833443132315879241540370301040, 1769587, 73786976294838468724, 2228342]
-- 150: SwornCourtModel.readPart
def cod150 : List Nat := [393216, 11165726925350929284400770308605166813185, 393220, 832514677231074974113067302917, 1711276040, 1912602634, 1862270988, 1828716558, 16, 11165519248692418399235846368900713676817, 332041393326773174292, 332041393326773043221, 393240, 16777241, 393242, 832205192202806884970632970267, 11165737331499967803139783549357503348766, 2228257, 18446744073709813794, 134217763, 498062089990175850533, 393256, 67108905, 393258, 832205192202806884970632970283, 11165737331499967803139783549357503348782, 2228273, 393266, 393267, 832824162259343063255501635636, 832205192202806884970633035831, 393274, 167755382843, 11165742528868666678901168322041902071870, 36893488147419562049, 36893488147419365442, 719423018874757513283, 36893488147419365446, 2228295, 18446744073709813832, 1033017668127819890761, 393292, 833443132315879241540370301005, 393296, 824777551524372745552208986193, 18446744073709813844, 16777301, 18446744073710272598, 1638487, 1033017668127803179096, 393307, 50331740, 393309, 833133647287611152397935968350, 11165737331499967803139783549357503348833, 2228324, 393317, 824777551524372745552208986214, 18446744073709813865, 393322, 833443132315879241540370301035, 1769582, 111, 55340232221129113712, 55340232221128917105, 335544434, 1438846037749396537460, 393335, 825087036552640834694643318904, 335544443, 18446744073709813885, 36893488147419824254, 55340232221128917119, 721024, 18446744073726328961, 1769602, 55340232221146087555, 1180591620717412614278, 393353, 11165732122719628160180601825363174424714, 989855885, 1660206966633860825231, 393362, 18446744073709813907, 11165747728773285725157101331930815987860, 36893488147419562135, 36893488147419365528, 1438846037749430026393, 36893488147419365532, 2228381, 393374, 1966239, 832205192202806884970632970400, 16777379, 721060, 832205192202806884970633035941, 168, 2228393]
-- 151: SwornCourtModel.read
def cod151 : List Nat := [393216, 825396521580908923837077651457, 92233720368632758276, 975187265965505057303266656263, 2228233, 393226, 18446744073726328843, 823539611411300388982471720972, 393231, 16, 832205192202806884970633035793, 20, 18446744073710010389, 22, 36893488147419562007, 393240, 18446744073709813785, 11165721727982230408639385535920919085082, 36893488147419562013, 18446744073726984222, 36893488147419365409, 461168601842756681762, 393253, 11165732122719628160180601825363174424614, 276701161105694720041, 393260, 45, 823230126383032299840037388334, 36893488147419365425, 627189298506209755186, 18446744073877323829, 36893488147419365431, 18446744073710272568, 2228281, 393274, 18446744073709813819, 823849096439568478124906053692, 63, 55340232221129113664, 55340232221128917057, 393282, 823849096439568478124905988163, 977677435906657747014, 393289, 824158581467836567267340320842, 55340232221128917069, 393294, 824777551524372745552208986191, 55340232221128917074, 1638483, 1769556, 55340232221146087509, 719423018874673823832, 91, 55340232221129113692, 55340232221128917085, 2684354654, 1254378597012301021281, 393316, 824468066496104656409774653541, 55340232221128917096, 393321, 825087036552640834694643318890, 55340232221128917101, 1638510, 1769583, 55340232221146087536, 1014570924054026649715, 393334, 823849096439568478124905988215, 2228346]
-- 152: SwornCourtModel.fault
def cod152 : List Nat := [393216, 823539611411300388982471655425, 2228228]
-- 153: SwornCourtModel.law
def cod153 : List Nat := [18446744073709813760, 917505, 131074, 1007683191978299543768055087107, 11165519133308050642536334943298928377862, 516508834063868559369, 36893488147419365388, 917517, 131086, 18446744073709813775, 350488137400516149264, 18446744073709813779, 167772180, 350488137400549769238, 18446744073709813785, 11165519276587540274399175817045173731354, 350488137400482594845, 970235505789916790452239138848, 368934881474192343075, 131110, 11165519133308050642536334943298928377895, 516508834063868559402, 55340232221128917037, 917550, 131119, 1007992676988120889004367478832, 11165519133308050642536334943298928377907, 553402322211304439862, 970854475828006226341102944313, 2228283, 393276, 18446744073709813821, 36893488147419365438, 55340232221128917055, 11165758143798044840562469798641047765056, 2228291]
-- 154: SwornCourtModel.charge
def cod154 : List Nat := [393216, 36893488147419365377, 11165690475300192551105656120839091060738, 147573952589677527045, 393224, 55340232221128917001, 11165690475300192551105656120839091060746, 184467440737113407501, 969307050778899500997462261776, 2228242, 18446744073709813779, 917524, 131093, 970235505789916790452239138838, 11165519133308050642536334943298928377881, 424275113695320801308, 36893488147419365407, 55340232221128917024, 424275113695320866849, 393252, 73786976294838468645, 11165706116856732502729129787164939583527, 461168601842756681770, 970854475828006226341102944301, 2228271, 393264, 825396521580908923837077651505, 335544372, 571849066285014057014, 971163960837827571409861279801, 2228283, 393276, 825396521580908923837077651517, 92233720368548216896, 393282, 825706006609177012979511984195, 92233720368548020294, 18446744073709813832, 1769545, 393290, 826015491637445102121946316875, 92233720368548020302, 36893488147419365456, 1769553, 393298, 826324976665713191264380649555, 92233720368548020310, 55340232221128917080, 1769561, 393306, 826634461693981280406814982235, 92233720368548020318, 73786976294838468704, 1769570, 393315, 826943946722249369549249314916, 92233720368548020327, 393321, 818897335987279051845956665450, 1769581, 393326, 827253431750517458691683647599, 92233720368548020338, 18446744073726328948, 1769589, 393334, 1966199, 825396521580908923837077651576, 16777339, 721020, 825396521580908923837077717117, 92233720368548020352, 2228354]
-- 155: SwornCourtModel.ruleFor
def cod155 : List Nat := [393216, 36893488147419365377, 36893488147419365378, 11165519276587540274399175817045173731331, 184467440737096630278, 393225, 825706006609177012979511984138, 18446744073709813773, 1638414, 202914184810806378511, 18, 393235, 826634461693981280406814982164, 18446744073709813783, 1638424, 11165758143798044840562469798641047765017, 2228252]
-- 156: SwornCourtModel.isFound
def cod156 : List Nat := [393216, 827253431750517458691683647489, 18446744073709813764, 1638405, 239807672958258839558, 393225, 827253431750517458691683647498, 18446744073709813773, 1638414, 36893488147419365391, 239807672958292459536, 16777235, 258254417031935033364, 23, 2228248]
-- 157: SwornCourtModel.barredBy
def cod157 : List Nat := [393216, 821373216213423764985431326721, 18446744073709813764, 1638405, 202914184810839736326, 393225, 821373216213423764985431326730, 18446744073709813773, 1638414, 110680464442257571855, 424275113695404752913, 110680464442257571860, 393238, 819516306043815230130825330711, 18446744073709813786, 1638427, 18446744073710272540, 393245, 117440542, 32, 92233720368548020257, 11165758143798044840562469798641047765027, 461168601842790301734, 16777257, 2228266, 18446744073709813803, 55340232221128917036, 571849066284997279789, 18446744073709813808, 73786976294838468657, 608742554432433160243, 33554486, 2228279, 393272, 18446744073709813817, 55340232221128917050, 11165711320565231804717661780824031559739, 393278, 831276737118002617543329972287, 393282, 831895707174538795828198637635, 940783947759188246598, 393289, 50331722, 75, 92233720368548020300, 11165758143798044840562469798641047765070, 16777297, 940783947759205089362, 16777301, 959230691832897994838, 89, 720986, 147573952589676871771, 393309, 831276737118002617543329972318, 1217485108864865075297, 147573952589676675172, 393318, 33554535, 104, 92233720368548020329, 11165758143798044840562469798641047765099, 1217485108864898695278, 50331761, 2228338, 393331, 67108980, 117, 92233720368548020342, 11165758143798044840562469798641047765112, 16777339, 1604866734412748947580, 393343, 393344, 819825791072083319273259663489, 18446744073709813892, 1638533, 393350, 819825791072083319273259663495, 55340232221128917130, 1638539, 110680464442257571980, 11165700903004552518891532053203854360718, 1604866734412765659281, 67109012, 2228373, 393366, 83886231, 152, 92233720368548020377, 11165758143798044840562469798641047765147, 166020696663386423454, 160, 184467440737095975073, 184467440737095778467, 393381, 827562916778785547834117980326, 2748564866982774702249, 393388, 827872401807053636976552313005, 184467440737095778480, 1638578, 18446744073709813939, 2342736497361131012276, 393399, 828181886835321726118986645688, 184467440737095778491, 1638589, 36893488147419365566, 2342736497361114235071, 393410, 828491371863589815261420978371, 184467440737095778502, 1638600, 129127208515967123657, 2342736497361181343947, 393422, 393423, 828181886835321726118986645712, 184467440737095778515, 1638613, 129127208515967123670, 11165789341957799032841570367335527940312, 2342736497361114169563, 16777438, 2361183241434823917791, 226, 202914184810805526755, 202914184810805330149, 2711671378835305201895, 110680464442257572074, 393452, 828491371863589815261420978413, 184467440737095778544, 1638642, 18446744073710272755, 917748, 131317, 166020696663386226934, 16777464, 18446744073710272761, 917754, 11165519133308050642536334943298928378107, 2711671378835305201918, 83886337, 2228482, 184467440737112948995, 1752440687002408714502, 393481, 100663562, 268, 92233720368548020493, 11165758143798044840562469798641047765263, 184467440737095975186, 276, 202914184810805526805, 202914184810805330199, 393497, 825396521580908923837077651738, 3523328118078575870237, 393504, 826015491637445102121946317089, 202914184810805330212, 1638694, 18446744073709814055, 3486434629931123212584, 393515, 833752617344147330682804633900, 202914184810805330223, 1638705, 33554738, 3486434629931139989811, 110680464442257572150, 393528, 834062102372415419825238966585, 202914184810805330236, 1638718, 18446744073710272831, 917824, 131393, 184467440737095778626, 16777540, 18446744073710272837, 917830, 11165519133308050642536334943298928378183, 3486434629931106369866, 100663629, 2228559, 202914184810822500688, 2896138819572400914771, 342, 2228567]
-- 158: SwornCourtModel.barredFrom
def cod158 : List Nat := [393216, 18446744073709813761, 36893488147419365378, 393219, 826015491637445102121946316804, 36893488147419365383, 1638408, 393225, 826324976665713191264380649482, 36893488147419365389, 1638414, 393231, 826634461693981280406814982160, 36893488147419365395, 1638420, 55340232221128917013, 73786976294838468630, 11165784144589100157153972570946051309592, 2228251]
-- 159: SwornCourtModel.decide
def cod159 : List Nat := [393216, 833752617344147330682804633601, 18446744073709813764, 36893488147419365381, 1769478, 393223, 834062102372415419825238966280, 18446744073709813771, 55340232221128917004, 1769485, 2162702]
-- 160: SwornCourtModel.work
def cod160 : List Nat := [0, 36893488147419561985, 36893488147419365378, 393219, 825396521580908923837077651460, 332041393326823440391, 393226, 36893488147419365387, 12, 18446744073726328845, 11165773749851702405520522561135164325902, 393233, 834371587400683508967673298962, 36893488147419365397, 22, 1769495, 36893488147436535832, 36893488147420413979, 30, 36893488147419562015, 36893488147419365408, 393249, 827562916778785547834117980194, 2933032307719870218277, 393256, 828491371863589815261420978217, 36893488147419365420, 1638445, 18446744073709813806, 2933032307719886995503, 393266, 828181886835321726118986645555, 36893488147419365430, 1638455, 55340232221129113656, 393273, 834681072428951598110107631674, 36893488147419365437, 62, 1769535, 393280, 827872401807053636976552312897, 36893488147419365444, 1638469, 2527203938098243240006, 393289, 393290, 827872401807053636976552312907, 36893488147419365454, 1638479, 55340232221128917072, 393297, 828491371863589815261420978258, 36893488147419365461, 1638486, 18446744073709813847, 11165778947220401281318800821966898266200, 1106804644422658097243, 16777310, 1125251388496283959391, 98, 73786976294838665315, 393317, 834681072428951598110107631718, 36893488147419365481, 73786976294838468714, 1272825341085960175724, 111, 1475739525896765440112, 393331, 16777332, 393333, 829110341920125993546289643638, 36893488147419365497, 1638522, 393339, 826634461693981280406814982268, 55340232221128917119, 1638528, 11165758143798044840562469798641047765121, 1769604, 393349, 834371587400683508967673299078, 55340232221128917129, 2031754, 1638539, 393356, 834681072428951598110107631757, 36893488147419365520, 1638545, 721042, 1769619, 393364, 834371587400683508967673299093, 55340232221128917144, 1638553, 393370, 55340232221128917147, 156, 11165794539326497908621401884093552328861, 1900014639592118550688, 16777379, 1918461383665794678948, 167, 92233720368548217000, 393386, 833752617344147330682804633771, 55340232221128917166, 1638575, 2508757194024516911280, 92233720368548020403, 2158269056624035430581, 393400, 828800856891857904403855311033, 36893488147419365564, 1704125, 2508757194024500134078, 393409, 55340232221128917186, 393411, 55340232221128917188, 18446744073709813957, 11165789341957799032841570367335527940294, 2324289753287404617929, 50331852, 2416523473655952572621, 92233720368548020432, 2398076729582242824402, 16777429, 2416523473655952572630, 33554649, 393434, 828491371863589815261420978395, 36893488147419365598, 1638623, 11165773749851702405520522561135164326112, 2896138819572400914659, 393446, 833752617344147330682804633831, 55340232221128917226, 1638635, 2896138819572417495276, 393455, 55340232221128917232, 393457, 55340232221128917234, 18446744073709814003, 11165789341957799032841570367335527940340, 2785458355130143408375, 50331898, 2803905099203853156603, 33554686, 393471, 828491371863589815261420978432, 36893488147419365635, 1638660, 11165773749851702405520522561135164326149, 36893488147436536072, 368934881474192343307, 2162958]
-- 161: SwornCourtModel.lackOf
def cod161 : List Nat := [393216, 18446744073709813761, 2, 11165794539326497908621401884093552328707, 393222, 834371587400683508967673298951, 18446744073709813770, 1638411, 18446744073710272524, 36893488147419561997, 36893488147419365390, 258254417032018722831, 36893488147419365394, 276701161105644584979, 22, 2228247]
-- 162: SwornCourtModel.barred
def cod162 : List Nat := [393216, 18446744073709813761, 11165690475300192551105656120839091060738, 147573952589677527045, 393224, 36893488147419365385, 11165763355114304653923966039471058911242, 184467440737113407501, 969307050778899500997462261776, 2228242, 393235, 55340232221128917012, 11165706116856732502729129787164939583509, 332041393326773043224, 393243, 73786976294838468636, 11165706116856732502729129787164939583518, 368934881474208923681, 970854475828006226341102944292, 2228262, 393255, 73786976294838468648, 11165768552483003529703797556229720834090, 393261, 18446744073709813806, 36893488147419365423, 55340232221128917040, 73786976294838468657, 11165778947220401281318800821966898266163, 2228278]
-- 163: SwornCourtModel.hasSworn
def cod163 : List Nat := [0, 55340232221129113601, 2, 73786976294838665219, 73786976294838468613, 393223, 827562916778785547834117980168, 516508834063918956555, 55340232221128917006, 405828369621628026895, 393234, 827872401807053636976552312851, 73786976294838468630, 1638424, 18446744073709813785, 442721857769047195674, 393245, 828181886835321726118986645534, 73786976294838468641, 1638435, 36893488147419365412, 442721857769047195685, 16777256, 461168601842740101161, 44, 55340232221129113645, 73786976294855639086, 73786976294839517233, 55340232221128917044, 2228277]
-- 164: SwornCourtModel.swornToday
def cod164 : List Nat := [0, 36893488147419561985, 2, 55340232221129113603, 55340232221128916996, 393221, 827562916778785547834117980166, 534955578137628508169, 36893488147419365388, 393229, 827872401807053636976552312846, 55340232221128917009, 1638418, 18446744073709813779, 442721857769047195668, 393239, 828491371863589815261420978200, 55340232221128917019, 1638428, 393245, 818897335987279051845956665374, 442721857769047195681, 16777252, 461168601842740101157, 40, 720937, 36893488147419562026, 55340232221146087467, 73786976294839517230, 36893488147419365425, 2228274]
-- 165: SwornCourtModel.tell
def cod165 : List Nat := [393216, 827872401807053636976552312833, 393220, 827562916778785547834117980165, 18446744073709813768, 1769481, 393226, 828181886835321726118986645515, 393230, 827562916778785547834117980175, 36893488147419365394, 1769491, 393236, 828491371863589815261420978197, 393240, 827562916778785547834117980185, 393244, 818897335987279051845956665373, 1769504, 393249, 828800856891857904403855310882, 393253, 827562916778785547834117980198, 41, 1835050, 393259, 829110341920125993546289643564, 393263, 827562916778785547834117980208, 18446744073709813811, 608742554432466649140, 55, 700976274800964272184, 393275, 18446744073709813820, 393277, 818897335987279051845956665406, 11165695690420332620236644833586900697153, 1769540, 393285, 1966150, 827562916778785547834117980231, 16777290, 720971, 827562916778785547834118045772, 2162767]
-- 166: SwornCourtModel.swear
def cod166 : List Nat := [393216, 18446744073709813761, 11165690475300192551105656120839091060738, 147573952589677527045, 393224, 36893488147419365385, 11165763355114304653923966039471058911242, 184467440737113407501, 969307050778899500997462261776, 2228242, 393235, 393236, 818897335987279051845956665365, 11165768552483003529703797556229720834072, 393243, 833752617344147330682804633628, 36893488147419365407, 1638432, 756316507022109507617, 393252, 18446744073709813797, 36893488147419365414, 11165799741767037125353436387113439658023, 756316507022109507626, 393261, 18446744073709813806, 11165804939135736001114821159797788049455, 393266, 821063731185155675842996994099, 18446744073709813814, 1638455, 756316507022143127608, 393275, 18446744073709813820, 36893488147419365437, 393278, 818897335987279051845956665407, 393282, 818897335987279051845956665411, 11165778947220401281318800821966898266182, 793209995169595719753, 975187265965505057303266656332, 2228302, 393295, 829419826948394082688723976272, 1677721683, 903890459611785986133, 971163960837827571409861279832, 2228314, 393307, 18446744073709813852, 36893488147419365469, 11165810481389578061662902486425967853662, 393313, 1966178, 829419826948394082688723976291, 16777318, 720999, 829419826948394082688724041832, 393323, 393324, 818897335987279051845956665453, 11165768552483003529703797556229720834160, 393331, 828800856891857904403855310964, 393335, 827562916778785547834117980280, 16777339, 18446744073710272636, 393341, 833752617344147330682804633726, 36893488147419365505, 1638530, 16777347, 1420399293675653431428, 16777351, 1438846037749346336904, 139, 1835148, 393357, 834371587400683508967673299086, 36893488147419365521, 1638546, 2228371]
-- 167: SwornCourtModel.close
def cod167 : List Nat := [393216, 18446744073709813761, 11165763355114304653923966039471058911234, 110680464442275201029, 969307050778899500997462261768, 2228234, 393227, 393228, 818897335987279051845956665357, 11165768552483003529703797556229720834064, 393235, 833752617344147330682804633620, 18446744073709813783, 1638424, 313594649253063491609, 975187265965505057303266656284, 2228254, 393247, 18446744073726328864, 18446744073709813793, 11165810481389578061662902486425967853602, 393253, 18446744073709813798, 11165815683830117278376490245371944304679, 2228266]
-- 168: SwornCourtModel.find
def cod168 : List Nat := [393216, 18446744073709813761, 11165763355114304653923966039471058911234, 110680464442275201029, 969307050778899500997462261768, 2228234, 393227, 393228, 818897335987279051845956665357, 11165768552483003529703797556229720834064, 393235, 833752617344147330682804633620, 18446744073709813783, 1638424, 16777241, 387381625547918540826, 393245, 827253431750517458691683647518, 18446744073709813793, 1638434, 424275113695354355747, 975187265965505057303266656294, 2228264, 393257, 827253431750517458691683647530, 18446744073709813805, 393262, 818897335987279051845956665391, 1769522, 51, 36893488147419562036, 53, 55340232221129113654, 55340232221128917047, 393272, 827562916778785547834117980217, 1033017668127786401852, 36893488147419365439, 393280, 827872401807053636976552312897, 55340232221128917060, 1638469, 940783947759221801030, 393289, 828181886835321726118986645578, 55340232221128917069, 1638478, 18446744073709813839, 940783947759205089360, 16777299, 959230691832897994836, 87, 720984, 36893488147419562073, 55340232221146087514, 608742554432416514141, 36893488147419365472, 2228321]
-- 169: SwornCourtModel.oath
def cod169 : List Nat := [36893488147419365376, 917505, 131074, 970235505789916790452239138819, 11165519133308050642536334943298928377862, 147573952589694304265, 970854475828006226341102944268, 2228238, 393231, 393232, 818897335987279051845956665361, 11165768552483003529703797556229720834068, 18446744073709813783, 55340232221129113624, 25, 73786976294838665242, 73786976294838468636, 393246, 827562916778785547834117980191, 1069911156275205505058, 393253, 827872401807053636976552312870, 73786976294838468649, 1638443, 1033017668127769559084, 55340232221128917039, 1014570924054043230256, 36893488147419365427, 627189298506142646324, 393271, 827872401807053636976552312888, 73786976294838468667, 1638461, 996124179980317098046, 36893488147419365441, 16777282, 774763251095819124803, 393286, 828181886835321726118986645575, 73786976294838468682, 1638476, 996124179980317098061, 36893488147419365456, 33554513, 922337203685495537746, 393301, 828491371863589815261420978262, 73786976294838468697, 1638491, 996124179980317098076, 393311, 834681072428951598110107631712, 73786976294838468707, 1638501, 2228326, 309485065161577289870868583, 73786976294855639146, 295147905179354136685, 18446744073726328944, 2228337]
-- 170: SwornCourtModel.state
def cod170 : List Nat := [393216, 18446744073709813761, 11165763355114304653923966039471058911234, 110680464442275201029, 969307050778899500997462261768, 2228234, 36893488147419365387, 917516, 393229, 826943946722249369549249314830, 18446744073709813777, 1638418, 917523, 393236, 818897335987279051845956665365, 917528, 11165519133308050642536334943298928377881, 442721857769030352924, 55340232221128917023, 917536, 131105, 989423576398840184713259450402, 11165519133308050642536334943298928377893, 479615345916466233384, 970854475828006226341102944299, 2228269, 393262, 36893488147419365423, 11165768552483003529703797556229720834096, 55340232221128917043, 2166396360021500640743456820, 393316, 833752617344147330682804633701, 18446744073709813864, 1638505, 2228330, 393323, 834062102372415419825238966380, 18446744073709813871, 1638512, 2228337, 393330, 834371587400683508967673299059, 18446744073709813878, 1638519, 2228344, 393337, 18446744073709813882, 11165815683830117278376490245371944304763, 2228350, 393343, 825706006609177012979511984256, 18446744073709813891, 1638532, 2228357, 393350, 826015491637445102121946316935, 18446744073709813898, 1638539, 2228364, 393357, 826324976665713191264380649614, 18446744073709813905, 1638546, 2228371, 393364, 826634461693981280406814982293, 18446744073709813912, 1638553, 2228378, 393371, 18446744073709813916, 157, 11165794539326497908621401884093552328862, 2228385]
-- 171: SwornCourtModel.turned
def cod171 : List Nat := [393216, 18446744073709813761, 11165706116856732502729129787164939583490, 147573952589677527045, 393224, 36893488147419365385, 11165706116856732502729129787164939583498, 184467440737113407501, 970854475828006226341102944272, 2228242, 393235, 18446744073709813780, 11165768552483003529703797556229720834069, 24, 55340232221129113625, 55340232221128917018, 393243, 825396521580908923837077651484, 534955578137628508191, 393250, 834990557457219687252541964323, 55340232221128917030, 393255, 833752617344147330682804633640, 55340232221128917035, 1638444, 1769517, 55340232221146087470, 276701161105644585009, 393268, 36893488147419365429, 11165768552483003529703797556229720834102, 57, 55340232221129113658, 59, 73786976294838665276, 73786976294838468670, 393280, 825396521580908923837077651521, 1272825341086010572868, 55340232221128917063, 393288, 826943946722249369549249314889, 73786976294838468684, 1638478, 18446744073709813839, 1180591620717479592016, 393299, 826943946722249369549249314900, 73786976294838468695, 1638489, 36893488147419365466, 1180591620717479592027, 393310, 834990557457219687252541964383, 73786976294838468706, 1638500, 393317, 833752617344147330682804633702, 73786976294838468713, 1638507, 1180591620717412483180, 16777327, 1199038364791122165872, 115, 721012, 55340232221129113717, 73786976294855639158, 664082786653545169017, 55340232221128917116, 2228349]
-- 172: SwornCourtModel.finesOf
def cod172 : List Nat := [0, 55340232221129113601, 2, 73786976294838665219, 73786976294838468613, 393223, 825396521580908923837077651464, 700976274801014472715, 393230, 826015491637445102121946316815, 73786976294838468626, 1638420, 18446744073709813781, 664082786653561815062, 393241, 833752617344147330682804633626, 73786976294838468637, 1638431, 33554464, 664082786653578592289, 55340232221128917028, 393253, 73786976294838468646, 134217768, 11165794539326497908621401884093552328746, 393261, 73786976294838468654, 150994992, 11165794539326497908621401884093552328754, 393269, 73786976294838468662, 11165815683830117278376490245371944304696, 36893488147419824187, 720956, 720957, 55340232221129113662, 73786976294855639103, 73786976294839517250, 69, 73786976294838665286, 73786976294838468680, 393290, 827562916778785547834117980235, 1457292781823106089038, 393297, 828491371863589815261420978258, 73786976294838468693, 1638487, 36893488147419365464, 1457292781823122866265, 55340232221128917084, 393309, 827872401807053636976552312926, 73786976294838468705, 1638499, 18446744073709813860, 1365059061454524776549, 393320, 833752617344147330682804633705, 393324, 828181886835321726118986645613, 73786976294838468720, 1638514, 1638515, 50331764, 1365059061454524776565, 393336, 393337, 828181886835321726118986645626, 73786976294838468733, 1638527, 167772288, 11165794539326497908621401884093552328834, 1383505805528217682053, 136, 721033, 55340232221129113738, 73786976294855639179, 737869762948383375502, 55340232221128917137, 2228370]
-- 173: SwornCourtModel.paidOf
def cod173 : List Nat := [0, 55340232221129113601, 2, 73786976294838665219, 73786976294838468613, 393223, 829729311976662171831158308872, 756316507022143127563, 55340232221128917006, 393231, 830038797004930260973592641552, 50331667, 73786976294838468628, 36893488147419824150, 1638423, 18446744073709813784, 664082786653561815065, 393244, 830038797004930260973592641565, 50331680, 73786976294838468641, 36893488147419824163, 16777252, 720933, 1638438, 36893488147419365415, 664082786653612146728, 393259, 830038797004930260973592641580, 50331695, 73786976294838468656, 36893488147419824178, 33554483, 720948, 1638453, 682529530727254720566, 57, 720954, 55340232221129113659, 73786976294855639100, 73786976294839517247, 55340232221128917058, 2228291]
-- 174: SwornCourtModel.pay
def cod174 : List Nat := [393216, 18446744073709813761, 11165690475300192551105656120839091060738, 110680464442275201029, 969307050778899500997462261768, 2228234, 36893488147419365387, 917516, 16908301, 1007992676988120889004367478798, 11165519133308050642536334943298928377873, 258254417031951613972, 970854475828006226341102944279, 2228249, 393242, 829729311976662171831158308891, 1006632990, 368934881474208989216, 971163960837827571409861279779, 2228261, 393254, 830038797004930260973592641575, 50331690, 393259, 829729311976662171831158308908, 36893488147419824175, 18446744073709813808, 1769521, 393266, 830038797004930260973592641587, 50331702, 393271, 829729311976662171831158308920, 36893488147419824187, 16777276, 720957, 393278, 818897335987279051845956665407, 1769538, 393283, 830038797004930260973592641604, 50331719, 393288, 829729311976662171831158308937, 36893488147419824204, 33554509, 720974, 36893488147419365455, 1769552, 393297, 1966162, 829729311976662171831158308947, 16777302, 720983, 829729311976662171831158374488, 393307, 393308, 818897335987279051845956665437, 11165768552483003529703797556229720834144, 393315, 18446744073709813860, 393317, 818897335987279051845956665446, 11165820906558017858935783437512439300201, 393324, 18446744073709813869, 393326, 818897335987279051845956665455, 11165826103926716734715614954270497243250, 18446744073710272629, 2228342]
-- 175: SwornCourtModel.owes
def cod175 : List Nat := [393216, 18446744073709813761, 11165690475300192551105656120839091060738, 110680464442275201029, 969307050778899500997462261768, 2228234, 393227, 36893488147419365388, 11165706116856732502729129787164939583501, 295147905179353939984, 55340232221128917011, 917524, 131093, 985400271271162698819736633366, 11165519133308050642536334943298928377881, 332041393326789820444, 970854475828006226341102944287, 2228257, 393250, 36893488147419365411, 11165768552483003529703797556229720834084, 393255, 18446744073709813800, 36893488147419365417, 11165820906558017858935783437512439300138, 73786976294838665261, 393263, 18446744073709813808, 36893488147419365425, 11165826103926716734715614954270497243186, 92233720368548216885, 55340232221128917047, 645636042579852197944, 73786976294838468667, 793209995169512030269, 55340232221128917056, 16777281, 737869762948400021570, 92233720368548020293, 793209995169512030279, 73786976294838468682, 92233720368548020300, 18446744073710272590, 2228303]
-- 176: SwornCourtModel.bound
def cod176 : List Nat := [18446744073709813760, 917505, 1124359040680946634678807494658, 1124668525690767979796186202117, 11165519133308050642536334943298928377864, 147573952589694304267, 970854475828006226341102944270, 2228240, 393233, 830348282033198350116026974226, 36893488147419562005, 393238, 18446744073709813783, 830348282033198350116027039768, 36893488147419365403, 2228252]
-- 177: SwornCourtModel.bits
def cod177 : List Nat := [0, 18446744073710010369, 2, 36893488147419561987, 36893488147419365380, 520093701, 313594649253113888775, 18446744073709813770, 262155, 36893488147419365388, 129127208515967582221, 16777230, 55340232221129375759, 720912, 18446744073710010385, 36893488147436535826, 73786976294839517205, 18446744073709813784, 2228249]
-- 178: SwornCourtModel.findCallable
def cod178 : List Nat := [393216, 835609527513755865537410629633, 18446744073709813764, 1638405, 36893488147419561990, 393223, 835919012542023954679844962312, 18446744073709813771, 12, 1769485, 14, 55340232221129113615, 55340232221128917008, 393233, 819206821015547140988390998034, 1069911156275205505045, 393240, 835919012542023954679844962329, 18446744073709813788, 1638429, 167772190, 1069911156275205505056, 393251, 55340232221128917028, 36893488147419365413, 11165799741767037125353436387113439658022, 1033017668127752781865, 393260, 55340232221128917037, 36893488147419365422, 393263, 818897335987279051845956665392, 393267, 818897335987279051845956665396, 11165778947220401281318800821966898266167, 1033017668127752781882, 393277, 836228497570292043822279295038, 167772225, 18446744073709813827, 36893488147419824196, 393285, 835919012542023954679844962374, 18446744073709813833, 1638474, 720971, 55340232221128917068, 1769549, 393294, 835919012542023954679844962383, 18446744073709813842, 2031699, 1638484, 16777301, 720982, 1769559, 55340232221146087512, 221360928884515930203, 393310, 36893488147419365471, 11165815683830117278376490245371944304736, 55340232221129113699, 100, 73786976294838665317, 73786976294838468711, 17179869289, 2877692075498741563500, 111, 92233720368548216944, 16777216114, 110680464442257768565, 119, 129127208515967320184, 129127208515967123578, 393340, 835919012542023954679844962429, 18446744073709813888, 1638529, 2305843009213745463426, 393349, 16777350, 393351, 393352, 836228497570292043822279295113, 167772300, 18446744073709813902, 36893488147419824271, 129127208515967123600, 721042, 1638547, 393364, 818897335987279051845956665493, 11165695690420332620236644833586900697240, 393371, 826634461693981280406814982300, 36893488147419365535, 1638560, 11165758143798044840562469798641047765153, 147573952589676871844, 92233720368548020390, 73786976294838468776, 129127208515967123626, 129127208515967582380, 16777389, 55340232221129375918, 147573952589676675247, 36893488147419824305, 721074, 92233720368548217011, 73786976294838468789, 129127208515967123639, 129127208515967582393, 16777402, 55340232221129375931, 16777404, 2232056032918873702589, 147573952589676675264, 110680464442257572034, 2232056032918907257028, 147573952589676675271, 2250502776992566608073, 110680464442257572044, 110680464442257768654, 129127208515984294096, 1346612317380798578899, 393430, 836537982598560132964713627863, 17179869402, 18446744073709813981, 36893488147419824350, 73786976294838468831, 721121, 73786976294838468834, 16777444, 393445, 835919012542023954679844962534, 18446744073709813993, 1638634, 110680464442258030827, 2803905099203903357164, 92233720368548020463, 55340232221128917233, 2803905099203886579954, 73786976294838468853, 2767011611056433856759, 92233720368548020474, 110680464442257572092, 18446744073710272766, 55340232221128917247, 2803905099203903357184, 16777475, 2822351843277562708228, 263, 1835272, 73786976294855639305, 1180591620717412614412, 2162959]
-- 179: SwornCourtModel.call
def cod179 : List Nat := [0, 73786976294838665217, 73786976294838468611, 393221, 835919012542023954679844962310, 18446744073709813769, 1638410, 627189298506176266251, 36893488147419365390, 17179869199, 627189298506176266258, 393237, 837466437683364400392016625686, 393241, 836228497570292043822279295002, 167772189, 18446744073709813791, 36893488147419824160, 73786976294838468641, 720931, 1638436, 2031653, 1638438, 36893488147419365415, 73786976294838468648, 129127208515967582250, 16777259, 55340232221129375788, 55340232221128917037, 36893488147419824174, 720943, 1769520, 73786976294855639089, 36893488147420414004, 2162743]
-- 180: SwornCourtModel.isWithin
def cod180 : List Nat := [16777216, 55340232221129113601, 2, 73786976294838665219, 73786976294838468613, 393223, 835919012542023954679844962312, 18446744073709813771, 1638412, 774763251095852679181, 393232, 836228497570292043822279294993, 167772180, 18446744073709813782, 36893488147419824151, 73786976294838468632, 720922, 1638427, 92233720368548216860, 55340232221128917022, 700976274800964075551, 36893488147419365410, 73786976294838468643, 129127208515967582245, 16777254, 55340232221129375783, 664082786653544972328, 393259, 837466437683364400392016625708, 92233720368548020271, 1638449, 393266, 837775922711632489534450958387, 92233720368548020278, 1638456, 700976274801014472761, 16777276, 719423018874673823805, 64, 55340232221129113665, 73786976294855639106, 73786976294839517253, 55340232221128917064, 2228297]
-- 181: SwornCourtModel.compare
def cod181 : List Nat := [0, 36893488147419561985, 2, 55340232221129113603, 4, 73786976294838665221, 73786976294838468615, 18446744073709813769, 719423018874740801546, 36893488147419365389, 393230, 836847467626828222107147960335, 73786976294838468626, 1638420, 17179869205, 332041393326823440408, 16777243, 350488137400482791452, 31, 720928, 36893488147419562017, 55340232221128917026, 393251, 836847467626828222107147960356, 73786976294838468647, 1638441, 17179869226, 627189298506176266285, 393264, 836847467626828222107147960369, 73786976294838468660, 1638454, 11165519785039534454857525189782433824823, 645636042579835617338, 61, 720958, 55340232221129113663, 73786976294855639104, 110680464442258620483, 36893488147419365446, 393287, 838704377796436756961753956424, 940783947759255421003, 36893488147419365454, 393295, 838704377796436756961753956432, 1420399293675653431379, 55340232221128917078, 393303, 839013862824704846104188289112, 1420399293675686985819, 393310, 36893488147419365471, 838704377796436756961754021984, 393315, 55340232221128917092, 839013862824704846104188354661, 104, 73786976294838665321, 73786976294838468715, 83886189, 1420399293675686985838, 393329, 837156952655096311249582293106, 73786976294838468725, 73786976294838468727, 18446744073709813881, 1346612317380865556602, 393341, 836847467626828222107147960446, 73786976294838468737, 1638531, 1365059061454508130436, 17179869319, 1769610, 73786976294855639179, 1088357900348864856206, 2162833]
-- 182: SwornCourtModel.seek
def cod182 : List Nat := [393216, 1, 838085407739900578676885356546, 393221, 6, 838394892768168667819319689223, 393226, 11, 838704377796436756961754021900, 393231, 16, 839013862824704846104188354577, 20, 18446744073710010389, 18446744073709813782, 393239, 819206821015547140988390998040, 682529530727304921115, 393246, 837466437683364400392016625695, 18446744073709813794, 35, 1769508, 393253, 837775922711632489534450958374, 18446744073709813801, 393258, 821063731185155675842996994091, 18446744073709813806, 1638447, 393264, 18446744073709813809, 11165804939135736001114821159797788049458, 18446744073710272565, 1769526, 18446744073726984247, 258254417031935033402, 61, 18446744073710010430, 18446744073709813823, 83886144, 903890459611819540545, 393284, 837156952655096311249582293061, 18446744073709813832, 17179869257, 1769548, 18446744073726984269, 719423018874673823824, 83, 18446744073710010452, 393301, 836847467626828222107147960406, 89, 18446744073726328922, 1769563, 18446744073709813852, 2803905099203886514269, 393312, 838394892768168667819319623777, 2803905099203869737060, 393319, 836847467626828222107147960424, 18446744073709813867, 1638508, 1365059061454541488237, 393328, 18446744073709813873, 393330, 836847467626828222107147960435, 18446744073709813878, 1638519, 18446744073726328952, 11165846914956833686900250456988747890809, 393340, 836847467626828222107147960445, 18446744073709813888, 1638529, 16777346, 721027, 36893488147419562116, 36893488147419365509, 17179869318, 1844674407371006673033, 393356, 836537982598560132964713627789, 17179869328, 18446744073709813907, 36893488147419824276, 36893488147419365525, 721046, 1704087, 1807780919223537172632, 393371, 18446744073709813916, 36893488147419365533, 11165852112325532562661635229673096282270, 1844674407370973053089, 36893488147436535972, 1494186269970474991783, 393386, 836847467626828222107147960491, 18446744073709813934, 36893488147419365551, 1769648, 36893488147419365553, 17179869362, 2029141848108135743669, 309485028268089142451765432, 2785458355130143604923, 36893488147419365566, 17179869375, 2250502776992616808642, 393413, 838085407739900578676885291206, 393417, 830348282033198350116026974410, 2250502776992583254221, 393424, 16777425, 838394892768168667819319689426, 2785458355130143604949, 36893488147419365592, 17179869401, 2471863705877131428060, 393439, 1966304, 838085407739900578676885291233, 16777444, 721125, 838085407739900578676885356774, 393449, 18446744073709813994, 11165857309694231438423020002357444673771, 393454, 18446744073709813999, 36893488147419365616, 16777457, 11165846914956833686900250456988747890930, 18446744073709814005, 16777462, 721143, 393464, 835300042485487776394976297209, 2785458355130193805564, 18446744073726984447, 393474, 836847467626828222107147960579, 18446744073709814022, 18446744073726329095, 1769736, 1033017668127736201481, 2162956]
-- 183: SwornCourtModel.hold
def cod183 : List Nat := [18446744073709813760, 166020696663470964737, 18446744073709813764, 393221, 825396521580908923837077651462, 129127208515967582217, 166020696663387078666, 969307050778899500997462261773, 2228239, 18446744073709813776, 276701161105728274449, 18446744073709813780, 11165519785039534454857525189782433824789, 83886104, 313594649253147443225, 970854475828006226341102944284, 2228254, 393247, 393248, 818897335987279051845956665377, 11165768552483003529703797556229720834084, 393255, 40, 835300042485487776394976362537, 44, 36893488147419562029, 36893488147419365422, 393263, 825396521580908923837077651504, 1069911156275205505075, 18446744073709813814, 36893488147419365431, 129127208515967582264, 16777273, 55340232221129375802, 16777275, 1033017668127752847420, 393279, 833752617344147330682804633664, 36893488147419365443, 1638468, 811656739243221385285, 975187265965505057303266656328, 2228298, 393291, 835609527513755865537410629708, 393295, 835300042485487776394976297040, 36893488147419365459, 1769556, 393301, 1966166, 835300042485487776394976297047, 16777306, 720987, 835300042485487776394976362588, 36893488147436535903, 479615345916449652834, 101, 36893488147419562086, 36893488147419365479, 393320, 835300042485487776394976297065, 1272825341086010572908, 393327, 36893488147419365488, 11165836520219435935303693935325229678705, 36893488147436535924, 1106804644422574407799, 393338, 11165841717588134811065078708009628401787, 126, 2228351]
-- 184: SwornCourtModel.session
def cod184 : List Nat := [18446744073709813760, 166020696663470964737, 18446744073709813764, 393221, 825396521580908923837077651462, 129127208515967582217, 166020696663387078666, 969307050778899500997462261773, 2228239, 36893488147419365392, 917521, 131090, 970235505789916790452239138835, 11165519133308050642536334943298928377878, 313594649253080268825, 970854475828006226341102944284, 2228254, 393247, 18446744073709813792, 11165831319046856803809710178870988439585, 55340232221129113636, 55340232221128917029, 461168601842790236198, 55340232221128917033, 885443715538059788330, 36893488147419365421, 553402322211304439854, 393265, 838704377796436756961753956402, 885443715538059788341, 36893488147419365432, 16777273, 664082786653561815098, 393277, 839013862824704846104188289086, 885443715538059788353, 36893488147419365444, 33554501, 774763251095819124806, 393289, 838085407739900578676885291082, 885443715538059788365, 393296, 838394892768168667819319623761, 866996971464350040148, 16777303, 885443715538059788376, 91, 2228316]
-- 185: SwornCourtModel.called
def cod185 : List Nat := [18446744073709813760, 129127208516051861505, 18446744073709813764, 393221, 825396521580908923837077651462, 129127208515967582217, 202914184810822959114, 393229, 36893488147419365390, 11165763355114304653923966039471058911247, 239807672958242062354, 969307050778899500997462261781, 2228247, 18446744073709813784, 461168601842823790617, 18446744073709813788, 11165519785039534454857525189782433824797, 83886112, 461168601842807078945, 18446744073709813796, 36893488147419365413, 129127208515967582246, 16777255, 55340232221129375784, 498062089990175785001, 970854475828006226341102944300, 2228270, 393263, 18446744073709813808, 11165831319046856803809710178870988439601, 55340232221129113652, 55340232221128917045, 645636042579885752374, 55340232221128917049, 2228282, 59, 73786976294838665276, 62, 92233720368548216895, 92233720368548020289, 393283, 835300042485487776394976297028, 1807780919223587569735, 74, 110680464442257768523, 110680464442257571917, 393295, 835919012542023954679844962384, 92233720368548020307, 1638485, 1770887431076168466518, 393305, 835609527513755865537410629722, 92233720368548020317, 1638495, 36893488147419365472, 1383505805528234328161, 393316, 837156952655096311249582293093, 92233720368548020328, 1638506, 17179869291, 1383505805528267882606, 393329, 837156952655096311249582293106, 92233720368548020341, 1638519, 110680464442257571960, 129127208515967582330, 16777339, 55340232221129375868, 16777341, 1383505805528234328190, 16777345, 1401952549601927233666, 133, 129127208515967320198, 73786976294838468744, 129127208515967123594, 1678653710707570311308, 16777359, 393360, 836228497570292043822279295121, 167772308, 92233720368548020374, 36893488147419824280, 110680464442257571993, 721051, 1638556, 110680464442258030749, 1697100454781280059550, 161, 73786976294838927522, 73786976294838665379, 110680464442274742437, 830103483316931133608, 92233720368565190827, 719423018874673823918, 73786976294838468785, 2228403]
-- 186: SwornCourtModel.lacks
def cod186 : List Nat := [393216, 18446744073709813761, 11165763355114304653923966039471058911234, 110680464442275201029, 969307050778899500997462261768, 2228234, 393227, 393228, 818897335987279051845956665357, 11165768552483003529703797556229720834064, 393235, 833752617344147330682804633620, 18446744073709813783, 1638424, 313594649253063491609, 975187265965505057303266656284, 2228254, 393247, 18446744073709813792, 11165815683830117278376490245371944304673, 36893488147419562020, 37, 55340232221129113638, 55340232221128917031, 393256, 819206821015547140988390998057, 1217485108864881917996, 393263, 55340232221128917040, 18446744073709813809, 11165799741767037125353436387113439658034, 793209995169528610869, 393272, 55340232221128917049, 18446744073709813818, 393275, 818897335987279051845956665404, 393279, 818897335987279051845956665408, 11165778947220401281318800821966898266179, 793209995169528610886, 16777289, 811656739243221581898, 77, 73786976294838665294, 36893488147419365456, 73786976294838468689, 1125251388496283762771, 393302, 16777303, 393304, 55340232221128917081, 393306, 818897335987279051845956665435, 11165695690420332620236644833586900697182, 393313, 826634461693981280406814982242, 18446744073709813861, 1638502, 11165758143798044840562469798641047765095, 1143698132569993511018, 109, 18446744073710272622, 36893488147419562095, 55340232221146087536, 424275113695320998003, 36893488147419365494, 1291272085159753613431, 36893488147419365498, 1309718829233379475579, 126, 2228351]
-- 187: SwornCourtModel.stoodFor
def cod187 : List Nat := [0, 55340232221129113601, 2, 73786976294838665219, 73786976294838468613, 393223, 827562916778785547834117980168, 571849066285047611403, 55340232221128917006, 393231, 827872401807053636976552312848, 73786976294838468627, 1638421, 18446744073709813782, 479615345916466298903, 393242, 826015491637445102121946316827, 393246, 828181886835321726118986645535, 73786976294838468642, 1638436, 1638437, 36893488147419365414, 479615345916466298919, 16777258, 498062089990159204395, 46, 720943, 55340232221129113648, 73786976294855639089, 73786976294839517236, 55340232221128917047, 2228280]
-- 188: SwornCourtModel.stood
def cod188 : List Nat := [393216, 18446744073709813761, 11165690475300192551105656120839091060738, 147573952589677527045, 393224, 36893488147419365385, 11165690475300192551105656120839091060746, 184467440737113407501, 969307050778899500997462261776, 2228242, 55340232221128917011, 917524, 131093, 16908310, 11165519133308050642536334943298928377879, 332041393326789820442, 970854475828006226341102944285, 2228255, 55340232221128917024, 461168601842756681761, 393252, 18446744073709813797, 36893488147419365414, 11165862522278451337077907221974431891495, 627189298506126065706, 393261, 18446744073709813806, 36893488147419365423, 11165862522278451337077907221974431891504, 393267, 36893488147419365428, 18446744073709813813, 11165862522278451337077907221974431891510, 18446744073710272569, 2228282]
-- 189: SwornCourtModel.ring
def cod189 : List Nat := [393216, 18446744073709813761, 11165690475300192551105656120839091060738, 110680464442275201029, 969307050778899500997462261768, 2228234, 11, 55340232221129113612, 55340232221128917005, 393230, 819206821015547140988390998031, 442721857769080750098, 393237, 839323347852972935246622621718, 55340232221128917017, 55340232221128917018, 18446744073709813787, 368934881474208989212, 31, 387381625547901894688, 1660944419, 1769509, 55340232221146087462, 147573952589677723689, 44, 55340232221129113645, 55340232221128917038, 393263, 819206821015547140988390998064, 1623313478486492053555, 54, 73786976294838665271, 73786976294838468665, 393275, 819206821015547140988390998076, 1586419990339072950335, 66, 92233720368548216899, 92233720368548020293, 393287, 819206821015547140988390998088, 1549526502191653847115, 73786976294838468686, 18446744073709813840, 1162144876643702931537, 393300, 839323347852972935246622621781, 92233720368548020312, 1638490, 16777307, 720988, 393309, 839323347852972935246622621790, 73786976294838468705, 1638499, 1162144876643753263204, 393319, 73786976294838468712, 92233720368548020330, 11165862522278451337077907221974431891564, 1162144876643786752111, 16777330, 1180591620717412614259, 118, 110680464442257768567, 393337, 839323347852972935246622621818, 73786976294838468733, 110680464442257571967, 1420399293675636588673, 393348, 839323347852972935246622621829, 92233720368548020360, 1638538, 16777355, 721036, 1494186269970474991757, 393360, 839323347852972935246622621841, 73786976294838468756, 1638550, 1769623, 92233720368565190808, 700976274800964272283, 73786976294855639198, 590295810358706962593, 55340232221146087588, 479615345916449652903, 1660944554, 55340232221129113772, 173, 73786976294838665390, 73786976294838468784, 393394, 819206821015547140988390998195, 2195162544771488153782, 73786976294838468793, 18446744073709813947, 2121375568476599615676, 393407, 18446744073709813952, 73786976294838468801, 11165862522278451337077907221974431891651, 2121375568476683436230, 393417, 839323347852972935246622621898, 73786976294838468813, 1638607, 55340232221128917200, 2121375568476649947345, 393428, 839323347852972935246622621909, 73786976294838468824, 1638618, 2139822312550309298395, 55340232221128917214, 55340232221129113823, 73786976294855639264, 1697100454781280059619, 55340232221128917222, 1660944615, 2379629985508550115561, 36893488147419365612, 18446744073726329069, 2342736497361131012334, 241, 2361183241434823917810, 18446744073726329077, 2228470, 36893488147419365623, 18446744073726329080, 2508757194024516976889, 55340232221128917244, 16777469, 721150, 2228479, 36893488147419365632, 917761, 131330, 55340232221128917251, 917764, 11165519133308050642536334943298928378117, 2674777890687902875912, 18446744073726329099, 2228492, 18446744073709814029, 73786976294838665486, 272, 92233720368548217105, 92233720368548020499, 36893488147419365653, 3449541141783737663766, 18446744073726329113, 110680464442257768730, 393500, 819206821015547140988390998301, 16777504, 18446744073710272801, 129127208515967320354, 129127208515967123748, 3375754165488882614566, 129127208515967123753, 18446744073709814059, 3301967189194010919212, 393519, 839323347852972935246622622000, 129127208515967123763, 1638709, 55340232221128917302, 92233720368548020535, 18446744073710272825, 3301967189194027696442, 393533, 73786976294838468926, 129127208515967123776, 11165862522278451337077907221974431891778, 3301967189194094739781, 129127208515967123784, 3320413933267720601930, 110680464442257572173, 110680464442257768783, 309485138948553584709075281, 2933032307719820018004, 110680464442257572183, 73786976294838665561, 92233720368565191003, 2748564866982724501854, 73786976294838468961, 2228579]
-- 190: SwornCourtModel.leftFor
def cod190 : List Nat := [0, 55340232221129113601, 2, 73786976294838665219, 73786976294838468613, 393223, 819206821015547140988390998024, 793209995169562230795, 73786976294838468622, 18446744073709813776, 442721857769030418449, 393236, 73786976294838468629, 18446744073726328855, 18446744073709813784, 18446744073726328857, 36893488147419365402, 36893488147419365403, 393244, 818897335987279051845956665373, 11165784144589100157153972570946051309600, 442721857769047130147, 16777254, 461168601842740101159, 42, 92233720368548216875, 55340232221128917037, 92233720368548020270, 700976274800964075568, 393267, 16777268, 393269, 73786976294838468662, 36893488147419365432, 11165695690420332620236644833586900697145, 36893488147419365436, 11165758143798044840562469798641047765053, 719423018874673823808, 67, 720964, 55340232221129113669, 73786976294855639110, 73786976294839517257, 55340232221128917068, 2228301]
-- 191: SwornCourtModel.left
def cod191 : List Nat := [393216, 18446744073709813761, 11165690475300192551105656120839091060738, 110680464442275201029, 969307050778899500997462261768, 2228234, 36893488147419365387, 917516, 131085, 970235505789916790452239138830, 11165519133308050642536334943298928377873, 295147905179353939988, 393239, 55340232221128917016, 11165706116856732502729129787164939583513, 332041393326789820444, 970854475828006226341102944287, 2228257, 393250, 393251, 818897335987279051845956665380, 11165768552483003529703797556229720834087, 393258, 18446744073709813803, 55340232221128917036, 11165867729790830894762144711255947280429, 2228272]
-- 192: SwornCourtModel.forsaken
def cod192 : List Nat := [18446744073709813760, 11165519167542972943926811612418199126017, 239807672958225285124, 36893488147419365383, 917512, 131081, 970235505789916790452239138826, 11165519133308050642536334943298928377869, 239807672958225285136, 393235, 55340232221128917012, 11165706116856732502729129787164939583509, 276701161105661165592, 970854475828006226341102944283, 2228253, 393246, 393247, 818897335987279051845956665376, 11165768552483003529703797556229720834083, 38, 73786976294838665255, 41, 92233720368548216874, 92233720368548020268, 393262, 819206821015547140988390998063, 1401952549601977434162, 393269, 819825791072083319273259663414, 92233720368548020281, 1638459, 18446744073709813820, 959230691832914640957, 393280, 819516306043815230130825330753, 92233720368548020292, 1638470, 55340232221128917063, 959230691832964972616, 393291, 821373216213423764985431326796, 92233720368548020303, 1638481, 922337203685512249426, 393301, 821373216213423764985431326806, 92233720368548020313, 1638491, 55340232221128917084, 959230691832981749853, 16777312, 977677435906607546465, 100, 110680464442257768549, 73786976294838468711, 110680464442257571945, 1309718829233379278955, 393326, 92233720368548020335, 55340232221128917105, 11165867729790830894762144711255947280498, 393333, 118, 36893488147419365495, 55340232221128917112, 11165758143798044840562469798641047765113, 1309718829233429676156, 16777343, 92233720368548020352, 110680464442258030722, 1328165573307089027203, 134, 73786976294838927495, 73786976294838665352, 92233720368565190794, 424275113695320998029, 73786976294838468752, 2228370]
-- 193: SwornCourtModel.count
def cod193 : List Nat := [393216, 393217, 818897335987279051845956665346, 11165768552483003529703797556229720834053, 8, 36893488147419561993, 10, 55340232221129113611, 55340232221128917004, 393229, 822301671298228032412734324750, 534955578137628508177, 36893488147419365396, 393237, 822611156326496121555168657430, 67108889, 55340232221128917018, 36893488147419824155, 50331676, 720925, 1638430, 442721857769080684575, 16777250, 461168601842740101155, 38, 720935, 36893488147419562024, 55340232221146087465, 147573952589677723692, 47, 55340232221129113648, 49, 73786976294838665266, 73786976294838468660, 393270, 819206821015547140988390998071, 1088357900348915056698, 393277, 73786976294838468670, 393280, 818897335987279051845956665409, 11165820906558017858935783437512439300164, 393287, 73786976294838468680, 393290, 818897335987279051845956665419, 11165826103926716734715614954270497243214, 18446744073710272593, 92233720368548216914, 55340232221128917076, 92233720368548020309, 996124179980400787543, 92233720368548020314, 1014570924054026649692, 95, 720992, 55340232221129113697, 73786976294855639138, 608742554432416514149, 104, 73786976294838665321, 107, 92233720368548216940, 92233720368548020334, 393328, 825396521580908923837077651569, 1531079758117944295540, 73786976294838468727, 393337, 833752617344147330682804633722, 92233720368548020349, 1638527, 18446744073709813888, 83886209, 18446744073710272642, 1438846037749362983043, 16777350, 1457292781823055888519, 138, 721035, 73786976294838665356, 92233720368565190798, 1162144876643703062673, 18446744073709813908, 2475882033925632363012096149, 393424, 818897335987279051845956665553, 2228436, 393429, 819206821015547140988390998230, 2228441, 36893488147419365594, 2228443, 393436, 823849096439568478124905988317, 2228448, 393441, 825396521580908923837077651682, 2228453, 73786976294838468838, 2228456, 393449, 829419826948394082688723976426, 2228461, 55340232221128917230, 2228463, 970854475828006226341102944496, 2228466]
-- 194: java/lang/Integer.bitCount
def cod194 : List Nat := [262144, 262145, 16777218, 147573952589677133827, 693865392019479663278966243332, 55340232221129375751, 18446744073710272520, 458761, 262154, 694174877029291400668488204299, 55340232221129375758, 262159, 33554448, 147573952589677133841, 694174877029291400668488204306, 55340232221129375765, 720918, 458775, 262168, 262169, 67108890, 147573952589677133851, 720924, 694484362039102572900409999389, 55340232221129375776, 458785, 262178, 262179, 134217764, 147573952589677133862, 720935, 458792, 262185, 262186, 268435499, 147573952589677133869, 720942, 458799, 262192, 1056964657, 55340232221129375795, 2228276]
-- 195: java/lang/String.length
def cod195 : List Nat := [393216, 1146022991368440789487866937345, 1900548, 393221, 11195378161032398624828218408970404298758, 129127208515967582217, 2228234]
-- 196: java/lang/String.coder
def cod196 : List Nat := [512816661273968778876980559872, 92233720368548872195, 393222, 1146332476378262134556608495623, 110680464442258620426, 16777229, 2228238]
-- 197: java/lang/String.charAt
def cod197 : List Nat := [393216, 11195430096680584825485011179588009918465, 147573952589677527044, 393223, 1146022991368440789487866937352, 18446744073709813771, 11208052575415523332420618546499782311948, 2228239, 393232, 1146022991368440789487866937361, 18446744073709813780, 6488085, 2228248]
-- 198: java/lang/String.isLatin1
def cod198 : List Nat := [512816661273968778876980559872, 129127208515967975427, 393222, 1146332476378262134556608495623, 129127208515984752650, 16777229, 147573952589677723662, 17, 2228242]
-- 199: java/lang/StringLatin1.charAt
def cod199 : List Nat := [18446744073709813760, 393217, 1900546, 11186784931286844934168309873231597535235, 393222, 18446744073709813767, 1703944, 4278190089, 55340232221129375756, 1048589, 2228238]
-- 200: java/lang/String.checkIndex
def cod200 : List Nat := [262144, 18446744073709813761, 517768421431110299976593833986, 11229320233491762668309932176061434822661, 2097160, 2162697]
-- 201: jdk/internal/util/Preconditions.checkIndex
def cod201 : List Nat := [262144, 92233720368582426625, 262148, 18446744073709813765, 184467440737130250246, 36893488147419496457, 262154, 18446744073709813771, 6488076, 6488079, 262160, 2228241]
def codg0 : List (List Nat) := [cod0, cod1, cod2, cod3, cod4, cod5, cod6, cod7, cod8, cod9, cod10, cod11, cod12, cod13, cod14, cod15, cod16, cod17, cod18, cod19, cod20, cod21, cod22, cod23]
def codg1 : List (List Nat) := [cod24, cod25, cod26, cod27, cod28, cod29, cod30, cod31, cod32, cod33, cod34, cod35, cod36, cod37, cod38, cod39, cod40, cod41, cod42, cod43, cod44, cod45, cod46, cod47]
def codg2 : List (List Nat) := [cod48, cod49, cod50, cod51, cod52, cod53, cod54, cod55, cod56, cod57, cod58, cod59, cod60, cod61, cod62, cod63, cod64, cod65, cod66, cod67, cod68, cod69, cod70, cod71]
def codg3 : List (List Nat) := [cod72, cod73, cod74, cod75, cod76, cod77, cod78, cod79, cod80, cod81, cod82, cod83, cod84, cod85, cod86, cod87, cod88, cod89, cod90, cod91, cod92, cod93, cod94, cod95]
def codg4 : List (List Nat) := [cod96, cod97, cod98, cod99, cod100, cod101, cod102, cod103, cod104, cod105, cod106, cod107, cod108, cod109, cod110, cod111, cod112, cod113, cod114, cod115, cod116, cod117, cod118, cod119]
def codg5 : List (List Nat) := [cod120, cod121, cod122, cod123, cod124, cod125, cod126, cod127, cod128, cod129, cod130, cod131, cod132, cod133, cod134, cod135, cod136, cod137, cod138, cod139, cod140, cod141, cod142, cod143]
def codg6 : List (List Nat) := [cod144, cod145, cod146, cod147, cod148, cod149, cod150, cod151, cod152, cod153, cod154, cod155, cod156, cod157, cod158, cod159, cod160, cod161, cod162, cod163, cod164, cod165, cod166, cod167]
def codg7 : List (List Nat) := [cod168, cod169, cod170, cod171, cod172, cod173, cod174, cod175, cod176, cod177, cod178, cod179, cod180, cod181, cod182, cod183, cod184, cod185, cod186, cod187, cod188, cod189, cod190, cod191]
def codg8 : List (List Nat) := [cod192, cod193, cod194, cod195, cod196, cod197, cod198, cod199, cod200, cod201]
def ctab : List (List Nat) := codg0 ++ (codg1 ++ (codg2 ++ (codg3 ++ (codg4 ++ (codg5 ++ (codg6 ++ (codg7 ++ (codg8))))))))
def cod (k : Nat) : List Nat := ctab.getD k []
def swt : List (List Nat) := [[22, 89, 116, 133, 160, 187, 204, 241, 278, 329, 336, 343, 380, 427, 474, 501, 518, 535, 562, 599, 626, 653, 690, 707, 734, 761, 778, 815, 842, 879, 916], [2, 4, 6, 8, 10, 12, 14, 16, 18, 20], [15, 21, 27, 33, 39, 45, 51], [30, 36, 42, 48, 53, 59, 65, 71], [37, 41, 45], [14, 17, 21, 25, 29, 40, 40, 40, 40, 33, 37], [14, 19, 24, 29, 34, 39, 44], [31, 36, 41, 46, 50, 55, 60, 65], [85, 88, 91, 93, 96, 99, 99, 99, 99, 101, 104]]
/-- the String constants: class, entry, place of the word, text, its bytes -/
def strT : List (String × Nat × Nat × String) := [("SwornCourt$LawReader", 54, 1644, "from"), ("SwornCourt$LawReader", 107, 1724, "need"), ("SwornCourt$LawReader", 109, 1725, "count"), ("SwornCourt$LawReader", 111, 1726, "kin"), ("SwornCourt$LawReader", 113, 1727, "half"), ("SwornCourt$LawReader", 115, 1728, "feud"), ("SwornCourt$LawReader", 117, 1729, "false"), ("SwornCourt$LawReader", 119, 1730, "lost"), ("SwornCourt$LawReader", 121, 1731, "age"), ("SwornCourt$LawReader", 123, 1732, "fine"), ("SwornCourt$LawReader", 125, 1733, "short"), ("SwornCourt$LawReader", 127, 1734, "oath")]
def tbls : List (List Jvm.Cond) := [k2_sels lw_privs, tables_1_1, tables_1_2, tables_1_3, tables_1_4, tables_1_5, tables_1_6, tables_1_7]
theorem tbls_in : ∀ l ∈ tbls, ∀ w ∈ l, w ∈ lw_tbl := by
  intro l hl w hw
  simp only [tbls, List.mem_cons, List.not_mem_nil, or_false] at hl
  simp only [lw_tbl, tables_1, List.mem_append]
  rcases hl with rfl | rfl | rfl | rfl | rfl | rfl | rfl | rfl <;> simp [hw]
def strB : List (List Int32) := [[102, 114, 111, 109], [110, 101, 101, 100], [99, 111, 117, 110, 116], [107, 105, 110], [104, 97, 108, 102], [102, 101, 117, 100], [102, 97, 108, 115, 101], [108, 111, 115, 116], [97, 103, 101], [102, 105, 110, 101], [115, 104, 111, 114, 116], [111, 97, 116, 104]]
