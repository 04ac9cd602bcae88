section
-- ===== PART A: goes FIRST, ahead of the names: the tables' words, and 'selects' of the private methods out of them =====
/-- a private method of a class that the tables say can be made, by its rows of tables_1 -/
def lw_okq (q : MethodName × Nat) : Prop := (q.1.cls ≠ "java/lang/invoke/MethodHandle" ∧ q.1.cls ≠ "java/lang/invoke/VarHandle") ∧ Cond.instantiable q.1.cls q.2 ∈ tables_1 ∧ Cond.privateMethod q.1 ∈ tables_1 ∧ Cond.instanceMethod q.1 ∈ tables_1
theorem lw_p0 : lw_okq (⟨"SwornCourt$Kinship", "stepsOf", "(II)I"⟩, 4) := ⟨⟨by decide +kernel, by decide +kernel⟩, List.mem_of_getElem? (i := 110) (by decide +kernel), List.mem_of_getElem? (i := 498) (by decide +kernel), List.mem_of_getElem? (i := 499) (by decide +kernel)⟩
theorem lw_p1 : lw_okq (⟨"SwornCourt$Feuds", "isOf", "(III)Z"⟩, 5) := ⟨⟨by decide +kernel, by decide +kernel⟩, List.mem_of_getElem? (i := 86) (by decide +kernel), List.mem_of_getElem? (i := 528) (by decide +kernel), List.mem_of_getElem? (i := 529) (by decide +kernel)⟩
theorem lw_p2 : lw_okq (⟨"SwornCourt", "isPast", "(I)Z"⟩, 11) := ⟨⟨by decide +kernel, by decide +kernel⟩, List.mem_of_getElem? (i := 21) (by decide +kernel), List.mem_of_getElem? (i := 548) (by decide +kernel), List.mem_of_getElem? (i := 549) (by decide +kernel)⟩
theorem lw_p3 : lw_okq (⟨"SwornCourt$LawReader", "skipBlanks", "()V"⟩, 6) := ⟨⟨by decide +kernel, by decide +kernel⟩, List.mem_of_getElem? (i := 158) (by decide +kernel), List.mem_of_getElem? (i := 577) (by decide +kernel), List.mem_of_getElem? (i := 578) (by decide +kernel)⟩
theorem lw_p4 : lw_okq (⟨"SwornCourt$LawReader", "parseHead", "()Z"⟩, 6) := ⟨⟨by decide +kernel, by decide +kernel⟩, List.mem_of_getElem? (i := 158) (by decide +kernel), List.mem_of_getElem? (i := 581) (by decide +kernel), List.mem_of_getElem? (i := 582) (by decide +kernel)⟩
theorem lw_p5 : lw_okq (⟨"SwornCourt$LawReader", "wordEnd", "(I)I"⟩, 6) := ⟨⟨by decide +kernel, by decide +kernel⟩, List.mem_of_getElem? (i := 158) (by decide +kernel), List.mem_of_getElem? (i := 585) (by decide +kernel), List.mem_of_getElem? (i := 586) (by decide +kernel)⟩
theorem lw_p6 : lw_okq (⟨"SwornCourt$LawReader", "isWord", "(IILjava/lang/String;)Z"⟩, 6) := ⟨⟨by decide +kernel, by decide +kernel⟩, List.mem_of_getElem? (i := 158) (by decide +kernel), List.mem_of_getElem? (i := 590) (by decide +kernel), List.mem_of_getElem? (i := 591) (by decide +kernel)⟩
theorem lw_p7 : lw_okq (⟨"SwornCourt$LawReader", "blame", "(II)Z"⟩, 6) := ⟨⟨by decide +kernel, by decide +kernel⟩, List.mem_of_getElem? (i := 158) (by decide +kernel), List.mem_of_getElem? (i := 642) (by decide +kernel), List.mem_of_getElem? (i := 643) (by decide +kernel)⟩
theorem lw_p8 : lw_okq (⟨"SwornCourt$LawReader", "parseNumber", "(I)I"⟩, 6) := ⟨⟨by decide +kernel, by decide +kernel⟩, List.mem_of_getElem? (i := 158) (by decide +kernel), List.mem_of_getElem? (i := 646) (by decide +kernel), List.mem_of_getElem? (i := 647) (by decide +kernel)⟩
theorem lw_p9 : lw_okq (⟨"SwornCourt$LawReader", "parseRules", "()Z"⟩, 6) := ⟨⟨by decide +kernel, by decide +kernel⟩, List.mem_of_getElem? (i := 158) (by decide +kernel), List.mem_of_getElem? (i := 654) (by decide +kernel), List.mem_of_getElem? (i := 655) (by decide +kernel)⟩
theorem lw_p10 : lw_okq (⟨"SwornCourt$LawReader", "parseRule", "()Z"⟩, 6) := ⟨⟨by decide +kernel, by decide +kernel⟩, List.mem_of_getElem? (i := 158) (by decide +kernel), List.mem_of_getElem? (i := 658) (by decide +kernel), List.mem_of_getElem? (i := 659) (by decide +kernel)⟩
theorem lw_p11 : lw_okq (⟨"SwornCourt$LawReader", "ruleNamed", "(II)I"⟩, 6) := ⟨⟨by decide +kernel, by decide +kernel⟩, List.mem_of_getElem? (i := 158) (by decide +kernel), List.mem_of_getElem? (i := 662) (by decide +kernel), List.mem_of_getElem? (i := 663) (by decide +kernel)⟩
theorem lw_p12 : lw_okq (⟨"SwornCourt$Anew", "workOath", "(I)V"⟩, 12) := ⟨⟨by decide +kernel, by decide +kernel⟩, List.mem_of_getElem? (i := 280) (by decide +kernel), List.mem_of_getElem? (i := 741) (by decide +kernel), List.mem_of_getElem? (i := 742) (by decide +kernel)⟩
theorem lw_p13 : lw_okq (⟨"SwornCourt$Anew", "obstacleIn", "(IIIIII)I"⟩, 12) := ⟨⟨by decide +kernel, by decide +kernel⟩, List.mem_of_getElem? (i := 280) (by decide +kernel), List.mem_of_getElem? (i := 749) (by decide +kernel), List.mem_of_getElem? (i := 750) (by decide +kernel)⟩
theorem lw_p14 : lw_okq (⟨"SwornCourt$Anew", "isTooYoung", "(III)Z"⟩, 12) := ⟨⟨by decide +kernel, by decide +kernel⟩, List.mem_of_getElem? (i := 280) (by decide +kernel), List.mem_of_getElem? (i := 757) (by decide +kernel), List.mem_of_getElem? (i := 758) (by decide +kernel)⟩
theorem lw_p15 : lw_okq (⟨"SwornCourt$Anew", "isTooNear", "(III)Z"⟩, 12) := ⟨⟨by decide +kernel, by decide +kernel⟩, List.mem_of_getElem? (i := 280) (by decide +kernel), List.mem_of_getElem? (i := 762) (by decide +kernel), List.mem_of_getElem? (i := 763) (by decide +kernel)⟩
def lw_privs_1 : List (MethodName × Nat) := [(⟨"SwornCourt$Kinship", "stepsOf", "(II)I"⟩, 4), (⟨"SwornCourt$Feuds", "isOf", "(III)Z"⟩, 5), (⟨"SwornCourt", "isPast", "(I)Z"⟩, 11), (⟨"SwornCourt$LawReader", "skipBlanks", "()V"⟩, 6), (⟨"SwornCourt$LawReader", "parseHead", "()Z"⟩, 6), (⟨"SwornCourt$LawReader", "wordEnd", "(I)I"⟩, 6), (⟨"SwornCourt$LawReader", "isWord", "(IILjava/lang/String;)Z"⟩, 6), (⟨"SwornCourt$LawReader", "blame", "(II)Z"⟩, 6), (⟨"SwornCourt$LawReader", "parseNumber", "(I)I"⟩, 6), (⟨"SwornCourt$LawReader", "parseRules", "()Z"⟩, 6), (⟨"SwornCourt$LawReader", "parseRule", "()Z"⟩, 6), (⟨"SwornCourt$LawReader", "ruleNamed", "(II)I"⟩, 6), (⟨"SwornCourt$Anew", "workOath", "(I)V"⟩, 12), (⟨"SwornCourt$Anew", "obstacleIn", "(IIIIII)I"⟩, 12), (⟨"SwornCourt$Anew", "isTooYoung", "(III)Z"⟩, 12), (⟨"SwornCourt$Anew", "isTooNear", "(III)Z"⟩, 12)]
theorem lw_r1 : ∀ q ∈ lw_privs_1, lw_okq q := List.forall_mem_cons.mpr ⟨lw_p0, List.forall_mem_cons.mpr ⟨lw_p1, List.forall_mem_cons.mpr ⟨lw_p2, List.forall_mem_cons.mpr ⟨lw_p3, List.forall_mem_cons.mpr ⟨lw_p4, List.forall_mem_cons.mpr ⟨lw_p5, List.forall_mem_cons.mpr ⟨lw_p6, List.forall_mem_cons.mpr ⟨lw_p7, List.forall_mem_cons.mpr ⟨lw_p8, List.forall_mem_cons.mpr ⟨lw_p9, List.forall_mem_cons.mpr ⟨lw_p10, List.forall_mem_cons.mpr ⟨lw_p11, List.forall_mem_cons.mpr ⟨lw_p12, List.forall_mem_cons.mpr ⟨lw_p13, List.forall_mem_cons.mpr ⟨lw_p14, List.forall_mem_cons.mpr ⟨lw_p15, fun _ h => absurd h List.not_mem_nil⟩⟩⟩⟩⟩⟩⟩⟩⟩⟩⟩⟩⟩⟩⟩⟩
theorem lw_p16 : lw_okq (⟨"SwornCourt$Anew", "sworeFalsely", "(IIII)Z"⟩, 12) := ⟨⟨by decide +kernel, by decide +kernel⟩, List.mem_of_getElem? (i := 280) (by decide +kernel), List.mem_of_getElem? (i := 771) (by decide +kernel), List.mem_of_getElem? (i := 772) (by decide +kernel)⟩
theorem lw_p17 : lw_okq (⟨"SwornCourt$Anew", "lostLately", "(III)Z"⟩, 12) := ⟨⟨by decide +kernel, by decide +kernel⟩, List.mem_of_getElem? (i := 280) (by decide +kernel), List.mem_of_getElem? (i := 782) (by decide +kernel), List.mem_of_getElem? (i := 783) (by decide +kernel)⟩
theorem lw_p18 : lw_okq (⟨"SwornCourt$Anew", "decide", "(III)V"⟩, 12) := ⟨⟨by decide +kernel, by decide +kernel⟩, List.mem_of_getElem? (i := 280) (by decide +kernel), List.mem_of_getElem? (i := 797) (by decide +kernel), List.mem_of_getElem? (i := 798) (by decide +kernel)⟩
theorem lw_p19 : lw_okq (⟨"SwornCourt", "maySwear", "(II)Z"⟩, 11) := ⟨⟨by decide +kernel, by decide +kernel⟩, List.mem_of_getElem? (i := 21) (by decide +kernel), List.mem_of_getElem? (i := 806) (by decide +kernel), List.mem_of_getElem? (i := 807) (by decide +kernel)⟩
theorem lw_p20 : lw_okq (⟨"SwornCourt$Docket", "addEvent", "(II)V"⟩, 17) := ⟨⟨by decide +kernel, by decide +kernel⟩, List.mem_of_getElem? (i := 189) (by decide +kernel), List.mem_of_getElem? (i := 827) (by decide +kernel), List.mem_of_getElem? (i := 828) (by decide +kernel)⟩
theorem lw_p21 : lw_okq (⟨"SwornCourt", "debtOf", "(I)I"⟩, 11) := ⟨⟨by decide +kernel, by decide +kernel⟩, List.mem_of_getElem? (i := 21) (by decide +kernel), List.mem_of_getElem? (i := 881) (by decide +kernel), List.mem_of_getElem? (i := 882) (by decide +kernel)⟩
theorem lw_p22 : lw_okq (⟨"SwornCourt$Finding", "gatherCallable", "(II)I"⟩, 18) := ⟨⟨by decide +kernel, by decide +kernel⟩, List.mem_of_getElem? (i := 348) (by decide +kernel), List.mem_of_getElem? (i := 926) (by decide +kernel), List.mem_of_getElem? (i := 927) (by decide +kernel)⟩
theorem lw_p23 : lw_okq (⟨"SwornCourt$Finding", "gatherEnough", "(III)V"⟩, 18) := ⟨⟨by decide +kernel, by decide +kernel⟩, List.mem_of_getElem? (i := 348) (by decide +kernel), List.mem_of_getElem? (i := 934) (by decide +kernel), List.mem_of_getElem? (i := 935) (by decide +kernel)⟩
theorem lw_p24 : lw_okq (⟨"SwornCourt$Finding", "addEnough", "(II)V"⟩, 18) := ⟨⟨by decide +kernel, by decide +kernel⟩, List.mem_of_getElem? (i := 348) (by decide +kernel), List.mem_of_getElem? (i := 939) (by decide +kernel), List.mem_of_getElem? (i := 940) (by decide +kernel)⟩
theorem lw_p25 : lw_okq (⟨"SwornCourt$Finding", "measureRoom", "(I)V"⟩, 18) := ⟨⟨by decide +kernel, by decide +kernel⟩, List.mem_of_getElem? (i := 348) (by decide +kernel), List.mem_of_getElem? (i := 943) (by decide +kernel), List.mem_of_getElem? (i := 944) (by decide +kernel)⟩
theorem lw_p26 : lw_okq (⟨"SwornCourt$Finding", "compare", "()V"⟩, 18) := ⟨⟨by decide +kernel, by decide +kernel⟩, List.mem_of_getElem? (i := 348) (by decide +kernel), List.mem_of_getElem? (i := 951) (by decide +kernel), List.mem_of_getElem? (i := 952) (by decide +kernel)⟩
theorem lw_p27 : lw_okq (⟨"SwornCourt$Finding", "take", "(II)V"⟩, 18) := ⟨⟨by decide +kernel, by decide +kernel⟩, List.mem_of_getElem? (i := 348) (by decide +kernel), List.mem_of_getElem? (i := 957) (by decide +kernel), List.mem_of_getElem? (i := 958) (by decide +kernel)⟩
theorem lw_p28 : lw_okq (⟨"SwornCourt$Finding", "giveBack", "(II)V"⟩, 18) := ⟨⟨by decide +kernel, by decide +kernel⟩, List.mem_of_getElem? (i := 348) (by decide +kernel), List.mem_of_getElem? (i := 961) (by decide +kernel), List.mem_of_getElem? (i := 962) (by decide +kernel)⟩
theorem lw_p29 : lw_okq (⟨"SwornCourt$Rings", "gather", "(LSwornCourt$Docket;I)V"⟩, 4) := ⟨⟨by decide +kernel, by decide +kernel⟩, List.mem_of_getElem? (i := 414) (by decide +kernel), List.mem_of_getElem? (i := 1000) (by decide +kernel), List.mem_of_getElem? (i := 1001) (by decide +kernel)⟩
theorem lw_p30 : lw_okq (⟨"SwornCourt$Rings", "measure", "(II)V"⟩, 4) := ⟨⟨by decide +kernel, by decide +kernel⟩, List.mem_of_getElem? (i := 414) (by decide +kernel), List.mem_of_getElem? (i := 1004) (by decide +kernel), List.mem_of_getElem? (i := 1005) (by decide +kernel)⟩
theorem lw_p31 : lw_okq (⟨"SwornCourt$Rings", "nearest", "(III)I"⟩, 4) := ⟨⟨by decide +kernel, by decide +kernel⟩, List.mem_of_getElem? (i := 414) (by decide +kernel), List.mem_of_getElem? (i := 1008) (by decide +kernel), List.mem_of_getElem? (i := 1009) (by decide +kernel)⟩
def lw_privs_2 : List (MethodName × Nat) := [(⟨"SwornCourt$Anew", "sworeFalsely", "(IIII)Z"⟩, 12), (⟨"SwornCourt$Anew", "lostLately", "(III)Z"⟩, 12), (⟨"SwornCourt$Anew", "decide", "(III)V"⟩, 12), (⟨"SwornCourt", "maySwear", "(II)Z"⟩, 11), (⟨"SwornCourt$Docket", "addEvent", "(II)V"⟩, 17), (⟨"SwornCourt", "debtOf", "(I)I"⟩, 11), (⟨"SwornCourt$Finding", "gatherCallable", "(II)I"⟩, 18), (⟨"SwornCourt$Finding", "gatherEnough", "(III)V"⟩, 18), (⟨"SwornCourt$Finding", "addEnough", "(II)V"⟩, 18), (⟨"SwornCourt$Finding", "measureRoom", "(I)V"⟩, 18), (⟨"SwornCourt$Finding", "compare", "()V"⟩, 18), (⟨"SwornCourt$Finding", "take", "(II)V"⟩, 18), (⟨"SwornCourt$Finding", "giveBack", "(II)V"⟩, 18), (⟨"SwornCourt$Rings", "gather", "(LSwornCourt$Docket;I)V"⟩, 4), (⟨"SwornCourt$Rings", "measure", "(II)V"⟩, 4), (⟨"SwornCourt$Rings", "nearest", "(III)I"⟩, 4)]
theorem lw_r2 : ∀ q ∈ lw_privs_2, lw_okq q := List.forall_mem_cons.mpr ⟨lw_p16, List.forall_mem_cons.mpr ⟨lw_p17, List.forall_mem_cons.mpr ⟨lw_p18, List.forall_mem_cons.mpr ⟨lw_p19, List.forall_mem_cons.mpr ⟨lw_p20, List.forall_mem_cons.mpr ⟨lw_p21, List.forall_mem_cons.mpr ⟨lw_p22, List.forall_mem_cons.mpr ⟨lw_p23, List.forall_mem_cons.mpr ⟨lw_p24, List.forall_mem_cons.mpr ⟨lw_p25, List.forall_mem_cons.mpr ⟨lw_p26, List.forall_mem_cons.mpr ⟨lw_p27, List.forall_mem_cons.mpr ⟨lw_p28, List.forall_mem_cons.mpr ⟨lw_p29, List.forall_mem_cons.mpr ⟨lw_p30, List.forall_mem_cons.mpr ⟨lw_p31, fun _ h => absurd h List.not_mem_nil⟩⟩⟩⟩⟩⟩⟩⟩⟩⟩⟩⟩⟩⟩⟩⟩
theorem lw_p32 : lw_okq (⟨"SwornCourt", "allDebts", "()I"⟩, 11) := ⟨⟨by decide +kernel, by decide +kernel⟩, List.mem_of_getElem? (i := 21) (by decide +kernel), List.mem_of_getElem? (i := 1033) (by decide +kernel), List.mem_of_getElem? (i := 1034) (by decide +kernel)⟩
theorem lw_p33 : lw_okq (⟨"SwornCourtModel", "isPerson", "(I)Z"⟩, 67) := ⟨⟨by decide +kernel, by decide +kernel⟩, List.mem_of_getElem? (i := 1041) (by decide +kernel), List.mem_of_getElem? (i := 1254) (by decide +kernel), List.mem_of_getElem? (i := 1255) (by decide +kernel)⟩
theorem lw_p34 : lw_okq (⟨"SwornCourtModel", "rankOf", "(II)I"⟩, 67) := ⟨⟨by decide +kernel, by decide +kernel⟩, List.mem_of_getElem? (i := 1041) (by decide +kernel), List.mem_of_getElem? (i := 1272) (by decide +kernel), List.mem_of_getElem? (i := 1273) (by decide +kernel)⟩
theorem lw_p35 : lw_okq (⟨"SwornCourtModel", "feudOf", "(III)I"⟩, 67) := ⟨⟨by decide +kernel, by decide +kernel⟩, List.mem_of_getElem? (i := 1041) (by decide +kernel), List.mem_of_getElem? (i := 1288) (by decide +kernel), List.mem_of_getElem? (i := 1289) (by decide +kernel)⟩
theorem lw_p36 : lw_okq (⟨"SwornCourtModel", "isDay", "(I)Z"⟩, 67) := ⟨⟨by decide +kernel, by decide +kernel⟩, List.mem_of_getElem? (i := 1041) (by decide +kernel), List.mem_of_getElem? (i := 1305) (by decide +kernel), List.mem_of_getElem? (i := 1306) (by decide +kernel)⟩
theorem lw_p37 : lw_okq (⟨"SwornCourtModel", "findKin", "(II)V"⟩, 67) := ⟨⟨by decide +kernel, by decide +kernel⟩, List.mem_of_getElem? (i := 1041) (by decide +kernel), List.mem_of_getElem? (i := 1314) (by decide +kernel), List.mem_of_getElem? (i := 1315) (by decide +kernel)⟩
theorem lw_p38 : lw_okq (⟨"SwornCourtModel", "climb", "(I[I)V"⟩, 67) := ⟨⟨by decide +kernel, by decide +kernel⟩, List.mem_of_getElem? (i := 1041) (by decide +kernel), List.mem_of_getElem? (i := 1318) (by decide +kernel), List.mem_of_getElem? (i := 1319) (by decide +kernel)⟩
theorem lw_p39 : lw_okq (⟨"SwornCourtModel", "readPart", "(I)I"⟩, 67) := ⟨⟨by decide +kernel, by decide +kernel⟩, List.mem_of_getElem? (i := 1041) (by decide +kernel), List.mem_of_getElem? (i := 1332) (by decide +kernel), List.mem_of_getElem? (i := 1333) (by decide +kernel)⟩
theorem lw_p40 : lw_okq (⟨"SwornCourtModel", "readWord", "()V"⟩, 67) := ⟨⟨by decide +kernel, by decide +kernel⟩, List.mem_of_getElem? (i := 1041) (by decide +kernel), List.mem_of_getElem? (i := 1336) (by decide +kernel), List.mem_of_getElem? (i := 1337) (by decide +kernel)⟩
theorem lw_p41 : lw_okq (⟨"SwornCourtModel", "here", "()I"⟩, 67) := ⟨⟨by decide +kernel, by decide +kernel⟩, List.mem_of_getElem? (i := 1041) (by decide +kernel), List.mem_of_getElem? (i := 1340) (by decide +kernel), List.mem_of_getElem? (i := 1341) (by decide +kernel)⟩
theorem lw_p42 : lw_okq (⟨"SwornCourtModel", "fails", "(II)I"⟩, 67) := ⟨⟨by decide +kernel, by decide +kernel⟩, List.mem_of_getElem? (i := 1041) (by decide +kernel), List.mem_of_getElem? (i := 1353) (by decide +kernel), List.mem_of_getElem? (i := 1354) (by decide +kernel)⟩
theorem lw_p43 : lw_okq (⟨"SwornCourtModel", "readNumber", "(I)I"⟩, 67) := ⟨⟨by decide +kernel, by decide +kernel⟩, List.mem_of_getElem? (i := 1041) (by decide +kernel), List.mem_of_getElem? (i := 1357) (by decide +kernel), List.mem_of_getElem? (i := 1358) (by decide +kernel)⟩
theorem lw_p44 : lw_okq (⟨"SwornCourtModel", "readRule", "(I)I"⟩, 67) := ⟨⟨by decide +kernel, by decide +kernel⟩, List.mem_of_getElem? (i := 1041) (by decide +kernel), List.mem_of_getElem? (i := 1363) (by decide +kernel), List.mem_of_getElem? (i := 1364) (by decide +kernel)⟩
theorem lw_p45 : lw_okq (⟨"SwornCourtModel", "ruleOf", "()I"⟩, 67) := ⟨⟨by decide +kernel, by decide +kernel⟩, List.mem_of_getElem? (i := 1041) (by decide +kernel), List.mem_of_getElem? (i := 1367) (by decide +kernel), List.mem_of_getElem? (i := 1368) (by decide +kernel)⟩
theorem lw_p46 : lw_okq (⟨"SwornCourtModel", "ruleOn", "(III)I"⟩, 67) := ⟨⟨by decide +kernel, by decide +kernel⟩, List.mem_of_getElem? (i := 1041) (by decide +kernel), List.mem_of_getElem? (i := 1387) (by decide +kernel), List.mem_of_getElem? (i := 1388) (by decide +kernel)⟩
theorem lw_p47 : lw_okq (⟨"SwornCourtModel", "isCharge", "(I)Z"⟩, 67) := ⟨⟨by decide +kernel, by decide +kernel⟩, List.mem_of_getElem? (i := 1041) (by decide +kernel), List.mem_of_getElem? (i := 1402) (by decide +kernel), List.mem_of_getElem? (i := 1403) (by decide +kernel)⟩
def lw_privs_3 : List (MethodName × Nat) := [(⟨"SwornCourt", "allDebts", "()I"⟩, 11), (⟨"SwornCourtModel", "isPerson", "(I)Z"⟩, 67), (⟨"SwornCourtModel", "rankOf", "(II)I"⟩, 67), (⟨"SwornCourtModel", "feudOf", "(III)I"⟩, 67), (⟨"SwornCourtModel", "isDay", "(I)Z"⟩, 67), (⟨"SwornCourtModel", "findKin", "(II)V"⟩, 67), (⟨"SwornCourtModel", "climb", "(I[I)V"⟩, 67), (⟨"SwornCourtModel", "readPart", "(I)I"⟩, 67), (⟨"SwornCourtModel", "readWord", "()V"⟩, 67), (⟨"SwornCourtModel", "here", "()I"⟩, 67), (⟨"SwornCourtModel", "fails", "(II)I"⟩, 67), (⟨"SwornCourtModel", "readNumber", "(I)I"⟩, 67), (⟨"SwornCourtModel", "readRule", "(I)I"⟩, 67), (⟨"SwornCourtModel", "ruleOf", "()I"⟩, 67), (⟨"SwornCourtModel", "ruleOn", "(III)I"⟩, 67), (⟨"SwornCourtModel", "isCharge", "(I)Z"⟩, 67)]
theorem lw_r3 : ∀ q ∈ lw_privs_3, lw_okq q := List.forall_mem_cons.mpr ⟨lw_p32, List.forall_mem_cons.mpr ⟨lw_p33, List.forall_mem_cons.mpr ⟨lw_p34, List.forall_mem_cons.mpr ⟨lw_p35, List.forall_mem_cons.mpr ⟨lw_p36, List.forall_mem_cons.mpr ⟨lw_p37, List.forall_mem_cons.mpr ⟨lw_p38, List.forall_mem_cons.mpr ⟨lw_p39, List.forall_mem_cons.mpr ⟨lw_p40, List.forall_mem_cons.mpr ⟨lw_p41, List.forall_mem_cons.mpr ⟨lw_p42, List.forall_mem_cons.mpr ⟨lw_p43, List.forall_mem_cons.mpr ⟨lw_p44, List.forall_mem_cons.mpr ⟨lw_p45, List.forall_mem_cons.mpr ⟨lw_p46, List.forall_mem_cons.mpr ⟨lw_p47, fun _ h => absurd h List.not_mem_nil⟩⟩⟩⟩⟩⟩⟩⟩⟩⟩⟩⟩⟩⟩⟩⟩
theorem lw_p48 : lw_okq (⟨"SwornCourtModel", "work", "(I)V"⟩, 67) := ⟨⟨by decide +kernel, by decide +kernel⟩, List.mem_of_getElem? (i := 1041) (by decide +kernel), List.mem_of_getElem? (i := 1406) (by decide +kernel), List.mem_of_getElem? (i := 1407) (by decide +kernel)⟩
theorem lw_p49 : lw_okq (⟨"SwornCourtModel", "decide", "(III)V"⟩, 67) := ⟨⟨by decide +kernel, by decide +kernel⟩, List.mem_of_getElem? (i := 1041) (by decide +kernel), List.mem_of_getElem? (i := 1410) (by decide +kernel), List.mem_of_getElem? (i := 1411) (by decide +kernel)⟩
theorem lw_p50 : lw_okq (⟨"SwornCourtModel", "barredFrom", "(IIII)I"⟩, 67) := ⟨⟨by decide +kernel, by decide +kernel⟩, List.mem_of_getElem? (i := 1041) (by decide +kernel), List.mem_of_getElem? (i := 1414) (by decide +kernel), List.mem_of_getElem? (i := 1415) (by decide +kernel)⟩
theorem lw_p51 : lw_okq (⟨"SwornCourtModel", "barredBy", "(IIIIIII)I"⟩, 67) := ⟨⟨by decide +kernel, by decide +kernel⟩, List.mem_of_getElem? (i := 1041) (by decide +kernel), List.mem_of_getElem? (i := 1418) (by decide +kernel), List.mem_of_getElem? (i := 1419) (by decide +kernel)⟩
theorem lw_p52 : lw_okq (⟨"SwornCourtModel", "isFound", "(II)Z"⟩, 67) := ⟨⟨by decide +kernel, by decide +kernel⟩, List.mem_of_getElem? (i := 1041) (by decide +kernel), List.mem_of_getElem? (i := 1422) (by decide +kernel), List.mem_of_getElem? (i := 1423) (by decide +kernel)⟩
theorem lw_p53 : lw_okq (⟨"SwornCourtModel", "ruleFor", "(II)I"⟩, 67) := ⟨⟨by decide +kernel, by decide +kernel⟩, List.mem_of_getElem? (i := 1041) (by decide +kernel), List.mem_of_getElem? (i := 1426) (by decide +kernel), List.mem_of_getElem? (i := 1427) (by decide +kernel)⟩
theorem lw_p54 : lw_okq (⟨"SwornCourtModel", "hasSworn", "(II)Z"⟩, 67) := ⟨⟨by decide +kernel, by decide +kernel⟩, List.mem_of_getElem? (i := 1041) (by decide +kernel), List.mem_of_getElem? (i := 1434) (by decide +kernel), List.mem_of_getElem? (i := 1435) (by decide +kernel)⟩
theorem lw_p55 : lw_okq (⟨"SwornCourtModel", "swornToday", "(I)I"⟩, 67) := ⟨⟨by decide +kernel, by decide +kernel⟩, List.mem_of_getElem? (i := 1041) (by decide +kernel), List.mem_of_getElem? (i := 1438) (by decide +kernel), List.mem_of_getElem? (i := 1439) (by decide +kernel)⟩
theorem lw_p56 : lw_okq (⟨"SwornCourtModel", "tell", "(II)V"⟩, 67) := ⟨⟨by decide +kernel, by decide +kernel⟩, List.mem_of_getElem? (i := 1041) (by decide +kernel), List.mem_of_getElem? (i := 1442) (by decide +kernel), List.mem_of_getElem? (i := 1443) (by decide +kernel)⟩
theorem lw_p57 : lw_okq (⟨"SwornCourtModel", "lackOf", "(I)I"⟩, 67) := ⟨⟨by decide +kernel, by decide +kernel⟩, List.mem_of_getElem? (i := 1041) (by decide +kernel), List.mem_of_getElem? (i := 1450) (by decide +kernel), List.mem_of_getElem? (i := 1451) (by decide +kernel)⟩
theorem lw_p58 : lw_okq (⟨"SwornCourtModel", "finesOf", "(II)I"⟩, 67) := ⟨⟨by decide +kernel, by decide +kernel⟩, List.mem_of_getElem? (i := 1041) (by decide +kernel), List.mem_of_getElem? (i := 1474) (by decide +kernel), List.mem_of_getElem? (i := 1475) (by decide +kernel)⟩
theorem lw_p59 : lw_okq (⟨"SwornCourtModel", "paidOf", "(II)I"⟩, 67) := ⟨⟨by decide +kernel, by decide +kernel⟩, List.mem_of_getElem? (i := 1041) (by decide +kernel), List.mem_of_getElem? (i := 1478) (by decide +kernel), List.mem_of_getElem? (i := 1479) (by decide +kernel)⟩
theorem lw_p60 : lw_okq (⟨"SwornCourtModel", "hold", "(I)I"⟩, 67) := ⟨⟨by decide +kernel, by decide +kernel⟩, List.mem_of_getElem? (i := 1041) (by decide +kernel), List.mem_of_getElem? (i := 1496) (by decide +kernel), List.mem_of_getElem? (i := 1497) (by decide +kernel)⟩
theorem lw_p61 : lw_okq (⟨"SwornCourtModel", "findCallable", "(I)V"⟩, 67) := ⟨⟨by decide +kernel, by decide +kernel⟩, List.mem_of_getElem? (i := 1041) (by decide +kernel), List.mem_of_getElem? (i := 1503) (by decide +kernel), List.mem_of_getElem? (i := 1504) (by decide +kernel)⟩
theorem lw_p62 : lw_okq (⟨"SwornCourtModel", "seek", "()V"⟩, 67) := ⟨⟨by decide +kernel, by decide +kernel⟩, List.mem_of_getElem? (i := 1041) (by decide +kernel), List.mem_of_getElem? (i := 1507) (by decide +kernel), List.mem_of_getElem? (i := 1508) (by decide +kernel)⟩
theorem lw_p63 : lw_okq (⟨"SwornCourtModel", "call", "(III)V"⟩, 67) := ⟨⟨by decide +kernel, by decide +kernel⟩, List.mem_of_getElem? (i := 1041) (by decide +kernel), List.mem_of_getElem? (i := 1511) (by decide +kernel), List.mem_of_getElem? (i := 1512) (by decide +kernel)⟩
def lw_privs_4 : List (MethodName × Nat) := [(⟨"SwornCourtModel", "work", "(I)V"⟩, 67), (⟨"SwornCourtModel", "decide", "(III)V"⟩, 67), (⟨"SwornCourtModel", "barredFrom", "(IIII)I"⟩, 67), (⟨"SwornCourtModel", "barredBy", "(IIIIIII)I"⟩, 67), (⟨"SwornCourtModel", "isFound", "(II)Z"⟩, 67), (⟨"SwornCourtModel", "ruleFor", "(II)I"⟩, 67), (⟨"SwornCourtModel", "hasSworn", "(II)Z"⟩, 67), (⟨"SwornCourtModel", "swornToday", "(I)I"⟩, 67), (⟨"SwornCourtModel", "tell", "(II)V"⟩, 67), (⟨"SwornCourtModel", "lackOf", "(I)I"⟩, 67), (⟨"SwornCourtModel", "finesOf", "(II)I"⟩, 67), (⟨"SwornCourtModel", "paidOf", "(II)I"⟩, 67), (⟨"SwornCourtModel", "hold", "(I)I"⟩, 67), (⟨"SwornCourtModel", "findCallable", "(I)V"⟩, 67), (⟨"SwornCourtModel", "seek", "()V"⟩, 67), (⟨"SwornCourtModel", "call", "(III)V"⟩, 67)]
theorem lw_r4 : ∀ q ∈ lw_privs_4, lw_okq q := List.forall_mem_cons.mpr ⟨lw_p48, List.forall_mem_cons.mpr ⟨lw_p49, List.forall_mem_cons.mpr ⟨lw_p50, List.forall_mem_cons.mpr ⟨lw_p51, List.forall_mem_cons.mpr ⟨lw_p52, List.forall_mem_cons.mpr ⟨lw_p53, List.forall_mem_cons.mpr ⟨lw_p54, List.forall_mem_cons.mpr ⟨lw_p55, List.forall_mem_cons.mpr ⟨lw_p56, List.forall_mem_cons.mpr ⟨lw_p57, List.forall_mem_cons.mpr ⟨lw_p58, List.forall_mem_cons.mpr ⟨lw_p59, List.forall_mem_cons.mpr ⟨lw_p60, List.forall_mem_cons.mpr ⟨lw_p61, List.forall_mem_cons.mpr ⟨lw_p62, List.forall_mem_cons.mpr ⟨lw_p63, fun _ h => absurd h List.not_mem_nil⟩⟩⟩⟩⟩⟩⟩⟩⟩⟩⟩⟩⟩⟩⟩⟩
theorem lw_p64 : lw_okq (⟨"SwornCourtModel", "isWithin", "(II)Z"⟩, 67) := ⟨⟨by decide +kernel, by decide +kernel⟩, List.mem_of_getElem? (i := 1041) (by decide +kernel), List.mem_of_getElem? (i := 1515) (by decide +kernel), List.mem_of_getElem? (i := 1516) (by decide +kernel)⟩
theorem lw_p65 : lw_okq (⟨"SwornCourtModel", "compare", "(I)V"⟩, 67) := ⟨⟨by decide +kernel, by decide +kernel⟩, List.mem_of_getElem? (i := 1041) (by decide +kernel), List.mem_of_getElem? (i := 1519) (by decide +kernel), List.mem_of_getElem? (i := 1520) (by decide +kernel)⟩
theorem lw_p66 : lw_okq (⟨"SwornCourtModel", "stoodFor", "(II)I"⟩, 67) := ⟨⟨by decide +kernel, by decide +kernel⟩, List.mem_of_getElem? (i := 1041) (by decide +kernel), List.mem_of_getElem? (i := 1535) (by decide +kernel), List.mem_of_getElem? (i := 1536) (by decide +kernel)⟩
theorem lw_p67 : lw_okq (⟨"SwornCourtModel", "leftFor", "(II)I"⟩, 67) := ⟨⟨by decide +kernel, by decide +kernel⟩, List.mem_of_getElem? (i := 1041) (by decide +kernel), List.mem_of_getElem? (i := 1547) (by decide +kernel), List.mem_of_getElem? (i := 1548) (by decide +kernel)⟩
def lw_privs_5 : List (MethodName × Nat) := [(⟨"SwornCourtModel", "isWithin", "(II)Z"⟩, 67), (⟨"SwornCourtModel", "compare", "(I)V"⟩, 67), (⟨"SwornCourtModel", "stoodFor", "(II)I"⟩, 67), (⟨"SwornCourtModel", "leftFor", "(II)I"⟩, 67)]
theorem lw_r5 : ∀ q ∈ lw_privs_5, lw_okq q := List.forall_mem_cons.mpr ⟨lw_p64, List.forall_mem_cons.mpr ⟨lw_p65, List.forall_mem_cons.mpr ⟨lw_p66, List.forall_mem_cons.mpr ⟨lw_p67, fun _ h => absurd h List.not_mem_nil⟩⟩⟩⟩
def lw_privs : List (MethodName × Nat) := lw_privs_1 ++ (lw_privs_2 ++ (lw_privs_3 ++ (lw_privs_4 ++ (lw_privs_5))))
def lw_tbl : List Cond := k2_sels lw_privs ++ tables_1
theorem lw_privs_ok : ∀ q ∈ lw_privs, lw_okq q := by
  show ∀ q ∈ lw_privs_1 ++ (lw_privs_2 ++ (lw_privs_3 ++ (lw_privs_4 ++ (lw_privs_5)))), lw_okq q
  exact List.forall_mem_append.mpr ⟨lw_r1, List.forall_mem_append.mpr ⟨lw_r2, List.forall_mem_append.mpr ⟨lw_r3, List.forall_mem_append.mpr ⟨lw_r4, lw_r5⟩⟩⟩⟩
def RX0 : String := "SwornCourt$Anew"
def TX0 : u_T := fun k => match k with
  | 0 => ("SwornCourt$Anew", "people", "LSwornCourt$People;", true)
  | 1 => ("SwornCourt$Anew", "feuds", "LSwornCourt$Feuds;", true)
  | 2 => ("SwornCourt$Anew", "kinship", "LSwornCourt$Kinship;", true)
  | 3 => ("SwornCourt$Anew", "laws", "LSwornCourt$Laws;", true)
  | 4 => ("SwornCourt$Anew", "docket", "LSwornCourt$Docket;", true)
  | 5 => ("SwornCourt$Anew", "state", "[I", true)
  | 6 => ("SwornCourt$Anew", "decidedOn", "[I", true)
  | 7 => ("SwornCourt$Anew", "total", "[I", true)
  | 8 => ("SwornCourt$Anew", "oathCounts", "[I", true)
  | 9 => ("SwornCourt$Anew", "remembered", "[I", true)
  | 10 => ("SwornCourt$Anew", "seen", "I", false)
  | _ => ("SwornCourt$Anew", "worked", "I", false)
def tyX0 : Nat → FieldType := fun k => match k with
  | 0 => .object "SwornCourt$People"
  | 1 => .object "SwornCourt$Feuds"
  | 2 => .object "SwornCourt$Kinship"
  | 3 => .object "SwornCourt$Laws"
  | 4 => .object "SwornCourt$Docket"
  | 5 => .array .int
  | 6 => .array .int
  | 7 => .array .int
  | 8 => .array .int
  | 9 => .array .int
  | 10 => .int
  | _ => .int
theorem nmX0 : ∀ a, a < 12 → ∀ b, b < 12 → a ≠ b → (TX0 a).2.1 ≠ (TX0 b).2.1 := by decide +kernel
theorem tyX0_ok : ∀ k, k < 12 → parseFieldDescriptor (TX0 k).2.2.1 = some (tyX0 k) := by decide +kernel
abbrev cX0_init : ByteArray := prog_2_method_1_code
def yX0_init : MethodName := ⟨RX0, "<init>", "(LSwornCourt$People;LSwornCourt$Feuds;LSwornCourt$Kinship;LSwornCourt$Laws;LSwornCourt$Docket;)V"⟩
abbrev cX0_work : ByteArray := prog_2_method_2_code
def yX0_work : MethodName := ⟨RX0, "work", "(I)V"⟩
abbrev cX0_workOath : ByteArray := prog_2_method_3_code
def yX0_workOath : MethodName := ⟨RX0, "workOath", "(I)V"⟩
abbrev cX0_decide : ByteArray := prog_2_method_4_code
def yX0_decide : MethodName := ⟨RX0, "decide", "(III)V"⟩
abbrev cX0_remember : ByteArray := prog_2_method_5_code
def yX0_remember : MethodName := ⟨RX0, "remember", "()V"⟩
abbrev cX0_differing : ByteArray := prog_2_method_6_code
def yX0_differing : MethodName := ⟨RX0, "differing", "(I)I"⟩
abbrev cX0_needOf : ByteArray := prog_2_method_7_code
def yX0_needOf : MethodName := ⟨RX0, "needOf", "(I)I"⟩
abbrev cX0_lackOf : ByteArray := prog_2_method_8_code
def yX0_lackOf : MethodName := ⟨RX0, "lackOf", "(I)I"⟩
abbrev cX0_chargesIn : ByteArray := prog_2_method_9_code
def yX0_chargesIn : MethodName := ⟨RX0, "chargesIn", "(I)I"⟩
abbrev cX0_allOpen : ByteArray := prog_2_method_10_code
def yX0_allOpen : MethodName := ⟨RX0, "allOpen", "(I)Z"⟩
abbrev cX0_weightOf : ByteArray := prog_2_method_11_code
def yX0_weightOf : MethodName := ⟨RX0, "weightOf", "(III)I"⟩
abbrev cX0_obstacle : ByteArray := prog_2_method_12_code
def yX0_obstacle : MethodName := ⟨RX0, "obstacle", "(III)I"⟩
abbrev cX0_obstacleIn : ByteArray := prog_2_method_13_code
def yX0_obstacleIn : MethodName := ⟨RX0, "obstacleIn", "(IIIIII)I"⟩
abbrev cX0_isTooYoung : ByteArray := prog_2_method_14_code
def yX0_isTooYoung : MethodName := ⟨RX0, "isTooYoung", "(III)Z"⟩
abbrev cX0_isTooNear : ByteArray := prog_2_method_15_code
def yX0_isTooNear : MethodName := ⟨RX0, "isTooNear", "(III)Z"⟩
abbrev cX0_sworeFalsely : ByteArray := prog_2_method_16_code
def yX0_sworeFalsely : MethodName := ⟨RX0, "sworeFalsely", "(IIII)Z"⟩
abbrev cX0_lostLately : ByteArray := prog_2_method_17_code
def yX0_lostLately : MethodName := ⟨RX0, "lostLately", "(III)Z"⟩
abbrev cX0_isLately : ByteArray := prog_2_method_18_code
def yX0_isLately : MethodName := ⟨RX0, "isLately", "(III)Z"⟩
abbrev cX0_helpInSight : ByteArray := prog_2_method_19_code
def yX0_helpInSight : MethodName := ⟨RX0, "helpInSight", "(II)I"⟩
abbrev cX0_helpAgainst : ByteArray := prog_2_method_20_code
def yX0_helpAgainst : MethodName := ⟨RX0, "helpAgainst", "(III)I"⟩
abbrev cX0_finesOf : ByteArray := prog_2_method_21_code
def yX0_finesOf : MethodName := ⟨RX0, "finesOf", "(I)I"⟩
def RX1 : String := "SwornCourt$Docket"
def TX1 : u_T := fun k => match k with
  | 0 => ("SwornCourt$Docket", "kind", "[I", true)
  | 1 => ("SwornCourt$Docket", "accused", "[I", true)
  | 2 => ("SwornCourt$Docket", "accuser", "[I", true)
  | 3 => ("SwornCourt$Docket", "deed", "[I", true)
  | 4 => ("SwornCourt$Docket", "toldOn", "[I", true)
  | 5 => ("SwornCourt$Docket", "lawRow", "[I", true)
  | 6 => ("SwornCourt$Docket", "foundOn", "[I", true)
  | 7 => ("SwornCourt$Docket", "metBy", "[I", true)
  | 8 => ("SwornCourt$Docket", "oathWho", "[I", true)
  | 9 => ("SwornCourt$Docket", "oathFor", "[I", true)
  | 10 => ("SwornCourt$Docket", "oathOn", "[I", true)
  | 11 => ("SwornCourt$Docket", "oathWeight", "[I", true)
  | 12 => ("SwornCourt$Docket", "eventIs", "[I", true)
  | 13 => ("SwornCourt$Docket", "eventOn", "[I", true)
  | 14 => ("SwornCourt$Docket", "charges", "I", false)
  | 15 => ("SwornCourt$Docket", "oaths", "I", false)
  | _ => ("SwornCourt$Docket", "events", "I", false)
def tyX1 : Nat → FieldType := fun k => match k with
  | 0 => .array .int
  | 1 => .array .int
  | 2 => .array .int
  | 3 => .array .int
  | 4 => .array .int
  | 5 => .array .int
  | 6 => .array .int
  | 7 => .array .int
  | 8 => .array .int
  | 9 => .array .int
  | 10 => .array .int
  | 11 => .array .int
  | 12 => .array .int
  | 13 => .array .int
  | 14 => .int
  | 15 => .int
  | _ => .int
theorem nmX1 : ∀ a, a < 17 → ∀ b, b < 17 → a ≠ b → (TX1 a).2.1 ≠ (TX1 b).2.1 := by decide +kernel
theorem tyX1_ok : ∀ k, k < 17 → parseFieldDescriptor (TX1 k).2.2.1 = some (tyX1 k) := by decide +kernel
abbrev cX1_init : ByteArray := prog_3_method_1_code
def yX1_init : MethodName := ⟨RX1, "<init>", "()V"⟩
abbrev cX1_hasCharge : ByteArray := prog_3_method_2_code
def yX1_hasCharge : MethodName := ⟨RX1, "hasCharge", "(I)Z"⟩
abbrev cX1_hasAll : ByteArray := prog_3_method_3_code
def yX1_hasAll : MethodName := ⟨RX1, "hasAll", "(I)Z"⟩
abbrev cX1_addCharge : ByteArray := prog_3_method_4_code
def yX1_addCharge : MethodName := ⟨RX1, "addCharge", "(IIIIII)I"⟩
abbrev cX1_addOath : ByteArray := prog_3_method_5_code
def yX1_addOath : MethodName := ⟨RX1, "addOath", "(IIII)I"⟩
abbrev cX1_addClosing : ByteArray := prog_3_method_6_code
def yX1_addClosing : MethodName := ⟨RX1, "addClosing", "(II)V"⟩
abbrev cX1_addEvent : ByteArray := prog_3_method_7_code
def yX1_addEvent : MethodName := ⟨RX1, "addEvent", "(II)V"⟩
abbrev cX1_hasSworn : ByteArray := prog_3_method_8_code
def yX1_hasSworn : MethodName := ⟨RX1, "hasSworn", "(II)Z"⟩
abbrev cX1_isFound : ByteArray := prog_3_method_9_code
def yX1_isFound : MethodName := ⟨RX1, "isFound", "(II)Z"⟩
abbrev cX1_oathsFor : ByteArray := prog_3_method_10_code
def yX1_oathsFor : MethodName := ⟨RX1, "oathsFor", "(I)I"⟩
abbrev cX1_oathsOfOn : ByteArray := prog_3_method_11_code
def yX1_oathsOfOn : MethodName := ⟨RX1, "oathsOfOn", "(II)I"⟩
abbrev cX1_oathsOfFor : ByteArray := prog_3_method_12_code
def yX1_oathsOfFor : MethodName := ⟨RX1, "oathsOfFor", "(II)I"⟩
def RX2 : String := "SwornCourt$Feuds"
def TX2 : u_T := fun k => match k with
  | 0 => ("SwornCourt$Feuds", "oneHouse", "[I", true)
  | 1 => ("SwornCourt$Feuds", "otherHouse", "[I", true)
  | 2 => ("SwornCourt$Feuds", "begun", "[I", true)
  | 3 => ("SwornCourt$Feuds", "ended", "[I", true)
  | _ => ("SwornCourt$Feuds", "size", "I", false)
def tyX2 : Nat → FieldType := fun k => match k with
  | 0 => .array .int
  | 1 => .array .int
  | 2 => .array .int
  | 3 => .array .int
  | _ => .int
theorem nmX2 : ∀ a, a < 5 → ∀ b, b < 5 → a ≠ b → (TX2 a).2.1 ≠ (TX2 b).2.1 := by decide +kernel
theorem tyX2_ok : ∀ k, k < 5 → parseFieldDescriptor (TX2 k).2.2.1 = some (tyX2 k) := by decide +kernel
abbrev cX2_init : ByteArray := prog_4_method_1_code
def yX2_init : MethodName := ⟨RX2, "<init>", "()V"⟩
abbrev cX2_add : ByteArray := prog_4_method_2_code
def yX2_add : MethodName := ⟨RX2, "add", "(III)V"⟩
abbrev cX2_isOf : ByteArray := prog_4_method_3_code
def yX2_isOf : MethodName := ⟨RX2, "isOf", "(III)Z"⟩
abbrev cX2_standing : ByteArray := prog_4_method_4_code
def yX2_standing : MethodName := ⟨RX2, "standing", "(II)I"⟩
abbrev cX2_allStanding : ByteArray := prog_4_method_5_code
def yX2_allStanding : MethodName := ⟨RX2, "allStanding", "()I"⟩
abbrev cX2_holds : ByteArray := prog_4_method_6_code
def yX2_holds : MethodName := ⟨RX2, "holds", "(III)Z"⟩
def RX3 : String := "SwornCourt$Finding"
def TX3 : u_T := fun k => match k with
  | 0 => ("SwornCourt$Finding", "people", "LSwornCourt$People;", true)
  | 1 => ("SwornCourt$Finding", "docket", "LSwornCourt$Docket;", true)
  | 2 => ("SwornCourt$Finding", "anew", "LSwornCourt$Anew;", true)
  | 3 => ("SwornCourt$Finding", "charges", "[I", true)
  | 4 => ("SwornCourt$Finding", "enoughSize", "[I", true)
  | 5 => ("SwornCourt$Finding", "enough", "[I", true)
  | 6 => ("SwornCourt$Finding", "callable", "[I", true)
  | 7 => ("SwornCourt$Finding", "weight", "[I", true)
  | 8 => ("SwornCourt$Finding", "room", "[I", true)
  | 9 => ("SwornCourt$Finding", "way", "[I", true)
  | 10 => ("SwornCourt$Finding", "best", "[I", true)
  | 11 => ("SwornCourt$Finding", "size", "I", false)
  | 12 => ("SwornCourt$Finding", "busy", "I", false)
  | 13 => ("SwornCourt$Finding", "bound", "I", false)
  | 14 => ("SwornCourt$Finding", "looks", "I", false)
  | 15 => ("SwornCourt$Finding", "spent", "Z", false)
  | 16 => ("SwornCourt$Finding", "bestMet", "I", false)
  | _ => ("SwornCourt$Finding", "bestCalls", "I", false)
def tyX3 : Nat → FieldType := fun k => match k with
  | 0 => .object "SwornCourt$People"
  | 1 => .object "SwornCourt$Docket"
  | 2 => .object "SwornCourt$Anew"
  | 3 => .array .int
  | 4 => .array .int
  | 5 => .array .int
  | 6 => .array .int
  | 7 => .array .int
  | 8 => .array .int
  | 9 => .array .int
  | 10 => .array .int
  | 11 => .int
  | 12 => .int
  | 13 => .int
  | 14 => .int
  | 15 => .boolean
  | 16 => .int
  | _ => .int
theorem nmX3 : ∀ a, a < 18 → ∀ b, b < 18 → a ≠ b → (TX3 a).2.1 ≠ (TX3 b).2.1 := by decide +kernel
theorem tyX3_ok : ∀ k, k < 18 → parseFieldDescriptor (TX3 k).2.2.1 = some (tyX3 k) := by decide +kernel
abbrev cX3_init : ByteArray := prog_5_method_1_code
def yX3_init : MethodName := ⟨RX3, "<init>", "(LSwornCourt$People;LSwornCourt$Docket;LSwornCourt$Anew;)V"⟩
abbrev cX3_seekFor : ByteArray := prog_5_method_2_code
def yX3_seekFor : MethodName := ⟨RX3, "seekFor", "(II)V"⟩
abbrev cX3_calledFor : ByteArray := prog_5_method_3_code
def yX3_calledFor : MethodName := ⟨RX3, "calledFor", "(I)I"⟩
abbrev cX3_measureRoom : ByteArray := prog_5_method_4_code
def yX3_measureRoom : MethodName := ⟨RX3, "measureRoom", "(I)V"⟩
abbrev cX3_gatherEnough : ByteArray := prog_5_method_5_code
def yX3_gatherEnough : MethodName := ⟨RX3, "gatherEnough", "(III)V"⟩
abbrev cX3_gatherCallable : ByteArray := prog_5_method_6_code
def yX3_gatherCallable : MethodName := ⟨RX3, "gatherCallable", "(II)I"⟩
abbrev cX3_addEnough : ByteArray := prog_5_method_7_code
def yX3_addEnough : MethodName := ⟨RX3, "addEnough", "(II)V"⟩
abbrev cX3_descend : ByteArray := prog_5_method_8_code
def yX3_descend : MethodName := ⟨RX3, "descend", "(LSwornCourt$Finding;I)V"⟩
abbrev cX3_take : ByteArray := prog_5_method_9_code
def yX3_take : MethodName := ⟨RX3, "take", "(II)V"⟩
abbrev cX3_giveBack : ByteArray := prog_5_method_10_code
def yX3_giveBack : MethodName := ⟨RX3, "giveBack", "(II)V"⟩
abbrev cX3_compare : ByteArray := prog_5_method_11_code
def yX3_compare : MethodName := ⟨RX3, "compare", "()V"⟩
def RX4 : String := "SwornCourt$Kinship"
def TX4 : u_T := fun k => match k with
  | 0 => ("SwornCourt$Kinship", "steps", "[I", true)
  | 1 => ("SwornCourt$Kinship", "degree", "I", false)
  | 2 => ("SwornCourt$Kinship", "tie", "I", false)
  | _ => ("SwornCourt$Kinship", "half", "Z", false)
def tyX4 : Nat → FieldType := fun k => match k with
  | 0 => .array .int
  | 1 => .int
  | 2 => .int
  | _ => .boolean
theorem nmX4 : ∀ a, a < 4 → ∀ b, b < 4 → a ≠ b → (TX4 a).2.1 ≠ (TX4 b).2.1 := by decide +kernel
theorem tyX4_ok : ∀ k, k < 4 → parseFieldDescriptor (TX4 k).2.2.1 = some (tyX4 k) := by decide +kernel
abbrev cX4_init : ByteArray := prog_6_method_1_code
def yX4_init : MethodName := ⟨RX4, "<init>", "()V"⟩
abbrev cX4_learn : ByteArray := prog_6_method_2_code
def yX4_learn : MethodName := ⟨RX4, "learn", "(III)V"⟩
abbrev cX4_stepsOf : ByteArray := prog_6_method_3_code
def yX4_stepsOf : MethodName := ⟨RX4, "stepsOf", "(II)I"⟩
abbrev cX4_measure : ByteArray := prog_6_method_4_code
def yX4_measure : MethodName := ⟨RX4, "measure", "(II)V"⟩
def RX5 : String := "SwornCourt$LawReader"
def TX5 : u_T := fun k => match k with
  | 0 => ("SwornCourt$LawReader", "text", "[I", true)
  | 1 => ("SwornCourt$LawReader", "draft", "LSwornCourt$Laws;", true)
  | 2 => ("SwornCourt$LawReader", "length", "I", false)
  | 3 => ("SwornCourt$LawReader", "at", "I", false)
  | 4 => ("SwornCourt$LawReader", "faultNumber", "I", false)
  | _ => ("SwornCourt$LawReader", "faultByte", "I", false)
def tyX5 : Nat → FieldType := fun k => match k with
  | 0 => .array .int
  | 1 => .object "SwornCourt$Laws"
  | 2 => .int
  | 3 => .int
  | 4 => .int
  | _ => .int
theorem nmX5 : ∀ a, a < 6 → ∀ b, b < 6 → a ≠ b → (TX5 a).2.1 ≠ (TX5 b).2.1 := by decide +kernel
theorem tyX5_ok : ∀ k, k < 6 → parseFieldDescriptor (TX5 k).2.2.1 = some (tyX5 k) := by decide +kernel
abbrev cX5_init : ByteArray := prog_7_method_1_code
def yX5_init : MethodName := ⟨RX5, "<init>", "()V"⟩
abbrev cX5_append : ByteArray := prog_7_method_2_code
def yX5_append : MethodName := ⟨RX5, "append", "(IJ)V"⟩
abbrev cX5_parse : ByteArray := prog_7_method_3_code
def yX5_parse : MethodName := ⟨RX5, "parse", "()Z"⟩
abbrev cX5_parseHead : ByteArray := prog_7_method_4_code
def yX5_parseHead : MethodName := ⟨RX5, "parseHead", "()Z"⟩
abbrev cX5_parseRules : ByteArray := prog_7_method_5_code
def yX5_parseRules : MethodName := ⟨RX5, "parseRules", "()Z"⟩
abbrev cX5_parseRule : ByteArray := prog_7_method_6_code
def yX5_parseRule : MethodName := ⟨RX5, "parseRule", "()Z"⟩
abbrev cX5_parseNumber : ByteArray := prog_7_method_7_code
def yX5_parseNumber : MethodName := ⟨RX5, "parseNumber", "(I)I"⟩
abbrev cX5_blame : ByteArray := prog_7_method_8_code
def yX5_blame : MethodName := ⟨RX5, "blame", "(II)Z"⟩
abbrev cX5_skipBlanks : ByteArray := prog_7_method_9_code
def yX5_skipBlanks : MethodName := ⟨RX5, "skipBlanks", "()V"⟩
abbrev cX5_wordEnd : ByteArray := prog_7_method_10_code
def yX5_wordEnd : MethodName := ⟨RX5, "wordEnd", "(I)I"⟩
abbrev cX5_isWord : ByteArray := prog_7_method_11_code
def yX5_isWord : MethodName := ⟨RX5, "isWord", "(IILjava/lang/String;)Z"⟩
abbrev cX5_ruleNamed : ByteArray := prog_7_method_12_code
def yX5_ruleNamed : MethodName := ⟨RX5, "ruleNamed", "(II)I"⟩
abbrev cX5_nameOf : ByteArray := prog_7_method_13_code
def yX5_nameOf : MethodName := ⟨RX5, "nameOf", "(I)Ljava/lang/String;"⟩
abbrev cX5_limitOf : ByteArray := prog_7_method_14_code
def yX5_limitOf : MethodName := ⟨RX5, "limitOf", "(I)I"⟩
def RX6 : String := "SwornCourt$Laws"
def TX6 : u_T := fun k => match k with
  | 0 => ("SwornCourt$Laws", "from", "[I", true)
  | 1 => ("SwornCourt$Laws", "values", "[I", true)
  | _ => ("SwornCourt$Laws", "parts", "I", false)
def tyX6 : Nat → FieldType := fun k => match k with
  | 0 => .array .int
  | 1 => .array .int
  | _ => .int
theorem nmX6 : ∀ a, a < 3 → ∀ b, b < 3 → a ≠ b → (TX6 a).2.1 ≠ (TX6 b).2.1 := by decide +kernel
theorem tyX6_ok : ∀ k, k < 3 → parseFieldDescriptor (TX6 k).2.2.1 = some (tyX6 k) := by decide +kernel
abbrev cX6_init : ByteArray := prog_8_method_1_code
def yX6_init : MethodName := ⟨RX6, "<init>", "()V"⟩
abbrev cX6_isKeyed : ByteArray := prog_8_method_2_code
def yX6_isKeyed : MethodName := ⟨RX6, "isKeyed", "(I)Z"⟩
abbrev cX6_slotOf : ByteArray := prog_8_method_3_code
def yX6_slotOf : MethodName := ⟨RX6, "slotOf", "(I)I"⟩
abbrev cX6_startPart : ByteArray := prog_8_method_4_code
def yX6_startPart : MethodName := ⟨RX6, "startPart", "(I)V"⟩
abbrev cX6_say : ByteArray := prog_8_method_5_code
def yX6_say : MethodName := ⟨RX6, "say", "(II)V"⟩
abbrev cX6_rowOn : ByteArray := prog_8_method_6_code
def yX6_rowOn : MethodName := ⟨RX6, "rowOn", "(I)I"⟩
abbrev cX6_valueOf : ByteArray := prog_8_method_7_code
def yX6_valueOf : MethodName := ⟨RX6, "valueOf", "(II)I"⟩
abbrev cX6_takeFrom : ByteArray := prog_8_method_8_code
def yX6_takeFrom : MethodName := ⟨RX6, "takeFrom", "(LSwornCourt$Laws;)V"⟩
def RX7 : String := "SwornCourt$People"
def TX7 : u_T := fun k => match k with
  | 0 => ("SwornCourt$People", "born", "[I", true)
  | 1 => ("SwornCourt$People", "house", "[I", true)
  | 2 => ("SwornCourt$People", "firstRank", "[I", true)
  | 3 => ("SwornCourt$People", "father", "[I", true)
  | 4 => ("SwornCourt$People", "mother", "[I", true)
  | 5 => ("SwornCourt$People", "will", "[I", true)
  | 6 => ("SwornCourt$People", "death", "[I", true)
  | 7 => ("SwornCourt$People", "rankedWho", "[I", true)
  | 8 => ("SwornCourt$People", "rankedAs", "[I", true)
  | 9 => ("SwornCourt$People", "rankedOn", "[I", true)
  | 10 => ("SwornCourt$People", "size", "I", false)
  | _ => ("SwornCourt$People", "rankings", "I", false)
def tyX7 : Nat → FieldType := fun k => match k with
  | 0 => .array .int
  | 1 => .array .int
  | 2 => .array .int
  | 3 => .array .int
  | 4 => .array .int
  | 5 => .array .int
  | 6 => .array .int
  | 7 => .array .int
  | 8 => .array .int
  | 9 => .array .int
  | 10 => .int
  | _ => .int
theorem nmX7 : ∀ a, a < 12 → ∀ b, b < 12 → a ≠ b → (TX7 a).2.1 ≠ (TX7 b).2.1 := by decide +kernel
theorem tyX7_ok : ∀ k, k < 12 → parseFieldDescriptor (TX7 k).2.2.1 = some (tyX7 k) := by decide +kernel
abbrev cX7_init : ByteArray := prog_9_method_1_code
def yX7_init : MethodName := ⟨RX7, "<init>", "()V"⟩
abbrev cX7_has : ByteArray := prog_9_method_2_code
def yX7_has : MethodName := ⟨RX7, "has", "(I)Z"⟩
abbrev cX7_hasOrNone : ByteArray := prog_9_method_3_code
def yX7_hasOrNone : MethodName := ⟨RX7, "hasOrNone", "(I)Z"⟩
abbrev cX7_add : ByteArray := prog_9_method_4_code
def yX7_add : MethodName := ⟨RX7, "add", "(IIIIII)I"⟩
abbrev cX7_addRanking : ByteArray := prog_9_method_5_code
def yX7_addRanking : MethodName := ⟨RX7, "addRanking", "(III)V"⟩
abbrev cX7_rankOn : ByteArray := prog_9_method_6_code
def yX7_rankOn : MethodName := ⟨RX7, "rankOn", "(II)I"⟩
abbrev cX7_isDead : ByteArray := prog_9_method_7_code
def yX7_isDead : MethodName := ⟨RX7, "isDead", "(II)Z"⟩
def RX8 : String := "SwornCourt$Purse"
def TX8 : u_T := fun k => match k with
  | 0 => ("SwornCourt$Purse", "payer", "[I", true)
  | 1 => ("SwornCourt$Purse", "paid", "[I", true)
  | 2 => ("SwornCourt$Purse", "paidOn", "[I", true)
  | _ => ("SwornCourt$Purse", "size", "I", false)
def tyX8 : Nat → FieldType := fun k => match k with
  | 0 => .array .int
  | 1 => .array .int
  | 2 => .array .int
  | _ => .int
theorem nmX8 : ∀ a, a < 4 → ∀ b, b < 4 → a ≠ b → (TX8 a).2.1 ≠ (TX8 b).2.1 := by decide +kernel
theorem tyX8_ok : ∀ k, k < 4 → parseFieldDescriptor (TX8 k).2.2.1 = some (tyX8 k) := by decide +kernel
abbrev cX8_init : ByteArray := prog_10_method_1_code
def yX8_init : MethodName := ⟨RX8, "<init>", "()V"⟩
abbrev cX8_add : ByteArray := prog_10_method_2_code
def yX8_add : MethodName := ⟨RX8, "add", "(III)V"⟩
abbrev cX8_paidBy : ByteArray := prog_10_method_3_code
def yX8_paidBy : MethodName := ⟨RX8, "paidBy", "(II)I"⟩
def RX9 : String := "SwornCourt$Rings"
def TX9 : u_T := fun k => match k with
  | 0 => ("SwornCourt$Rings", "stoodFor", "[I", true)
  | 1 => ("SwornCourt$Rings", "distance", "[I", true)
  | 2 => ("SwornCourt$Rings", "row", "[I", true)
  | _ => ("SwornCourt$Rings", "length", "I", false)
def tyX9 : Nat → FieldType := fun k => match k with
  | 0 => .array .int
  | 1 => .array .int
  | 2 => .array .int
  | _ => .int
theorem nmX9 : ∀ a, a < 4 → ∀ b, b < 4 → a ≠ b → (TX9 a).2.1 ≠ (TX9 b).2.1 := by decide +kernel
theorem tyX9_ok : ∀ k, k < 4 → parseFieldDescriptor (TX9 k).2.2.1 = some (tyX9 k) := by decide +kernel
abbrev cX9_init : ByteArray := prog_11_method_1_code
def yX9_init : MethodName := ⟨RX9, "<init>", "()V"⟩
abbrev cX9_seek : ByteArray := prog_11_method_2_code
def yX9_seek : MethodName := ⟨RX9, "seek", "(ILSwornCourt$Docket;I)V"⟩
abbrev cX9_gather : ByteArray := prog_11_method_3_code
def yX9_gather : MethodName := ⟨RX9, "gather", "(LSwornCourt$Docket;I)V"⟩
abbrev cX9_measure : ByteArray := prog_11_method_4_code
def yX9_measure : MethodName := ⟨RX9, "measure", "(II)V"⟩
abbrev cX9_nearest : ByteArray := prog_11_method_5_code
def yX9_nearest : MethodName := ⟨RX9, "nearest", "(III)I"⟩
def RX10 : String := "SwornCourt"
def TX10 : u_T := fun k => match k with
  | 0 => ("SwornCourt", "people", "LSwornCourt$People;", true)
  | 1 => ("SwornCourt", "feuds", "LSwornCourt$Feuds;", true)
  | 2 => ("SwornCourt", "kinship", "LSwornCourt$Kinship;", true)
  | 3 => ("SwornCourt", "laws", "LSwornCourt$Laws;", true)
  | 4 => ("SwornCourt", "reader", "LSwornCourt$LawReader;", true)
  | 5 => ("SwornCourt", "docket", "LSwornCourt$Docket;", true)
  | 6 => ("SwornCourt", "anew", "LSwornCourt$Anew;", true)
  | 7 => ("SwornCourt", "purse", "LSwornCourt$Purse;", true)
  | 8 => ("SwornCourt", "finding", "LSwornCourt$Finding;", true)
  | 9 => ("SwornCourt", "rings", "LSwornCourt$Rings;", true)
  | _ => ("SwornCourt", "now", "I", false)
def tyX10 : Nat → FieldType := fun k => match k with
  | 0 => .object "SwornCourt$People"
  | 1 => .object "SwornCourt$Feuds"
  | 2 => .object "SwornCourt$Kinship"
  | 3 => .object "SwornCourt$Laws"
  | 4 => .object "SwornCourt$LawReader"
  | 5 => .object "SwornCourt$Docket"
  | 6 => .object "SwornCourt$Anew"
  | 7 => .object "SwornCourt$Purse"
  | 8 => .object "SwornCourt$Finding"
  | 9 => .object "SwornCourt$Rings"
  | _ => .int
theorem nmX10 : ∀ a, a < 11 → ∀ b, b < 11 → a ≠ b → (TX10 a).2.1 ≠ (TX10 b).2.1 := by decide +kernel
theorem tyX10_ok : ∀ k, k < 11 → parseFieldDescriptor (TX10 k).2.2.1 = some (tyX10 k) := by decide +kernel
abbrev cX10_init : ByteArray := prog_1_method_1_code
def yX10_init : MethodName := ⟨RX10, "<init>", "()V"⟩
abbrev cX10_person : ByteArray := prog_1_method_2_code
def yX10_person : MethodName := ⟨RX10, "person", "(IIIIII)I"⟩
abbrev cX10_rank : ByteArray := prog_1_method_3_code
def yX10_rank : MethodName := ⟨RX10, "rank", "(II)I"⟩
abbrev cX10_die : ByteArray := prog_1_method_4_code
def yX10_die : MethodName := ⟨RX10, "die", "(I)I"⟩
abbrev cX10_feud : ByteArray := prog_1_method_5_code
def yX10_feud : MethodName := ⟨RX10, "feud", "(II)I"⟩
abbrev cX10_peace : ByteArray := prog_1_method_6_code
def yX10_peace : MethodName := ⟨RX10, "peace", "(II)I"⟩
abbrev cX10_go : ByteArray := prog_1_method_7_code
def yX10_go : MethodName := ⟨RX10, "go", "(I)I"⟩
abbrev cX10_told : ByteArray := prog_1_method_8_code
def yX10_told : MethodName := ⟨RX10, "told", "(III)I"⟩
abbrev cX10_kin : ByteArray := prog_1_method_9_code
def yX10_kin : MethodName := ⟨RX10, "kin", "(III)I"⟩
abbrev cX10_feed : ByteArray := prog_1_method_10_code
def yX10_feed : MethodName := ⟨RX10, "feed", "(IJ)I"⟩
abbrev cX10_read : ByteArray := prog_1_method_11_code
def yX10_read : MethodName := ⟨RX10, "read", "()I"⟩
abbrev cX10_fault : ByteArray := prog_1_method_12_code
def yX10_fault : MethodName := ⟨RX10, "fault", "()I"⟩
abbrev cX10_law : ByteArray := prog_1_method_13_code
def yX10_law : MethodName := ⟨RX10, "law", "(III)I"⟩
abbrev cX10_charge : ByteArray := prog_1_method_14_code
def yX10_charge : MethodName := ⟨RX10, "charge", "(IIII)I"⟩
abbrev cX10_barred : ByteArray := prog_1_method_15_code
def yX10_barred : MethodName := ⟨RX10, "barred", "(IIII)I"⟩
abbrev cX10_swear : ByteArray := prog_1_method_16_code
def yX10_swear : MethodName := ⟨RX10, "swear", "(II)I"⟩
abbrev cX10_close : ByteArray := prog_1_method_17_code
def yX10_close : MethodName := ⟨RX10, "close", "(I)I"⟩
abbrev cX10_find : ByteArray := prog_1_method_18_code
def yX10_find : MethodName := ⟨RX10, "find", "(I)I"⟩
abbrev cX10_oath : ByteArray := prog_1_method_19_code
def yX10_oath : MethodName := ⟨RX10, "oath", "(II)I"⟩
abbrev cX10_state : ByteArray := prog_1_method_20_code
def yX10_state : MethodName := ⟨RX10, "state", "(III)I"⟩
abbrev cX10_turned : ByteArray := prog_1_method_21_code
def yX10_turned : MethodName := ⟨RX10, "turned", "(II)I"⟩
abbrev cX10_pay : ByteArray := prog_1_method_22_code
def yX10_pay : MethodName := ⟨RX10, "pay", "(II)I"⟩
abbrev cX10_owes : ByteArray := prog_1_method_23_code
def yX10_owes : MethodName := ⟨RX10, "owes", "(III)I"⟩
abbrev cX10_bound : ByteArray := prog_1_method_24_code
def yX10_bound : MethodName := ⟨RX10, "bound", "(I)I"⟩
abbrev cX10_session : ByteArray := prog_1_method_25_code
def yX10_session : MethodName := ⟨RX10, "session", "(II)I"⟩
abbrev cX10_called : ByteArray := prog_1_method_26_code
def yX10_called : MethodName := ⟨RX10, "called", "(II)I"⟩
abbrev cX10_lacks : ByteArray := prog_1_method_27_code
def yX10_lacks : MethodName := ⟨RX10, "lacks", "(I)I"⟩
abbrev cX10_stood : ByteArray := prog_1_method_28_code
def yX10_stood : MethodName := ⟨RX10, "stood", "(III)I"⟩
abbrev cX10_ring : ByteArray := prog_1_method_29_code
def yX10_ring : MethodName := ⟨RX10, "ring", "(II)I"⟩
abbrev cX10_left : ByteArray := prog_1_method_30_code
def yX10_left : MethodName := ⟨RX10, "left", "(III)I"⟩
abbrev cX10_forsaken : ByteArray := prog_1_method_31_code
def yX10_forsaken : MethodName := ⟨RX10, "forsaken", "(III)I"⟩
abbrev cX10_count : ByteArray := prog_1_method_32_code
def yX10_count : MethodName := ⟨RX10, "count", "(I)I"⟩
abbrev cX10_within : ByteArray := prog_1_method_33_code
def yX10_within : MethodName := ⟨RX10, "within", "(III)Z"⟩
abbrev cX10_isHouse : ByteArray := prog_1_method_34_code
def yX10_isHouse : MethodName := ⟨RX10, "isHouse", "(I)Z"⟩
abbrev cX10_isKind : ByteArray := prog_1_method_35_code
def yX10_isKind : MethodName := ⟨RX10, "isKind", "(I)Z"⟩
abbrev cX10_isSessionSize : ByteArray := prog_1_method_36_code
def yX10_isSessionSize : MethodName := ⟨RX10, "isSessionSize", "(I)Z"⟩
abbrev cX10_isPast : ByteArray := prog_1_method_37_code
def yX10_isPast : MethodName := ⟨RX10, "isPast", "(I)Z"⟩
abbrev cX10_maySwear : ByteArray := prog_1_method_38_code
def yX10_maySwear : MethodName := ⟨RX10, "maySwear", "(II)Z"⟩
abbrev cX10_debtOf : ByteArray := prog_1_method_39_code
def yX10_debtOf : MethodName := ⟨RX10, "debtOf", "(I)I"⟩
abbrev cX10_allDebts : ByteArray := prog_1_method_40_code
def yX10_allDebts : MethodName := ⟨RX10, "allDebts", "()I"⟩
def RX11 : String := "SwornCourtModel"
def TX11 : u_T := fun k => match k with
  | 0 => ("SwornCourtModel", "now", "I", false)
  | 1 => ("SwornCourtModel", "persons", "I", false)
  | 2 => ("SwornCourtModel", "born", "[I", true)
  | 3 => ("SwornCourtModel", "house", "[I", true)
  | 4 => ("SwornCourtModel", "firstRank", "[I", true)
  | 5 => ("SwornCourtModel", "father", "[I", true)
  | 6 => ("SwornCourtModel", "mother", "[I", true)
  | 7 => ("SwornCourtModel", "will", "[I", true)
  | 8 => ("SwornCourtModel", "dead", "[I", true)
  | 9 => ("SwornCourtModel", "changes", "I", false)
  | 10 => ("SwornCourtModel", "ranks", "[I", true)
  | 11 => ("SwornCourtModel", "feuds", "I", false)
  | 12 => ("SwornCourtModel", "quarrels", "[I", true)
  | 13 => ("SwornCourtModel", "text", "[I", true)
  | 14 => ("SwornCourtModel", "texted", "I", false)
  | 15 => ("SwornCourtModel", "faultPlace", "I", false)
  | 16 => ("SwornCourtModel", "parts", "I", false)
  | 17 => ("SwornCourtModel", "partDay", "[I", true)
  | 18 => ("SwornCourtModel", "says", "[I", true)
  | 19 => ("SwornCourtModel", "freshDay", "[I", true)
  | 20 => ("SwornCourtModel", "freshSays", "[I", true)
  | 21 => ("SwornCourtModel", "charges", "I", false)
  | 22 => ("SwornCourtModel", "kind", "[I", true)
  | 23 => ("SwornCourtModel", "accused", "[I", true)
  | 24 => ("SwornCourtModel", "accuser", "[I", true)
  | 25 => ("SwornCourtModel", "deed", "[I", true)
  | 26 => ("SwornCourtModel", "toldOn", "[I", true)
  | 27 => ("SwornCourtModel", "foundOn", "[I", true)
  | 28 => ("SwornCourtModel", "deeds", "I", false)
  | 29 => ("SwornCourtModel", "deedPerson", "[I", true)
  | 30 => ("SwornCourtModel", "deedCharge", "[I", true)
  | 31 => ("SwornCourtModel", "deedDay", "[I", true)
  | 32 => ("SwornCourtModel", "deedMet", "[Z", true)
  | 33 => ("SwornCourtModel", "deedRank", "[I", true)
  | 34 => ("SwornCourtModel", "oaths", "I", false)
  | 35 => ("SwornCourtModel", "payments", "I", false)
  | 36 => ("SwornCourtModel", "paid", "[I", true)
  | 37 => ("SwornCourtModel", "bound", "I", false)
  | 38 => ("SwornCourtModel", "upOne", "[I", true)
  | 39 => ("SwornCourtModel", "upTwo", "[I", true)
  | 40 => ("SwornCourtModel", "degree", "I", false)
  | 41 => ("SwornCourtModel", "tie", "I", false)
  | 42 => ("SwornCourtModel", "isHalf", "Z", false)
  | 43 => ("SwornCourtModel", "at", "I", false)
  | 44 => ("SwornCourtModel", "word", "J", false)
  | 45 => ("SwornCourtModel", "wordEnd", "I", false)
  | 46 => ("SwornCourtModel", "numberFrom", "I", false)
  | 47 => ("SwornCourtModel", "number", "I", false)
  | 48 => ("SwornCourtModel", "states", "[I", true)
  | 49 => ("SwornCourtModel", "decided", "[I", true)
  | 50 => ("SwornCourtModel", "total", "[I", true)
  | 51 => ("SwornCourtModel", "counts", "[I", true)
  | 52 => ("SwornCourtModel", "before", "[I", true)
  | 53 => ("SwornCourtModel", "many", "I", false)
  | 54 => ("SwornCourtModel", "asked", "[I", true)
  | 55 => ("SwornCourtModel", "callMany", "[I", true)
  | 56 => ("SwornCourtModel", "callWho", "[I", true)
  | 57 => ("SwornCourtModel", "isEnough", "[Z", true)
  | 58 => ("SwornCourtModel", "tried", "[I", true)
  | 59 => ("SwornCourtModel", "bestSets", "[I", true)
  | 60 => ("SwornCourtModel", "times", "[I", true)
  | 61 => ("SwornCourtModel", "most", "[I", true)
  | 62 => ("SwornCourtModel", "looks", "I", false)
  | 63 => ("SwornCourtModel", "isSpent", "Z", false)
  | 64 => ("SwornCourtModel", "bestMet", "I", false)
  | 65 => ("SwornCourtModel", "bestCalls", "I", false)
  | _ => ("SwornCourtModel", "away", "[I", true)
def tyX11 : Nat → FieldType := fun k => match k with
  | 0 => .int
  | 1 => .int
  | 2 => .array .int
  | 3 => .array .int
  | 4 => .array .int
  | 5 => .array .int
  | 6 => .array .int
  | 7 => .array .int
  | 8 => .array .int
  | 9 => .int
  | 10 => .array .int
  | 11 => .int
  | 12 => .array .int
  | 13 => .array .int
  | 14 => .int
  | 15 => .int
  | 16 => .int
  | 17 => .array .int
  | 18 => .array .int
  | 19 => .array .int
  | 20 => .array .int
  | 21 => .int
  | 22 => .array .int
  | 23 => .array .int
  | 24 => .array .int
  | 25 => .array .int
  | 26 => .array .int
  | 27 => .array .int
  | 28 => .int
  | 29 => .array .int
  | 30 => .array .int
  | 31 => .array .int
  | 32 => .array .boolean
  | 33 => .array .int
  | 34 => .int
  | 35 => .int
  | 36 => .array .int
  | 37 => .int
  | 38 => .array .int
  | 39 => .array .int
  | 40 => .int
  | 41 => .int
  | 42 => .boolean
  | 43 => .int
  | 44 => .long
  | 45 => .int
  | 46 => .int
  | 47 => .int
  | 48 => .array .int
  | 49 => .array .int
  | 50 => .array .int
  | 51 => .array .int
  | 52 => .array .int
  | 53 => .int
  | 54 => .array .int
  | 55 => .array .int
  | 56 => .array .int
  | 57 => .array .boolean
  | 58 => .array .int
  | 59 => .array .int
  | 60 => .array .int
  | 61 => .array .int
  | 62 => .int
  | 63 => .boolean
  | 64 => .int
  | 65 => .int
  | _ => .array .int
theorem nmX11 : ∀ a, a < 67 → ∀ b, b < 67 → a ≠ b → (TX11 a).2.1 ≠ (TX11 b).2.1 := by decide +kernel
theorem tyX11_ok : ∀ k, k < 67 → parseFieldDescriptor (TX11 k).2.2.1 = some (tyX11 k) := by decide +kernel
abbrev cX11_init : ByteArray := prog_13_method_1_code
def yX11_init : MethodName := ⟨RX11, "<init>", "()V"⟩
abbrev cX11_in : ByteArray := prog_13_method_3_code
def yX11_in : MethodName := ⟨RX11, "in", "(JJJ)Z"⟩
abbrev cX11_isPerson : ByteArray := prog_13_method_4_code
def yX11_isPerson : MethodName := ⟨RX11, "isPerson", "(I)Z"⟩
abbrev cX11_isCharge : ByteArray := prog_13_method_5_code
def yX11_isCharge : MethodName := ⟨RX11, "isCharge", "(I)Z"⟩
abbrev cX11_isDay : ByteArray := prog_13_method_6_code
def yX11_isDay : MethodName := ⟨RX11, "isDay", "(I)Z"⟩
abbrev cX11_person : ByteArray := prog_13_method_7_code
def yX11_person : MethodName := ⟨RX11, "person", "(IIIIII)I"⟩
abbrev cX11_rankOf : ByteArray := prog_13_method_8_code
def yX11_rankOf : MethodName := ⟨RX11, "rankOf", "(II)I"⟩
abbrev cX11_rank : ByteArray := prog_13_method_9_code
def yX11_rank : MethodName := ⟨RX11, "rank", "(II)I"⟩
abbrev cX11_die : ByteArray := prog_13_method_10_code
def yX11_die : MethodName := ⟨RX11, "die", "(I)I"⟩
abbrev cX11_isHouse : ByteArray := prog_13_method_11_code
def yX11_isHouse : MethodName := ⟨RX11, "isHouse", "(I)Z"⟩
abbrev cX11_feudOf : ByteArray := prog_13_method_12_code
def yX11_feudOf : MethodName := ⟨RX11, "feudOf", "(III)I"⟩
abbrev cX11_feud : ByteArray := prog_13_method_13_code
def yX11_feud : MethodName := ⟨RX11, "feud", "(II)I"⟩
abbrev cX11_peace : ByteArray := prog_13_method_14_code
def yX11_peace : MethodName := ⟨RX11, "peace", "(II)I"⟩
abbrev cX11_go : ByteArray := prog_13_method_15_code
def yX11_go : MethodName := ⟨RX11, "go", "(I)I"⟩
abbrev cX11_told : ByteArray := prog_13_method_16_code
def yX11_told : MethodName := ⟨RX11, "told", "(III)I"⟩
abbrev cX11_climb : ByteArray := prog_13_method_17_code
def yX11_climb : MethodName := ⟨RX11, "climb", "(I[I)V"⟩
abbrev cX11_findKin : ByteArray := prog_13_method_18_code
def yX11_findKin : MethodName := ⟨RX11, "findKin", "(II)V"⟩
abbrev cX11_kin : ByteArray := prog_13_method_19_code
def yX11_kin : MethodName := ⟨RX11, "kin", "(III)I"⟩
abbrev cX11_feed : ByteArray := prog_13_method_20_code
def yX11_feed : MethodName := ⟨RX11, "feed", "(IJ)I"⟩
abbrev cX11_hasKinds : ByteArray := prog_13_method_21_code
def yX11_hasKinds : MethodName := ⟨RX11, "hasKinds", "(I)Z"⟩
abbrev cX11_placeOf : ByteArray := prog_13_method_22_code
def yX11_placeOf : MethodName := ⟨RX11, "placeOf", "(II)I"⟩
abbrev cX11_atFirst : ByteArray := prog_13_method_23_code
def yX11_atFirst : MethodName := ⟨RX11, "atFirst", "(I)I"⟩
abbrev cX11_ruleOn : ByteArray := prog_13_method_24_code
def yX11_ruleOn : MethodName := ⟨RX11, "ruleOn", "(III)I"⟩
abbrev cX11_here : ByteArray := prog_13_method_25_code
def yX11_here : MethodName := ⟨RX11, "here", "()I"⟩
abbrev cX11_fails : ByteArray := prog_13_method_26_code
def yX11_fails : MethodName := ⟨RX11, "fails", "(II)I"⟩
abbrev cX11_readWord : ByteArray := prog_13_method_27_code
def yX11_readWord : MethodName := ⟨RX11, "readWord", "()V"⟩
abbrev cX11_code : ByteArray := prog_13_method_28_code
def yX11_code : MethodName := ⟨RX11, "code", "(IIIII)J"⟩
abbrev cX11_ruleOf : ByteArray := prog_13_method_29_code
def yX11_ruleOf : MethodName := ⟨RX11, "ruleOf", "()I"⟩
abbrev cX11_readNumber : ByteArray := prog_13_method_30_code
def yX11_readNumber : MethodName := ⟨RX11, "readNumber", "(I)I"⟩
abbrev cX11_readRule : ByteArray := prog_13_method_31_code
def yX11_readRule : MethodName := ⟨RX11, "readRule", "(I)I"⟩
abbrev cX11_readPart : ByteArray := prog_13_method_32_code
def yX11_readPart : MethodName := ⟨RX11, "readPart", "(I)I"⟩
abbrev cX11_read : ByteArray := prog_13_method_33_code
def yX11_read : MethodName := ⟨RX11, "read", "()I"⟩
abbrev cX11_fault : ByteArray := prog_13_method_34_code
def yX11_fault : MethodName := ⟨RX11, "fault", "()I"⟩
abbrev cX11_law : ByteArray := prog_13_method_35_code
def yX11_law : MethodName := ⟨RX11, "law", "(III)I"⟩
abbrev cX11_charge : ByteArray := prog_13_method_36_code
def yX11_charge : MethodName := ⟨RX11, "charge", "(IIII)I"⟩
abbrev cX11_ruleFor : ByteArray := prog_13_method_37_code
def yX11_ruleFor : MethodName := ⟨RX11, "ruleFor", "(II)I"⟩
abbrev cX11_isFound : ByteArray := prog_13_method_38_code
def yX11_isFound : MethodName := ⟨RX11, "isFound", "(II)Z"⟩
abbrev cX11_barredBy : ByteArray := prog_13_method_39_code
def yX11_barredBy : MethodName := ⟨RX11, "barredBy", "(IIIIIII)I"⟩
abbrev cX11_barredFrom : ByteArray := prog_13_method_40_code
def yX11_barredFrom : MethodName := ⟨RX11, "barredFrom", "(IIII)I"⟩
abbrev cX11_decide : ByteArray := prog_13_method_41_code
def yX11_decide : MethodName := ⟨RX11, "decide", "(III)V"⟩
abbrev cX11_work : ByteArray := prog_13_method_42_code
def yX11_work : MethodName := ⟨RX11, "work", "(I)V"⟩
abbrev cX11_lackOf : ByteArray := prog_13_method_43_code
def yX11_lackOf : MethodName := ⟨RX11, "lackOf", "(I)I"⟩
abbrev cX11_barred : ByteArray := prog_13_method_44_code
def yX11_barred : MethodName := ⟨RX11, "barred", "(IIII)I"⟩
abbrev cX11_hasSworn : ByteArray := prog_13_method_45_code
def yX11_hasSworn : MethodName := ⟨RX11, "hasSworn", "(II)Z"⟩
abbrev cX11_swornToday : ByteArray := prog_13_method_46_code
def yX11_swornToday : MethodName := ⟨RX11, "swornToday", "(I)I"⟩
abbrev cX11_tell : ByteArray := prog_13_method_47_code
def yX11_tell : MethodName := ⟨RX11, "tell", "(II)V"⟩
abbrev cX11_swear : ByteArray := prog_13_method_48_code
def yX11_swear : MethodName := ⟨RX11, "swear", "(II)I"⟩
abbrev cX11_close : ByteArray := prog_13_method_49_code
def yX11_close : MethodName := ⟨RX11, "close", "(I)I"⟩
abbrev cX11_find : ByteArray := prog_13_method_50_code
def yX11_find : MethodName := ⟨RX11, "find", "(I)I"⟩
abbrev cX11_oath : ByteArray := prog_13_method_51_code
def yX11_oath : MethodName := ⟨RX11, "oath", "(II)I"⟩
abbrev cX11_state : ByteArray := prog_13_method_52_code
def yX11_state : MethodName := ⟨RX11, "state", "(III)I"⟩
abbrev cX11_turned : ByteArray := prog_13_method_53_code
def yX11_turned : MethodName := ⟨RX11, "turned", "(II)I"⟩
abbrev cX11_finesOf : ByteArray := prog_13_method_54_code
def yX11_finesOf : MethodName := ⟨RX11, "finesOf", "(II)I"⟩
abbrev cX11_paidOf : ByteArray := prog_13_method_55_code
def yX11_paidOf : MethodName := ⟨RX11, "paidOf", "(II)I"⟩
abbrev cX11_pay : ByteArray := prog_13_method_56_code
def yX11_pay : MethodName := ⟨RX11, "pay", "(II)I"⟩
abbrev cX11_owes : ByteArray := prog_13_method_57_code
def yX11_owes : MethodName := ⟨RX11, "owes", "(III)I"⟩
abbrev cX11_bound : ByteArray := prog_13_method_58_code
def yX11_bound : MethodName := ⟨RX11, "bound", "(I)I"⟩
abbrev cX11_bits : ByteArray := prog_13_method_59_code
def yX11_bits : MethodName := ⟨RX11, "bits", "(I)I"⟩
abbrev cX11_findCallable : ByteArray := prog_13_method_60_code
def yX11_findCallable : MethodName := ⟨RX11, "findCallable", "(I)V"⟩
abbrev cX11_call : ByteArray := prog_13_method_61_code
def yX11_call : MethodName := ⟨RX11, "call", "(III)V"⟩
abbrev cX11_isWithin : ByteArray := prog_13_method_62_code
def yX11_isWithin : MethodName := ⟨RX11, "isWithin", "(II)Z"⟩
abbrev cX11_compare : ByteArray := prog_13_method_63_code
def yX11_compare : MethodName := ⟨RX11, "compare", "(I)V"⟩
abbrev cX11_seek : ByteArray := prog_13_method_64_code
def yX11_seek : MethodName := ⟨RX11, "seek", "()V"⟩
abbrev cX11_hold : ByteArray := prog_13_method_65_code
def yX11_hold : MethodName := ⟨RX11, "hold", "(I)I"⟩
abbrev cX11_session : ByteArray := prog_13_method_66_code
def yX11_session : MethodName := ⟨RX11, "session", "(II)I"⟩
abbrev cX11_called : ByteArray := prog_13_method_67_code
def yX11_called : MethodName := ⟨RX11, "called", "(II)I"⟩
abbrev cX11_lacks : ByteArray := prog_13_method_68_code
def yX11_lacks : MethodName := ⟨RX11, "lacks", "(I)I"⟩
abbrev cX11_stoodFor : ByteArray := prog_13_method_69_code
def yX11_stoodFor : MethodName := ⟨RX11, "stoodFor", "(II)I"⟩
abbrev cX11_stood : ByteArray := prog_13_method_70_code
def yX11_stood : MethodName := ⟨RX11, "stood", "(III)I"⟩
abbrev cX11_ring : ByteArray := prog_13_method_71_code
def yX11_ring : MethodName := ⟨RX11, "ring", "(II)I"⟩
abbrev cX11_leftFor : ByteArray := prog_13_method_72_code
def yX11_leftFor : MethodName := ⟨RX11, "leftFor", "(II)I"⟩
abbrev cX11_left : ByteArray := prog_13_method_73_code
def yX11_left : MethodName := ⟨RX11, "left", "(III)I"⟩
abbrev cX11_forsaken : ByteArray := prog_13_method_74_code
def yX11_forsaken : MethodName := ⟨RX11, "forsaken", "(III)I"⟩
abbrev cX11_count : ByteArray := prog_13_method_75_code
def yX11_count : MethodName := ⟨RX11, "count", "(I)I"⟩
def RJ6 : String := "java/lang/Integer"
abbrev cJ6_bitCount_0f7a4 : ByteArray := prog_14_method_49_code
def yJ6_bitCount_0f7a4 : MethodName := ⟨RJ6, "bitCount", "(I)I"⟩
def RJ9 : String := "java/lang/Math"
abbrev cJ9_max_7cf53 : ByteArray := prog_15_method_65_code
def yJ9_max_7cf53 : MethodName := ⟨RJ9, "max", "(II)I"⟩
abbrev cJ9_min_7cf53 : ByteArray := prog_15_method_69_code
def yJ9_min_7cf53 : MethodName := ⟨RJ9, "min", "(II)I"⟩
def RJ0 : String := "java/lang/String"
abbrev cJ0_length_8abf5 : ByteArray := prog_16_method_54_code
def yJ0_length_8abf5 : MethodName := ⟨RJ0, "length", "()I"⟩
abbrev cJ0_charAt_5068e : ByteArray := prog_16_method_56_code
def yJ0_charAt_5068e : MethodName := ⟨RJ0, "charAt", "(I)C"⟩
abbrev cJ0_coder_7d493 : ByteArray := prog_16_method_152_code
def yJ0_coder_7d493 : MethodName := ⟨RJ0, "coder", "()B"⟩
abbrev cJ0_isLatin1_aae02 : ByteArray := prog_16_method_154_code
def yJ0_isLatin1_aae02 : MethodName := ⟨RJ0, "isLatin1", "()Z"⟩
abbrev cJ0_checkIndex_df160 : ByteArray := prog_16_method_155_code
def yJ0_checkIndex_df160 : MethodName := ⟨RJ0, "checkIndex", "(II)V"⟩
def RJ1 : String := "java/lang/StringLatin1"
abbrev cJ1_charAt_3b067 : ByteArray := prog_17_method_2_code
def yJ1_charAt_3b067 : MethodName := ⟨RJ1, "charAt", "([BI)C"⟩
def RJ2 : String := "java/lang/StringUTF16"
abbrev cJ2_getChar_3b067 : ByteArray := prog_18_method_5_code
def yJ2_getChar_3b067 : MethodName := ⟨RJ2, "getChar", "([BI)C"⟩
abbrev cJ2_length_9d52b : ByteArray := prog_18_method_6_code
def yJ2_length_9d52b : MethodName := ⟨RJ2, "length", "([B)I"⟩
abbrev cJ2_charAt_3b067 : ByteArray := prog_18_method_83_code
def yJ2_charAt_3b067 : MethodName := ⟨RJ2, "charAt", "([BI)C"⟩
abbrev cJ2_checkIndex_2214a : ByteArray := prog_18_method_91_code
def yJ2_checkIndex_2214a : MethodName := ⟨RJ2, "checkIndex", "(I[B)V"⟩
def RJ10 : String := "java/lang/System"
def RJ3 : String := "jdk/internal/util/Preconditions"
abbrev cJ3_checkIndex_8e157 : ByteArray := prog_20_method_11_code
def yJ3_checkIndex_8e157 : MethodName := ⟨RJ3, "checkIndex", "(IILjava/util/function/BiFunction;)I"⟩
def RL : String := "SwornCourtLaw"
abbrev cL_law : ByteArray := code
def yL_law : MethodName := ⟨RL, "law", "([I)Z"⟩
abbrev cls : List vw_C := [(RX0, TX0, 12), (RX1, TX1, 17), (RX2, TX2, 5), (RX3, TX3, 18), (RX4, TX4, 4), (RX5, TX5, 6), (RX6, TX6, 3), (RX7, TX7, 12), (RX8, TX8, 4), (RX9, TX9, 4), (RX10, TX10, 11), (RX11, TX11, 67)]
abbrev Mt : Type := MethodName × ByteArray × Nat × Option FieldType
def mtab0 : List Mt := [(yL_law, cL_law, 4, some .boolean),
  (yX0_work, cX0_work, 4, none),
  (yX0_workOath, cX0_workOath, 4, none),
  (yX0_decide, cX0_decide, 4, none),
  (yX0_remember, cX0_remember, 1, none),
  (yX0_differing, cX0_differing, 4, some .int),
  (yX0_needOf, cX0_needOf, 2, some .int),
  (yX0_lackOf, cX0_lackOf, 2, some .int),
  (yX0_chargesIn, cX0_chargesIn, 4, some .int),
  (yX0_allOpen, cX0_allOpen, 3, (some Jvm.ClassFile.FieldType.boolean)),
  (yX0_weightOf, cX0_weightOf, 4, some .int),
  (yX0_obstacle, cX0_obstacle, 4, some .int),
  (yX0_obstacleIn, cX0_obstacleIn, 7, some .int),
  (yX0_isTooYoung, cX0_isTooYoung, 5, (some Jvm.ClassFile.FieldType.boolean)),
  (yX0_isTooNear, cX0_isTooNear, 5, (some Jvm.ClassFile.FieldType.boolean)),
  (yX0_sworeFalsely, cX0_sworeFalsely, 8, (some Jvm.ClassFile.FieldType.boolean)),
  (yX0_lostLately, cX0_lostLately, 6, (some Jvm.ClassFile.FieldType.boolean)),
  (yX0_isLately, cX0_isLately, 3, (some Jvm.ClassFile.FieldType.boolean)),
  (yX0_helpInSight, cX0_helpInSight, 6, some .int),
  (yX0_helpAgainst, cX0_helpAgainst, 6, some .int),
  (yX0_finesOf, cX0_finesOf, 5, some .int),
  (yX1_hasCharge, cX1_hasCharge, 2, (some Jvm.ClassFile.FieldType.boolean)),
  (yX1_hasAll, cX1_hasAll, 2, (some Jvm.ClassFile.FieldType.boolean)),
  (yX1_addCharge, cX1_addCharge, 8, some .int)]
def mtab1 : List Mt := [(yX1_addOath, cX1_addOath, 6, some .int),
  (yX1_addClosing, cX1_addClosing, 3, none),
  (yX1_addEvent, cX1_addEvent, 3, none),
  (yX1_hasSworn, cX1_hasSworn, 4, (some Jvm.ClassFile.FieldType.boolean)),
  (yX1_isFound, cX1_isFound, 3, (some Jvm.ClassFile.FieldType.boolean)),
  (yX1_oathsFor, cX1_oathsFor, 4, some .int),
  (yX1_oathsOfOn, cX1_oathsOfOn, 5, some .int),
  (yX1_oathsOfFor, cX1_oathsOfFor, 5, some .int),
  (yX2_add, cX2_add, 4, none),
  (yX2_isOf, cX2_isOf, 4, (some Jvm.ClassFile.FieldType.boolean)),
  (yX2_standing, cX2_standing, 4, some .int),
  (yX2_allStanding, cX2_allStanding, 3, some .int),
  (yX2_holds, cX2_holds, 5, (some Jvm.ClassFile.FieldType.boolean)),
  (yX3_seekFor, cX3_seekFor, 4, none),
  (yX3_calledFor, cX3_calledFor, 3, some .int),
  (yX3_measureRoom, cX3_measureRoom, 3, none),
  (yX3_gatherEnough, cX3_gatherEnough, 9, none),
  (yX3_gatherCallable, cX3_gatherCallable, 5, some .int),
  (yX3_addEnough, cX3_addEnough, 3, none),
  (yX3_descend, cX3_descend, 4, none),
  (yX3_take, cX3_take, 4, none),
  (yX3_giveBack, cX3_giveBack, 4, none),
  (yX3_compare, cX3_compare, 4, none),
  (yX4_learn, cX4_learn, 8, none)]
def mtab2 : List Mt := [(yX4_stepsOf, cX4_stepsOf, 3, some .int),
  (yX4_measure, cX4_measure, 7, none),
  (yX5_append, cX5_append, 5, none),
  (yX5_parse, cX5_parse, 2, (some Jvm.ClassFile.FieldType.boolean)),
  (yX5_parseHead, cX5_parseHead, 5, (some Jvm.ClassFile.FieldType.boolean)),
  (yX5_parseRules, cX5_parseRules, 2, (some Jvm.ClassFile.FieldType.boolean)),
  (yX5_parseRule, cX5_parseRule, 5, (some Jvm.ClassFile.FieldType.boolean)),
  (yX5_parseNumber, cX5_parseNumber, 4, some .int),
  (yX5_blame, cX5_blame, 3, (some Jvm.ClassFile.FieldType.boolean)),
  (yX5_skipBlanks, cX5_skipBlanks, 1, none),
  (yX5_wordEnd, cX5_wordEnd, 3, some .int),
  (yX5_isWord, cX5_isWord, 5, (some Jvm.ClassFile.FieldType.boolean)),
  (yX5_ruleNamed, cX5_ruleNamed, 4, some .int),
  (yX5_nameOf, cX5_nameOf, 1, (some (Jvm.ClassFile.FieldType.object "java/lang/String"))),
  (yX5_limitOf, cX5_limitOf, 1, some .int),
  (yX6_isKeyed, cX6_isKeyed, 1, (some Jvm.ClassFile.FieldType.boolean)),
  (yX6_slotOf, cX6_slotOf, 1, some .int),
  (yX6_startPart, cX6_startPart, 2, none),
  (yX6_say, cX6_say, 3, none),
  (yX6_rowOn, cX6_rowOn, 3, some .int),
  (yX6_valueOf, cX6_valueOf, 3, some .int),
  (yX6_takeFrom, cX6_takeFrom, 2, none),
  (yX7_has, cX7_has, 2, (some Jvm.ClassFile.FieldType.boolean)),
  (yX7_hasOrNone, cX7_hasOrNone, 2, (some Jvm.ClassFile.FieldType.boolean))]
def mtab3 : List Mt := [(yX7_add, cX7_add, 8, some .int),
  (yX7_addRanking, cX7_addRanking, 4, none),
  (yX7_rankOn, cX7_rankOn, 4, some .int),
  (yX7_isDead, cX7_isDead, 3, (some Jvm.ClassFile.FieldType.boolean)),
  (yX8_add, cX8_add, 4, none),
  (yX8_paidBy, cX8_paidBy, 5, some .int),
  (yX9_seek, cX9_seek, 5, none),
  (yX9_gather, cX9_gather, 4, none),
  (yX9_measure, cX9_measure, 6, none),
  (yX9_nearest, cX9_nearest, 6, some .int),
  (yX10_person, cX10_person, 8, some .int),
  (yX10_rank, cX10_rank, 4, some .int),
  (yX10_die, cX10_die, 2, some .int),
  (yX10_feud, cX10_feud, 3, some .int),
  (yX10_peace, cX10_peace, 4, some .int),
  (yX10_go, cX10_go, 2, some .int),
  (yX10_told, cX10_told, 4, some .int),
  (yX10_kin, cX10_kin, 4, some .int),
  (yX10_feed, cX10_feed, 4, some .int),
  (yX10_read, cX10_read, 2, some .int),
  (yX10_fault, cX10_fault, 1, some .int),
  (yX10_law, cX10_law, 4, some .int),
  (yX10_charge, cX10_charge, 5, some .int),
  (yX10_barred, cX10_barred, 5, some .int)]
def mtab4 : List Mt := [(yX10_swear, cX10_swear, 4, some .int),
  (yX10_close, cX10_close, 2, some .int),
  (yX10_find, cX10_find, 2, some .int),
  (yX10_oath, cX10_oath, 3, some .int),
  (yX10_state, cX10_state, 4, some .int),
  (yX10_turned, cX10_turned, 3, some .int),
  (yX10_pay, cX10_pay, 3, some .int),
  (yX10_owes, cX10_owes, 4, some .int),
  (yX10_bound, cX10_bound, 3, some .int),
  (yX10_session, cX10_session, 3, some .int),
  (yX10_called, cX10_called, 3, some .int),
  (yX10_lacks, cX10_lacks, 2, some .int),
  (yX10_stood, cX10_stood, 5, some .int),
  (yX10_ring, cX10_ring, 3, some .int),
  (yX10_left, cX10_left, 4, some .int),
  (yX10_forsaken, cX10_forsaken, 9, some .int),
  (yX10_count, cX10_count, 2, some .int),
  (yX10_within, cX10_within, 3, (some Jvm.ClassFile.FieldType.boolean)),
  (yX10_isHouse, cX10_isHouse, 1, (some Jvm.ClassFile.FieldType.boolean)),
  (yX10_isKind, cX10_isKind, 1, (some Jvm.ClassFile.FieldType.boolean)),
  (yX10_isSessionSize, cX10_isSessionSize, 1, (some Jvm.ClassFile.FieldType.boolean)),
  (yX10_isPast, cX10_isPast, 2, (some Jvm.ClassFile.FieldType.boolean)),
  (yX10_maySwear, cX10_maySwear, 3, (some Jvm.ClassFile.FieldType.boolean)),
  (yX10_debtOf, cX10_debtOf, 2, some .int)]
def mtab5 : List Mt := [(yX10_allDebts, cX10_allDebts, 3, some .int),
  (yX11_in, cX11_in, 6, (some Jvm.ClassFile.FieldType.boolean)),
  (yX11_isPerson, cX11_isPerson, 2, (some Jvm.ClassFile.FieldType.boolean)),
  (yX11_isCharge, cX11_isCharge, 2, (some Jvm.ClassFile.FieldType.boolean)),
  (yX11_isDay, cX11_isDay, 2, (some Jvm.ClassFile.FieldType.boolean)),
  (yX11_person, cX11_person, 8, some .int),
  (yX11_rankOf, cX11_rankOf, 6, some .int),
  (yX11_rank, cX11_rank, 4, some .int),
  (yX11_die, cX11_die, 2, some .int),
  (yX11_isHouse, cX11_isHouse, 1, (some Jvm.ClassFile.FieldType.boolean)),
  (yX11_feudOf, cX11_feudOf, 8, some .int),
  (yX11_feud, cX11_feud, 3, some .int),
  (yX11_peace, cX11_peace, 4, some .int),
  (yX11_go, cX11_go, 2, some .int),
  (yX11_told, cX11_told, 4, some .int),
  (yX11_climb, cX11_climb, 4, none),
  (yX11_findKin, cX11_findKin, 6, none),
  (yX11_kin, cX11_kin, 4, some .int),
  (yX11_feed, cX11_feed, 5, some .int),
  (yX11_hasKinds, cX11_hasKinds, 1, (some Jvm.ClassFile.FieldType.boolean)),
  (yX11_placeOf, cX11_placeOf, 2, some .int),
  (yX11_atFirst, cX11_atFirst, 1, some .int),
  (yX11_ruleOn, cX11_ruleOn, 7, some .int),
  (yX11_here, cX11_here, 1, some .int)]
def mtab6 : List Mt := [(yX11_fails, cX11_fails, 3, some .int),
  (yX11_readWord, cX11_readWord, 1, none),
  (yX11_code, cX11_code, 7, (some Jvm.ClassFile.FieldType.long)),
  (yX11_ruleOf, cX11_ruleOf, 4, some .int),
  (yX11_readNumber, cX11_readNumber, 3, some .int),
  (yX11_readRule, cX11_readRule, 5, some .int),
  (yX11_readPart, cX11_readPart, 4, some .int),
  (yX11_read, cX11_read, 4, some .int),
  (yX11_fault, cX11_fault, 1, some .int),
  (yX11_law, cX11_law, 4, some .int),
  (yX11_charge, cX11_charge, 6, some .int),
  (yX11_ruleFor, cX11_ruleFor, 3, some .int),
  (yX11_isFound, cX11_isFound, 3, (some Jvm.ClassFile.FieldType.boolean)),
  (yX11_barredBy, cX11_barredBy, 12, some .int),
  (yX11_barredFrom, cX11_barredFrom, 5, some .int),
  (yX11_decide, cX11_decide, 4, none),
  (yX11_work, cX11_work, 6, none),
  (yX11_lackOf, cX11_lackOf, 3, some .int),
  (yX11_barred, cX11_barred, 5, some .int),
  (yX11_hasSworn, cX11_hasSworn, 5, (some Jvm.ClassFile.FieldType.boolean)),
  (yX11_swornToday, cX11_swornToday, 4, some .int),
  (yX11_tell, cX11_tell, 3, none),
  (yX11_swear, cX11_swear, 3, some .int),
  (yX11_close, cX11_close, 2, some .int)]
def mtab7 : List Mt := [(yX11_find, cX11_find, 4, some .int),
  (yX11_oath, cX11_oath, 5, some .int),
  (yX11_state, cX11_state, 4, some .int),
  (yX11_turned, cX11_turned, 5, some .int),
  (yX11_finesOf, cX11_finesOf, 5, some .int),
  (yX11_paidOf, cX11_paidOf, 5, some .int),
  (yX11_pay, cX11_pay, 3, some .int),
  (yX11_owes, cX11_owes, 6, some .int),
  (yX11_bound, cX11_bound, 3, some .int),
  (yX11_bits, cX11_bits, 3, some .int),
  (yX11_findCallable, cX11_findCallable, 9, none),
  (yX11_call, cX11_call, 5, none),
  (yX11_isWithin, cX11_isWithin, 6, (some Jvm.ClassFile.FieldType.boolean)),
  (yX11_compare, cX11_compare, 5, none),
  (yX11_seek, cX11_seek, 3, none),
  (yX11_hold, cX11_hold, 3, some .int),
  (yX11_session, cX11_session, 4, some .int),
  (yX11_called, cX11_called, 8, some .int),
  (yX11_lacks, cX11_lacks, 5, some .int),
  (yX11_stoodFor, cX11_stoodFor, 5, some .int),
  (yX11_stood, cX11_stood, 4, some .int),
  (yX11_ring, cX11_ring, 8, some .int),
  (yX11_leftFor, cX11_leftFor, 6, some .int),
  (yX11_left, cX11_left, 4, some .int)]
def mtab8 : List Mt := [(yX11_forsaken, cX11_forsaken, 7, some .int),
  (yX11_count, cX11_count, 6, some .int),
  (yJ6_bitCount_0f7a4, cJ6_bitCount_0f7a4, 1, some .int),
  (yJ0_length_8abf5, cJ0_length_8abf5, 1, some .int),
  (yJ0_coder_7d493, cJ0_coder_7d493, 1, (some Jvm.ClassFile.FieldType.byte)),
  (yJ0_charAt_5068e, cJ0_charAt_5068e, 2, (some Jvm.ClassFile.FieldType.char)),
  (yJ0_isLatin1_aae02, cJ0_isLatin1_aae02, 1, (some Jvm.ClassFile.FieldType.boolean)),
  (yJ1_charAt_3b067, cJ1_charAt_3b067, 2, (some Jvm.ClassFile.FieldType.char)),
  (yJ0_checkIndex_df160, cJ0_checkIndex_df160, 2, none),
  (yJ3_checkIndex_8e157, cJ3_checkIndex_8e157, 3, some .int)]
def mtab : List Mt := mtab0 ++ (mtab1 ++ (mtab2 ++ (mtab3 ++ (mtab4 ++ (mtab5 ++ (mtab6 ++ (mtab7 ++ (mtab8))))))))
def mD : Mt := (yL_law, cL_law, 4, some .boolean)
def mY (k : Nat) : MethodName := (mtab.getD k mD).1
def mB (k : Nat) : ByteArray := (mtab.getD k mD).2.1
def mN (k : Nat) : Nat := (mtab.getD k mD).2.2.1
def mR (k : Nat) : Option FieldType := (mtab.getD k mD).2.2.2
def mcl : List Nat := [12, 0, 0, 0, 0, 0, 0, 0, 0, 0, 0, 0, 0, 0, 0, 0, 0, 0, 0, 0, 0, 1, 1, 1, 1, 1, 1, 1, 1, 1, 1, 1, 2, 2, 2, 2, 2, 3, 3, 3, 3, 3, 3, 3, 3, 3, 3, 4, 4, 4, 5, 5, 5, 5, 5, 5, 5, 5, 5, 5, 5, 5, 5, 6, 6, 6, 6, 6, 6, 6, 7, 7, 7, 7, 7, 7, 8, 8, 9, 9, 9, 9, 10, 10, 10, 10, 10, 10, 10, 10, 10, 10, 10, 10, 10, 10, 10, 10, 10, 10, 10, 10, 10, 10, 10, 10, 10, 10, 10, 10, 10, 10, 10, 10, 10, 10, 10, 10, 10, 10, 10, 11, 11, 11, 11, 11, 11, 11, 11, 11, 11, 11, 11, 11, 11, 11, 11, 11, 11, 11, 11, 11, 11, 11, 11, 11, 11, 11, 11, 11, 11, 11, 11, 11, 11, 11, 11, 11, 11, 11, 11, 11, 11, 11, 11, 11, 11, 11, 11, 11, 11, 11, 11, 11, 11, 11, 11, 11, 11, 11, 11, 11, 11, 11, 11, 11, 11, 11, 11, 11, 11, 11, 11, 11, 14, 13, 13, 13, 13, 14, 13, 14]
def nK : Nat := 202
def cpl : List Nat := [0, 2067, 2071, 2127, 2191, 2199, 2120, 2116, 2639, 2248, 2148, 2075, 2079, 2087, 2092, 2101, 2112, 2108, 2579, 2618, 2215, 2063, 2235, 2055, 2153, 2166, 2157, 2140, 2105, 2174, 2144, 2590, 1590, 1586, 1582, 2631, 2097, 2252, 2571, 2273, 2264, 2256, 2269, 2277, 2287, 2563, 2281, 1552, 1556, 1614, 1622, 1631, 1639, 1712, 1716, 1704, 1700, 1635, 1643, 1648, 1720, 1723, 1740, 1737, 1743, 1708, 1749, 1767, 1772, 1753, 1263, 1259, 1548, 1569, 1565, 2083, 2207, 2219, 2598, 2602, 2606, 2610, 1255, 1560, 1573, 1578, 1594, 1598, 1602, 1610, 1618, 1627, 1758, 1762, 2048, 2059, 2132, 2162, 2170, 2178, 2182, 2187, 2203, 2223, 2227, 2231, 2567, 2575, 2586, 2594, 2614, 2622, 2627, 1539, 1542, 2051, 2238, 1606, 2136, 2211, 2635, 3131, 3128, 3276, 3179, 3124, 3146, 3142, 3150, 3158, 3162, 3155, 3166, 3170, 3175, 3192, 3188, 3183, 3196, 3244, 3247, 3264, 3261, 3214, 3227, 3210, 3222, 3241, 3231, 3237, 3206, 3202, 3251, 3255, 3268, 3300, 3296, 3292, 3288, 3284, 3280, 3596, 3272, 3308, 3584, 3588, 3304, 3592, 3600, 3604, 3608, 3612, 3620, 3624, 3616, 3628, 3632, 3645, 3649, 3657, 3661, 3665, 3653, 3642, 3638, 3669, 3673, 3681, 3677, 3685, 3693, 3689, 3697, 3701, 2241, 1652, 1656, 1662, 1666, 1669, 1672, 1677]
-- 0: SwornCourtLaw.law
def cod0 : List Nat := [6488064, 1966083, 6488068, 18446744073710141447, 6488072, 1966091, 6488076, 36893488147419693071, 16, 55340232221129113617, 55340232221128917010, 393235, 1900564, 117440533, 18446744073710272535, 17247705708918499049496, 393243, 55340232221128917020, 1638429, 520093726, 55340232221129375776, 17210812220771013034017, 18446744073709945004, 393389, 55340232221128917166, 16777391, 721072, 1638577, 393394, 55340232221128917171, 33554612, 721077, 1638582, 393399, 55340232221128917176, 50331833, 721082, 1638587, 393404, 55340232221128917181, 67109054, 721087, 1638592, 393409, 55340232221128917186, 83886275, 721092, 1638597, 393414, 55340232221128917191, 100663496, 721098, 1638603, 10916816118416869477037516903107797516492, 2097359, 36893488147419496656, 393425, 55340232221128917202, 16777427, 721108, 1638613, 393430, 55340232221128917207, 33554648, 721113, 1638618, 393435, 55340232221128917212, 50331869, 721118, 1638623, 393440, 55340232221128917217, 67109090, 721123, 1638628, 393445, 55340232221128917222, 83886311, 721128, 1638633, 393450, 55340232221128917227, 100663532, 721134, 1638639, 11181734666253574227389616687106564096240, 2097395, 17210812220771012968692, 18446744073709945079, 393464, 55340232221128917241, 16777466, 721147, 1638652, 393469, 55340232221128917246, 33554687, 721152, 1638657, 10918400155686548596995909430648924078338, 2097413, 36893488147419496710, 393479, 55340232221128917256, 16777481, 721162, 1638667, 393484, 55340232221128917261, 33554702, 721167, 1638672, 11181828150420309388498056697923389161745, 2097428, 17210812220771012968725, 18446744073709945112, 393497, 55340232221128917274, 16777499, 721180, 1638685, 10918467672029190657831293288378074988830, 2097441, 36893488147419496738, 393507, 55340232221128917284, 16777509, 721190, 1638695, 11181869698938858349005044170343754039592, 2097451, 17210812220771012968748, 18446744073709945135, 393520, 55340232221128917297, 16777522, 721203, 1638708, 393525, 55340232221128917302, 33554743, 721208, 1638713, 10918493639853283758178136417760587350330, 2097469, 36893488147419496766, 393535, 55340232221128917312, 16777537, 721218, 1638723, 393540, 55340232221128917317, 33554758, 721223, 1638728, 11181895666762951449351887299726299955529, 2097484, 17210812220771012968781, 18446744073709945168, 393553, 55340232221128917330, 16777555, 721236, 1638741, 393558, 55340232221128917335, 33554776, 721241, 1638746, 10918576736890381679229004850748719432027, 2097502, 36893488147419496799, 393568, 55340232221128917345, 16777570, 721251, 1638756, 393573, 55340232221128917350, 33554791, 721256, 1638761, 11181952795975956270074359347405646004586, 2097517, 17210812220771012968814, 18446744073709945201, 393586, 55340232221128917363, 16777588, 721269, 1638774, 10918597511149656159473275214922055483767, 36893488147419496826, 393595, 55340232221128917372, 16777597, 721278, 1638783, 11181973570235230750318629711578982056320, 17210812220771012837763, 390, 2228615, 18446744073709945224, 393609, 55340232221128917386, 16777611, 721292, 1638797, 393614, 55340232221128917391, 33554832, 721297, 1638802, 393619, 55340232221128917396, 50332053, 721302, 1638807, 10918618285408930639772885811316520190360, 2097563, 36893488147419496860, 393629, 55340232221128917406, 16777631, 721312, 1638817, 393634, 55340232221128917411, 33554852, 721317, 1638822, 393639, 55340232221128917416, 50332073, 721322, 1638827, 11181999538059323850683919585035203969452, 2097583, 17210812220771012968880, 18446744073709945267, 393652, 55340232221128917429, 16777654, 721335, 1638840, 393657, 55340232221128917434, 33554875, 721340, 1638845, 393662, 55340232221128917439, 50332096, 721345, 1638850, 10918659833927479600298320027810594619843, 2097606, 36893488147419496903, 393672, 55340232221128917449, 16777674, 721355, 1638860, 393677, 55340232221128917454, 33554895, 721360, 1638865, 393682, 55340232221128917459, 50332116, 721365, 1638870, 11182041086577872811209353801529311953367, 2097626, 17210812220771012968923, 18446744073709945310, 393695, 55340232221128917472, 16777697, 721378, 1638883, 393700, 55340232221128917477, 33554918, 721383, 1638888, 917993, 536871402, 852460, 393709, 55340232221128917486, 50332143, 721392, 1638897, 918002, 1145713506358691502013160817139, 55340232221129441782, 73786976294838993399, 10918701382446028560805307500230959497720, 2097659, 36893488147419496956, 393725, 55340232221128917502, 16777727, 721408, 1638913, 393730, 55340232221128917507, 33554948, 721413, 1638918, 918023, 536871432, 852490, 393739, 55340232221128917516, 50332173, 721422, 1638927, 918032, 1145713506358691502013160817169, 55340232221129441812, 73786976294838993429, 11182108602920514872044737659258462863894, 2097689, 17210812220771012968986, 18446744073709945373, 10918748124529396141359527505639372030494, 2097697, 36893488147419496994, 11182139764309426592401919833481805103651, 2097702, 17210812220771012968999, 18446744073709945386, 10919428481520635369963512800729582862891, 2097710, 36893488147419497007, 11182394248985538975620204409507925000752, 2097715, 17210812220771012969012, 18446744073709945399, 393784, 55340232221128917561, 16777786, 721467, 1638972, 393789, 55340232221128917566, 33555007, 721472, 1638977, 393794, 55340232221128917571, 50332228, 721477, 1638982, 10919449255779909850281570141197757121095, 2097738, 36893488147419497035, 393804, 55340232221128917581, 16777806, 721487, 1638992, 393809, 55340232221128917586, 33555027, 721492, 1638997, 393814, 55340232221128917591, 50332248, 721497, 1639002, 11182415023244813455938261749976099258971, 2097758, 17210812220771012969055, 18446744073709945442, 393827, 55340232221128917604, 16777829, 721510, 1639015, 393832, 55340232221128917609, 33555050, 721515, 1639020, 393837, 55340232221128917614, 50332271, 721520, 1639025, 393842, 55340232221128917619, 67109492, 721525, 1639030, 10919521965687370531219526764136084341367, 2097786, 36893488147419497083, 393852, 55340232221128917629, 16777854, 721535, 1639040, 393857, 55340232221128917634, 33555075, 721540, 1639045, 393862, 55340232221128917639, 50332296, 721545, 1639050, 393867, 55340232221128917644, 67109517, 721550, 1639055, 11182482539587455516810539095852669272720, 2097811, 17210812220771012969108, 18446744073709945495, 393880, 55340232221128917657, 16777882, 721563, 1639068, 393885, 55340232221128917662, 33555103, 721568, 1639073, 393890, 55340232221128917667, 50332324, 721573, 1639078, 393895, 55340232221128917672, 67109545, 721578, 1639083, 10920991744531040009806762172613390566060, 2097839, 36893488147419497136, 393905, 55340232221128917682, 16777907, 721588, 1639093, 393910, 55340232221128917687, 33555128, 721593, 1639098, 393915, 55340232221128917692, 50332349, 721598, 1639103, 393920, 55340232221128917697, 67109570, 721603, 1639108, 11182503313846729997073256204099832316613, 2097864, 17210812220771012969161, 18446744073709945548, 393933, 55340232221128917710, 16777935, 721616, 1639121, 393938, 55340232221128917715, 33555156, 721621, 1639126, 10921370874762799274564455909974264316631, 2097882, 36893488147419497179, 393948, 55340232221128917725, 16777950, 721631, 1639136, 393953, 55340232221128917730, 33555171, 721636, 1639141, 11182669507920925839138099581928710931174, 2097897, 17210812220771012969194, 18446744073709945581, 393966, 55340232221128917743, 16777968, 721649, 1639154, 10921526681707357876516387477753287738099, 2097910, 36893488147419497207, 393976, 55340232221128917753, 16777978, 721659, 1639164, 11184165254588688418035284631641093636861, 2097920, 17210812220771012969217, 18446744073709945604, 393989, 55340232221128917766, 16777991, 721672, 1639177, 10921568230225906837041821694247362167562, 2097933, 36893488147419497230, 393999, 55340232221128917776, 16778001, 721682, 1639187, 11184206803107237378560718848135168066324, 2097943, 17210812220771012969240, 18446744073709945627, 394012, 55340232221128917789, 16778014, 721695, 1639200, 394017, 55340232221128917794, 33555235, 721700, 1639205, 10921609778744455797585702654815146148646, 2097961, 36893488147419497258, 394027, 55340232221128917804, 16778029, 721710, 1639215, 394032, 55340232221128917809, 33555250, 721715, 1639220, 11184227577366511858841882700455923221301, 2097976, 17210812220771012969273, 18446744073709945660, 394045, 55340232221128917822, 16778047, 721728, 1639233, 394050, 55340232221128917827, 33555268, 721733, 1639238, 394055, 55340232221128917832, 50332489, 721738, 1639243, 10921630553003730277866866507135901303628, 2097999, 36893488147419497296, 394065, 55340232221128917842, 16778067, 721748, 1639253, 394070, 55340232221128917847, 33555288, 721753, 1639258, 394075, 55340232221128917852, 50332509, 721758, 1639263, 11184248351625786339123046552776678376288, 2098019, 17210812220771012969316, 18446744073709945703, 394088, 55340232221128917865, 16778090, 721771, 1639276, 394093, 55340232221128917870, 33555311, 721776, 1639281, 10921656520827823378176816148370994561906, 2098037, 36893488147419497334, 394103, 55340232221128917880, 16778105, 721786, 1639291, 394108, 55340232221128917885, 33555326, 721791, 1639296, 11184269125885060819367316916950014428033, 2098052, 17210812220771012969349, 18446744073709945736, 394121, 55340232221128917898, 16778123, 721804, 1639309, 394126, 55340232221128917903, 33555344, 721809, 1639314, 10921739617864921299227684581359126643603, 2098070, 36893488147419497367, 394136, 55340232221128917913, 16778138, 721819, 1639324, 394141, 55340232221128917918, 33555359, 721824, 1639329, 11184289900144335299630034025197093585826, 2098085, 17210812220771012969382, 18446744073709945769, 394154, 55340232221128917931, 16778156, 721837, 1639342, 394159, 55340232221128917936, 33555377, 721842, 1639347, 394164, 55340232221128917941, 50332598, 721847, 1639352, 10921843489161293700559716866667997103033, 2098108, 36893488147419497405, 394174, 55340232221128917951, 16778176, 721857, 1639362, 394179, 55340232221128917956, 33555397, 721862, 1639367, 394184, 55340232221128917961, 50332618, 721867, 1639372, 11184352222922158740436632094011906393037, 2098128, 17210812220771012969425, 18446744073709945812, 394197, 55340232221128917974, 16778199, 721880, 1639385, 10921864263420568180785540486767623603162, 2098141, 36893488147419497438, 394207, 55340232221128917984, 16778209, 721890, 1639395, 11184372997181433220662455714111532893156, 2098151, 17210812220771012969448, 18446744073709945835, 394220, 55340232221128917997, 16778222, 721903, 1639408, 394225, 55340232221128918002, 33555443, 721908, 1639413, 10921885037679842661066704339088378758134, 2098169, 36893488147419497466, 394235, 55340232221128918012, 16778237, 721918, 1639423, 394240, 55340232221128918017, 33555458, 721923, 1639428, 11184404158570344941074978120555919901701, 2098184, 17210812220771012969481, 18446744073709945868, 394253, 55340232221128918030, 16778255, 721936, 1639441, 394258, 55340232221128918035, 33555476, 721941, 1639446, 10923630075458899003134941431838816928791, 2098202, 36893488147419497499, 394268, 55340232221128918045, 16778270, 721951, 1639456, 394273, 55340232221128918050, 33555491, 721956, 1639461, 11184565159079722163111035709470410081318, 2098217, 17210812220771012969514, 18446744073709945901, 394286, 55340232221128918063, 16778288, 721969, 1639474, 10923671623977447963641928904259181806643, 2098230, 36893488147419497527, 394296, 55340232221128918073, 16778298, 721979, 1639484, 11184585933338996643355306073643746133053, 2098240, 17210812220771012969537, 18446744073709945924, 394309, 55340232221128918086, 16778311, 721992, 1639497, 394314, 55340232221128918091, 33555532, 721997, 1639502, 394319, 55340232221128918096, 50332753, 722002, 1639507, 10923728753190452784401294440085946958932, 2098263, 36893488147419497560, 394329, 55340232221128918106, 16778331, 722012, 1639517, 394334, 55340232221128918111, 33555552, 722017, 1639522, 394339, 55340232221128918116, 50332773, 722022, 1639527, 11184606707598271123654916670038227616872, 2098283, 17210812220771012969580, 18446744073709945967, 394352, 55340232221128918129, 16778354, 722035, 1639540, 394357, 55340232221128918134, 33555575, 722040, 1639545, 10923770301709001744908281912506311836794, 2098301, 36893488147419497598, 394367, 55340232221128918144, 16778369, 722050, 1639555, 394372, 55340232221128918149, 33555590, 722055, 1639560, 11184648256116820084161904142458592494729, 2098316, 17210812220771012969613, 18446744073709946000, 394385, 55340232221128918162, 16778387, 722068, 1639573, 394390, 55340232221128918167, 33555608, 722073, 1639578, 394395, 55340232221128918172, 50332829, 722078, 1639583, 10923874173005374146240314197815182296224, 2098339, 36893488147419497636, 394405, 55340232221128918182, 16778407, 722088, 1639593, 394410, 55340232221128918187, 33555628, 722093, 1639598, 394415, 55340232221128918192, 50332849, 722098, 1639603, 11184669030376094564443067994779364426932, 2098359, 17210812220771012969656, 18446744073709946043, 394428, 55340232221128918205, 16778430, 722111, 1639616, 394433, 55340232221128918210, 33555651, 722116, 1639621, 394438, 55340232221128918215, 50332872, 722121, 1639626, 10923915721523923106765748414309256725707, 2098382, 36893488147419497679, 394448, 55340232221128918225, 16778450, 722131, 1639636, 394453, 55340232221128918230, 33555671, 722136, 1639641, 394458, 55340232221128918235, 50332892, 722141, 1639646, 11184710578894643524968502211273438856415, 2098402, 17210812220771012969699, 18446744073709946086, 394471, 55340232221128918248, 16778473, 722154, 1639659, 10923941689348016207057251311470640432364, 2098415, 36893488147419497712, 394481, 55340232221128918258, 16778483, 722164, 1639669, 11184731353153918005194325831373065356534, 2098425, 17210812220771012969722, 55340232221246751997, 184467440737096828160, 16778499, 2229508]
-- 1: SwornCourt$Anew.work
def cod1 : List Nat := [0, 36893488147419561985, 36893488147419365378, 393219, 332077415612090235036529721348, 231494787604620528438088171527, 442721857769080750090, 393229, 332386900640358324178964054030, 36893488147419365393, 18, 1769491, 393236, 333005870678447758390123167765, 36893488147419365400, 18446744073726328857, 1769498, 393243, 333624840716537192601282281500, 36893488147419365407, 32, 1769505, 36893488147436535842, 36893488147420413989, 393256, 41, 335172265820984150166034907178, 393261, 18446744073709813806, 335481750849252239308469239855, 50, 36893488147419562035, 36893488147419365428, 393269, 332077415612090235036529721398, 317531620371847945690996408377, 1272825341086010572860, 393279, 332077415612090235036529721408, 230875817566531094226929057859, 36893488147419365446, 1638471, 18446744073709813832, 1272825341086027350089, 393292, 332077415612090235036529721421, 230256847528441660015769944144, 36893488147419365459, 1638484, 55340232221129113685, 55340232221128917078, 1033017668127769559127, 393306, 55340232221128917083, 11080509505102118607239974208898840461404, 1235931852938541269087, 393314, 18446744073726328931, 55340232221128917092, 18446744073710272613, 33554534, 393319, 332077415612090235036529721448, 230875817566531094226929057899, 36893488147419365486, 1638511, 11080540729889034589573480687688218902640, 36893488147436535923, 590295810358706962550, 2162809]
-- 2: SwornCourt$Anew.workOath
def cod2 : List Nat := [393216, 332077415612090235036529721345, 227471482384709322176118259716, 18446744073709813767, 1638408, 36893488147419561993, 393226, 332077415612090235036529721355, 228709422442441446524726935566, 18446744073709813777, 1638418, 55340232221129113619, 393236, 334243810754626626812441395221, 18446744073709813784, 393241, 393242, 332077415612090235036529721371, 226233542326977197827509583902, 18446744073709813793, 1638434, 36893488147419365411, 55340232221128917028, 11091216025028607162570871165242271137829, 571849066285013991464, 393259, 332077415612090235036529721388, 229637877490352225804610830383, 18446744073709813810, 1638451, 590295810358706962484, 55, 1769528, 393273, 333624840716537192601282281530, 36893488147419365437, 2031678, 1638463, 393280, 334243810754626626812441395265, 18446744073709813828, 1638469, 720966, 1769543, 393288, 18446744073709813833, 16777290, 720971, 335172265820984150166034907212, 393295, 36893488147419365456, 11091428961186170585226828036626830393425, 1088357900348881436756, 393303, 36893488147419365464, 16777305, 55340232221128917082, 11080540729889034589573480687688218902619, 1309718829233379475550, 393313, 332077415612090235036529721442, 225305087279066418547625689189, 36893488147419365480, 1638505, 18446744073709813866, 1309718829233396121707, 393326, 36893488147419365487, 33554544, 55340232221128917105, 11080540729889034589573480687688218902642, 2162805]
-- 3: SwornCourt$Anew.decide
def cod3 : List Nat := [393216, 332386900640358324178964054017, 18446744073709813764, 1638405, 110680464442258423814, 2162697, 393226, 332386900640358324178964054027, 18446744073709813774, 393231, 332077415612090235036529721360, 18446744073709813779, 393236, 335481750849252239308469174293, 11070104184040607110556341820057077481496, 332041393326773043227, 50331678, 350488137400482791455, 36893488147419365410, 1769507, 393252, 333005870678447758390123167781, 18446744073709813800, 55340232221128917033, 1769514, 2162731]
-- 4: SwornCourt$Anew.remember
def cod4 : List Nat := [393216, 332386900640358324178964054017, 4, 393221, 334862780792716061023600508934, 9, 335544330, 11020038222200398822914458231188127940620, 2162703]
-- 5: SwornCourt$Anew.differing
def cod5 : List Nat := [0, 36893488147419561985, 2, 55340232221129113603, 55340232221128916996, 393221, 332077415612090235036529721350, 231494787604620528438088171529, 516508834063918956556, 393231, 332077415612090235036529721360, 222519722135334080707974004755, 55340232221128917014, 1638423, 18446744073709813784, 479615345916516630553, 393244, 332386900640358324178964054045, 55340232221128917024, 1638433, 393250, 334862780792716061023600508963, 55340232221128917030, 1638439, 479615345916449521704, 36893488147436535851, 55340232221146087470, 73786976294839517233, 36893488147419365428, 2228277]
-- 6: SwornCourt$Anew.needOf
def cod6 : List Nat := [393216, 331767930583822145894095388673, 393220, 332077415612090235036529721349, 223757662193066205056582680584, 18446744073709813771, 1638412, 13, 393230, 332077415612090235036529721359, 218805901943690963588438425618, 18446744073709813781, 1638422, 720919, 11004571783257056384918768896522347413528, 2228251]
-- 7: SwornCourt$Anew.lackOf
def cod7 : List Nat := [0, 393217, 18446744073709813762, 11091449735445445065489545144873842442243, 393222, 333624840716537192601282281479, 18446744073709813770, 1638411, 18446744073710272524, 45153971168768037219573502253426696454157, 2228240]
-- 8: SwornCourt$Anew.chargesIn
def cod8 : List Nat := [0, 36893488147419561985, 2, 55340232221129113603, 55340232221128916996, 393221, 332077415612090235036529721350, 231494787604620528438088171529, 332041393326823440396, 393231, 332386900640358324178964054032, 55340232221128917011, 1638420, 18446744073709813781, 295147905179370782742, 36893488147436535833, 55340232221146087452, 73786976294839517215, 36893488147419365410, 2228259]
-- 9: SwornCourt$Anew.allOpen
def cod9 : List Nat := [0, 36893488147419561985, 36893488147419365378, 393219, 332077415612090235036529721348, 231494787604620528438088171527, 424275113695371198474, 18446744073709813773, 36893488147419365390, 147573952589677133839, 16777232, 55340232221129375761, 16777234, 387381625547918540819, 393238, 332386900640358324178964054039, 36893488147419365402, 1638427, 387381625547901698076, 31, 2228256, 36893488147436535841, 36893488147420413988, 16777255, 2228264]
-- 10: SwornCourt$Anew.weightOf
def cod10 : List Nat := [393216, 331767930583822145894095388673, 36893488147419365380, 67108869, 393222, 330839475499017878466792390663, 18446744073709813770, 55340232221128917003, 10939693771624868052055896284263491108876, 720911, 11004571783257056384918768896522347413520, 2228243]
-- 11: SwornCourt$Anew.obstacle
def cod11 : List Nat := [393216, 18446744073709813761, 393218, 332077415612090235036529721347, 220043842001423087937047101446, 36893488147419365385, 1638410, 393227, 332077415612090235036529721356, 220972297049333867216930996239, 36893488147419365394, 1638419, 36893488147419365396, 393237, 332077415612090235036529721366, 223757662193066205056582680601, 36893488147419365404, 1638429, 55340232221128917022, 11080514707542657824064242432287309103135, 2228258]
-- 12: SwornCourt$Anew.obstacleIn
def cod12 : List Nat := [393216, 330839475499017878466792390657, 18446744073709813764, 110680464442257571845, 10942384038019245545312632246912294387719, 221360928884532510730, 393229, 18446744073709813774, 92233720368548020239, 110680464442257571857, 11080519909983197040740936703085950337043, 258254417031934836758, 16777241, 2228250, 18446744073709813787, 36893488147419365404, 368934881474192211997, 18446744073709813792, 55340232221128917025, 405828369621628092450, 33554469, 2228262, 393255, 18446744073709813800, 36893488147419365417, 92233720368548020266, 11080525108619856001758818966409436266540, 553402322211287662639, 50331698, 2228275, 393268, 331767930583822145894095388725, 92233720368548020280, 167772218, 11004571783257056384918768896522347413564, 16777279, 996124179980333744192, 393283, 331148960527285967609226723396, 393287, 330839475499017878466792390728, 170526240430007876941182795851, 18446744073709813838, 1638479, 393296, 330839475499017878466792390737, 170526240430007876941182795860, 36893488147419365463, 1638488, 110680464442257571929, 10963724395859264880217049782814436032603, 996124179980316901470, 67108961, 2228322, 393315, 18446744073709813860, 73786976294838468709, 92233720368548020327, 110680464442257571945, 11080530312328355303747350960068343693419, 1162144876643702866030, 83886193, 2228338, 393331, 18446744073709813876, 92233720368548020341, 110680464442257571959, 11080535518572774776175090958710687989881, 1309718829233379278972, 100663423, 1328165573307089027201, 132, 2228357]
-- 13: SwornCourt$Anew.isTooYoung
def cod13 : List Nat := [393216, 331767930583822145894095388673, 36893488147419365380, 218103813, 11004571783257056384918768896522347413511, 73786976294838665226, 73786976294838468620, 350488137400566480910, 55340232221128917009, 393234, 330839475499017878466792390675, 169597785382097097661298901014, 18446744073709813785, 1638426, 18446744073710272539, 73786976294838468636, 350488137400532992030, 16777249, 368934881474192343074, 37, 2228262]
-- 14: SwornCourt$Anew.isTooNear
def cod14 : List Nat := [393216, 331458445555554056751661056001, 18446744073709813764, 36893488147419365381, 10982483552133601817175861454002043813894, 393225, 331458445555554056751661056010, 194975556205894137370390167565, 18446744073726328848, 221360928884532576273, 20, 2228245, 393238, 331458445555554056751661056023, 196522981291894350861433176090, 461168601842739904541, 393248, 331767930583822145894095388705, 55340232221128917028, 150994981, 11004571783257056384918768896522347413543, 16777258, 461168601842756747307, 16777262, 479615345916449652783, 50, 73786976294838665267, 393269, 331458445555554056751661056054, 194975556205894137370390167609, 73786976294838468668, 720958, 393279, 331767930583822145894095388736, 55340232221128917059, 134217796, 11004571783257056384918768896522347413574, 737869762948450353225, 16777292, 756316507022092927053, 80, 2228305]
-- 15: SwornCourt$Anew.sworeFalsely
def cod15 : List Nat := [393216, 331767930583822145894095388673, 55340232221128916996, 184549381, 11004571783257056384918768896522347413511, 92233720368548216842, 12, 110680464442257768461, 110680464442257571855, 393233, 335172265820984150166034841618, 903890459611819540501, 393240, 332077415612090235036529721369, 227471482384709322176118259740, 110680464442257571871, 1638433, 129127208515967320098, 393252, 332077415612090235036529721381, 226233542326977197827509583912, 110680464442257571883, 1638445, 18446744073709813806, 866996971464366882863, 129127208515967123506, 36893488147419365428, 866996971464350105653, 393272, 332077415612090235036529721401, 129127208515967123516, 393278, 335481750849252239308469174335, 11070104184040607110556341820057077481538, 664082786653561749573, 866996971464350236744, 393291, 332077415612090235036529721420, 228709422442441446524726935631, 110680464442257571922, 1638484, 73786976294838468693, 92233720368548020311, 11080447244454648828144577555006411374681, 866996971464350040156, 16777311, 2228320, 110680464442274742369, 147573952589677723748, 103, 2228328]
-- 16: SwornCourt$Anew.lostLately
def cod16 : List Nat := [393216, 331767930583822145894095388673, 36893488147419365380, 201326597, 11004571783257056384918768896522347413511, 73786976294838665226, 12, 92233720368548216845, 92233720368548020239, 393233, 332077415612090235036529721362, 231494787604620528438088171541, 719423018874724024344, 393243, 332077415612090235036529721372, 220043842001423087937047101471, 92233720368548020258, 1638436, 18446744073709813797, 682529530727271366694, 393257, 332386900640358324178964054058, 92233720368548020269, 1638447, 33554480, 498062089990209404977, 682529530727254720564, 393271, 333005870678447758390123167800, 92233720368548020283, 1638461, 55340232221128917054, 73786976294838468671, 11080447244454648828144577555006411374657, 682529530727254523972, 16777287, 2228296, 92233720368565190729, 147573952589677723724, 79, 2228304]
-- 17: SwornCourt$Anew.isLately
def cod17 : List Nat := [262144, 18446744073709813761, 184467440737163804674, 18446744073709813765, 262150, 18446744073710272519, 36893488147419365384, 184467440737147027465, 16777228, 202914184810806378509, 16, 2228241]
-- 18: SwornCourt$Anew.helpInSight
def cod18 : List Nat := [0, 55340232221129113601, 2, 73786976294838665219, 73786976294838468613, 393223, 330839475499017878466792390664, 175787485762991439772890038283, 756316507022143127566, 393233, 332077415612090235036529721362, 73786976294838468629, 18446744073709813783, 11070285958946360672205972382663640940568, 424275113695337578523, 393246, 73786976294838468639, 18446744073709813793, 36893488147419365410, 11091216025028607162570871165242271137827, 424275113695337578534, 16777257, 442721857769030549546, 45, 92233720368548216878, 92233720368548020272, 719423018874673627186, 55340232221128917045, 393270, 73786976294838468663, 393273, 332077415612090235036529721402, 223757662193066205056582680637, 18446744073709813824, 1638465, 36893488147419365442, 11091595155395301891647564840714534977603, 720966, 55340232221129113671, 73786976294855639112, 73786976294839517259, 55340232221128917070, 2228303]
-- 19: SwornCourt$Anew.helpAgainst
def cod19 : List Nat := [0, 73786976294838665217, 3, 92233720368548216836, 92233720368548020230, 393224, 330839475499017878466792390665, 175787485762991439772890038284, 516508834063918956559, 393234, 92233720368548020243, 18446744073709813781, 18446744073726328854, 18446744073726328855, 36893488147419365400, 55340232221128917017, 11080514707542657824064242432287309103130, 479615345916466233373, 73786976294838468640, 393250, 92233720368548020259, 36893488147419365413, 55340232221128917030, 11091595155395301891647564840714534977575, 720938, 73786976294838665259, 92233720368565190701, 73786976294839517232, 73786976294838468659, 2228277]
-- 20: SwornCourt$Anew.finesOf
def cod20 : List Nat := [0, 36893488147419561985, 2, 55340232221129113603, 55340232221128916996, 393221, 332077415612090235036529721350, 231494787604620528438088171529, 1014570924054076850188, 393231, 332077415612090235036529721360, 220043842001423087937047101459, 55340232221128917014, 1638423, 18446744073709813784, 977677435906624192537, 393244, 332386900640358324178964054045, 55340232221128917024, 1638433, 33554466, 424275113695371198499, 977677435906607546406, 393257, 332077415612090235036529721386, 223757662193066205056582680621, 55340232221128917040, 1638449, 73786976294838665266, 36893488147419365428, 393269, 331767930583822145894095388726, 73786976294838468665, 234881083, 393277, 332077415612090235036529721406, 218805901943690963588438425665, 55340232221128917060, 1638469, 720966, 11004571783257056384918768896522347413575, 393290, 331767930583822145894095388747, 73786976294838468686, 301989968, 11004571783257056384918768896522347413586, 393301, 55340232221128917078, 11091428961186170585226828036626830393431, 36893488147419824218, 720987, 720988, 36893488147419562077, 55340232221146087518, 73786976294839517281, 100, 55340232221129113701, 55340232221128917094, 393319, 335172265820984150166034841704, 1733993942928749363307, 393326, 332077415612090235036529721455, 227471482384709322176118259826, 55340232221128917109, 1638518, 73786976294838665335, 393337, 332077415612090235036529721466, 226233542326977197827509583997, 55340232221128917120, 1638529, 18446744073709813890, 1697100454781296705667, 393350, 332386900640358324178964054151, 73786976294838468746, 1638540, 50331789, 1697100454781296705678, 36893488147419365521, 393362, 331767930583822145894095388819, 393366, 332077415612090235036529721495, 223757662193066205056582680730, 73786976294838468765, 1638559, 318767264, 11004571783257056384918768896522347413666, 721061, 36893488147419562150, 55340232221146087591, 1051464412201445753002, 36893488147419365549, 2228398]
-- 21: SwornCourt$Docket.hasCharge
def cod21 : List Nat := [18446744073709813760, 147573952589711081473, 18446744073709813764, 393221, 231185302594799183369363390470, 147573952589727924233, 16777228, 166020696663387275277, 16, 2228241]
-- 22: SwornCourt$Docket.hasAll
def cod22 : List Nat := [18446744073709813760, 393217, 231185302594799183369363390466, 147573952589677133829, 129127208515984752646, 16777225, 147573952589677723658, 13, 2228238]
-- 23: SwornCourt$Docket.addCharge
def cod23 : List Nat := [393216, 231185302594799183369363390465, 129127208515967320068, 129127208515967123462, 335544328, 147573952589711147018, 18446744073726328845, 2228238, 393231, 218496416933869618519713644560, 129127208515967123475, 18446744073709813781, 1769494, 393239, 219424871981780397799597539352, 129127208515967123483, 36893488147419365405, 1769502, 393247, 220662812039512522148206215200, 129127208515967123491, 55340232221128917029, 1769510, 393255, 221591267087423301428090109992, 129127208515967123499, 73786976294838468653, 1769519, 393264, 223138692173423514919133118513, 129127208515967123508, 92233720368548020278, 1769528, 393273, 222210237125512735639249223738, 129127208515967123517, 110680464442257571903, 1769537, 393282, 224376632231155639267741794371, 129127208515967123526, 18446744073726328904, 1769545, 393290, 224995602269245073478900908107, 129127208515967123534, 18446744073726328912, 1769553, 393298, 129127208515967123539, 16777301, 720982, 231185302594799183369363456087, 129127208515967123546, 2228316]
-- 24: SwornCourt$Docket.addOath
def cod24 : List Nat := [393216, 316912650333758511479837294593, 92233720368548216836, 92233720368548020230, 1677721608, 147573952589711147018, 18446744073726328845, 2228238, 393231, 225924057317155852758784802832, 92233720368548020243, 18446744073709813781, 1769494, 393239, 227161997374887977107393478680, 92233720368548020251, 36893488147419365405, 1769502, 393247, 228399937432620101456002154528, 92233720368548020259, 55340232221128917029, 1769510, 393255, 229328392480530880735886049320, 92233720368548020267, 73786976294838468653, 1769519, 393264, 92233720368548020273, 16777267, 720948, 316912650333758511479837360181, 393272, 92233720368548020281, 55340232221128917051, 11059283504588995562385352488605907746876, 92233720368548020287, 2228289]
-- 25: SwornCourt$Docket.addClosing
def cod25 : List Nat := [393216, 18446744073726328833, 18446744073709813762, 18446744073710272515, 36893488147419365380, 11059283504588995562385352488605907746821, 2162696]
-- 26: SwornCourt$Docket.addEvent
def cod26 : List Nat := [393216, 317841105381669290759721189377, 2013265924, 92233720368582492166, 2162697, 393226, 229947362518620314947045163019, 393230, 317841105381669290759721189391, 18446744073709813778, 1769491, 393236, 230566332556709749158204276757, 393240, 317841105381669290759721189401, 36893488147419365404, 1769501, 393246, 1966111, 317841105381669290759721189408, 16777251, 720932, 317841105381669290759721254949, 2162728]
-- 27: SwornCourt$Docket.hasSworn
def cod27 : List Nat := [0, 55340232221129113601, 55340232221128916994, 393219, 316912650333758511479837294596, 405828369621661646855, 393226, 225924057317155852758784802827, 55340232221128917006, 1638415, 18446744073709813776, 368934881474208989201, 393236, 227161997374887977107393478677, 55340232221128917016, 1638425, 36893488147419365402, 368934881474208989211, 16777246, 2228255, 55340232221146087456, 36893488147420413987, 38, 2228263]
-- 28: SwornCourt$Docket.isFound
def cod28 : List Nat := [393216, 224376632231155639267741794305, 18446744073709813764, 1638405, 18446744073726328838, 258254417031934902279, 393226, 224376632231155639267741794315, 18446744073709813774, 1638415, 36893488147419365392, 258254417032002011153, 16777236, 276701161105644584981, 24, 2228249]
-- 29: SwornCourt$Docket.oathsFor
def cod29 : List Nat := [0, 36893488147419561985, 2, 55340232221129113603, 55340232221128916996, 393221, 316912650333758511479837294598, 313594649253113888777, 393228, 227161997374887977107393478669, 55340232221128917008, 1638417, 18446744073709813778, 276701161105661231123, 36893488147436535830, 55340232221146087449, 73786976294839517212, 36893488147419365407, 2228256]
-- 30: SwornCourt$Docket.oathsOfOn
def cod30 : List Nat := [0, 55340232221129113601, 2, 73786976294838665219, 73786976294838468613, 393223, 316912650333758511479837294600, 424275113695371198475, 393230, 225924057317155852758784802831, 73786976294838468626, 1638420, 18446744073709813781, 387381625547918540822, 393241, 228399937432620101456002154522, 73786976294838468637, 1638431, 36893488147419365408, 387381625547918540833, 55340232221146087460, 73786976294855639079, 73786976294839517226, 55340232221128917037, 2228270]
-- 31: SwornCourt$Docket.oathsOfFor
def cod31 : List Nat := [0, 55340232221129113601, 2, 73786976294838665219, 73786976294838468613, 393223, 316912650333758511479837294600, 479615345916499853323, 393230, 225924057317155852758784802831, 73786976294838468626, 1638420, 18446744073709813781, 442721857769047195670, 393241, 219424871981780397799597539354, 393245, 227161997374887977107393478686, 73786976294838468641, 1638435, 1638436, 36893488147419365413, 442721857769047195686, 55340232221146087465, 73786976294855639084, 73786976294839517231, 55340232221128917042, 2228275]
-- 32: SwornCourt$Feuds.add
def cod32 : List Nat := [393216, 188166886045164778079540084737, 335544324, 92233720368582492166, 2162697, 393226, 186619460922271076441077973003, 393230, 188166886045164778079540084751, 18446744073709813778, 1769491, 393236, 186928945950539165583512305685, 393240, 188166886045164778079540084761, 36893488147419365404, 1769501, 393246, 187238430978807254725946638367, 393250, 188166886045164778079540084771, 55340232221128917030, 1769511, 393256, 187547916007075343868380971049, 393260, 188166886045164778079540084781, 18446744073726328880, 1769521, 393266, 1966131, 188166886045164778079540084788, 16777271, 720952, 188166886045164778079540150329, 2162748]
-- 33: SwornCourt$Feuds.isOf
def cod33 : List Nat := [393216, 186619460922271076441077972993, 18446744073709813764, 1638405, 36893488147419365382, 221360928884532576263, 393226, 186928945950539165583512305675, 18446744073709813774, 1638415, 55340232221128917008, 442721857769030418449, 393236, 186619460922271076441077973013, 18446744073709813784, 1638425, 55340232221128917018, 479615345916466298907, 393246, 186928945950539165583512305695, 18446744073709813794, 1638435, 36893488147419365412, 479615345916466298917, 16777256, 498062089990159204393, 44, 2228269]
-- 34: SwornCourt$Feuds.standing
def cod34 : List Nat := [0, 55340232221129113601, 55340232221128916994, 393219, 188166886045164778079540084740, 405828369621661646855, 393226, 187547916007075343868380971019, 55340232221128917006, 1638415, 18446744073726328848, 368934881474208989201, 393236, 55340232221128917013, 18446744073709813782, 36893488147419365399, 10952845887280681459919576299567671738392, 368934881474192146459, 55340232221128917022, 2228255, 55340232221146087456, 36893488147420413987, 18446744073726328870, 2228263]
-- 35: SwornCourt$Feuds.allStanding
def cod35 : List Nat := [0, 18446744073710010369, 2, 36893488147419561987, 36893488147419365380, 393221, 188166886045164778079540084742, 313594649253113888777, 393228, 187547916007075343868380971021, 36893488147419365392, 1638417, 18446744073726328850, 276701161105661231123, 18446744073726984214, 36893488147436535833, 73786976294839517212, 18446744073709813791, 2228256]
-- 36: SwornCourt$Feuds.holds
def cod36 : List Nat := [0, 73786976294838665217, 73786976294838468611, 393221, 188166886045164778079540084742, 627189298506176266249, 393228, 73786976294838468621, 18446744073709813775, 36893488147419365392, 10952845887280681459919576299567671738385, 590295810358706765844, 393239, 187238430978807254725946638360, 73786976294838468635, 1638429, 55340232221128917022, 590295810358773940255, 393250, 187547916007075343868380971043, 73786976294838468646, 1638440, 18446744073726328873, 553402322211287728170, 55340232221128917037, 393262, 187547916007075343868380971055, 73786976294838468658, 1638452, 590295810358757163061, 16777272, 2228281, 73786976294855639098, 36893488147420414013, 64, 2228289]
-- 37: SwornCourt$Finding.seekFor
def cod37 : List Nat := [393216, 1, 355288791477818323706905559042, 5, 55340232221129113606, 55340232221128916999, 393224, 352193941195137432282562166793, 231804272614441873506812952588, 1088357900348915056655, 393234, 355288791477818323706905493523, 83886102, 1088357900348915056663, 18446744073709813786, 55340232221128917019, 147573952589677133852, 16777245, 55340232221129375774, 387381625547918475295, 1051464412201445752866, 393253, 352812911251673610567430832166, 393257, 355288791477818323706905493546, 55340232221128917037, 1769518, 393263, 354669821421282145422036828208, 393267, 355288791477818323706905493556, 18446744073726328887, 1769528, 393273, 354979306449550234564471160890, 393277, 355288791477818323706905493566, 18446744073726328897, 1769538, 393283, 393284, 355288791477818323706905493573, 393288, 55340232221128917065, 36893488147419365450, 11123096958508437032507016198469645041739, 393294, 352503426223405521424996499535, 55340232221128917074, 11091428961231664881670565761729373208659, 11123102160948976249257497445563090927702, 393305, 1966170, 355288791477818323706905493595, 16777310, 720991, 355288791477818323706905559136, 55340232221146087523, 92233720368549068902, 393321, 36893488147419365482, 11123112556954334086018317737497165365355, 393326, 111, 356526731572443936202933338224, 393331, 116, 357145701610533370414092451957, 393336, 18446744073726328953, 357764671648622804625251565690, 393341, 126, 358383641686712238836410679423, 393346, 131, 11122982754605020541289628806419438764164, 2162823]
-- 38: SwornCourt$Finding.calledFor
def cod38 : List Nat := [0, 36893488147419561985, 36893488147419365378, 393219, 355288791477818323706905493508, 498062089990209404935, 393226, 352812911251673610567430832139, 36893488147419365390, 1638415, 18446744073709813776, 461168601842756747281, 393236, 354979306449550234564471160853, 36893488147419365400, 1638425, 18446744073726328858, 368934881474208989211, 30, 442721857769030549535, 393250, 354979306449550234564471160867, 36893488147419365414, 1638439, 2228264, 36893488147436535849, 36893488147420413996, 47, 2228272]
-- 39: SwornCourt$Finding.measureRoom
def cod39 : List Nat := [393216, 1, 355598276506086412849339891714, 5, 36893488147419561990, 36893488147419365383, 393224, 351884456166869343140127834121, 175478000753170094704165257228, 737869762948433575951, 393234, 354360336393014056279602495507, 36893488147419365398, 393239, 351884456166869343140127834136, 172692635572544268717094469659, 36893488147419365406, 1638431, 393248, 352193941195137432282562166817, 36893488147419365412, 18446744073709813797, 11070306733109694799424072519606037970982, 18446744073710272553, 1769514, 393259, 354360336393014056279602495532, 36893488147419365423, 1638448, 700976274801031184433, 393268, 1966133, 355598276506086412849339826230, 16777273, 36893488147419365434, 110680464442258030651, 73786976294838927420, 355598276506086412849339891773, 36893488147436535872, 92233720368549068867, 2162758]
-- 40: SwornCourt$Finding.gatherEnough
def cod40 : List Nat := [393216, 353122396279941699709865164801, 18446744073709813764, 5, 1769478, 7, 73786976294838665224, 73786976294838468618, 16777228, 36893488147419365389, 110680464442258030606, 1438846037749396537359, 18, 92233720368548216851, 21, 110680464442257768470, 24, 129127208515967320089, 27, 147573952589676871708, 147573952589676675102, 36893488147419365408, 1143698132570043711521, 73786976294838468644, 147573952589676675110, 147573952589677133864, 16777257, 55340232221129375786, 553402322211304439851, 1106804644422574407726, 129127208515967123505, 682529530727271301171, 393270, 354050851364745967137168162871, 147573952589676675130, 1638460, 793209995169512030269, 110680464442257571904, 393282, 354050851364745967137168162883, 147573952589676675142, 1638472, 46685241911227669363005478584528669442121, 110680464442257768524, 92233720368548020302, 393296, 354050851364745967137168162897, 147573952589676675156, 1638486, 720983, 92233720368548216920, 129127208515967123546, 16777308, 393309, 353741366336477877994733830238, 147573952589676675169, 1638499, 110680464442258030692, 73786976294838927461, 129127208515967320166, 147573952589693845608, 368934881474192343147, 92233720368548020334, 55340232221128917104, 1401952549601960657009, 73786976294838468724, 1328165573307088830582, 92233720368548020345, 110680464442257571963, 18446744073710272637, 55340232221128917118, 1401952549601977434239, 393346, 18446744073709813891, 129127208515967123588, 11123107359585635210256932964812884082822, 73786976294855639177, 129127208515968172172, 2162831]
-- 41: SwornCourt$Finding.gatherCallable
def cod41 : List Nat := [0, 55340232221129113601, 2, 73786976294838665219, 73786976294838468613, 393223, 351884456166869343140127834120, 175478000753170094704165257227, 885443715538109988878, 55340232221128917009, 167772178, 885443715538109988884, 393239, 352193941195137432282562166808, 73786976294838468635, 18446744073709813789, 11070285958846397014033677925465536659486, 848550227390657265697, 393252, 352503426223405521424996499493, 73786976294838468648, 18446744073709813802, 36893488147419365419, 11091216025086171374397641348025080414252, 479615345916449456175, 848550227390640685106, 393269, 353741366336477877994733830198, 55340232221128917049, 73786976294838468666, 1769532, 393277, 354050851364745967137168162878, 55340232221128917057, 393282, 352503426223405521424996499523, 73786976294838468678, 393288, 352193941195137432282562166857, 223448177183244859987857899596, 18446744073709813839, 1638480, 36893488147419365457, 11091595155295647718485091728585155477586, 1769557, 55340232221146087510, 73786976294855639129, 73786976294839517276, 55340232221128917087, 2228320]
-- 42: SwornCourt$Finding.addEnough
def cod42 : List Nat := [393216, 353122396279941699709865164801, 18446744073709813764, 1638405, 4227858438, 129127208516001595401, 2162700, 393229, 353431881308209788852299497486, 18446744073709813777, 4227858450, 36893488147419824149, 393238, 353122396279941699709865164823, 18446744073709813786, 1638427, 720924, 36893488147419365405, 1769502, 393247, 353122396279941699709865164832, 18446744073709813795, 2031652, 1638437, 16777254, 720935, 1769512, 2162729]
-- 43: SwornCourt$Finding.descend
def cod43 : List Nat := [18446744073709813760, 393217, 355288791477818323706905493506, 129127208516018372613, 18446744073709813768, 83886089, 184467440737130250250, 393229, 11123117759394873302731905496443326365710, 2162705, 18, 36893488147419562003, 36893488147419365396, 393237, 353122396279941699709865164822, 18446744073709813785, 1638426, 1272825341086010572827, 393246, 353431881308209788852299497503, 18446744073709813794, 4227858467, 36893488147419824166, 36893488147419365415, 720936, 1638441, 55340232221129113642, 55340232221128917035, 393260, 355598276506086412849339826221, 55340232221129375792, 608742554432416317489, 1235931852938541269044, 393271, 356526731572443936202933272632, 393275, 355907761534354501991774158908, 811656739243255005247, 393282, 16777283, 357145701610533370414092451908, 393287, 11123117759394873302731905496443326365768, 2162763, 393292, 1966157, 356526731572443936202933272654, 16777297, 720978, 356526731572443936202933338195, 393302, 18446744073709813847, 55340232221128917080, 11123122959299492349024731994479609053273, 393308, 18446744073709813853, 16777310, 720991, 11122982754605020541289628806419438764128, 393315, 18446744073709813860, 55340232221128917093, 11123128501553334409554366577034079305830, 393321, 357145701610533370414092386410, 1235931852938541072493, 2162800, 36893488147436535921, 221360928884515930228, 393335, 18446744073709813880, 16777337, 721018, 11122982754605020541289628806419438764155, 2162814]
-- 44: SwornCourt$Finding.take
def cod44 : List Nat := [393216, 354669821421282145422036828161, 18446744073709813764, 36893488147419365381, 1769478, 7, 55340232221129113608, 55340232221128917001, 393226, 351884456166869343140127834123, 175478000753170094704165257230, 774763251095852679185, 36893488147419365396, 55340232221128917013, 147573952589677133846, 16777239, 55340232221129375768, 350488137400499372057, 737869762948383375388, 393247, 354360336393014056279602495520, 55340232221128917027, 2031652, 1638437, 16777254, 18446744073710272551, 1769512, 393257, 354360336393014056279602495530, 55340232221128917037, 1638446, 737869762948450287663, 393266, 1966131, 355598276506086412849339826228, 16777271, 55340232221128917048, 110680464442258030649, 73786976294838927418, 355598276506086412849339891771, 55340232221146087486, 129127208515968172097, 2162756]
-- 45: SwornCourt$Finding.giveBack
def cod45 : List Nat := [393216, 354669821421282145422036828161, 18446744073709813764, 18446744073726328837, 1769478, 7, 55340232221129113608, 55340232221128917001, 393226, 351884456166869343140127834123, 175478000753170094704165257230, 534955578137628508177, 36893488147419365396, 55340232221128917013, 147573952589677133846, 16777239, 55340232221129375768, 16777241, 498062089990175850522, 393245, 354360336393014056279602495518, 55340232221128917025, 2031650, 1638435, 16777252, 720933, 1769510, 55340232221146087463, 129127208515968172074, 393261, 1966126, 355598276506086412849339826223, 36893488147419365426, 18446744073726328883, 92233720368548479028, 55340232221129375797, 355598276506086412849339891766, 2162745]
-- 46: SwornCourt$Finding.compare
def cod46 : List Nat := [0, 18446744073710010369, 2, 36893488147419561987, 4, 55340232221129113605, 55340232221128916998, 393223, 355288791477818323706905493512, 516508834063918956555, 393230, 354669821421282145422036828175, 55340232221128917010, 1638419, 18446744073726328852, 313594649253080334357, 479615345916449652760, 18446744073726984219, 36893488147419365406, 393247, 354669821421282145422036828192, 55340232221128917027, 1638436, 11293123892432234559855360327663904751653, 720936, 36893488147419562025, 55340232221146087466, 110680464442258620461, 18446744073709813808, 393265, 357764671648622804625251500082, 737869762948416798773, 18446744073709813816, 393273, 357764671648622804625251500090, 756316507022109573181, 36893488147419365440, 393281, 358383641686712238836410613826, 756316507022126350405, 2162760, 393289, 18446744073709813834, 357764671648622804625251565643, 393294, 36893488147419365455, 358383641686712238836410679376, 393299, 354669821421282145422036828244, 87, 393304, 354979306449550234564471160921, 92, 83886173, 11020038222228561958808200632442083016798, 2162785]
-- 47: SwornCourt$Kinship.learn
def cod47 : List Nat := [18446744073709813760, 92233720368582426625, 18446744073709813764, 503316485, 110680464442292043783, 2162698, 11, 73786976294838665228, 73786976294838468622, 503316496, 959230691832948195346, 393237, 36893488147419365398, 73786976294838468631, 10974108304877579021898439540999530545177, 92233720368548216860, 393246, 55340232221128917023, 73786976294838468640, 10974108304877579021898439540999530545186, 110680464442257768485, 92233720368548020263, 129127208515967320105, 92233720368548020267, 18446744073726328877, 590295810358706831406, 110680464442257571889, 18446744073726328883, 627189298506125934644, 110680464442257571895, 92233720368548020281, 627189298506176266299, 110680464442257571902, 129127208515967320128, 393282, 194047101157983358090506272835, 18446744073709813830, 503316551, 36893488147419824201, 73786976294838468682, 720972, 129127208515967123533, 18446744073726328911, 848550227390657331280, 18446744073726328915, 903890459611769339988, 129127208515967123543, 16777305, 720986, 1769563, 73786976294855639132, 147573952589677723743, 393314, 194047101157983358090506272867, 18446744073709813862, 503316583, 36893488147419824233, 18446744073709813866, 721003, 108, 1769581, 2162798]
-- 48: SwornCourt$Kinship.stepsOf
def cod48 : List Nat := [18446744073709813760, 184467440737130184705, 18446744073709813764, 503316485, 184467440737147027463, 36893488147419365386, 184467440737130184715, 36893488147419365390, 503316495, 221360928884549353489, 18446744073726328852, 2228245, 393238, 194047101157983358090506272791, 18446744073709813786, 503316507, 36893488147419824157, 36893488147419365406, 720927, 1638432, 2228257]
-- 49: SwornCourt$Kinship.measure
def cod49 : List Nat := [393216, 18446744073726328833, 194356586186251447232940670978, 393221, 18446744073726328838, 195285041234162226512824565767, 10, 55340232221129113611, 12, 73786976294838665229, 73786976294838468623, 18446744073709813777, 1401952549601994211346, 73786976294838468629, 36893488147419365399, 1401952549601994211352, 393243, 194047101157983358090506272796, 18446744073709813791, 503316512, 36893488147419824162, 73786976294838468643, 720933, 1638438, 92233720368548216871, 393257, 194047101157983358090506272810, 36893488147419365421, 503316526, 36893488147419824176, 73786976294838468657, 720947, 1638452, 110680464442257768501, 92233720368548020279, 18446744073726328889, 1365059061454507999290, 110680464442257571901, 18446744073726328895, 1365059061454507999296, 92233720368548020291, 110680464442257571909, 720967, 134217800, 848550227390724440138, 1365059061454508130381, 393296, 194356586186251447232940605521, 18446744073726328916, 1033017668127736070229, 92233720368548020312, 110680464442257571930, 720988, 393309, 194356586186251447232940605534, 1235931852938591469665, 393316, 92233720368548020325, 110680464442257571943, 721001, 194356586186251447232940671082, 393325, 73786976294838468718, 195285041234162226512824565872, 16777331, 55340232221129113716, 1365059061454508130421, 92233720368548020344, 110680464442257571962, 721020, 393341, 194356586186251447232940605566, 1365059061454524776577, 55340232221146087556, 73786976294855639175, 184467440737096827018, 393357, 55340232221128917134, 16777359, 1660206966633877602448, 393363, 195285041234162226512824500372, 18446744073709813911, 1660206966633860825240, 393371, 195285041234162226512824500380, 36893488147419365535, 1660206966633860825248, 16777379, 1678653710707570507940, 167, 195904011272251660723983679656, 2162859]
-- 50: SwornCourt$LawReader.append
def cod50 : List Nat := [18446744073709813760, 16777217, 18446744073710272514, 73786976294838665219, 73786976294838468613, 571849066285030768647, 393226, 210449806715408134880355549195, 4026531854, 571849066285047611409, 393236, 209521351649050611526762102805, 393240, 210449806715408134880355549209, 36893488147419430940, 134217757, 73786976294838468639, 36893488147419824161, 36893488147419955234, 502294170940043046544598040611, 55340232221129441318, 983079, 1769512, 393257, 1966122, 210449806715408134880355549227, 16777262, 720943, 210449806715408134880355614768, 309485083608321363580420147, 73786976294839517238, 2162745]
-- 51: SwornCourt$LawReader.parse
def cod51 : List Nat := [393216, 1, 211068776753497569091514728450, 393221, 6, 211378261781765658233949061127, 393226, 18446744073726328843, 211997231819855092445108174860, 393231, 209830836677318700669196435472, 19, 203950621509159888437151989780, 23, 18446744073710010392, 18446744073709813785, 134217754, 756316507022159904796, 393247, 11037926925734677322049823361903517564960, 393251, 211068776753497569091514662948, 393255, 210449806715408134880355549224, 571849066285030834219, 393262, 209830836677318700669196435503, 203950621509159888437151924274, 571849066285081100341, 16777272, 2228281, 393274, 11037932123103376197829654878661474844731, 682529530727254523966, 393281, 11037958177148755094345502030419380731970, 719423018874690404421, 72, 2228297, 18446744073726984266, 276701161105644585037, 80, 2228305]
-- 52: SwornCourt$LawReader.parseHead
def cod52 : List Nat := [393216, 211068776753497569091514662913, 18446744073710010372, 393221, 18446744073709813766, 11037937320472075073627933139493326225415, 36893488147419561994, 393227, 18446744073709813772, 36893488147419365389, 508793356146291292983542677518, 11037942519108734034682708890964231258128, 332041393326789820435, 393238, 16777239, 18446744073709813784, 11037947777339517001870529498789055889433, 2228252, 393245, 209830836677318700669196435486, 203950621509159888437151924257, 134217764, 516508834063902179366, 393257, 67108906, 18446744073709813803, 11037947777339517001870529498789055889452, 2228271, 393264, 36893488147419365425, 211068776753497569091514728498, 393269, 11037926925734677322049823361903517564982, 393273, 211068776753497569091514662970, 55340232221129113661, 393278, 167755382847, 11037952974708215877631914271473370726466, 73786976294838665285, 73786976294838468679, 18446744073726328905, 830103483316947779658, 77, 2228302, 393295, 209830836677318700669196435536, 203950621509159888437151924307, 1162144876643786752086, 73786976294838468697, 393307, 209830836677318700669196435548, 203331651452623710152283258975, 393314, 209830836677318700669196435555, 203950621509159888437151924326, 1638505, 1162144876643770040426, 393325, 50331758, 55340232221128917103, 11037947777339517001870529498789055889520, 2228339, 393332, 209830836677318700669196435573, 73786976294838468728, 11004239395009938982563839343572921155706, 16777341, 2228350]
-- 53: SwornCourt$LawReader.parseRules
def cod53 : List Nat := [0, 18446744073710010369, 18446744073709813762, 4026531843, 627189298506193043462, 393225, 11037926925734677322049823361903517564938, 393229, 211068776753497569091514662926, 393233, 210449806715408134880355549202, 498062089990209404949, 393240, 209521351649050611526762102809, 393244, 211068776753497569091514662941, 1638432, 989855777, 498062089990175850531, 393254, 1966119, 211068776753497569091514662952, 16777259, 720940, 211068776753497569091514728493, 16777264, 2228273, 393266, 11037963374517453970125333547177438674995, 590295810358723543094, 57, 2228282, 18446744073726984251, 36893488147420414014, 65, 2228290]
-- 54: SwornCourt$LawReader.parseRule
def cod54 : List Nat := [393216, 393217, 211068776753497569091514662914, 11037937320472075073627933139493326225413, 18446744073710010376, 393225, 393226, 211068776753497569091514662923, 18446744073709813774, 11037968571886152845942058552082999607311, 36893488147419562002, 36893488147419365395, 18446744073726328852, 368934881474208989205, 393240, 16777241, 393242, 211068776753497569091514662939, 11037947777339517001870529498789055889438, 2228257, 393250, 18446744073709813795, 211068776753497569091514728484, 36893488147419365415, 10995376182311222588925013439228039004200, 553402322211287662635, 393262, 50331695, 11037952974708215877631914271473370726448, 571849066284997410867, 54, 55340232221129113655, 55340232221128917048, 18446744073726328889, 682529530727271366714, 61, 2228286, 393279, 36893488147419365440, 11037911481980220152572087504853277212737, 11037952974708215877631914271473370726468, 73786976294838665287, 73786976294838468681, 18446744073726328907, 866996971464366882892, 79, 2228304, 393297, 209830836677318700669196435538, 36893488147419365461, 10995376189918983100353317918620623700054, 55340232221128917081, 720986, 73786976294838468699, 11004452331167502405275136447178692952157, 16777312, 2228321]
-- 55: SwornCourt$LawReader.parseNumber
def cod55 : List Nat := [393216, 11037926925734677322049823361903517564929, 393220, 211068776753497569091514662917, 36893488147419561992, 9, 55340232221129113610, 36893488147419365387, 393228, 210449806715408134880355549197, 774763251095852679184, 393235, 209521351649050611526762102804, 36893488147419365399, 1638424, 805306393, 774763251095835901979, 393246, 209521351649050611526762102815, 36893488147419365410, 1638435, 956301348, 774763251095869456422, 36893488147419365417, 393258, 211068776753497569091514662955, 18446744073710272558, 67108911, 737869762948433575984, 55340232221128917043, 167772212, 36893488147419824182, 393271, 209521351649050611526762102840, 36893488147419365435, 1638460, 720957, 805306430, 18446744073710272576, 55340232221129113665, 36893488147436535874, 129127208515968172101, 36893488147419365448, 393289, 211068776753497569091514662986, 996124179980333744205, 393296, 16777297, 393298, 211068776753497569091514662995, 11037947777339517001870529498789055889494, 2097241, 18446744073726328922, 2228315, 36893488147419365468, 393309, 211068776753497569091514663006, 18446744073710272609, 67108962, 1162144876643770040419, 55340232221128917094, 18446744073709813863, 1309718829233463230568, 393323, 33554540, 393325, 211068776753497569091514663022, 11037947777339517001870529498789055889521, 2097268, 18446744073726328949, 2228342, 393335, 36893488147419365496, 211068776753497569091514728569, 55340232221128917116, 2228349]
-- 56: SwornCourt$LawReader.blame
def cod56 : List Nat := [393216, 18446744073709813761, 211378261781765658233949061122, 393221, 36893488147419365382, 211997231819855092445108174855, 10, 2228235]
-- 57: SwornCourt$LawReader.skipBlanks
def cod57 : List Nat := [393216, 211068776753497569091514662913, 393220, 210449806715408134880355549189, 350488137400532992008, 393227, 209521351649050611526762102796, 393231, 211068776753497569091514662928, 1638419, 536870932, 350488137400499437590, 393241, 1966106, 211068776753497569091514662939, 16777246, 720927, 211068776753497569091514728480, 1310755, 2162726]
-- 58: SwornCourt$LawReader.wordEnd
def cod58 : List Nat := [18446744073709813760, 36893488147419561985, 36893488147419365378, 393219, 210449806715408134880355549188, 368934881474242543623, 393226, 209521351649050611526762102795, 36893488147419365390, 1638415, 1627389968, 368934881474225766418, 393237, 209521351649050611526762102806, 36893488147419365401, 1638426, 2046820379, 368934881474259320861, 36893488147436535840, 36893488147420413987, 36893488147419365414, 2228263]
-- 59: SwornCourt$LawReader.isWord
def cod59 : List Nat := [18446744073709813760, 221360928884549287937, 36893488147419365380, 393221, 210449806715408134880355549190, 221360928884582907913, 36893488147419365388, 18446744073709813773, 18446744073710272526, 55340232221129048079, 11195357386773124144565501300723358695440, 258254417031934902291, 22, 2228247, 24, 73786976294838665241, 73786976294838468635, 55340232221129048093, 11195357386773124144565501300723358695454, 627189298506176266273, 393252, 209521351649050611526762102821, 18446744073709813800, 73786976294838468649, 720939, 1638444, 55340232221129048109, 73786976294838468654, 11195409322421310345240740815414673866800, 590295810358706831411, 54, 2228279, 73786976294855639096, 295147905179354136635, 16777278, 2228287]
-- 60: SwornCourt$LawReader.ruleNamed
def cod60 : List Nat := [0, 55340232221129113601, 55340232221128916994, 184549379, 295147905179404337157, 393224, 18446744073709813769, 36893488147419365386, 55340232221128917003, 11037911460424898703525224813240984666124, 11037942519108734034682708890964231258127, 258254417031934836754, 55340232221128917013, 2228246, 55340232221146087447, 36893488147420413978, 18446744073726328861, 2228254]
-- 61: SwornCourt$LawReader.nameOf
def cod61 : List Nat := [262144, 309485415649714690336292865, 533552156931998898481541939256, 2359354, 533861641941820243550283497531, 2359357, 534171126951641588619025055806, 2359360, 534480611961462933687766614081, 2359363, 534790096971284278756508172356, 2359366, 535099581981105623825249730631, 2359369, 535409066990926968893991288906, 2359372, 535718552000748313962732847181, 2359375, 536028037010569659031474405456, 2359378, 536337522020391004100215963731, 2359381, 536647007030212349168957522006, 2359384]
-- 62: SwornCourt$LawReader.limitOf
def cod62 : List Nat := [262144, 16777217, 92233720368616046594, 1660944389, 2228231, 262152, 50331657, 202914184810806247434, 262157, 67108878, 239807672958242127887, 16777234, 258254417031935033363, 167755382806, 2228249]
-- 63: SwornCourt$Laws.isKeyed
def cod63 : List Nat := [262144, 147573952589677527041, 262148, 16777221, 147573952589677592582, 262153, 134217738, 184467440737113473036, 16777231, 202914184810806378512, 19, 2228244]
-- 64: SwornCourt$Laws.slotOf
def cod64 : List Nat := [262144, 166020696663420633089, 262148, 184549381, 166020696663437475847, 539741857128425799856019734538, 262157, 1638414, 184467440737096826895, 18, 2228243]
-- 65: SwornCourt$Laws.startPart
def cod65 : List Nat := [393216, 204260106518981233505876705281, 134217732, 92233720368582492166, 2162697, 393226, 203641136480891799294717591563, 393230, 204260106518981233505876705295, 335544338, 36893488147419824148, 393237, 203641136480891799294717591574, 393241, 204260106518981233505876705306, 16777245, 720926, 335544351, 36893488147419824161, 335544354, 11020038221724101392799408170420689895460, 393255, 1966120, 204260106518981233505876705321, 16777260, 720941, 204260106518981233505876770862, 393265, 203022166442802365083558477874, 393269, 204260106518981233505876705334, 18446744073709813817, 1769530, 2162747]
-- 66: SwornCourt$Laws.say
def cod66 : List Nat := [18446744073709813760, 276701161105677942785, 18446744073709813764, 335544325, 276701161105694785543, 393226, 203641136480891799294717591563, 393230, 204260106518981233505876705295, 335544338, 36893488147419824148, 18446744073709813781, 720918, 36893488147419365399, 1769496, 2162713]
-- 67: SwornCourt$Laws.rowOn
def cod67 : List Nat := [0, 36893488147419561985, 36893488147419365378, 393219, 204260106518981233505876705284, 295147905179404337159, 393226, 203022166442802365083558477835, 36893488147419365390, 16777231, 720912, 1638417, 18446744073709813778, 295147905179421114387, 36893488147436535830, 36893488147420413977, 36893488147419365404, 2228253]
-- 68: SwornCourt$Laws.valueOf
def cod68 : List Nat := [18446744073709813760, 184467440737130184705, 18446744073709813764, 134217733, 184467440737163804679, 36893488147419365386, 184467440737130184715, 36893488147419365390, 335544335, 221360928884549353489, 20, 2228245, 393238, 203641136480891799294717591575, 18446744073709813786, 335544347, 36893488147419824157, 36893488147419365406, 720927, 1638432, 2228257]
-- 69: SwornCourt$Laws.takeFrom
def cod69 : List Nat := [18446744073709944832, 55340232221131407361, 2162692, 18446744073709944837, 203022166442802365083558477830, 9, 393226, 203022166442802365083558477835, 14, 150994959, 11020038221724101392799408170420689895441, 18446744073709944852, 203641136480891799294717591573, 24, 393241, 203641136480891799294717591578, 29, 3019898910, 11020038221724101392799408170420689895457, 393252, 18446744073709944869, 204260106518981233505876705318, 204260106518981233505876770857, 2162732]
-- 70: SwornCourt$People.has
def cod70 : List Nat := [18446744073709813760, 147573952589711081473, 18446744073709813764, 393221, 174859030733527404566715695110, 147573952589727924233, 16777228, 166020696663387275277, 16, 2228241]
-- 71: SwornCourt$People.hasOrNone
def cod71 : List Nat := [18446744073709813760, 18446744073726328833, 129127208515968040962, 393221, 18446744073709813766, 10938125314867977091437178312197591597063, 166020696663387078666, 16777229, 184467440737096826894, 17, 2228242]
-- 72: SwornCourt$People.add
def cod72 : List Nat := [393216, 174859030733527404566715695105, 129127208515967320068, 129127208515967123462, 503316488, 147573952589711147018, 18446744073726328845, 2228238, 393231, 168978815362454407523849338896, 129127208515967123475, 18446744073709813781, 1769494, 393239, 169907270410365186803733233688, 129127208515967123483, 36893488147419365405, 1769502, 393247, 170835725458275966083617128480, 129127208515967123491, 55340232221128917029, 1769510, 393255, 171145210486544055226051461160, 129127208515967123499, 73786976294838468653, 1769519, 393264, 171764180524633489437210574897, 129127208515967123508, 92233720368548020278, 1769528, 393273, 172383150562722923648369688634, 129127208515967123517, 110680464442257571903, 1769537, 393282, 173311605610633702928253583427, 129127208515967123526, 18446744073726328904, 1769545, 393290, 129127208515967123531, 16777293, 720974, 174859030733527404566715760719, 129127208515967123538, 2228308]
-- 73: SwornCourt$People.addRanking
def cod73 : List Nat := [393216, 176406455801080873984049152001, 1006632964, 92233720368582492166, 2162697, 393226, 173930575648723137139412697099, 393230, 176406455801080873984049152015, 18446744073709813778, 1769491, 393236, 174240060676991226281847029781, 393240, 176406455801080873984049152025, 36893488147419365404, 1769501, 393246, 174549545705259315424281362463, 393250, 176406455801080873984049152035, 55340232221128917030, 1769511, 393256, 1966121, 176406455801080873984049152042, 16777261, 720942, 176406455801080873984049217583, 2162738]
-- 74: SwornCourt$People.rankOn
def cod74 : List Nat := [393216, 176406455801080873984049152001, 16777220, 18446744073710272517, 55340232221129113606, 55340232221128916999, 479615345916483010568, 393227, 173930575648723137139412697100, 55340232221128917007, 1638416, 18446744073709813777, 442721857769047195666, 393237, 174549545705259315424281362454, 55340232221128917017, 1638426, 36893488147419365403, 442721857769097527324, 393247, 174240060676991226281847029792, 55340232221128917027, 1638436, 2228261, 309485065161577289870868518, 92233720368549068841, 393260, 170835725458275966083617128493, 18446744073709813808, 1638449, 2228274]
-- 75: SwornCourt$People.isDead
def cod75 : List Nat := [393216, 173311605610633702928253583361, 18446744073709813764, 1638405, 18446744073726328838, 258254417031934902279, 393226, 173311605610633702928253583371, 18446744073709813774, 1638415, 36893488147419365392, 258254417032002011153, 16777236, 276701161105644584981, 24, 2228249]
-- 76: SwornCourt$Purse.add
def cod76 : List Nat := [393216, 346623211055246709193019097089, 1006632964, 92233720368582492166, 2162697, 393226, 345694755970442441765716099083, 393230, 346623211055246709193019097103, 18446744073709813778, 1769491, 393236, 346004240998710530908150431765, 393240, 346623211055246709193019097113, 36893488147419365404, 1769501, 393246, 346313726026978620050584764447, 393250, 346623211055246709193019097123, 55340232221128917030, 1769511, 393256, 1966121, 346623211055246709193019097130, 16777261, 720942, 346623211055246709193019162671, 2162738]
-- 77: SwornCourt$Purse.paidBy
def cod77 : List Nat := [0, 55340232221129113601, 2, 73786976294838665219, 73786976294838468613, 393223, 346623211055246709193019097096, 534955578137628508171, 393230, 345694755970442441765716099087, 73786976294838468626, 1638420, 18446744073709813781, 498062089990175850518, 393241, 346313726026978620050584764442, 73786976294838468637, 1638431, 36893488147419365408, 498062089990226182177, 55340232221128917028, 393253, 346004240998710530908150431782, 73786976294838468649, 1638443, 720940, 55340232221129113645, 73786976294855639086, 73786976294839517233, 55340232221128917044, 2228277]
-- 78: SwornCourt$Rings.seek
def cod78 : List Nat := [393216, 36893488147419496449, 55340232221128916994, 11144401391233194922632435136547155935235, 393222, 18446744073709813767, 55340232221128917000, 11144406588601893798412266653305213878281, 393228, 13, 373548406909703730172091891726, 393233, 18446744073709813778, 18446744073709813779, 55340232221128917012, 11144411785970592674210544914136981372949, 73786976294838665240, 73786976294838468634, 18446744073726328860, 387381625547918540829, 2162720, 393249, 372929436871614295960932712482, 37, 18446744073709813798, 1769511, 393256, 16777257, 373548406909703730172091891754, 73786976294838468653, 18446744073709813807, 1217485108864831586352, 393267, 373548406909703730172091826228, 503316535, 1217485108864881918009, 393276, 372929436871614295960932712509, 393280, 373548406909703730172091826241, 73786976294838468676, 1769542, 393287, 1966152, 373548406909703730172091826249, 16777292, 720973, 373548406909703730172091891790, 393297, 372619951843346206818498379858, 73786976294838468693, 1638487, 16777304, 1033017668127752847449, 18446744073709813852, 1125251388496283959389, 393312, 73786976294838468705, 18446744073709813859, 55340232221128917092, 11144411785970592674210544914136981373029, 73786976294838665320, 73786976294838468714, 18446744073726328940, 534955578137594953837, 2162800, 2162801]
-- 79: SwornCourt$Rings.gather
def cod79 : List Nat := [0, 55340232221129113601, 55340232221128916994, 36893488147419365379, 221360928884566130692, 393223, 372310466815078117676064047112, 55340232221128917003, 12, 1769485, 55340232221146087438, 36893488147420413969, 20, 55340232221129113621, 55340232221128917014, 18446744073709944855, 232423242652531307717972066328, 719423018874724024347, 393246, 372310466815078117676064047135, 18446744073709944866, 226543027336798542896234364963, 55340232221128917030, 1638439, 2031656, 1638441, 16777258, 18446744073709944875, 219734356991601742868322320428, 18446744073709944879, 227780967394530667244843040816, 55340232221128917043, 1638452, 1638453, 110680464442258030646, 73786976294838927415, 1769528, 55340232221146087481, 258254417031935033404, 2162751]
-- 80: SwornCourt$Rings.measure
def cod80 : List Nat := [0, 55340232221129113601, 55340232221128916994, 36893488147419365379, 313594649253113888772, 393223, 372619951843346206818498379784, 55340232221128917003, 55340232221128917004, 18446744073709813773, 239807672958242127886, 17, 258254417031935033362, 18446744073726328853, 1769494, 55340232221146087447, 36893488147420413978, 16777245, 55340232221129113630, 55340232221128917023, 36893488147419365408, 1328165573307139227681, 36, 73786976294838665253, 39, 92233720368548216872, 92233720368548020266, 36893488147419365420, 830103483316981334061, 393264, 372619951843346206818498379825, 92233720368548020276, 1638454, 55340232221128917047, 16777272, 18446744073710272569, 793209995169528676410, 73786976294838468669, 16777279, 92233720368548020288, 110680464442258030658, 73786976294838927427, 73786976294838665284, 92233720368565190726, 479615345916449652809, 76, 92233720368548216909, 92233720368548020303, 36893488147419365457, 1291272085159720124498, 393301, 372619951843346206818498379862, 92233720368548020313, 1638491, 18446744073726328924, 1254378597012267466845, 393312, 372310466815078117676064047201, 92233720368548020324, 1638502, 73786976294838468711, 55340232221129375849, 1254378597012250624106, 393325, 372619951843346206818498379886, 92233720368548020337, 55340232221128917107, 1769588, 92233720368565190773, 866996971464350236792, 55340232221146087547, 350488137400482791550, 2162817]
-- 81: SwornCourt$Rings.nearest
def cod81 : List Nat := [18446744073726328832, 73786976294838665217, 3, 92233720368548216836, 92233720368548020230, 55340232221128917000, 774763251095852679177, 92233720368548020236, 36893488147419365390, 737869762948383244303, 393234, 372310466815078117676064047123, 18446744073709813782, 1638423, 92233720368548020248, 147573952589677133850, 16777243, 55340232221129375772, 737869762948383178781, 393248, 372619951843346206818498379809, 92233720368548020260, 1638438, 18446744073726328871, 479615345916466298920, 737869762948383375403, 73786976294838468654, 18446744073726328880, 700976274800964141105, 393268, 372619951843346206818498379829, 92233720368548020280, 1638458, 393275, 372619951843346206818498379836, 73786976294838468671, 1638465, 737869762948433576002, 92233720368548020293, 73786976294838665287, 92233720368565190729, 73786976294839517260, 73786976294838468687, 2228305]
-- 82: SwornCourt.person
def cod82 : List Nat := [393216, 376952741962398293706952540161, 73786976294838468612, 10938104540608702611174461203950579548166, 184467440737096630281, 393228, 376952741962398293706952540173, 92233720368548020240, 10938104540608702611174461203950579548178, 221360928884532510741, 475368975104032771312711696408, 2228250, 18446744073709813787, 18446744224704495644, 393247, 380047592245079185131295866912, 10910305339524891095962015455563613601827, 479615345916449456166, 36893488147419365417, 10910305343328771351639274207112495235114, 479615345916449456173, 55340232221128917040, 49, 50331698, 10910305339524891095962015455563613601843, 516508834063885336630, 477535370172782186793801941049, 2228283, 110680464442257571900, 16777278, 67108927, 10910305339524891095962015455563613601856, 719423018874673627203, 73786976294838468678, 92233720368548020296, 756316507022109573194, 73786976294838468685, 18446744073726328911, 756316507022092795984, 477535370172782186793801941075, 2228309, 393302, 376952741962398293706952540247, 175168515743348749635440476250, 503316573, 885443715538093211743, 477844855182603531862560276578, 2228324, 393317, 376952741962398293706952540262, 18446744073709813865, 36893488147419365482, 55340232221128917099, 73786976294838468716, 92233720368548020334, 110680464442257571952, 10939605480841283810248005995166976770162, 129127208515967320181, 393335, 377571712018934471991821205624, 129127208515967123579, 73786976294838468733, 92233720368548020351, 10982161550965675598388304697121428537473, 129127208515967123588, 2228358]
-- 83: SwornCourt.rank
def cod83 : List Nat := [393216, 376952741962398293706952540161, 18446744073709813764, 10938125314961132079393403177883750694917, 129127208515984752648, 475368975104032771312711696395, 2228237, 36893488147419365390, 15, 50331664, 10910305339524891095962015455563613601809, 258254417031951613972, 477535370172782186793801941015, 2228249, 393242, 376952741962398293706952540187, 176096970791259528915324370974, 1006632993, 387381625547935318051, 477844855182603531862560276518, 2228264, 393257, 376952741962398293706952540202, 18446744073709813805, 393262, 380047592245079185131295866927, 10939693771443200351290766728922044629042, 55340232221129113653, 393270, 376952741962398293706952540215, 18446744073709813818, 36893488147419365435, 393276, 380047592245079185131295866941, 10939714545702474831571930581242766229568, 55340232221128917059, 2228292]
-- 84: SwornCourt.die
def cod84 : List Nat := [393216, 376952741962398293706952540161, 18446744073709813764, 10938125314961132079393403177883750694917, 129127208515984752648, 475368975104032771312711696395, 2228237, 393230, 376952741962398293706952540175, 173621090620455047996978364434, 18446744073709813781, 1638422, 18446744073726328855, 295147905179354005528, 487129405477243883924286930971, 2228253, 393246, 376952741962398293706952540191, 173621090620455047996978364450, 18446744073709813797, 393254, 380047592245079185131295866919, 1769514, 16777259, 2228268]
-- 85: SwornCourt.feud
def cod85 : List Nat := [18446744073709813760, 10910305343328771351639274207112495235073, 166020696663387078660, 36893488147419365383, 10910305343328771351639274207112495235080, 166020696663387078667, 18446744073709813774, 36893488147419365391, 202914184810823024656, 477535370172782186793801941011, 2228245, 393238, 377262226990666382849386872855, 18446744073709813786, 36893488147419365403, 10961049709977675546373775351935731564572, 18446744073726328863, 368934881474192212000, 487129405477243883924286930979, 2228261, 393254, 377262226990666382849386872871, 188476371054986123148264865834, 335544365, 498062089990192627759, 477844855182603531862560276530, 2228276, 393269, 377262226990666382849386872886, 18446744073709813817, 36893488147419365434, 393275, 380047592245079185131295866940, 10961091258496224506917656312503465214015, 393282, 377262226990666382849386872899, 188476371054986123148264865862, 2228297]
-- 86: SwornCourt.peace
def cod86 : List Nat := [18446744073709813760, 10910305343328771351639274207112495235073, 166020696663387078660, 36893488147419365383, 10910305343328771351639274207112495235080, 166020696663387078667, 18446744073709813774, 36893488147419365391, 202914184810823024656, 477535370172782186793801941011, 2228245, 393238, 377262226990666382849386872855, 18446744073709813786, 36893488147419365403, 10961049709977675546373775351935731564572, 55340232221129113631, 55340232221128917024, 18446744073726328865, 405828369621628092450, 487129405477243883924286930981, 2228263, 393256, 377262226990666382849386872873, 187857401016896688937105752108, 55340232221128917039, 393264, 380047592245079185131295866929, 1769524, 16777269, 2228278]
-- 87: SwornCourt.go
def cod87 : List Nat := [18446744073709813760, 1, 16777216002, 10910305339524891095962015455563613601797, 129127208515984752648, 477535370172782186793801941003, 2228237, 393230, 380047592245079185131295866895, 18446744073709813778, 720915, 150994944020, 276701161105728339991, 487129405477243883924286930970, 2228252, 393245, 1966110, 380047592245079185131295866911, 18446744073709813794, 720931, 380047592245079185131295932452, 393255, 380047592245079185131295866920, 2228267]
-- 88: SwornCourt.told
def cod88 : List Nat := [393216, 376952741962398293706952540161, 18446744073709813764, 10938125314961132079393403177883750694917, 129127208515984752648, 475368975104032771312711696395, 2228237, 393230, 36893488147419365391, 10910315809071624391538404447297579843600, 239807672958242062355, 477535370172782186793801941014, 2228248, 55340232221128917017, 618971071107102338895380506, 393284, 376952741962398293706952540229, 169288300372275752592574120008, 18446744073709813835, 1638476, 2228301, 393294, 376952741962398293706952540239, 170216755420186531872458014802, 18446744073709813845, 1638486, 2228311, 393304, 376952741962398293706952540249, 18446744073709813852, 36893488147419365469, 10939693771443200351290766728922044629086, 2228321, 393314, 376952741962398293706952540259, 171454695496365400294776242278, 18446744073709813865, 1638506, 2228331, 393324, 376952741962398293706952540269, 172073665534454834505935356016, 18446744073709813875, 1638516, 2228341, 393334, 376952741962398293706952540279, 173002120582365613785819250810, 18446744073709813885, 1638526, 2228351, 393344, 376952741962398293706952540289, 173621090620455047996978364548, 18446744073709813895, 1638536, 2228361, 477535370172782186793801941130, 2228364]
-- 89: SwornCourt.kin
def cod89 : List Nat := [393216, 376952741962398293706952540161, 18446744073709813764, 10938125314961132079393403177883750694917, 184467440737096630280, 393227, 376952741962398293706952540172, 36893488147419365391, 10938125314961132079393403177883750694928, 221360928884532510739, 475368975104032771312711696406, 2228248, 55340232221128917017, 26, 33554459, 10910305339524891095962015455563613601820, 350488137400499372063, 477535370172782186793801941026, 2228260, 393253, 377571712018934471991821205542, 18446744073709813801, 36893488147419365418, 10982483551984430042441973130876699344939, 55340232221128917038, 553402322211304439855, 393266, 377571712018934471991821205555, 194666071196072792301665386550, 2228281, 55340232221128917050, 16777275, 682529530727271366716, 393279, 377571712018934471991821205568, 195594526243983571581549281347, 2228294, 393287, 377571712018934471991821205576, 196213496282073005792708395083, 793209995169511833678, 16777297, 811656739243221581906, 85, 2228310]
-- 90: SwornCourt.feed
def cod90 : List Nat := [18446744073709813760, 16777217, 134217730, 10910305339524891095962015455563613601796, 129127208515984752647, 477535370172782186793801941002, 2228236, 393229, 378190682075470650276689870862, 210759291725229479949080330257, 18446744073709813780, 720917, 4026531862, 295147905179437891609, 477844855182603531862560276508, 2228254, 393247, 378190682075470650276689870880, 18446744073709813795, 36893488147419430948, 11046328044300654964866790086264230314021, 393256, 378190682075470650276689870889, 210759291725229479949080330284, 2228271]
-- 91: SwornCourt.read
def cod91 : List Nat := [393216, 378500167103738739419124203521, 232113757624263218575537733636, 110680464442342309895, 487129405477243883924286930954, 2228236, 393229, 378190682075470650276689870862, 11046374786384022545421010091672642846737, 18446744073710010388, 393237, 378190682075470650276689870870, 25, 210759291725229479949080395802, 18446744073709813789, 405828369621628026910, 18446744073877323809, 393251, 378190682075470650276689870884, 211687746791587003302673776679, 18446744073710272554, 2228267, 393260, 377881197047202561134255538221, 393264, 378190682075470650276689870897, 210140321687140045737921216564, 11004473105426776885519406811352062558263, 393274, 377881197047202561134255538235, 204569591528802578574601486398, 2228289]
-- 92: SwornCourt.fault
def cod92 : List Nat := [393216, 378190682075470650276689870849, 212306716829676437513832890372, 2228231]
-- 93: SwornCourt.law
def cod93 : List Nat := [18446744073709813760, 1, 167772162, 10910305339524891095962015455563613601796, 184467440737096630279, 55340232221128917002, 11, 167755382796, 10910305339524891095962015455563613601807, 221360928884532510738, 477535370172782186793801941013, 2228247, 36893488147419365400, 25, 18446744073709813786, 10995376182319888169200011101152332873755, 350488137400482594846, 50331681, 368934881474192343074, 37, 10910305339524891095962015455563613601830, 442721857769047130153, 477535370172782186793801941036, 2228270, 393263, 377881197047202561134255538224, 393267, 377881197047202561134255538228, 55340232221128917047, 11004545815334237566438916690216629895224, 18446744073709813819, 10995376189927339195618494235476192788540, 36893488147419365439, 720960, 11004571783158330666785759819599142256705, 2228292]
-- 94: SwornCourt.charge
def cod94 : List Nat := [393216, 376952741962398293706952540161, 36893488147419365380, 10938125314961132079393403177883750694917, 184467440737096630280, 393227, 376952741962398293706952540172, 55340232221128917007, 10938125314961132079393403177883750694928, 221360928884532510739, 475368975104032771312711696406, 2228248, 18446744073709813785, 10910305988720454737807104208915357106202, 405828369621611249693, 36893488147419365408, 55340232221128917025, 405828369621611315234, 393253, 73786976294838468646, 10910315809071624391538404447297579843624, 442721857769047130155, 477535370172782186793801941038, 2228272, 393265, 378500167103738739419124203570, 232113757624263218575537733685, 335544376, 571849066285030834234, 477844855182603531862560276541, 2228287, 393280, 378500167103738739419124203585, 18446744073709813828, 36893488147419365445, 55340232221128917062, 73786976294838468679, 393289, 377881197047202561134255538250, 73786976294838468685, 11004545815334237566438916690216629895247, 393298, 380047592245079185131295866963, 11069844505799676107346164943263971475542, 2228313]
-- 95: SwornCourt.barred
def cod95 : List Nat := [393216, 376952741962398293706952540161, 18446744073709813764, 10938125314961132079393403177883750694917, 184467440737096630280, 393227, 378500167103738739419124203532, 36893488147419365391, 11069886054318225067779365439389447815184, 221360928884532510739, 475368975104032771312711696406, 2228248, 393241, 55340232221128917018, 10910315809071624391538404447297579843611, 368934881474192146462, 393249, 73786976294838468642, 10910315809071624391538404447297579843620, 405828369621628026919, 477535370172782186793801941034, 2228268, 393261, 378809652132006828561558536238, 73786976294838468657, 11091174476510058202008543460600626610227, 393270, 378809652132006828561558536247, 18446744073709813818, 36893488147419365435, 55340232221128917052, 11091216025045938323120866489090858876989, 2228288]
-- 96: SwornCourt.swear
def cod96 : List Nat := [393216, 376952741962398293706952540161, 18446744073709813764, 10938125314961132079393403177883750694917, 184467440737096630280, 393227, 378500167103738739419124203532, 36893488147419365391, 11069886054318225067779365439389447815184, 221360928884532510739, 475368975104032771312711696406, 2228248, 393241, 378809652132006828561558536218, 393245, 380047592245079185131295866910, 11091174476510058202008543460600626610209, 393252, 18446744073709813797, 36893488147419365414, 10910404750137064659793431889485735723047, 442721857769047130154, 487129405477243883924286930989, 2228271, 393264, 378500167103738739419124203569, 317222135343579856548562075700, 1677721655, 571849066285030834233, 477844855182603531862560276540, 2228286, 393279, 378500167103738739419124203584, 18446744073709813827, 36893488147419365444, 393285, 380047592245079185131295866950, 393289, 378809652132006828561558536266, 18446744073709813837, 393294, 378500167103738739419124203599, 224067147202887550125307461714, 36893488147419365461, 1638486, 393303, 380047592245079185131295866968, 11091595155260366427365458390750530437211, 11070353475151900873745840607168775389278, 55340232221129113697, 393314, 378809652132006828561558536291, 393318, 380047592245079185131295866983, 11091174476510058202008543460600626610282, 393325, 378809652132006828561558536302, 36893488147419365489, 11091428961200097410668788564719445540978, 1217485108864848298101, 393336, 378500167103738739419124203641, 225614572288887763616350470268, 36893488147419365503, 55340232221128917120, 1769601, 393346, 378809652132006828561558536323, 333934325726358537670007062662, 36893488147419365513, 1638538, 2228363]
-- 97: SwornCourt.close
def cod97 : List Nat := [393216, 378500167103738739419124203521, 18446744073709813764, 11069886054318225067779365439389447815173, 129127208515984752648, 475368975104032771312711696395, 2228237, 393230, 378809652132006828561558536207, 393234, 380047592245079185131295866899, 11091174476510058202008543460600626610198, 393241, 378809652132006828561558536218, 332696385650179669247688835101, 18446744073709813792, 1638433, 368934881474192146466, 487129405477243883924286930981, 2228263, 393256, 378500167103738739419124203561, 18446744073709813804, 393261, 380047592245079185131295866926, 11070420991494542934562777720824216748081, 393268, 378809652132006828561558536245, 18446744073709813816, 11091428961200097410668788564719445540921, 2228284]
-- 98: SwornCourt.find
def cod98 : List Nat := [393216, 378500167103738739419124203521, 18446744073709813764, 11069886054318225067779365439389447815173, 129127208515984752648, 475368975104032771312711696395, 2228237, 393230, 378809652132006828561558536207, 393234, 380047592245079185131295866899, 11091174476510058202008543460600626610198, 393241, 378809652132006828561558536218, 332696385650179669247688835101, 18446744073709813792, 1638433, 16777250, 479615345916466298915, 393254, 378500167103738739419124203559, 224686117240976984336466575402, 18446744073709813805, 1638446, 18446744073726328879, 516508834063868624944, 487129405477243883924286930995, 2228277, 393270, 378500167103738739419124203575, 224686117240976984336466575418, 18446744073709813821, 393278, 380047592245079185131295866943, 1769538, 393283, 378500167103738739419124203588, 18446744073709813831, 11070462540013091895069765193244631957576, 2228299]
-- 99: SwornCourt.oath
def cod99 : List Nat := [36893488147419365376, 1, 50331650, 10910305339524891095962015455563613601795, 129127208515984752646, 477535370172782186793801941001, 2228235, 18446744073709813772, 13, 393230, 378500167103738739419124203535, 317222135343579856548562075666, 16777237, 18446744073710272534, 10910305339524891095962015455563613601815, 332041393326789820442, 18446744073726328861, 2228254, 36893488147419365407, 479615345916466233376, 393251, 378500167103738739419124203556, 226852512346619887964959146023, 18446744073709813802, 1638443, 2228268, 36893488147419365421, 16777262, 645636042579852263471, 393266, 378500167103738739419124203571, 228090452404352012313567821878, 18446744073709813817, 1638458, 2228283, 36893488147419365436, 33554493, 811656739243238228030, 393281, 378500167103738739419124203586, 229018907452262791593451716677, 18446744073709813832, 1638473, 2228298, 393291, 378809652132006828561558536268, 393295, 380047592245079185131295866960, 11091174476510058202008543460600626610259, 393302, 378809652132006828561558536279, 334553295764447971881166176346, 18446744073709813853, 1638494, 2228319]
-- 100: SwornCourt.state
def cod100 : List Nat := [393216, 378500167103738739419124203521, 18446744073709813764, 11069886054318225067779365439389447815173, 129127208515984752648, 475368975104032771312711696395, 2228237, 36893488147419365390, 393231, 378500167103738739419124203536, 222829207145155425776698785811, 18446744073709813782, 1638423, 393240, 380047592245079185131295866905, 10910305339524891095962015455563613601820, 405828369621611249695, 55340232221128917026, 35, 134217764, 10910305339524891095962015455563613601830, 442721857769047130153, 477535370172782186793801941036, 2228270, 393263, 378809652132006828561558536240, 36893488147419365427, 11091174476510058202008543460600626610228, 55340232221128917047, 928456449863328881811193912, 393320, 378809652132006828561558536297, 332696385650179669247688835180, 18446744073709813871, 1638512, 2228337, 393330, 378809652132006828561558536307, 333315355688269103458847948918, 18446744073709813881, 1638522, 2228347, 393340, 378809652132006828561558536317, 333934325726358537670007062656, 18446744073709813891, 1638532, 2228357, 393350, 378809652132006828561558536327, 18446744073709813898, 11091428961200097410668788564719445541003, 2228366, 393359, 378500167103738739419124203664, 219115386953512308657163206803, 18446744073709813910, 1638551, 2228376, 393369, 378500167103738739419124203674, 220353327011244433005771882653, 18446744073709813920, 1638561, 2228386, 393379, 378500167103738739419124203684, 221281782059155212285655777447, 18446744073709813930, 1638571, 2228396, 393389, 378500167103738739419124203694, 221900752097244646496814891185, 18446744073709813940, 1638581, 2228406, 393399, 378809652132006828561558536376, 18446744073709813947, 11091449735465871076137753919409677992124, 2228415]
-- 101: SwornCourt.turned
def cod101 : List Nat := [393216, 18446744073709813761, 10910315809071624391538404447297579843586, 147573952589677527045, 393224, 36893488147419365385, 10910315809071624391538404447297579843594, 184467440737113407501, 477535370172782186793801941008, 2228242, 393235, 378809652132006828561558536212, 18446744073709813783, 11091174476510058202008543460600626610200, 393243, 378809652132006828561558536220, 11091818478547567090134327072184860999711, 393250, 378809652132006828561558536227, 36893488147419365414, 11091174476510058202008543460600626610215, 393258, 378809652132006828561558536235, 18446744073709813806, 36893488147419365423, 46685241911205386442298341739580485206064, 11091860027066116050678208032752644980787, 2228278]
-- 102: SwornCourt.pay
def cod102 : List Nat := [393216, 376952741962398293706952540161, 18446744073709813764, 10938125314961132079393403177883750694917, 129127208515984752648, 475368975104032771312711696395, 2228237, 36893488147419365390, 16777231, 167755382800, 10910305339524891095962015455563613601811, 258254417031951613974, 477535370172782186793801941017, 2228251, 393244, 379119137160274917703992868893, 346932696065068054261743878176, 1006632995, 387381625547935318053, 477844855182603531862560276520, 2228266, 393259, 379119137160274917703992868908, 18446744073709813807, 36893488147419365424, 393265, 380047592245079185131295866930, 11113169223517223665206996650359798431797, 393272, 378809652132006828561558536249, 393276, 380047592245079185131295866941, 11091174476510058202008543460600626610240, 393283, 18446744073709813828, 10910415229827788122284048198811800371269, 2228296]
-- 103: SwornCourt.owes
def cod103 : List Nat := [393216, 376952741962398293706952540161, 18446744073709813764, 10938125314961132079393403177883750694917, 129127208515984752648, 475368975104032771312711696395, 2228237, 393230, 36893488147419365391, 10910315809071624391538404447297579843600, 295147905179353939987, 55340232221128917014, 23, 33554456, 10910305339524891095962015455563613601817, 332041393326789820444, 477535370172782186793801941023, 2228257, 393250, 378809652132006828561558536227, 36893488147419365414, 11091174476510058202008543460600626610215, 55340232221128917034, 534955578137594888235, 393262, 378809652132006828561558536239, 18446744073709813810, 11091943124103213971729076465741011943475, 2228278, 55340232221128917047, 16777272, 700976274800980918329, 393276, 379119137160274917703992868925, 18446744073709813824, 36893488147419365441, 11113231546295047105976701231027192135746, 2228293, 393286, 18446744073709813831, 10910415229827788122284048198811800371272, 2228299]
-- 104: SwornCourt.bound
def cod104 : List Nat := [18446744073709813760, 1677721601, 50331648003, 10910305339524891095962015455563613601798, 129127208515984752649, 477535370172782186793801941004, 2228238, 393231, 379428622188543006846427201552, 356217246544175847060498939923, 36893488147419562006, 393239, 379428622188543006846427201560, 18446744073709813787, 356217246544175847060499005468, 36893488147419365407, 2228256]
-- 105: SwornCourt.session
def cod105 : List Nat := [393216, 378500167103738739419124203521, 18446744073709813764, 11070779347467027719076201094011704115205, 129127208515984752648, 475368975104032771312711696395, 2228237, 18446744073709813774, 10910306225828990677322593816650407346191, 276701161105644388370, 36893488147419365397, 22, 50331671, 10910305339524891095962015455563613601816, 313594649253080268827, 477535370172782186793801941022, 2228256, 393249, 378809652132006828561558536226, 393253, 380047592245079185131295866918, 11091174476510058202008543460600626610217, 393260, 378809652132006828561558536237, 18446744073709813808, 11092114511742228433896492608778815209521, 534955578137594888244, 487129405477243883924286930999, 2228281, 393274, 379428622188543006846427201595, 18446744073709813822, 393279, 380047592245079185131295866944, 11134670581866620222110578287028994375747, 36893488147419365446, 1237940943175839886668529735, 393312, 379428622188543006846427201633, 358074156658444149693976281188, 2228327, 393320, 379428622188543006846427201641, 358693126696533583905135394924, 2228335, 393328, 379428622188543006846427201649, 356836216582265281271658053748, 2228343, 393336, 379428622188543006846427201657, 357455186620354715482817167484, 1014570924054026453119, 16777346, 1033017668127736201347, 134, 2228359]
-- 106: SwornCourt.called
def cod106 : List Nat := [393216, 378500167103738739419124203521, 18446744073709813764, 11070779347467027719076201094011704115205, 184467440737096630280, 393227, 378500167103738739419124203532, 36893488147419365391, 11069886054318225067779365439389447815184, 221360928884532510739, 475368975104032771312711696406, 2228248, 18446744073709813785, 10910306225828990677322593816650407346202, 387381625547901698077, 18446744073709813792, 36893488147419365409, 147573952589677133858, 16777251, 55340232221129375780, 424275113695337578533, 477535370172782186793801941032, 2228266, 393259, 378809652132006828561558536236, 393263, 380047592245079185131295866928, 11091174476510058202008543460600626610227, 393270, 378809652132006828561558536247, 18446744073709813818, 11092114511742228433896492608778815209531, 645636042579852197950, 487129405477243883924286931009, 2228291, 393284, 379428622188543006846427201605, 18446744073709813832, 393289, 380047592245079185131295866954, 11134670581866620222110578287028994375757, 393296, 379428622188543006846427201617, 36893488147419365460, 11136327329043760023043820925655850483797, 2228312]
-- 107: SwornCourt.lacks
def cod107 : List Nat := [393216, 378500167103738739419124203521, 18446744073709813764, 11069886054318225067779365439389447815173, 129127208515984752648, 475368975104032771312711696395, 2228237, 393230, 378809652132006828561558536207, 393234, 380047592245079185131295866899, 11091174476510058202008543460600626610198, 393241, 378809652132006828561558536218, 332696385650179669247688835101, 18446744073709813792, 1638433, 368934881474192146466, 487129405477243883924286930981, 2228263, 40, 393257, 378809652132006828561558536234, 18446744073709813805, 11091428961200097410668788564719445540910, 393265, 378809652132006828561558536242, 18446744073709813813, 393270, 380047592245079185131295866935, 11093833581697191675654780060294311116858, 18446744073710272573, 45153971168910709809101142330108820521022, 2228289]
-- 108: SwornCourt.stood
def cod108 : List Nat := [393216, 376952741962398293706952540161, 18446744073709813764, 10938125314961132079393403177883750694917, 184467440737096630280, 393227, 376952741962398293706952540172, 36893488147419365391, 10938125314961132079393403177883750694928, 221360928884532510739, 475368975104032771312711696406, 2228248, 55340232221128917017, 26, 16777243, 10910305339524891095962015455563613601820, 350488137400499372063, 477535370172782186793801941026, 2228260, 393253, 378500167103738739419124203558, 18446744073709813801, 36893488147419365418, 11072623062977637842410791195009372979243, 73786976294838665262, 55340232221128917040, 534955578137594888241, 73786976294838468660, 664082786653545168950, 73786976294838468665, 393275, 378500167103738739419124203580, 36893488147419365439, 18446744073709813824, 11072623062977637842410791195009372979265, 18446744073710272580, 2228293]
-- 109: SwornCourt.ring
def cod109 : List Nat := [393216, 376952741962398293706952540161, 18446744073709813764, 10938125314961132079393403177883750694917, 129127208515984752648, 475368975104032771312711696395, 2228237, 393230, 379738107216811095988861534223, 18446744073709813778, 393235, 378500167103738739419124203540, 393239, 376952741962398293706952540184, 175168515743348749635440476187, 11157735203226421418820515807435870765086, 36893488147419365409, 18446744073726328866, 424275113695337644067, 393254, 379738107216811095988861534247, 373857891919525075240816607274, 2228269, 36893488147419365422, 47, 393264, 379738107216811095988861534257, 373857891919525075240816607284, 16777271, 18446744073710272568, 10910305339524891095962015455563613601849, 700976274800964075580, 393279, 379738107216811095988861534272, 373238921881435641029657493571, 36893488147419365446, 1638471, 719423018874673823816, 18446744073726328907, 2228300]
-- 110: SwornCourt.left
def cod110 : List Nat := [393216, 376952741962398293706952540161, 18446744073709813764, 10938125314961132079393403177883750694917, 129127208515984752648, 475368975104032771312711696395, 2228237, 36893488147419365390, 10910305988720454737807104208915357106191, 258254417031934836754, 393237, 55340232221128917014, 10910315809071624391538404447297579843607, 295147905179370717210, 477535370172782186793801941021, 2228255, 393248, 378809652132006828561558536225, 393252, 380047592245079185131295866917, 11091174476510058202008543460600626610216, 393259, 378809652132006828561558536236, 18446744073709813807, 393264, 377881197047202561134255538225, 55340232221128917044, 11004545815334237566438916690216629895221, 55340232221128917048, 11094036130725117858234718609776568500281, 2228284]
-- 111: SwornCourt.forsaken
def cod111 : List Nat := [18446744073709813760, 10910305343328771351639274207112495235073, 184467440737096630276, 36893488147419365383, 10910305988720454737807104208915357106184, 184467440737096630283, 393230, 55340232221128917007, 10910315809071624391538404447297579843600, 221360928884532510739, 477535370172782186793801941014, 2228248, 393241, 378809652132006828561558536218, 393245, 380047592245079185131295866910, 11091174476510058202008543460600626610209, 393252, 377881197047202561134255538213, 55340232221128917032, 11004545815334237566438916690216629895209, 73786976294838665260, 393262, 377881197047202561134255538223, 73786976294838468658, 52, 36893488147419365429, 720950, 11004571783158330666785759819599142256695, 92233720368548216890, 60, 110680464442257768509, 63, 129127208515967320128, 129127208515967123522, 393284, 376952741962398293706952540229, 175168515743348749635440476232, 1494186269970525192267, 393294, 376952741962398293706952540239, 170216755420186531872458014802, 129127208515967123541, 1638487, 18446744073709813848, 1125251388496300605529, 393308, 376952741962398293706952540253, 169288300372275752592574120032, 129127208515967123555, 1638501, 55340232221128917094, 1125251388496350937191, 393322, 376952741962398293706952540267, 129127208515967123566, 55340232221128917104, 10942384038187295905645622619229850501233, 1125251388496300540020, 16777335, 1143698132569993511032, 123, 147573952589676871804, 147573952589676675198, 1457292781823055691904, 393347, 378809652132006828561558536324, 129127208515967123591, 73786976294838468745, 55340232221128917131, 11094036130725117858234718609776568500364, 92233720368548020367, 1457292781823106089105, 110680464442257571988, 16777366, 129127208515967123607, 110680464442258030745, 73786976294838927514, 110680464442257768603, 129127208515984294045, 627189298506126065824, 110680464442257572003, 2228389]
-- 112: SwornCourt.count
def cod112 : List Nat := [18446744073709813760, 1, 167772162, 10910305339524891095962015455563613601796, 129127208515984752647, 477535370172782186793801941002, 2228236, 393229, 378809652132006828561558536206, 393233, 380047592245079185131295866898, 11091174476510058202008543460600626610197, 18446744073709813784, 1547425786976488292007346201, 393300, 380047592245079185131295866965, 2228312, 393305, 376952741962398293706952540250, 175168515743348749635440476253, 2228320, 393313, 377262226990666382849386872930, 10966497759472407995234443501571638886501, 2228328, 393321, 377881197047202561134255538282, 204569591528802578574601486445, 2228336, 393329, 378500167103738739419124203634, 232113757624263218575537733749, 2228344, 393337, 378500167103738739419124203642, 317222135343579856548562075773, 2228352, 393345, 10910472882708308146303031833939195265154, 2228357, 393350, 378809652132006828561558536327, 18446744073709813898, 83886219, 18446744073710272652, 11094145195586308879577089939925866184845, 2228368]
-- 113: SwornCourt.within
def cod113 : List Nat := [262144, 18446744073709813761, 147573952589711147010, 262149, 36893488147419365382, 147573952589744701447, 16777226, 166020696663387275275, 14, 2228239]
-- 114: SwornCourt.isHouse
def cod114 : List Nat := [262144, 1, 117440514, 10910305339524891095962015455563613601796, 2228231]
-- 115: SwornCourt.isKind
def cod115 : List Nat := [262144, 1, 50331650, 10910305339524891095962015455563613601795, 2228230]
-- 116: SwornCourt.isSessionSize
def cod116 : List Nat := [262144, 11293123892418926704433042489708739166209, 16777220, 83886085, 10910305339524891095962015455563613601798, 2228233]
-- 117: SwornCourt.isPast
def cod117 : List Nat := [18446744073709813760, 1, 393218, 380047592245079185131295866883, 10910305339524891095962015455563613601798, 2228233]
-- 118: SwornCourt.maySwear
def cod118 : List Nat := [393216, 378809652132006828561558536193, 332696385650179669247688835076, 36893488147419365383, 1638408, 221360928884532510729, 393228, 378500167103738739419124203533, 18446744073709813776, 36893488147419365393, 11070285958809258812855116517218562932754, 258254417031934836757, 24, 2228249, 393242, 378500167103738739419124203547, 18446744073709813790, 393247, 380047592245079185131295866912, 11070306733068533293117833625465642090531, 393254, 376952741962398293706952540199, 173002120582365613785819250730, 18446744073709813805, 1638446, 516508834063902179375, 50, 2228275, 393268, 378809652132006828561558536245, 18446744073709813816, 36893488147419365433, 393274, 380047592245079185131295866939, 11091216025045938323120866489090858876990, 700976274800980852801, 16777284, 719423018874673823813, 72, 2228297]
-- 119: SwornCourt.debtOf
def cod119 : List Nat := [393216, 378809652132006828561558536193, 18446744073709813764, 11091943124103213971729076465741011943429, 393224, 379119137160274917703992868873, 18446744073709813772, 393229, 378809652132006828561558536206, 335791235859073584377193955345, 11113231546295047105976701231027192135700, 18446744073710272535, 2228248]
-- 120: SwornCourt.allDebts
def cod120 : List Nat := [0, 18446744073710010369, 2, 36893488147419561987, 36893488147419365380, 393221, 376952741962398293706952540166, 175168515743348749635440476169, 350488137400532992012, 18446744073709813775, 16, 393233, 36893488147419365394, 10910415229827788122284048198811800371219, 45153971168910709809101142330108820520982, 720921, 18446744073710010394, 36893488147436535835, 73786976294839517214, 18446744073709813793, 2228258]
-- 121: SwornCourtModel.in
def cod121 : List Nat := [327680, 36893488147419430913, 184467440737130315778, 184467440737130184707, 327686, 73786976294838534151, 184467440737163870217, 184467440737163739146, 16777229, 202914184810806378510, 17, 2228242]
-- 122: SwornCourtModel.isPerson
def cod122 : List Nat := [18446744073709813760, 917505, 131074, 393219, 819206821015547140988390998020, 16777223, 18446744073710272520, 917513, 11165519133308050642536334943298928377866, 2228237]
-- 123: SwornCourtModel.isCharge
def cod123 : List Nat := [18446744073709813760, 917505, 131074, 393219, 825396521580908923837077651460, 16777223, 18446744073710272520, 917513, 11165519133308050642536334943298928377866, 2228237]
-- 124: SwornCourtModel.isDay
def cod124 : List Nat := [18446744073709813760, 917505, 131074, 393219, 818897335987279051845956665348, 917511, 11165519133308050642536334943298928377864, 2228235]
-- 125: SwornCourtModel.person
def cod125 : List Nat := [73786976294838468608, 18446744073726328834, 129127208515968040963, 393222, 73786976294838468615, 11165690475300192551105656120839091060745, 258254417031934836748, 92233720368548020239, 18446744073726328849, 295147905179354005522, 393237, 92233720368548020246, 11165690475300192551105656120839091060760, 295147905179370717211, 969307050778899500997462261790, 2228256, 18446744073709813793, 917538, 969616535788720844539443740707, 393254, 818897335987279051845956665383, 917546, 11165519133308050642536334943298928377899, 866996971464350040110, 36893488147419365425, 917554, 131123, 969926020780095445383581466676, 11165519133308050642536334943298928377911, 866996971464350040122, 55340232221128917053, 917566, 131135, 970235505789916790452239138880, 11165519133308050642536334943298928377923, 866996971464350040134, 73786976294838468681, 756316507022126284875, 73786976294838468686, 92233720368548020304, 866996971464350105682, 110680464442257571925, 917591, 16908376, 970544990799738135520980697177, 11165519133308050642536334943298928377948, 903890459611785920607, 970854475828006226341102944354, 2228324, 393317, 819206821015547140988390998118, 503316585, 1014570924054043295851, 971163960837827571409861279854, 2228336, 393329, 819206821015547140988390998130, 129127208515967320181, 393335, 819516306043815230130825330808, 129127208515967123579, 18446744073709813885, 1769598, 393343, 819825791072083319273259663488, 129127208515967123587, 36893488147419365509, 1769606, 393351, 820135276100351408415693996168, 129127208515967123595, 55340232221128917133, 1769614, 393359, 820444761128619497558128328848, 129127208515967123603, 73786976294838468757, 1769623, 393368, 820754246156887586700562661529, 129127208515967123612, 92233720368548020382, 1769632, 393377, 821063731185155675842996994210, 129127208515967123621, 110680464442257572007, 1769641, 393386, 821373216213423764985431326891, 129127208515967123630, 18446744073726329008, 1769649, 393394, 1966259, 819206821015547140988390998196, 16777399, 721080, 819206821015547140988391063737, 129127208515967123644, 2228414]
-- 126: SwornCourtModel.rankOf
def cod126 : List Nat := [18446744073726328832, 55340232221129113601, 2, 73786976294838665219, 73786976294838468613, 393223, 821682701241691854127865659400, 1051464412201495953419, 393230, 821992186269959943270299992079, 50331666, 73786976294838468627, 36893488147419824149, 1638422, 18446744073709813783, 516508834063885402136, 393243, 821992186269959943270299992092, 50331679, 73786976294838468640, 36893488147419824162, 16777251, 720932, 1638437, 36893488147419365414, 516508834063935733799, 16777258, 534955578137578307627, 46, 92233720368548216879, 92233720368548020273, 977677435906607349811, 55340232221128917046, 940783947759221801015, 393274, 821992186269959943270299992123, 50331710, 73786976294838468671, 36893488147419824193, 16777282, 720963, 1638468, 393285, 821992186269959943270299992134, 50331721, 55340232221128917066, 36893488147419824203, 16777292, 720973, 1638478, 977677435906640969807, 73786976294838468690, 996124179980317098068, 55340232221128917079, 55340232221129113688, 73786976294855639129, 73786976294839517276, 55340232221128917087, 1180591620717462749280, 393315, 820135276100351408415693996132, 18446744073709813863, 1638504, 1328165573307089027177, 393324, 821992186269959943270299992173, 50331760, 55340232221128917105, 36893488147419824242, 33554547, 721012, 1638517, 2228342]
-- 127: SwornCourtModel.rank
def cod127 : List Nat := [393216, 18446744073709813761, 11165690475300192551105656120839091060738, 110680464442275201029, 969307050778899500997462261768, 2228234, 36893488147419365387, 917516, 131085, 970235505789916790452239138830, 11165519133308050642536334943298928377873, 258254417031951613972, 970854475828006226341102944279, 2228249, 393242, 821682701241691854127865659419, 1006632990, 368934881474208989216, 971163960837827571409861279779, 2228261, 393254, 18446744073709813799, 393256, 818897335987279051845956665385, 11165695690420332620236644833586900697132, 55340232221129113647, 393264, 821992186269959943270299992113, 50331700, 393269, 821682701241691854127865659446, 36893488147419824185, 18446744073709813818, 1769531, 393276, 821992186269959943270299992125, 50331712, 393281, 821682701241691854127865659458, 36893488147419824197, 16777286, 720967, 393288, 818897335987279051845956665417, 1769548, 393293, 821992186269959943270299992142, 50331729, 393298, 821682701241691854127865659475, 36893488147419824214, 33554519, 720984, 36893488147419365465, 1769562, 393307, 1966172, 821682701241691854127865659485, 16777312, 720993, 821682701241691854127865725026, 55340232221128917093, 2228326]
-- 128: SwornCourtModel.die
def cod128 : List Nat := [393216, 18446744073709813761, 11165690475300192551105656120839091060738, 110680464442275201029, 969307050778899500997462261768, 2228234, 393227, 821373216213423764985431326732, 18446744073709813775, 1638416, 239807672958258839569, 975187265965505057303266656276, 2228246, 393239, 821373216213423764985431326744, 18446744073709813787, 393244, 818897335987279051845956665373, 1769504, 16777249, 2228258]
-- 129: SwornCourtModel.isHouse
def cod129 : List Nat := [262144, 917505, 131074, 969926020780095445383581466627, 11165519133308050642536334943298928377862, 2228233]
-- 130: SwornCourtModel.feudOf
def cod130 : List Nat := [18446744073726328832, 73786976294838665217, 3, 92233720368548216836, 92233720368548020230, 393224, 822301671298228032412734324745, 1678653710707620708364, 393231, 822611156326496121555168657424, 67108883, 92233720368548020244, 36893488147419824150, 1638423, 18446744073709813784, 479615345916466298905, 393244, 822611156326496121555168657437, 67108896, 92233720368548020257, 36893488147419824163, 16777252, 720933, 1638438, 36893488147419365415, 811656739243221450792, 393259, 822611156326496121555168657452, 67108911, 92233720368548020272, 36893488147419824178, 1638451, 36893488147419365428, 848550227390657331253, 393272, 822611156326496121555168657465, 67108924, 92233720368548020285, 36893488147419824191, 16777280, 720961, 1638466, 18446744073709813827, 848550227390657331268, 16777287, 866996971464350236744, 75, 110680464442257768524, 393294, 822611156326496121555168657487, 67108946, 92233720368548020307, 36893488147419824213, 33554518, 720983, 1638488, 55340232221128917081, 1457292781823122866266, 393309, 822611156326496121555168657502, 67108961, 92233720368548020322, 36893488147419824228, 50331749, 720998, 1638503, 1420399293675670143080, 55340232221128917099, 393324, 822611156326496121555168657517, 67108976, 92233720368548020337, 36893488147419824243, 50331764, 721013, 1638518, 1457292781823106089079, 16777338, 1475739525896765440123, 126, 129127208515967320191, 110680464442257571969, 1604866734412732104835, 129127208515967123590, 1604866734412732104840, 92233720368548020363, 1623313478486441853069, 73786976294838468752, 73786976294838665362, 92233720368565190804, 73786976294839517335, 73786976294838468762, 2228380]
-- 131: SwornCourtModel.feud
def cod131 : List Nat := [18446744073709813760, 11165519167542972943926811612418199126017, 166020696663387078660, 36893488147419365383, 11165519167542972943926811612418199126024, 166020696663387078667, 18446744073709813774, 36893488147419365391, 202914184810823024656, 970854475828006226341102944275, 2228245, 393238, 18446744073709813783, 36893488147419365400, 393241, 818897335987279051845956665370, 11165700903004552518891532053203854360605, 368934881474225700896, 975187265965505057303266656291, 2228261, 393254, 822301671298228032412734324775, 335544362, 479615345916466298924, 971163960837827571409861279791, 2228273, 393266, 822611156326496121555168657459, 67108918, 393271, 822301671298228032412734324792, 36893488147419824187, 18446744073709813820, 1769533, 393278, 822611156326496121555168657471, 67108930, 393283, 822301671298228032412734324804, 36893488147419824199, 16777288, 720969, 36893488147419365450, 1769547, 393292, 822611156326496121555168657485, 67108944, 393297, 822301671298228032412734324818, 36893488147419824213, 33554518, 720983, 393304, 818897335987279051845956665433, 1769564, 393309, 822611156326496121555168657502, 67108961, 393314, 822301671298228032412734324835, 36893488147419824230, 50331751, 721000, 18446744073726328937, 1769578, 393323, 1966188, 822301671298228032412734324845, 16777328, 721009, 822301671298228032412734390386, 393333, 822301671298228032412734324854, 2228345]
-- 132: SwornCourtModel.peace
def cod132 : List Nat := [18446744073709813760, 11165519167542972943926811612418199126017, 166020696663387078660, 36893488147419365383, 11165519167542972943926811612418199126024, 166020696663387078667, 18446744073709813774, 36893488147419365391, 202914184810823024656, 970854475828006226341102944275, 2228245, 393238, 18446744073709813783, 36893488147419365400, 393241, 818897335987279051845956665370, 11165700903004552518891532053203854360605, 55340232221129113632, 55340232221128917025, 405828369621661581346, 975187265965505057303266656293, 2228263, 393256, 822611156326496121555168657449, 67108908, 55340232221128917037, 36893488147419824174, 50331695, 720944, 393265, 818897335987279051845956665394, 1769525, 16777270, 2228279]
-- 133: SwornCourtModel.go
def cod133 : List Nat := [18446744073709813760, 917505, 131074, 981376966143485212943058141187, 11165519133308050642536334943298928377862, 147573952589694304265, 970854475828006226341102944268, 2228238, 393231, 818897335987279051845956665360, 18446744073709813779, 720916, 150994944021, 295147905179437891608, 975187265965505057303266656283, 2228253, 393246, 1966111, 818897335987279051845956665376, 18446744073709813795, 720932, 818897335987279051845956730917, 393256, 818897335987279051845956665385, 2228268]
-- 134: SwornCourtModel.told
def cod134 : List Nat := [393216, 18446744073709813761, 11165690475300192551105656120839091060738, 110680464442275201029, 969307050778899500997462261768, 2228234, 393227, 36893488147419365388, 11165706116856732502729129787164939583501, 221360928884532510736, 970854475828006226341102944275, 2228245, 55340232221128917014, 1856910962818530024118091799, 393280, 819516306043815230130825330753, 18446744073709813828, 1638469, 2228294, 393287, 819825791072083319273259663432, 18446744073709813835, 1638476, 2228301, 393294, 18446744073709813839, 36893488147419365456, 11165695690420332620236644833586900697169, 2228308, 393301, 820444761128619497558128328790, 18446744073709813849, 1638490, 2228315, 393308, 820754246156887586700562661469, 18446744073709813856, 1638497, 2228322, 393315, 821063731185155675842996994148, 18446744073709813863, 1638504, 2228329, 393322, 821373216213423764985431326827, 18446744073709813870, 1638511, 2228336, 970854475828006226341102944369, 2228339]
-- 135: SwornCourtModel.climb
def cod135 : List Nat := [0, 55340232221129113601, 55340232221128916994, 503316483, 295147905179404337157, 36893488147419496456, 55340232221128917001, 55340232221128917002, 18446744073709813771, 221360928884532576268, 15, 239807672958225481744, 1660944403, 1769493, 55340232221146087446, 36893488147420413977, 18446744073709813788, 55340232221129113629, 55340232221128917022, 1881567895518408933407, 36893488147419496482, 55340232221128917027, 1638436, 1660944421, 1106804644422624608295, 393258, 820444761128619497558128328747, 55340232221128917038, 1638447, 1106804644422607765552, 36893488147419496499, 393268, 820444761128619497558128328757, 55340232221128917048, 1638457, 36893488147419496506, 55340232221128917051, 1638460, 16777277, 720958, 36893488147419496511, 393280, 820444761128619497558128328769, 55340232221128917060, 1638469, 1638470, 977677435906657747015, 36893488147419496522, 55340232221128917067, 1638476, 16777293, 720974, 1088357900348864856143, 36893488147419496530, 393299, 820444761128619497558128328788, 55340232221128917079, 1638488, 1638489, 1769562, 36893488147419496539, 55340232221128917084, 1638493, 1660944478, 1844674407371006672992, 393315, 820754246156887586700562661476, 55340232221128917095, 1638504, 1844674407370989830249, 36893488147419496556, 393325, 820754246156887586700562661486, 55340232221128917105, 1638514, 36893488147419496563, 55340232221128917108, 1638517, 16777334, 721015, 36893488147419496568, 393337, 820754246156887586700562661498, 55340232221128917117, 1638526, 1638527, 1715547198855039811712, 36893488147419496579, 55340232221128917124, 1638533, 16777350, 721031, 1826227663297246920840, 36893488147419496587, 393356, 820754246156887586700562661517, 55340232221128917136, 1638545, 1638546, 1769619, 309485065161577289870868628, 332041393326773239959, 2162842]
-- 136: SwornCourtModel.findKin
def cod136 : List Nat := [393216, 18446744073709813761, 393218, 830657767061466439258461306883, 11165716517933930680497493297582055948294, 393225, 36893488147419365386, 393227, 830967252089734528400895639564, 11165716517933930680497493297582055948303, 393234, 1660944403, 831276737118002617543330037781, 393240, 18446744073726328857, 831586222146270706685764370458, 29, 55340232221129113630, 31, 73786976294838665248, 73786976294838468642, 393252, 819206821015547140988390998053, 1328165573307139227688, 393259, 830657767061466439258461306924, 73786976294838468655, 1638449, 393266, 830967252089734528400895639603, 73786976294838468662, 1638456, 720953, 92233720368548216890, 92233720368548020284, 393278, 831276737118002617543329972287, 737869762948433576002, 16777285, 903890459611769339974, 92233720368548020297, 393291, 831276737118002617543329972300, 885443715538076434511, 55340232221128917074, 16777299, 720980, 903890459611769339989, 55340232221128917080, 55340232221129113689, 393306, 92233720368548020315, 393309, 831276737118002617543329972318, 1051464412201495953505, 73786976294838468708, 1088357900348864856166, 393321, 831586222146270706685764305002, 831586222146270706685764370541, 393328, 92233720368548020337, 393331, 831276737118002617543329972340, 1235931852938591469687, 92233720368548020346, 1272825341085960372348, 393343, 831276737118002617543329972352, 831276737118002617543330037891, 73786976294855639174, 368934881474192343177, 393356, 831276737118002617543329972365, 134217872, 1438846037749430091922, 16777365, 1457292781823055888534, 153, 73786976294838665370, 393372, 73786976294838468765, 1567973246265313001631, 18446744073726328994, 1604866734412732301475, 393382, 831276737118002617543329972391, 831276737118002617543330037930, 393389, 73786976294838468782, 1715547198854989414576, 18446744073726329011, 1752440687002408714420, 393399, 831586222146270706685764305080, 831586222146270706685764370619, 393406, 73786976294838468799, 2066035336255487672513, 393412, 831586222146270706685764305093, 18446744073709813960, 2066035336255470960841, 393420, 831586222146270706685764305101, 36893488147419365584, 2066035336255470960849, 55340232221128917204, 16777429, 2066035336255487738070, 16777433, 2084482080329180643546, 221, 831895707174538795828198703326, 2162913]
-- 137: SwornCourtModel.kin
def cod137 : List Nat := [393216, 18446744073709813761, 11165690475300192551105656120839091060738, 147573952589677527045, 393224, 36893488147419365385, 11165690475300192551105656120839091060746, 184467440737113407501, 969307050778899500997462261776, 2228242, 55340232221128917011, 917524, 131093, 985400271271162698819736633366, 11165519133308050642536334943298928377881, 332041393326789820444, 970854475828006226341102944287, 2228257, 393250, 18446744073709813795, 36893488147419365412, 11165711320565231804717661780824031559717, 55340232221128917032, 498062089990175785001, 393260, 831276737118002617543329972269, 719423018874673823792, 55340232221128917043, 16777268, 608742554432433160245, 393272, 831586222146270706685764304953, 719423018874673823804, 393279, 831895707174538795828198637632, 700976274800964075587, 16777286, 719423018874673823815, 74, 2228299]
-- 138: SwornCourtModel.feed
def cod138 : List Nat := [18446744073709813760, 917505, 16908290, 989423576398840184713259450371, 11165519133308050642536334943298928377862, 147573952589694304265, 970854475828006226341102944268, 2228238, 393231, 823230126383032299840037322768, 18446744073709813779, 720916, 4026531861, 295147905179437891608, 971163960837827571409861279771, 2228253, 18446744073709813790, 16777247, 18446744073710272544, 73786976294838665249, 73786976294838468643, 793209995169545388069, 393256, 822920641354764210697602990121, 393260, 823230126383032299840037322797, 36893488147419430960, 134217777, 73786976294838468659, 36893488147419824181, 18446744073710403638, 989733061408661529786128203831, 55340232221129441338, 983099, 1769532, 393277, 1966142, 823230126383032299840037322815, 16777282, 720963, 823230126383032299840037388356, 309485083608321363580420167, 368934881474192343114, 393293, 823230126383032299840037322830, 2228305]
-- 139: SwornCourtModel.hasKinds
def cod139 : List Nat := [262144, 147573952589677527041, 262148, 16777221, 147573952589677592582, 262153, 134217738, 184467440737113473036, 16777231, 202914184810806378512, 19, 2228244]
-- 140: SwornCourtModel.placeOf
def cod140 : List Nat := [262144, 73786976294856097793, 18446744073709813764, 516508834063868755973, 262152, 16777225, 202914184810823024650, 67108877, 18446744073709813774, 720911, 516508834063868755984, 262163, 134217748, 332041393326789885974, 134217753, 18446744073709813787, 720924, 516508834063868755997, 262176, 134217761, 461168601842790301731, 167772198, 262184, 720937, 516508834063868756010, 150994989, 262191, 720944, 2228273]
-- 141: SwornCourtModel.atFirst
def cod141 : List Nat := [262144, 73786976294856097793, 201326596, 424275113695320997894, 262153, 16777226, 184467440737096695819, 262158, 67108879, 221360928884532576272, 16777235, 424275113695320997908, 262167, 33554456, 313594649253080334361, 33554460, 424275113695320997917, 262176, 134217761, 405828369621628092451, 167772198, 424275113695320997928, 43, 2228268]
-- 142: SwornCourtModel.ruleOn
def cod142 : List Nat := [18446744073709813760, 11165519301946741979160190748353767014401, 73786976294838665220, 6, 92233720368548216839, 92233720368548020233, 393227, 823849096439568478124905988108, 627189298506176266255, 393234, 824468066496104656409774653459, 335544342, 92233720368548020248, 36893488147419824154, 18446744073709813787, 36893488147419365404, 11165519280391420530131774800815184019485, 720928, 1638433, 110680464442257768482, 393252, 824158581467836567267340320805, 92233720368548020264, 1638442, 55340232221128917035, 553402322211354837036, 110680464442257571887, 553402322211321217073, 110680464442257571892, 571849066284997410870, 73786976294838468665, 73786976294838665275, 92233720368565190717, 92233720368549068864, 73786976294838468675, 2228293]
-- 143: SwornCourtModel.here
def cod143 : List Nat := [393216, 832205192202806884970632970241, 393220, 823230126383032299840037322757, 350488137400532992008, 393227, 822920641354764210697602990092, 393231, 832205192202806884970632970256, 1638419, 536870932, 350488137400499437590, 393241, 1966106, 832205192202806884970632970267, 16777246, 720927, 832205192202806884970633035808, 1310755, 393254, 832205192202806884970632970279, 393258, 823230126383032299840037322795, 553402322211338059822, 393265, 822920641354764210697602990130, 393269, 832205192202806884970632970294, 1638457, 571849066284997410874, 18446744073726328893, 2228286]
-- 144: SwornCourtModel.fails
def cod144 : List Nat := [393216, 36893488147419365377, 823539611411300388982471720962, 18446744073709813765, 2228230]
-- 145: SwornCourtModel.readWord
def cod145 : List Nat := [393216, 11165732122719628160180601825363174424577, 2097156, 393221, 131078, 832514677231074974113067368455, 393226, 393227, 832205192202806884970632970252, 832824162259343063255501701135, 393234, 832824162259343063255501635603, 393238, 823230126383032299840037322775, 1033017668127786401818, 393245, 822920641354764210697602990110, 393249, 832824162259343063255501635618, 1638437, 917542, 994994306575624395951798681639, 995303791585445741020942893098, 11165519133308050642536334943298928377901, 1033017668127736004656, 393267, 393268, 832514677231074974113067302965, 995613276595268763809220853816, 608742554432500334651, 608742554432500203580, 995922761605105208372345634879, 885443715538059788354, 996232246614909776225523400773, 393288, 832514677231074974113067302985, 36893488147419889740, 393293, 822920641354764210697602990158, 393297, 832824162259343063255501635666, 1638485, 917590, 786519, 994994306575624395951798681688, 18446744073710338139, 16908380, 786525, 832514677231074974113067368542, 393313, 1966178, 832824162259343063255501635683, 16777318, 720999, 832824162259343063255501701224, 184467440737096826987, 2162798]
-- 146: SwornCourtModel.code
def cod146 : List Nat := [996232246614909776225523400704, 996232246614909776225523400707, 262150, 917511, 997470186654195156501580152840, 18446744073710338059, 36893488147419889676, 18446744073709813773, 917518, 786447, 997470186654195156501580152848, 18446744073710338067, 36893488147419889684, 36893488147419365397, 917526, 786455, 997470186654195156501580152856, 18446744073710338075, 92233720368548282396, 55340232221128917022, 424275113695337578527, 92233720368548085794, 571849066284997410852, 996232246614909776225523400743, 92233720368548085802, 36893488147419889708, 55340232221128917037, 917550, 786479, 997470186654195156501580152880, 18446744073710338099, 92233720368548282420, 73786976294838468662, 664082786653561749560, 92233720368548085819, 811656739243221581885, 996232246614909776225523400768, 92233720368548085827, 36893488147419889733, 73786976294838468678, 917576, 786505, 997470186654195156501580152906, 18446744073710338125, 2293838]
-- 147: SwornCourtModel.ruleOf
def cod147 : List Nat := [393216, 832514677231074974113067302913, 18446744073710075908, 18446744073709879301, 1845493766, 1694498824, 1694498826, 1677721612, 14, 11165519248692418399235846368900713676815, 258254417031951745042, 258254417031951613971, 22, 885443715538059788311, 18446744073709879322, 1660944411, 1862271005, 1962934303, 1845493793, 1946157091, 11165519248692418399235846368900713676837, 461168601842756812840, 461168601842756681769, 16777260, 885443715538059788333, 18446744073709879344, 1795162161, 1761607731, 1845493813, 55, 56, 11165519248692418399235846368900713676857, 664082786653561880636, 664082786653561749565, 33554496, 885443715538059788353, 18446744073709879364, 1744830533, 1627390023, 1811939401, 1711276107, 77, 11165519248692418399235846368900713676878, 866996971464366948433, 866996971464366817362, 50331733, 885443715538059788374, 18446744073726328921, 55340232221129113690, 18446744073709879387, 1711276124, 1694498910, 1962934368, 1677721698, 100, 11165519248692418399235846368900713676901, 1106804644422591119464, 1106804644422590988393, 67108972, 1733993942928699162733, 18446744073709879408, 1711276145, 1627390067, 1811939445, 1929379959, 1694498937, 11165519248692418399235846368900713676923, 1309718829233396187262, 1309718829233396056191, 83886210, 1733993942928699162755, 18446744073709879430, 1811939463, 1862271113, 1929379979, 1946157197, 143, 11165519248692418399235846368900713676944, 1512633014044201255059, 1512633014044201123988, 100663447, 1733993942928699162777, 18446744073709879452, 1627390109, 1728053407, 1694498977, 163, 164, 11165519248692418399235846368900713676965, 1715547198855006322856, 1715547198855006191785, 117440684, 1733993942928699162798, 55340232221128917169, 55340232221129113778, 18446744073709879475, 1711276212, 1761607862, 1845493944, 1694499002, 188, 11165519248692418399235846368900713676989, 1955354871813230493888, 1955354871813230362817, 134217924, 2379629985508533469382, 18446744073709879497, 1929380042, 1744830668, 1862271182, 1912602832, 1946157266, 11165519248692418399235846368900713677012, 2158269056624035561687, 2158269056624035430616, 150995163, 2379629985508533469405, 18446744073709879520, 1862271201, 1627390179, 1946157285, 1744830695, 233, 11165519248692418399235846368900713677034, 2361183241434840629485, 2361183241434840498414, 167772401, 2379629985508533469427, 55340232221128917238, 2228471]
-- 148: SwornCourtModel.readNumber
def cod148 : List Nat := [393216, 11165732122719628160180601825363174424577, 36893488147419561988, 36893488147419365381, 917510, 1000255551742587262119297875975, 1000565036752408607188173651978, 11165519133308050642536334943298928377869, 276701161105661165584, 393235, 16777236, 393237, 832205192202806884970632970262, 11165737331499967803139783549357503348761, 2228252, 393245, 393246, 832205192202806884970632970271, 833133647287611152397936033826, 393253, 38, 833443132315879241540370366503, 393258, 832205192202806884970632970283, 393262, 823230126383032299840037322799, 1254378597012301021234, 393269, 822920641354764210697602990134, 393273, 832205192202806884970632970298, 1638461, 917566, 1000255551742587262119297876031, 1000565036752408607188173652034, 11165519133308050642536334943298928377925, 1254378597012250624072, 393291, 393292, 832205192202806884970632970317, 393296, 833133647287611152397935968337, 18446744073710272596, 67108949, 1069911156275205505110, 167772249, 393307, 833443132315879241540370301020, 36893488147419824223, 393312, 822920641354764210697602990177, 393316, 832205192202806884970632970341, 1638504, 721001, 805306474, 18446744073710272620, 1106804644422574407789, 393328, 833443132315879241540370301041, 833443132315879241540370366580, 393335, 1966200, 832205192202806884970632970361, 16777340, 721021, 832205192202806884970633035902, 405828369621611446401, 393348, 832205192202806884970632970373, 393352, 833133647287611152397935968393, 18446744073710272652, 67109005, 1457292781823122866318, 393361, 833443132315879241540370301074, 18446744073709813909, 1567973246265396953238, 393369, 33554586, 393371, 833133647287611152397935968412, 11165737331499967803139783549357503348895, 1586419990339022749858, 165, 2228390]
-- 149: SwornCourtModel.readRule
def cod149 : List Nat := [393216, 11165726925350929284400770308605166813185, 393220, 11165752926141984600918486104615114047493, 36893488147419561992, 36893488147419365385, 239807672958275616778, 393229, 16777230, 393231, 832205192202806884970632970256, 11165737331499967803139783549357503348755, 2228246, 393239, 393240, 832824162259343063255501635609, 832205192202806884970633035804, 31, 55340232221129113632, 36893488147419365409, 11165519276587540274399175817045173731362, 608742554432416317477, 393256, 50331689, 11165742528868666678901168322041902071850, 73786976294838665261, 73786976294838468655, 553402322211371548721, 73786976294838468660, 2228278, 393271, 833443132315879241540370300984, 55340232221129113659, 393276, 36893488147419365437, 719423018874673627198, 36893488147419365441, 16777282, 756316507022109573187, 1660944454, 922337203685478891592, 36893488147419365451, 50331724, 866996971464350105677, 36893488147419365456, 67108945, 903890459611785986130, 16777301, 922337203685478891606, 167755382873, 11165742528868666678901168322041902071900, 73786976294838665311, 393313, 825087036552640834694643318882, 335544421, 18446744073709813863, 36893488147419824232, 36893488147419365481, 55340232221128917098, 11165519280391420530131774800815184019563, 721006, 393327, 833443132315879241540370301040, 1769587, 73786976294838468724, 2228342]
-- 150: SwornCourtModel.readPart
def cod150 : List Nat := [393216, 11165726925350929284400770308605166813185, 393220, 832514677231074974113067302917, 1711276040, 1912602634, 1862270988, 1828716558, 16, 11165519248692418399235846368900713676817, 332041393326773174292, 332041393326773043221, 393240, 16777241, 393242, 832205192202806884970632970267, 11165737331499967803139783549357503348766, 2228257, 18446744073709813794, 134217763, 498062089990175850533, 393256, 67108905, 393258, 832205192202806884970632970283, 11165737331499967803139783549357503348782, 2228273, 393266, 393267, 832824162259343063255501635636, 832205192202806884970633035831, 393274, 167755382843, 11165742528868666678901168322041902071870, 36893488147419562049, 36893488147419365442, 719423018874757513283, 36893488147419365446, 2228295, 18446744073709813832, 1033017668127819890761, 393292, 833443132315879241540370301005, 393296, 824777551524372745552208986193, 18446744073709813844, 16777301, 18446744073710272598, 1638487, 1033017668127803179096, 393307, 50331740, 393309, 833133647287611152397935968350, 11165737331499967803139783549357503348833, 2228324, 393317, 824777551524372745552208986214, 18446744073709813865, 393322, 833443132315879241540370301035, 1769582, 111, 55340232221129113712, 55340232221128917105, 335544434, 1438846037749396537460, 393335, 825087036552640834694643318904, 335544443, 18446744073709813885, 36893488147419824254, 55340232221128917119, 721024, 18446744073726328961, 1769602, 55340232221146087555, 1180591620717412614278, 393353, 11165732122719628160180601825363174424714, 989855885, 1660206966633860825231, 393362, 18446744073709813907, 11165747728773285725157101331930815987860, 36893488147419562135, 36893488147419365528, 1438846037749430026393, 36893488147419365532, 2228381, 393374, 1966239, 832205192202806884970632970400, 16777379, 721060, 832205192202806884970633035941, 168, 2228393]
-- 151: SwornCourtModel.read
def cod151 : List Nat := [393216, 825396521580908923837077651457, 92233720368632758276, 975187265965505057303266656263, 2228233, 393226, 18446744073726328843, 823539611411300388982471720972, 393231, 16, 832205192202806884970633035793, 20, 18446744073710010389, 22, 36893488147419562007, 393240, 18446744073709813785, 11165721727982230408639385535920919085082, 36893488147419562013, 18446744073726984222, 36893488147419365409, 461168601842756681762, 393253, 11165732122719628160180601825363174424614, 276701161105694720041, 393260, 45, 823230126383032299840037388334, 36893488147419365425, 627189298506209755186, 18446744073877323829, 36893488147419365431, 18446744073710272568, 2228281, 393274, 18446744073709813819, 823849096439568478124906053692, 63, 55340232221129113664, 55340232221128917057, 393282, 823849096439568478124905988163, 977677435906657747014, 393289, 824158581467836567267340320842, 55340232221128917069, 393294, 824777551524372745552208986191, 55340232221128917074, 1638483, 1769556, 55340232221146087509, 719423018874673823832, 91, 55340232221129113692, 55340232221128917085, 2684354654, 1254378597012301021281, 393316, 824468066496104656409774653541, 55340232221128917096, 393321, 825087036552640834694643318890, 55340232221128917101, 1638510, 1769583, 55340232221146087536, 1014570924054026649715, 393334, 823849096439568478124905988215, 2228346]
-- 152: SwornCourtModel.fault
def cod152 : List Nat := [393216, 823539611411300388982471655425, 2228228]
-- 153: SwornCourtModel.law
def cod153 : List Nat := [18446744073709813760, 917505, 131074, 1007683191978299543768055087107, 11165519133308050642536334943298928377862, 516508834063868559369, 36893488147419365388, 917517, 131086, 18446744073709813775, 350488137400516149264, 18446744073709813779, 167772180, 350488137400549769238, 18446744073709813785, 11165519276587540274399175817045173731354, 350488137400482594845, 970235505789916790452239138848, 368934881474192343075, 131110, 11165519133308050642536334943298928377895, 516508834063868559402, 55340232221128917037, 917550, 131119, 1007992676988120889004367478832, 11165519133308050642536334943298928377907, 553402322211304439862, 970854475828006226341102944313, 2228283, 393276, 18446744073709813821, 36893488147419365438, 55340232221128917055, 11165758143798044840562469798641047765056, 2228291]
-- 154: SwornCourtModel.charge
def cod154 : List Nat := [393216, 36893488147419365377, 11165690475300192551105656120839091060738, 147573952589677527045, 393224, 55340232221128917001, 11165690475300192551105656120839091060746, 184467440737113407501, 969307050778899500997462261776, 2228242, 18446744073709813779, 917524, 131093, 970235505789916790452239138838, 11165519133308050642536334943298928377881, 424275113695320801308, 36893488147419365407, 55340232221128917024, 424275113695320866849, 393252, 73786976294838468645, 11165706116856732502729129787164939583527, 461168601842756681770, 970854475828006226341102944301, 2228271, 393264, 825396521580908923837077651505, 335544372, 571849066285014057014, 971163960837827571409861279801, 2228283, 393276, 825396521580908923837077651517, 92233720368548216896, 393282, 825706006609177012979511984195, 92233720368548020294, 18446744073709813832, 1769545, 393290, 826015491637445102121946316875, 92233720368548020302, 36893488147419365456, 1769553, 393298, 826324976665713191264380649555, 92233720368548020310, 55340232221128917080, 1769561, 393306, 826634461693981280406814982235, 92233720368548020318, 73786976294838468704, 1769570, 393315, 826943946722249369549249314916, 92233720368548020327, 393321, 818897335987279051845956665450, 1769581, 393326, 827253431750517458691683647599, 92233720368548020338, 18446744073726328948, 1769589, 393334, 1966199, 825396521580908923837077651576, 16777339, 721020, 825396521580908923837077717117, 92233720368548020352, 2228354]
-- 155: SwornCourtModel.ruleFor
def cod155 : List Nat := [393216, 36893488147419365377, 36893488147419365378, 11165519276587540274399175817045173731331, 184467440737096630278, 393225, 825706006609177012979511984138, 18446744073709813773, 1638414, 202914184810806378511, 18, 393235, 826634461693981280406814982164, 18446744073709813783, 1638424, 11165758143798044840562469798641047765017, 2228252]
-- 156: SwornCourtModel.isFound
def cod156 : List Nat := [393216, 827253431750517458691683647489, 18446744073709813764, 1638405, 239807672958258839558, 393225, 827253431750517458691683647498, 18446744073709813773, 1638414, 36893488147419365391, 239807672958292459536, 16777235, 258254417031935033364, 23, 2228248]
-- 157: SwornCourtModel.barredBy
def cod157 : List Nat := [393216, 821373216213423764985431326721, 18446744073709813764, 1638405, 202914184810839736326, 393225, 821373216213423764985431326730, 18446744073709813773, 1638414, 110680464442257571855, 424275113695404752913, 110680464442257571860, 393238, 819516306043815230130825330711, 18446744073709813786, 1638427, 18446744073710272540, 393245, 117440542, 32, 92233720368548020257, 11165758143798044840562469798641047765027, 461168601842790301734, 16777257, 2228266, 18446744073709813803, 55340232221128917036, 571849066284997279789, 18446744073709813808, 73786976294838468657, 608742554432433160243, 33554486, 2228279, 393272, 18446744073709813817, 55340232221128917050, 11165711320565231804717661780824031559739, 393278, 831276737118002617543329972287, 393282, 831895707174538795828198637635, 940783947759188246598, 393289, 50331722, 75, 92233720368548020300, 11165758143798044840562469798641047765070, 16777297, 940783947759205089362, 16777301, 959230691832897994838, 89, 720986, 147573952589676871771, 393309, 831276737118002617543329972318, 1217485108864865075297, 147573952589676675172, 393318, 33554535, 104, 92233720368548020329, 11165758143798044840562469798641047765099, 1217485108864898695278, 50331761, 2228338, 393331, 67108980, 117, 92233720368548020342, 11165758143798044840562469798641047765112, 16777339, 1604866734412748947580, 393343, 393344, 819825791072083319273259663489, 18446744073709813892, 1638533, 393350, 819825791072083319273259663495, 55340232221128917130, 1638539, 110680464442257571980, 11165700903004552518891532053203854360718, 1604866734412765659281, 67109012, 2228373, 393366, 83886231, 152, 92233720368548020377, 11165758143798044840562469798641047765147, 166020696663386423454, 160, 184467440737095975073, 184467440737095778467, 393381, 827562916778785547834117980326, 2748564866982774702249, 393388, 827872401807053636976552313005, 184467440737095778480, 1638578, 18446744073709813939, 2342736497361131012276, 393399, 828181886835321726118986645688, 184467440737095778491, 1638589, 36893488147419365566, 2342736497361114235071, 393410, 828491371863589815261420978371, 184467440737095778502, 1638600, 129127208515967123657, 2342736497361181343947, 393422, 393423, 828181886835321726118986645712, 184467440737095778515, 1638613, 129127208515967123670, 11165789341957799032841570367335527940312, 2342736497361114169563, 16777438, 2361183241434823917791, 226, 202914184810805526755, 202914184810805330149, 2711671378835305201895, 110680464442257572074, 393452, 828491371863589815261420978413, 184467440737095778544, 1638642, 18446744073710272755, 917748, 131317, 166020696663386226934, 16777464, 18446744073710272761, 917754, 11165519133308050642536334943298928378107, 2711671378835305201918, 83886337, 2228482, 184467440737112948995, 1752440687002408714502, 393481, 100663562, 268, 92233720368548020493, 11165758143798044840562469798641047765263, 184467440737095975186, 276, 202914184810805526805, 202914184810805330199, 393497, 825396521580908923837077651738, 3523328118078575870237, 393504, 826015491637445102121946317089, 202914184810805330212, 1638694, 18446744073709814055, 3486434629931123212584, 393515, 833752617344147330682804633900, 202914184810805330223, 1638705, 33554738, 3486434629931139989811, 110680464442257572150, 393528, 834062102372415419825238966585, 202914184810805330236, 1638718, 18446744073710272831, 917824, 131393, 184467440737095778626, 16777540, 18446744073710272837, 917830, 11165519133308050642536334943298928378183, 3486434629931106369866, 100663629, 2228559, 202914184810822500688, 2896138819572400914771, 342, 2228567]
-- 158: SwornCourtModel.barredFrom
def cod158 : List Nat := [393216, 18446744073709813761, 36893488147419365378, 393219, 826015491637445102121946316804, 36893488147419365383, 1638408, 393225, 826324976665713191264380649482, 36893488147419365389, 1638414, 393231, 826634461693981280406814982160, 36893488147419365395, 1638420, 55340232221128917013, 73786976294838468630, 11165784144589100157153972570946051309592, 2228251]
-- 159: SwornCourtModel.decide
def cod159 : List Nat := [393216, 833752617344147330682804633601, 18446744073709813764, 36893488147419365381, 1769478, 393223, 834062102372415419825238966280, 18446744073709813771, 55340232221128917004, 1769485, 2162702]
-- 160: SwornCourtModel.work
def cod160 : List Nat := [0, 36893488147419561985, 36893488147419365378, 393219, 825396521580908923837077651460, 332041393326823440391, 393226, 36893488147419365387, 12, 18446744073726328845, 11165773749851702405520522561135164325902, 393233, 834371587400683508967673298962, 36893488147419365397, 22, 1769495, 36893488147436535832, 36893488147420413979, 30, 36893488147419562015, 36893488147419365408, 393249, 827562916778785547834117980194, 2933032307719870218277, 393256, 828491371863589815261420978217, 36893488147419365420, 1638445, 18446744073709813806, 2933032307719886995503, 393266, 828181886835321726118986645555, 36893488147419365430, 1638455, 55340232221129113656, 393273, 834681072428951598110107631674, 36893488147419365437, 62, 1769535, 393280, 827872401807053636976552312897, 36893488147419365444, 1638469, 2527203938098243240006, 393289, 393290, 827872401807053636976552312907, 36893488147419365454, 1638479, 55340232221128917072, 393297, 828491371863589815261420978258, 36893488147419365461, 1638486, 18446744073709813847, 11165778947220401281318800821966898266200, 1106804644422658097243, 16777310, 1125251388496283959391, 98, 73786976294838665315, 393317, 834681072428951598110107631718, 36893488147419365481, 73786976294838468714, 1272825341085960175724, 111, 1475739525896765440112, 393331, 16777332, 393333, 829110341920125993546289643638, 36893488147419365497, 1638522, 393339, 826634461693981280406814982268, 55340232221128917119, 1638528, 11165758143798044840562469798641047765121, 1769604, 393349, 834371587400683508967673299078, 55340232221128917129, 2031754, 1638539, 393356, 834681072428951598110107631757, 36893488147419365520, 1638545, 721042, 1769619, 393364, 834371587400683508967673299093, 55340232221128917144, 1638553, 393370, 55340232221128917147, 156, 11165794539326497908621401884093552328861, 1900014639592118550688, 16777379, 1918461383665794678948, 167, 92233720368548217000, 393386, 833752617344147330682804633771, 55340232221128917166, 1638575, 2508757194024516911280, 92233720368548020403, 2158269056624035430581, 393400, 828800856891857904403855311033, 36893488147419365564, 1704125, 2508757194024500134078, 393409, 55340232221128917186, 393411, 55340232221128917188, 18446744073709813957, 11165789341957799032841570367335527940294, 2324289753287404617929, 50331852, 2416523473655952572621, 92233720368548020432, 2398076729582242824402, 16777429, 2416523473655952572630, 33554649, 393434, 828491371863589815261420978395, 36893488147419365598, 1638623, 11165773749851702405520522561135164326112, 2896138819572400914659, 393446, 833752617344147330682804633831, 55340232221128917226, 1638635, 2896138819572417495276, 393455, 55340232221128917232, 393457, 55340232221128917234, 18446744073709814003, 11165789341957799032841570367335527940340, 2785458355130143408375, 50331898, 2803905099203853156603, 33554686, 393471, 828491371863589815261420978432, 36893488147419365635, 1638660, 11165773749851702405520522561135164326149, 36893488147436536072, 368934881474192343307, 2162958]
-- 161: SwornCourtModel.lackOf
def cod161 : List Nat := [393216, 18446744073709813761, 2, 11165794539326497908621401884093552328707, 393222, 834371587400683508967673298951, 18446744073709813770, 1638411, 18446744073710272524, 36893488147419561997, 36893488147419365390, 258254417032018722831, 36893488147419365394, 276701161105644584979, 22, 2228247]
-- 162: SwornCourtModel.barred
def cod162 : List Nat := [393216, 18446744073709813761, 11165690475300192551105656120839091060738, 147573952589677527045, 393224, 36893488147419365385, 11165763355114304653923966039471058911242, 184467440737113407501, 969307050778899500997462261776, 2228242, 393235, 55340232221128917012, 11165706116856732502729129787164939583509, 332041393326773043224, 393243, 73786976294838468636, 11165706116856732502729129787164939583518, 368934881474208923681, 970854475828006226341102944292, 2228262, 393255, 73786976294838468648, 11165768552483003529703797556229720834090, 393261, 18446744073709813806, 36893488147419365423, 55340232221128917040, 73786976294838468657, 11165778947220401281318800821966898266163, 2228278]
-- 163: SwornCourtModel.hasSworn
def cod163 : List Nat := [0, 55340232221129113601, 2, 73786976294838665219, 73786976294838468613, 393223, 827562916778785547834117980168, 516508834063918956555, 55340232221128917006, 405828369621628026895, 393234, 827872401807053636976552312851, 73786976294838468630, 1638424, 18446744073709813785, 442721857769047195674, 393245, 828181886835321726118986645534, 73786976294838468641, 1638435, 36893488147419365412, 442721857769047195685, 16777256, 461168601842740101161, 44, 55340232221129113645, 73786976294855639086, 73786976294839517233, 55340232221128917044, 2228277]
-- 164: SwornCourtModel.swornToday
def cod164 : List Nat := [0, 36893488147419561985, 2, 55340232221129113603, 55340232221128916996, 393221, 827562916778785547834117980166, 534955578137628508169, 36893488147419365388, 393229, 827872401807053636976552312846, 55340232221128917009, 1638418, 18446744073709813779, 442721857769047195668, 393239, 828491371863589815261420978200, 55340232221128917019, 1638428, 393245, 818897335987279051845956665374, 442721857769047195681, 16777252, 461168601842740101157, 40, 720937, 36893488147419562026, 55340232221146087467, 73786976294839517230, 36893488147419365425, 2228274]
-- 165: SwornCourtModel.tell
def cod165 : List Nat := [393216, 827872401807053636976552312833, 393220, 827562916778785547834117980165, 18446744073709813768, 1769481, 393226, 828181886835321726118986645515, 393230, 827562916778785547834117980175, 36893488147419365394, 1769491, 393236, 828491371863589815261420978197, 393240, 827562916778785547834117980185, 393244, 818897335987279051845956665373, 1769504, 393249, 828800856891857904403855310882, 393253, 827562916778785547834117980198, 41, 1835050, 393259, 829110341920125993546289643564, 393263, 827562916778785547834117980208, 18446744073709813811, 608742554432466649140, 55, 700976274800964272184, 393275, 18446744073709813820, 393277, 818897335987279051845956665406, 11165695690420332620236644833586900697153, 1769540, 393285, 1966150, 827562916778785547834117980231, 16777290, 720971, 827562916778785547834118045772, 2162767]
-- 166: SwornCourtModel.swear
def cod166 : List Nat := [393216, 18446744073709813761, 11165690475300192551105656120839091060738, 147573952589677527045, 393224, 36893488147419365385, 11165763355114304653923966039471058911242, 184467440737113407501, 969307050778899500997462261776, 2228242, 393235, 393236, 818897335987279051845956665365, 11165768552483003529703797556229720834072, 393243, 833752617344147330682804633628, 36893488147419365407, 1638432, 756316507022109507617, 393252, 18446744073709813797, 36893488147419365414, 11165799741767037125353436387113439658023, 756316507022109507626, 393261, 18446744073709813806, 11165804939135736001114821159797788049455, 393266, 821063731185155675842996994099, 18446744073709813814, 1638455, 756316507022143127608, 393275, 18446744073709813820, 36893488147419365437, 393278, 818897335987279051845956665407, 393282, 818897335987279051845956665411, 11165778947220401281318800821966898266182, 793209995169595719753, 975187265965505057303266656332, 2228302, 393295, 829419826948394082688723976272, 1677721683, 903890459611785986133, 971163960837827571409861279832, 2228314, 393307, 18446744073709813852, 36893488147419365469, 11165810481389578061662902486425967853662, 393313, 1966178, 829419826948394082688723976291, 16777318, 720999, 829419826948394082688724041832, 393323, 393324, 818897335987279051845956665453, 11165768552483003529703797556229720834160, 393331, 828800856891857904403855310964, 393335, 827562916778785547834117980280, 16777339, 18446744073710272636, 393341, 833752617344147330682804633726, 36893488147419365505, 1638530, 16777347, 1420399293675653431428, 16777351, 1438846037749346336904, 139, 1835148, 393357, 834371587400683508967673299086, 36893488147419365521, 1638546, 2228371]
-- 167: SwornCourtModel.close
def cod167 : List Nat := [393216, 18446744073709813761, 11165763355114304653923966039471058911234, 110680464442275201029, 969307050778899500997462261768, 2228234, 393227, 393228, 818897335987279051845956665357, 11165768552483003529703797556229720834064, 393235, 833752617344147330682804633620, 18446744073709813783, 1638424, 313594649253063491609, 975187265965505057303266656284, 2228254, 393247, 18446744073726328864, 18446744073709813793, 11165810481389578061662902486425967853602, 393253, 18446744073709813798, 11165815683830117278376490245371944304679, 2228266]
-- 168: SwornCourtModel.find
def cod168 : List Nat := [393216, 18446744073709813761, 11165763355114304653923966039471058911234, 110680464442275201029, 969307050778899500997462261768, 2228234, 393227, 393228, 818897335987279051845956665357, 11165768552483003529703797556229720834064, 393235, 833752617344147330682804633620, 18446744073709813783, 1638424, 16777241, 387381625547918540826, 393245, 827253431750517458691683647518, 18446744073709813793, 1638434, 424275113695354355747, 975187265965505057303266656294, 2228264, 393257, 827253431750517458691683647530, 18446744073709813805, 393262, 818897335987279051845956665391, 1769522, 51, 36893488147419562036, 53, 55340232221129113654, 55340232221128917047, 393272, 827562916778785547834117980217, 1033017668127786401852, 36893488147419365439, 393280, 827872401807053636976552312897, 55340232221128917060, 1638469, 940783947759221801030, 393289, 828181886835321726118986645578, 55340232221128917069, 1638478, 18446744073709813839, 940783947759205089360, 16777299, 959230691832897994836, 87, 720984, 36893488147419562073, 55340232221146087514, 608742554432416514141, 36893488147419365472, 2228321]
-- 169: SwornCourtModel.oath
def cod169 : List Nat := [36893488147419365376, 917505, 131074, 970235505789916790452239138819, 11165519133308050642536334943298928377862, 147573952589694304265, 970854475828006226341102944268, 2228238, 393231, 393232, 818897335987279051845956665361, 11165768552483003529703797556229720834068, 18446744073709813783, 55340232221129113624, 25, 73786976294838665242, 73786976294838468636, 393246, 827562916778785547834117980191, 1069911156275205505058, 393253, 827872401807053636976552312870, 73786976294838468649, 1638443, 1033017668127769559084, 55340232221128917039, 1014570924054043230256, 36893488147419365427, 627189298506142646324, 393271, 827872401807053636976552312888, 73786976294838468667, 1638461, 996124179980317098046, 36893488147419365441, 16777282, 774763251095819124803, 393286, 828181886835321726118986645575, 73786976294838468682, 1638476, 996124179980317098061, 36893488147419365456, 33554513, 922337203685495537746, 393301, 828491371863589815261420978262, 73786976294838468697, 1638491, 996124179980317098076, 393311, 834681072428951598110107631712, 73786976294838468707, 1638501, 2228326, 309485065161577289870868583, 73786976294855639146, 295147905179354136685, 18446744073726328944, 2228337]
-- 170: SwornCourtModel.state
def cod170 : List Nat := [393216, 18446744073709813761, 11165763355114304653923966039471058911234, 110680464442275201029, 969307050778899500997462261768, 2228234, 36893488147419365387, 917516, 393229, 826943946722249369549249314830, 18446744073709813777, 1638418, 917523, 393236, 818897335987279051845956665365, 917528, 11165519133308050642536334943298928377881, 442721857769030352924, 55340232221128917023, 917536, 131105, 989423576398840184713259450402, 11165519133308050642536334943298928377893, 479615345916466233384, 970854475828006226341102944299, 2228269, 393262, 36893488147419365423, 11165768552483003529703797556229720834096, 55340232221128917043, 2166396360021500640743456820, 393316, 833752617344147330682804633701, 18446744073709813864, 1638505, 2228330, 393323, 834062102372415419825238966380, 18446744073709813871, 1638512, 2228337, 393330, 834371587400683508967673299059, 18446744073709813878, 1638519, 2228344, 393337, 18446744073709813882, 11165815683830117278376490245371944304763, 2228350, 393343, 825706006609177012979511984256, 18446744073709813891, 1638532, 2228357, 393350, 826015491637445102121946316935, 18446744073709813898, 1638539, 2228364, 393357, 826324976665713191264380649614, 18446744073709813905, 1638546, 2228371, 393364, 826634461693981280406814982293, 18446744073709813912, 1638553, 2228378, 393371, 18446744073709813916, 157, 11165794539326497908621401884093552328862, 2228385]
-- 171: SwornCourtModel.turned
def cod171 : List Nat := [393216, 18446744073709813761, 11165706116856732502729129787164939583490, 147573952589677527045, 393224, 36893488147419365385, 11165706116856732502729129787164939583498, 184467440737113407501, 970854475828006226341102944272, 2228242, 393235, 18446744073709813780, 11165768552483003529703797556229720834069, 24, 55340232221129113625, 55340232221128917018, 393243, 825396521580908923837077651484, 534955578137628508191, 393250, 834990557457219687252541964323, 55340232221128917030, 393255, 833752617344147330682804633640, 55340232221128917035, 1638444, 1769517, 55340232221146087470, 276701161105644585009, 393268, 36893488147419365429, 11165768552483003529703797556229720834102, 57, 55340232221129113658, 59, 73786976294838665276, 73786976294838468670, 393280, 825396521580908923837077651521, 1272825341086010572868, 55340232221128917063, 393288, 826943946722249369549249314889, 73786976294838468684, 1638478, 18446744073709813839, 1180591620717479592016, 393299, 826943946722249369549249314900, 73786976294838468695, 1638489, 36893488147419365466, 1180591620717479592027, 393310, 834990557457219687252541964383, 73786976294838468706, 1638500, 393317, 833752617344147330682804633702, 73786976294838468713, 1638507, 1180591620717412483180, 16777327, 1199038364791122165872, 115, 721012, 55340232221129113717, 73786976294855639158, 664082786653545169017, 55340232221128917116, 2228349]
-- 172: SwornCourtModel.finesOf
def cod172 : List Nat := [0, 55340232221129113601, 2, 73786976294838665219, 73786976294838468613, 393223, 825396521580908923837077651464, 700976274801014472715, 393230, 826015491637445102121946316815, 73786976294838468626, 1638420, 18446744073709813781, 664082786653561815062, 393241, 833752617344147330682804633626, 73786976294838468637, 1638431, 33554464, 664082786653578592289, 55340232221128917028, 393253, 73786976294838468646, 134217768, 11165794539326497908621401884093552328746, 393261, 73786976294838468654, 150994992, 11165794539326497908621401884093552328754, 393269, 73786976294838468662, 11165815683830117278376490245371944304696, 36893488147419824187, 720956, 720957, 55340232221129113662, 73786976294855639103, 73786976294839517250, 69, 73786976294838665286, 73786976294838468680, 393290, 827562916778785547834117980235, 1457292781823106089038, 393297, 828491371863589815261420978258, 73786976294838468693, 1638487, 36893488147419365464, 1457292781823122866265, 55340232221128917084, 393309, 827872401807053636976552312926, 73786976294838468705, 1638499, 18446744073709813860, 1365059061454524776549, 393320, 833752617344147330682804633705, 393324, 828181886835321726118986645613, 73786976294838468720, 1638514, 1638515, 50331764, 1365059061454524776565, 393336, 393337, 828181886835321726118986645626, 73786976294838468733, 1638527, 167772288, 11165794539326497908621401884093552328834, 1383505805528217682053, 136, 721033, 55340232221129113738, 73786976294855639179, 737869762948383375502, 55340232221128917137, 2228370]
-- 173: SwornCourtModel.paidOf
def cod173 : List Nat := [0, 55340232221129113601, 2, 73786976294838665219, 73786976294838468613, 393223, 829729311976662171831158308872, 756316507022143127563, 55340232221128917006, 393231, 830038797004930260973592641552, 50331667, 73786976294838468628, 36893488147419824150, 1638423, 18446744073709813784, 664082786653561815065, 393244, 830038797004930260973592641565, 50331680, 73786976294838468641, 36893488147419824163, 16777252, 720933, 1638438, 36893488147419365415, 664082786653612146728, 393259, 830038797004930260973592641580, 50331695, 73786976294838468656, 36893488147419824178, 33554483, 720948, 1638453, 682529530727254720566, 57, 720954, 55340232221129113659, 73786976294855639100, 73786976294839517247, 55340232221128917058, 2228291]
-- 174: SwornCourtModel.pay
def cod174 : List Nat := [393216, 18446744073709813761, 11165690475300192551105656120839091060738, 110680464442275201029, 969307050778899500997462261768, 2228234, 36893488147419365387, 917516, 16908301, 1007992676988120889004367478798, 11165519133308050642536334943298928377873, 258254417031951613972, 970854475828006226341102944279, 2228249, 393242, 829729311976662171831158308891, 1006632990, 368934881474208989216, 971163960837827571409861279779, 2228261, 393254, 830038797004930260973592641575, 50331690, 393259, 829729311976662171831158308908, 36893488147419824175, 18446744073709813808, 1769521, 393266, 830038797004930260973592641587, 50331702, 393271, 829729311976662171831158308920, 36893488147419824187, 16777276, 720957, 393278, 818897335987279051845956665407, 1769538, 393283, 830038797004930260973592641604, 50331719, 393288, 829729311976662171831158308937, 36893488147419824204, 33554509, 720974, 36893488147419365455, 1769552, 393297, 1966162, 829729311976662171831158308947, 16777302, 720983, 829729311976662171831158374488, 393307, 393308, 818897335987279051845956665437, 11165768552483003529703797556229720834144, 393315, 18446744073709813860, 393317, 818897335987279051845956665446, 11165820906558017858935783437512439300201, 393324, 18446744073709813869, 393326, 818897335987279051845956665455, 11165826103926716734715614954270497243250, 18446744073710272629, 2228342]
-- 175: SwornCourtModel.owes
def cod175 : List Nat := [393216, 18446744073709813761, 11165690475300192551105656120839091060738, 110680464442275201029, 969307050778899500997462261768, 2228234, 393227, 36893488147419365388, 11165706116856732502729129787164939583501, 295147905179353939984, 55340232221128917011, 917524, 131093, 985400271271162698819736633366, 11165519133308050642536334943298928377881, 332041393326789820444, 970854475828006226341102944287, 2228257, 393250, 36893488147419365411, 11165768552483003529703797556229720834084, 393255, 18446744073709813800, 36893488147419365417, 11165820906558017858935783437512439300138, 73786976294838665261, 393263, 18446744073709813808, 36893488147419365425, 11165826103926716734715614954270497243186, 92233720368548216885, 55340232221128917047, 645636042579852197944, 73786976294838468667, 793209995169512030269, 55340232221128917056, 16777281, 737869762948400021570, 92233720368548020293, 793209995169512030279, 73786976294838468682, 92233720368548020300, 18446744073710272590, 2228303]
-- 176: SwornCourtModel.bound
def cod176 : List Nat := [18446744073709813760, 917505, 1124359040680946634678807494658, 1124668525690767979796186202117, 11165519133308050642536334943298928377864, 147573952589694304267, 970854475828006226341102944270, 2228240, 393233, 830348282033198350116026974226, 36893488147419562005, 393238, 18446744073709813783, 830348282033198350116027039768, 36893488147419365403, 2228252]
-- 177: SwornCourtModel.bits
def cod177 : List Nat := [0, 18446744073710010369, 2, 36893488147419561987, 36893488147419365380, 520093701, 313594649253113888775, 18446744073709813770, 262155, 36893488147419365388, 129127208515967582221, 16777230, 55340232221129375759, 720912, 18446744073710010385, 36893488147436535826, 73786976294839517205, 18446744073709813784, 2228249]
-- 178: SwornCourtModel.findCallable
def cod178 : List Nat := [393216, 835609527513755865537410629633, 18446744073709813764, 1638405, 36893488147419561990, 393223, 835919012542023954679844962312, 18446744073709813771, 12, 1769485, 14, 55340232221129113615, 55340232221128917008, 393233, 819206821015547140988390998034, 1069911156275205505045, 393240, 835919012542023954679844962329, 18446744073709813788, 1638429, 167772190, 1069911156275205505056, 393251, 55340232221128917028, 36893488147419365413, 11165799741767037125353436387113439658022, 1033017668127752781865, 393260, 55340232221128917037, 36893488147419365422, 393263, 818897335987279051845956665392, 393267, 818897335987279051845956665396, 11165778947220401281318800821966898266167, 1033017668127752781882, 393277, 836228497570292043822279295038, 167772225, 18446744073709813827, 36893488147419824196, 393285, 835919012542023954679844962374, 18446744073709813833, 1638474, 720971, 55340232221128917068, 1769549, 393294, 835919012542023954679844962383, 18446744073709813842, 2031699, 1638484, 16777301, 720982, 1769559, 55340232221146087512, 221360928884515930203, 393310, 36893488147419365471, 11165815683830117278376490245371944304736, 55340232221129113699, 100, 73786976294838665317, 73786976294838468711, 17179869289, 2877692075498741563500, 111, 92233720368548216944, 16777216114, 110680464442257768565, 119, 129127208515967320184, 129127208515967123578, 393340, 835919012542023954679844962429, 18446744073709813888, 1638529, 2305843009213745463426, 393349, 16777350, 393351, 393352, 836228497570292043822279295113, 167772300, 18446744073709813902, 36893488147419824271, 129127208515967123600, 721042, 1638547, 393364, 818897335987279051845956665493, 11165695690420332620236644833586900697240, 393371, 826634461693981280406814982300, 36893488147419365535, 1638560, 11165758143798044840562469798641047765153, 147573952589676871844, 92233720368548020390, 73786976294838468776, 129127208515967123626, 129127208515967582380, 16777389, 55340232221129375918, 147573952589676675247, 36893488147419824305, 721074, 92233720368548217011, 73786976294838468789, 129127208515967123639, 129127208515967582393, 16777402, 55340232221129375931, 16777404, 2232056032918873702589, 147573952589676675264, 110680464442257572034, 2232056032918907257028, 147573952589676675271, 2250502776992566608073, 110680464442257572044, 110680464442257768654, 129127208515984294096, 1346612317380798578899, 393430, 836537982598560132964713627863, 17179869402, 18446744073709813981, 36893488147419824350, 73786976294838468831, 721121, 73786976294838468834, 16777444, 393445, 835919012542023954679844962534, 18446744073709813993, 1638634, 110680464442258030827, 2803905099203903357164, 92233720368548020463, 55340232221128917233, 2803905099203886579954, 73786976294838468853, 2767011611056433856759, 92233720368548020474, 110680464442257572092, 18446744073710272766, 55340232221128917247, 2803905099203903357184, 16777475, 2822351843277562708228, 263, 1835272, 73786976294855639305, 1180591620717412614412, 2162959]
-- 179: SwornCourtModel.call
def cod179 : List Nat := [0, 73786976294838665217, 73786976294838468611, 393221, 835919012542023954679844962310, 18446744073709813769, 1638410, 627189298506176266251, 36893488147419365390, 17179869199, 627189298506176266258, 393237, 837466437683364400392016625686, 393241, 836228497570292043822279295002, 167772189, 18446744073709813791, 36893488147419824160, 73786976294838468641, 720931, 1638436, 2031653, 1638438, 36893488147419365415, 73786976294838468648, 129127208515967582250, 16777259, 55340232221129375788, 55340232221128917037, 36893488147419824174, 720943, 1769520, 73786976294855639089, 36893488147420414004, 2162743]
-- 180: SwornCourtModel.isWithin
def cod180 : List Nat := [16777216, 55340232221129113601, 2, 73786976294838665219, 73786976294838468613, 393223, 835919012542023954679844962312, 18446744073709813771, 1638412, 774763251095852679181, 393232, 836228497570292043822279294993, 167772180, 18446744073709813782, 36893488147419824151, 73786976294838468632, 720922, 1638427, 92233720368548216860, 55340232221128917022, 700976274800964075551, 36893488147419365410, 73786976294838468643, 129127208515967582245, 16777254, 55340232221129375783, 664082786653544972328, 393259, 837466437683364400392016625708, 92233720368548020271, 1638449, 393266, 837775922711632489534450958387, 92233720368548020278, 1638456, 700976274801014472761, 16777276, 719423018874673823805, 64, 55340232221129113665, 73786976294855639106, 73786976294839517253, 55340232221128917064, 2228297]
-- 181: SwornCourtModel.compare
def cod181 : List Nat := [0, 36893488147419561985, 2, 55340232221129113603, 4, 73786976294838665221, 73786976294838468615, 18446744073709813769, 719423018874740801546, 36893488147419365389, 393230, 836847467626828222107147960335, 73786976294838468626, 1638420, 17179869205, 332041393326823440408, 16777243, 350488137400482791452, 31, 720928, 36893488147419562017, 55340232221128917026, 393251, 836847467626828222107147960356, 73786976294838468647, 1638441, 17179869226, 627189298506176266285, 393264, 836847467626828222107147960369, 73786976294838468660, 1638454, 11165519785039534454857525189782433824823, 645636042579835617338, 61, 720958, 55340232221129113663, 73786976294855639104, 110680464442258620483, 36893488147419365446, 393287, 838704377796436756961753956424, 940783947759255421003, 36893488147419365454, 393295, 838704377796436756961753956432, 1420399293675653431379, 55340232221128917078, 393303, 839013862824704846104188289112, 1420399293675686985819, 393310, 36893488147419365471, 838704377796436756961754021984, 393315, 55340232221128917092, 839013862824704846104188354661, 104, 73786976294838665321, 73786976294838468715, 83886189, 1420399293675686985838, 393329, 837156952655096311249582293106, 73786976294838468725, 73786976294838468727, 18446744073709813881, 1346612317380865556602, 393341, 836847467626828222107147960446, 73786976294838468737, 1638531, 1365059061454508130436, 17179869319, 1769610, 73786976294855639179, 1088357900348864856206, 2162833]
-- 182: SwornCourtModel.seek
def cod182 : List Nat := [393216, 1, 838085407739900578676885356546, 393221, 6, 838394892768168667819319689223, 393226, 11, 838704377796436756961754021900, 393231, 16, 839013862824704846104188354577, 20, 18446744073710010389, 18446744073709813782, 393239, 819206821015547140988390998040, 682529530727304921115, 393246, 837466437683364400392016625695, 18446744073709813794, 35, 1769508, 393253, 837775922711632489534450958374, 18446744073709813801, 393258, 821063731185155675842996994091, 18446744073709813806, 1638447, 393264, 18446744073709813809, 11165804939135736001114821159797788049458, 18446744073710272565, 1769526, 18446744073726984247, 258254417031935033402, 61, 18446744073710010430, 18446744073709813823, 83886144, 903890459611819540545, 393284, 837156952655096311249582293061, 18446744073709813832, 17179869257, 1769548, 18446744073726984269, 719423018874673823824, 83, 18446744073710010452, 393301, 836847467626828222107147960406, 89, 18446744073726328922, 1769563, 18446744073709813852, 2803905099203886514269, 393312, 838394892768168667819319623777, 2803905099203869737060, 393319, 836847467626828222107147960424, 18446744073709813867, 1638508, 1365059061454541488237, 393328, 18446744073709813873, 393330, 836847467626828222107147960435, 18446744073709813878, 1638519, 18446744073726328952, 11165846914956833686900250456988747890809, 393340, 836847467626828222107147960445, 18446744073709813888, 1638529, 16777346, 721027, 36893488147419562116, 36893488147419365509, 17179869318, 1844674407371006673033, 393356, 836537982598560132964713627789, 17179869328, 18446744073709813907, 36893488147419824276, 36893488147419365525, 721046, 1704087, 1807780919223537172632, 393371, 18446744073709813916, 36893488147419365533, 11165852112325532562661635229673096282270, 1844674407370973053089, 36893488147436535972, 1494186269970474991783, 393386, 836847467626828222107147960491, 18446744073709813934, 36893488147419365551, 1769648, 36893488147419365553, 17179869362, 2029141848108135743669, 309485028268089142451765432, 2785458355130143604923, 36893488147419365566, 17179869375, 2250502776992616808642, 393413, 838085407739900578676885291206, 393417, 830348282033198350116026974410, 2250502776992583254221, 393424, 16777425, 838394892768168667819319689426, 2785458355130143604949, 36893488147419365592, 17179869401, 2471863705877131428060, 393439, 1966304, 838085407739900578676885291233, 16777444, 721125, 838085407739900578676885356774, 393449, 18446744073709813994, 11165857309694231438423020002357444673771, 393454, 18446744073709813999, 36893488147419365616, 16777457, 11165846914956833686900250456988747890930, 18446744073709814005, 16777462, 721143, 393464, 835300042485487776394976297209, 2785458355130193805564, 18446744073726984447, 393474, 836847467626828222107147960579, 18446744073709814022, 18446744073726329095, 1769736, 1033017668127736201481, 2162956]
-- 183: SwornCourtModel.hold
def cod183 : List Nat := [18446744073709813760, 166020696663470964737, 18446744073709813764, 393221, 825396521580908923837077651462, 129127208515967582217, 166020696663387078666, 969307050778899500997462261773, 2228239, 18446744073709813776, 276701161105728274449, 18446744073709813780, 11165519785039534454857525189782433824789, 83886104, 313594649253147443225, 970854475828006226341102944284, 2228254, 393247, 393248, 818897335987279051845956665377, 11165768552483003529703797556229720834084, 393255, 40, 835300042485487776394976362537, 44, 36893488147419562029, 36893488147419365422, 393263, 825396521580908923837077651504, 1069911156275205505075, 18446744073709813814, 36893488147419365431, 129127208515967582264, 16777273, 55340232221129375802, 16777275, 1033017668127752847420, 393279, 833752617344147330682804633664, 36893488147419365443, 1638468, 811656739243221385285, 975187265965505057303266656328, 2228298, 393291, 835609527513755865537410629708, 393295, 835300042485487776394976297040, 36893488147419365459, 1769556, 393301, 1966166, 835300042485487776394976297047, 16777306, 720987, 835300042485487776394976362588, 36893488147436535903, 479615345916449652834, 101, 36893488147419562086, 36893488147419365479, 393320, 835300042485487776394976297065, 1272825341086010572908, 393327, 36893488147419365488, 11165836520219435935303693935325229678705, 36893488147436535924, 1106804644422574407799, 393338, 11165841717588134811065078708009628401787, 126, 2228351]
-- 184: SwornCourtModel.session
def cod184 : List Nat := [18446744073709813760, 166020696663470964737, 18446744073709813764, 393221, 825396521580908923837077651462, 129127208515967582217, 166020696663387078666, 969307050778899500997462261773, 2228239, 36893488147419365392, 917521, 131090, 970235505789916790452239138835, 11165519133308050642536334943298928377878, 313594649253080268825, 970854475828006226341102944284, 2228254, 393247, 18446744073709813792, 11165831319046856803809710178870988439585, 55340232221129113636, 55340232221128917029, 461168601842790236198, 55340232221128917033, 885443715538059788330, 36893488147419365421, 553402322211304439854, 393265, 838704377796436756961753956402, 885443715538059788341, 36893488147419365432, 16777273, 664082786653561815098, 393277, 839013862824704846104188289086, 885443715538059788353, 36893488147419365444, 33554501, 774763251095819124806, 393289, 838085407739900578676885291082, 885443715538059788365, 393296, 838394892768168667819319623761, 866996971464350040148, 16777303, 885443715538059788376, 91, 2228316]
-- 185: SwornCourtModel.called
def cod185 : List Nat := [18446744073709813760, 129127208516051861505, 18446744073709813764, 393221, 825396521580908923837077651462, 129127208515967582217, 202914184810822959114, 393229, 36893488147419365390, 11165763355114304653923966039471058911247, 239807672958242062354, 969307050778899500997462261781, 2228247, 18446744073709813784, 461168601842823790617, 18446744073709813788, 11165519785039534454857525189782433824797, 83886112, 461168601842807078945, 18446744073709813796, 36893488147419365413, 129127208515967582246, 16777255, 55340232221129375784, 498062089990175785001, 970854475828006226341102944300, 2228270, 393263, 18446744073709813808, 11165831319046856803809710178870988439601, 55340232221129113652, 55340232221128917045, 645636042579885752374, 55340232221128917049, 2228282, 59, 73786976294838665276, 62, 92233720368548216895, 92233720368548020289, 393283, 835300042485487776394976297028, 1807780919223587569735, 74, 110680464442257768523, 110680464442257571917, 393295, 835919012542023954679844962384, 92233720368548020307, 1638485, 1770887431076168466518, 393305, 835609527513755865537410629722, 92233720368548020317, 1638495, 36893488147419365472, 1383505805528234328161, 393316, 837156952655096311249582293093, 92233720368548020328, 1638506, 17179869291, 1383505805528267882606, 393329, 837156952655096311249582293106, 92233720368548020341, 1638519, 110680464442257571960, 129127208515967582330, 16777339, 55340232221129375868, 16777341, 1383505805528234328190, 16777345, 1401952549601927233666, 133, 129127208515967320198, 73786976294838468744, 129127208515967123594, 1678653710707570311308, 16777359, 393360, 836228497570292043822279295121, 167772308, 92233720368548020374, 36893488147419824280, 110680464442257571993, 721051, 1638556, 110680464442258030749, 1697100454781280059550, 161, 73786976294838927522, 73786976294838665379, 110680464442274742437, 830103483316931133608, 92233720368565190827, 719423018874673823918, 73786976294838468785, 2228403]
-- 186: SwornCourtModel.lacks
def cod186 : List Nat := [393216, 18446744073709813761, 11165763355114304653923966039471058911234, 110680464442275201029, 969307050778899500997462261768, 2228234, 393227, 393228, 818897335987279051845956665357, 11165768552483003529703797556229720834064, 393235, 833752617344147330682804633620, 18446744073709813783, 1638424, 313594649253063491609, 975187265965505057303266656284, 2228254, 393247, 18446744073709813792, 11165815683830117278376490245371944304673, 36893488147419562020, 37, 55340232221129113638, 55340232221128917031, 393256, 819206821015547140988390998057, 1217485108864881917996, 393263, 55340232221128917040, 18446744073709813809, 11165799741767037125353436387113439658034, 793209995169528610869, 393272, 55340232221128917049, 18446744073709813818, 393275, 818897335987279051845956665404, 393279, 818897335987279051845956665408, 11165778947220401281318800821966898266179, 793209995169528610886, 16777289, 811656739243221581898, 77, 73786976294838665294, 36893488147419365456, 73786976294838468689, 1125251388496283762771, 393302, 16777303, 393304, 55340232221128917081, 393306, 818897335987279051845956665435, 11165695690420332620236644833586900697182, 393313, 826634461693981280406814982242, 18446744073709813861, 1638502, 11165758143798044840562469798641047765095, 1143698132569993511018, 109, 18446744073710272622, 36893488147419562095, 55340232221146087536, 424275113695320998003, 36893488147419365494, 1291272085159753613431, 36893488147419365498, 1309718829233379475579, 126, 2228351]
-- 187: SwornCourtModel.stoodFor
def cod187 : List Nat := [0, 55340232221129113601, 2, 73786976294838665219, 73786976294838468613, 393223, 827562916778785547834117980168, 571849066285047611403, 55340232221128917006, 393231, 827872401807053636976552312848, 73786976294838468627, 1638421, 18446744073709813782, 479615345916466298903, 393242, 826015491637445102121946316827, 393246, 828181886835321726118986645535, 73786976294838468642, 1638436, 1638437, 36893488147419365414, 479615345916466298919, 16777258, 498062089990159204395, 46, 720943, 55340232221129113648, 73786976294855639089, 73786976294839517236, 55340232221128917047, 2228280]
-- 188: SwornCourtModel.stood
def cod188 : List Nat := [393216, 18446744073709813761, 11165690475300192551105656120839091060738, 147573952589677527045, 393224, 36893488147419365385, 11165690475300192551105656120839091060746, 184467440737113407501, 969307050778899500997462261776, 2228242, 55340232221128917011, 917524, 131093, 16908310, 11165519133308050642536334943298928377879, 332041393326789820442, 970854475828006226341102944285, 2228255, 55340232221128917024, 461168601842756681761, 393252, 18446744073709813797, 36893488147419365414, 11165862522278451337077907221974431891495, 627189298506126065706, 393261, 18446744073709813806, 36893488147419365423, 11165862522278451337077907221974431891504, 393267, 36893488147419365428, 18446744073709813813, 11165862522278451337077907221974431891510, 18446744073710272569, 2228282]
-- 189: SwornCourtModel.ring
def cod189 : List Nat := [393216, 18446744073709813761, 11165690475300192551105656120839091060738, 110680464442275201029, 969307050778899500997462261768, 2228234, 11, 55340232221129113612, 55340232221128917005, 393230, 819206821015547140988390998031, 442721857769080750098, 393237, 839323347852972935246622621718, 55340232221128917017, 55340232221128917018, 18446744073709813787, 368934881474208989212, 31, 387381625547901894688, 1660944419, 1769509, 55340232221146087462, 147573952589677723689, 44, 55340232221129113645, 55340232221128917038, 393263, 819206821015547140988390998064, 1623313478486492053555, 54, 73786976294838665271, 73786976294838468665, 393275, 819206821015547140988390998076, 1586419990339072950335, 66, 92233720368548216899, 92233720368548020293, 393287, 819206821015547140988390998088, 1549526502191653847115, 73786976294838468686, 18446744073709813840, 1162144876643702931537, 393300, 839323347852972935246622621781, 92233720368548020312, 1638490, 16777307, 720988, 393309, 839323347852972935246622621790, 73786976294838468705, 1638499, 1162144876643753263204, 393319, 73786976294838468712, 92233720368548020330, 11165862522278451337077907221974431891564, 1162144876643786752111, 16777330, 1180591620717412614259, 118, 110680464442257768567, 393337, 839323347852972935246622621818, 73786976294838468733, 110680464442257571967, 1420399293675636588673, 393348, 839323347852972935246622621829, 92233720368548020360, 1638538, 16777355, 721036, 1494186269970474991757, 393360, 839323347852972935246622621841, 73786976294838468756, 1638550, 1769623, 92233720368565190808, 700976274800964272283, 73786976294855639198, 590295810358706962593, 55340232221146087588, 479615345916449652903, 1660944554, 55340232221129113772, 173, 73786976294838665390, 73786976294838468784, 393394, 819206821015547140988390998195, 2195162544771488153782, 73786976294838468793, 18446744073709813947, 2121375568476599615676, 393407, 18446744073709813952, 73786976294838468801, 11165862522278451337077907221974431891651, 2121375568476683436230, 393417, 839323347852972935246622621898, 73786976294838468813, 1638607, 55340232221128917200, 2121375568476649947345, 393428, 839323347852972935246622621909, 73786976294838468824, 1638618, 2139822312550309298395, 55340232221128917214, 55340232221129113823, 73786976294855639264, 1697100454781280059619, 55340232221128917222, 1660944615, 2379629985508550115561, 36893488147419365612, 18446744073726329069, 2342736497361131012334, 241, 2361183241434823917810, 18446744073726329077, 2228470, 36893488147419365623, 18446744073726329080, 2508757194024516976889, 55340232221128917244, 16777469, 721150, 2228479, 36893488147419365632, 917761, 131330, 55340232221128917251, 917764, 11165519133308050642536334943298928378117, 2674777890687902875912, 18446744073726329099, 2228492, 18446744073709814029, 73786976294838665486, 272, 92233720368548217105, 92233720368548020499, 36893488147419365653, 3449541141783737663766, 18446744073726329113, 110680464442257768730, 393500, 819206821015547140988390998301, 16777504, 18446744073710272801, 129127208515967320354, 129127208515967123748, 3375754165488882614566, 129127208515967123753, 18446744073709814059, 3301967189194010919212, 393519, 839323347852972935246622622000, 129127208515967123763, 1638709, 55340232221128917302, 92233720368548020535, 18446744073710272825, 3301967189194027696442, 393533, 73786976294838468926, 129127208515967123776, 11165862522278451337077907221974431891778, 3301967189194094739781, 129127208515967123784, 3320413933267720601930, 110680464442257572173, 110680464442257768783, 309485138948553584709075281, 2933032307719820018004, 110680464442257572183, 73786976294838665561, 92233720368565191003, 2748564866982724501854, 73786976294838468961, 2228579]
-- 190: SwornCourtModel.leftFor
def cod190 : List Nat := [0, 55340232221129113601, 2, 73786976294838665219, 73786976294838468613, 393223, 819206821015547140988390998024, 793209995169562230795, 73786976294838468622, 18446744073709813776, 442721857769030418449, 393236, 73786976294838468629, 18446744073726328855, 18446744073709813784, 18446744073726328857, 36893488147419365402, 36893488147419365403, 393244, 818897335987279051845956665373, 11165784144589100157153972570946051309600, 442721857769047130147, 16777254, 461168601842740101159, 42, 92233720368548216875, 55340232221128917037, 92233720368548020270, 700976274800964075568, 393267, 16777268, 393269, 73786976294838468662, 36893488147419365432, 11165695690420332620236644833586900697145, 36893488147419365436, 11165758143798044840562469798641047765053, 719423018874673823808, 67, 720964, 55340232221129113669, 73786976294855639110, 73786976294839517257, 55340232221128917068, 2228301]
-- 191: SwornCourtModel.left
def cod191 : List Nat := [393216, 18446744073709813761, 11165690475300192551105656120839091060738, 110680464442275201029, 969307050778899500997462261768, 2228234, 36893488147419365387, 917516, 131085, 970235505789916790452239138830, 11165519133308050642536334943298928377873, 295147905179353939988, 393239, 55340232221128917016, 11165706116856732502729129787164939583513, 332041393326789820444, 970854475828006226341102944287, 2228257, 393250, 393251, 818897335987279051845956665380, 11165768552483003529703797556229720834087, 393258, 18446744073709813803, 55340232221128917036, 11165867729790830894762144711255947280429, 2228272]
-- 192: SwornCourtModel.forsaken
def cod192 : List Nat := [18446744073709813760, 11165519167542972943926811612418199126017, 239807672958225285124, 36893488147419365383, 917512, 131081, 970235505789916790452239138826, 11165519133308050642536334943298928377869, 239807672958225285136, 393235, 55340232221128917012, 11165706116856732502729129787164939583509, 276701161105661165592, 970854475828006226341102944283, 2228253, 393246, 393247, 818897335987279051845956665376, 11165768552483003529703797556229720834083, 38, 73786976294838665255, 41, 92233720368548216874, 92233720368548020268, 393262, 819206821015547140988390998063, 1401952549601977434162, 393269, 819825791072083319273259663414, 92233720368548020281, 1638459, 18446744073709813820, 959230691832914640957, 393280, 819516306043815230130825330753, 92233720368548020292, 1638470, 55340232221128917063, 959230691832964972616, 393291, 821373216213423764985431326796, 92233720368548020303, 1638481, 922337203685512249426, 393301, 821373216213423764985431326806, 92233720368548020313, 1638491, 55340232221128917084, 959230691832981749853, 16777312, 977677435906607546465, 100, 110680464442257768549, 73786976294838468711, 110680464442257571945, 1309718829233379278955, 393326, 92233720368548020335, 55340232221128917105, 11165867729790830894762144711255947280498, 393333, 118, 36893488147419365495, 55340232221128917112, 11165758143798044840562469798641047765113, 1309718829233429676156, 16777343, 92233720368548020352, 110680464442258030722, 1328165573307089027203, 134, 73786976294838927495, 73786976294838665352, 92233720368565190794, 424275113695320998029, 73786976294838468752, 2228370]
-- 193: SwornCourtModel.count
def cod193 : List Nat := [393216, 393217, 818897335987279051845956665346, 11165768552483003529703797556229720834053, 8, 36893488147419561993, 10, 55340232221129113611, 55340232221128917004, 393229, 822301671298228032412734324750, 534955578137628508177, 36893488147419365396, 393237, 822611156326496121555168657430, 67108889, 55340232221128917018, 36893488147419824155, 50331676, 720925, 1638430, 442721857769080684575, 16777250, 461168601842740101155, 38, 720935, 36893488147419562024, 55340232221146087465, 147573952589677723692, 47, 55340232221129113648, 49, 73786976294838665266, 73786976294838468660, 393270, 819206821015547140988390998071, 1088357900348915056698, 393277, 73786976294838468670, 393280, 818897335987279051845956665409, 11165820906558017858935783437512439300164, 393287, 73786976294838468680, 393290, 818897335987279051845956665419, 11165826103926716734715614954270497243214, 18446744073710272593, 92233720368548216914, 55340232221128917076, 92233720368548020309, 996124179980400787543, 92233720368548020314, 1014570924054026649692, 95, 720992, 55340232221129113697, 73786976294855639138, 608742554432416514149, 104, 73786976294838665321, 107, 92233720368548216940, 92233720368548020334, 393328, 825396521580908923837077651569, 1531079758117944295540, 73786976294838468727, 393337, 833752617344147330682804633722, 92233720368548020349, 1638527, 18446744073709813888, 83886209, 18446744073710272642, 1438846037749362983043, 16777350, 1457292781823055888519, 138, 721035, 73786976294838665356, 92233720368565190798, 1162144876643703062673, 18446744073709813908, 2475882033925632363012096149, 393424, 818897335987279051845956665553, 2228436, 393429, 819206821015547140988390998230, 2228441, 36893488147419365594, 2228443, 393436, 823849096439568478124905988317, 2228448, 393441, 825396521580908923837077651682, 2228453, 73786976294838468838, 2228456, 393449, 829419826948394082688723976426, 2228461, 55340232221128917230, 2228463, 970854475828006226341102944496, 2228466]
-- 194: java/lang/Integer.bitCount
def cod194 : List Nat := [262144, 262145, 16777218, 147573952589677133827, 693865392019479663278966243332, 55340232221129375751, 18446744073710272520, 458761, 262154, 694174877029291400668488204299, 55340232221129375758, 262159, 33554448, 147573952589677133841, 694174877029291400668488204306, 55340232221129375765, 720918, 458775, 262168, 262169, 67108890, 147573952589677133851, 720924, 694484362039102572900409999389, 55340232221129375776, 458785, 262178, 262179, 134217764, 147573952589677133862, 720935, 458792, 262185, 262186, 268435499, 147573952589677133869, 720942, 458799, 262192, 1056964657, 55340232221129375795, 2228276]
-- 195: java/lang/String.length
def cod195 : List Nat := [393216, 1146022991368440789487866937345, 1900548, 393221, 11195378161032398624828218408970404298758, 129127208515967582217, 2228234]
-- 196: java/lang/String.coder
def cod196 : List Nat := [512816661273968778876980559872, 92233720368548872195, 393222, 1146332476378262134556608495623, 110680464442258620426, 16777229, 2228238]
-- 197: java/lang/String.charAt
def cod197 : List Nat := [393216, 11195430096680584825485011179588009918465, 147573952589677527044, 393223, 1146022991368440789487866937352, 18446744073709813771, 11208052575415523332420618546499782311948, 2228239, 393232, 1146022991368440789487866937361, 18446744073709813780, 6488085, 2228248]
-- 198: java/lang/String.isLatin1
def cod198 : List Nat := [512816661273968778876980559872, 129127208515967975427, 393222, 1146332476378262134556608495623, 129127208515984752650, 16777229, 147573952589677723662, 17, 2228242]
-- 199: java/lang/StringLatin1.charAt
def cod199 : List Nat := [18446744073709813760, 393217, 1900546, 11186784931286844934168309873231597535235, 393222, 18446744073709813767, 1703944, 4278190089, 55340232221129375756, 1048589, 2228238]
-- 200: java/lang/String.checkIndex
def cod200 : List Nat := [262144, 18446744073709813761, 517768421431110299976593833986, 11229320233491762668309932176061434822661, 2097160, 2162697]
-- 201: jdk/internal/util/Preconditions.checkIndex
def cod201 : List Nat := [262144, 92233720368582426625, 262148, 18446744073709813765, 184467440737130250246, 36893488147419496457, 262154, 18446744073709813771, 6488076, 6488079, 262160, 2228241]
def codg0 : List (List Nat) := [cod0, cod1, cod2, cod3, cod4, cod5, cod6, cod7, cod8, cod9, cod10, cod11, cod12, cod13, cod14, cod15, cod16, cod17, cod18, cod19, cod20, cod21, cod22, cod23]
def codg1 : List (List Nat) := [cod24, cod25, cod26, cod27, cod28, cod29, cod30, cod31, cod32, cod33, cod34, cod35, cod36, cod37, cod38, cod39, cod40, cod41, cod42, cod43, cod44, cod45, cod46, cod47]
def codg2 : List (List Nat) := [cod48, cod49, cod50, cod51, cod52, cod53, cod54, cod55, cod56, cod57, cod58, cod59, cod60, cod61, cod62, cod63, cod64, cod65, cod66, cod67, cod68, cod69, cod70, cod71]
def codg3 : List (List Nat) := [cod72, cod73, cod74, cod75, cod76, cod77, cod78, cod79, cod80, cod81, cod82, cod83, cod84, cod85, cod86, cod87, cod88, cod89, cod90, cod91, cod92, cod93, cod94, cod95]
def codg4 : List (List Nat) := [cod96, cod97, cod98, cod99, cod100, cod101, cod102, cod103, cod104, cod105, cod106, cod107, cod108, cod109, cod110, cod111, cod112, cod113, cod114, cod115, cod116, cod117, cod118, cod119]
def codg5 : List (List Nat) := [cod120, cod121, cod122, cod123, cod124, cod125, cod126, cod127, cod128, cod129, cod130, cod131, cod132, cod133, cod134, cod135, cod136, cod137, cod138, cod139, cod140, cod141, cod142, cod143]
def codg6 : List (List Nat) := [cod144, cod145, cod146, cod147, cod148, cod149, cod150, cod151, cod152, cod153, cod154, cod155, cod156, cod157, cod158, cod159, cod160, cod161, cod162, cod163, cod164, cod165, cod166, cod167]
def codg7 : List (List Nat) := [cod168, cod169, cod170, cod171, cod172, cod173, cod174, cod175, cod176, cod177, cod178, cod179, cod180, cod181, cod182, cod183, cod184, cod185, cod186, cod187, cod188, cod189, cod190, cod191]
def codg8 : List (List Nat) := [cod192, cod193, cod194, cod195, cod196, cod197, cod198, cod199, cod200, cod201]
def ctab : List (List Nat) := codg0 ++ (codg1 ++ (codg2 ++ (codg3 ++ (codg4 ++ (codg5 ++ (codg6 ++ (codg7 ++ (codg8))))))))
def cod (k : Nat) : List Nat := ctab.getD k []
def swt : List (List Nat) := [[22, 89, 116, 133, 160, 187, 204, 241, 278, 329, 336, 343, 380, 427, 474, 501, 518, 535, 562, 599, 626, 653, 690, 707, 734, 761, 778, 815, 842, 879, 916], [2, 4, 6, 8, 10, 12, 14, 16, 18, 20], [15, 21, 27, 33, 39, 45, 51], [30, 36, 42, 48, 53, 59, 65, 71], [37, 41, 45], [14, 17, 21, 25, 29, 40, 40, 40, 40, 33, 37], [14, 19, 24, 29, 34, 39, 44], [31, 36, 41, 46, 50, 55, 60, 65], [85, 88, 91, 93, 96, 99, 99, 99, 99, 101, 104]]
/-- the String constants: class, entry, place of the word, text, its bytes -/
def strT : List (String × Nat × Nat × String) := [("SwornCourt$LawReader", 54, 1644, "from"), ("SwornCourt$LawReader", 107, 1724, "need"), ("SwornCourt$LawReader", 109, 1725, "count"), ("SwornCourt$LawReader", 111, 1726, "kin"), ("SwornCourt$LawReader", 113, 1727, "half"), ("SwornCourt$LawReader", 115, 1728, "feud"), ("SwornCourt$LawReader", 117, 1729, "false"), ("SwornCourt$LawReader", 119, 1730, "lost"), ("SwornCourt$LawReader", 121, 1731, "age"), ("SwornCourt$LawReader", 123, 1732, "fine"), ("SwornCourt$LawReader", 125, 1733, "short"), ("SwornCourt$LawReader", 127, 1734, "oath")]
def tbls : List (List Jvm.Cond) := [k2_sels lw_privs, tables_1_1, tables_1_2, tables_1_3, tables_1_4, tables_1_5, tables_1_6, tables_1_7]
theorem tbls_in : ∀ l ∈ tbls, ∀ w ∈ l, w ∈ lw_tbl := by
  intro l hl w hw
  simp only [tbls, List.mem_cons, List.not_mem_nil, or_false] at hl
  simp only [lw_tbl, tables_1, List.mem_append]
  rcases hl with rfl | rfl | rfl | rfl | rfl | rfl | rfl | rfl <;> simp [hw]
def strB : List (List Int32) := [[102, 114, 111, 109], [110, 101, 101, 100], [99, 111, 117, 110, 116], [107, 105, 110], [104, 97, 108, 102], [102, 101, 117, 100], [102, 97, 108, 115, 101], [108, 111, 115, 116], [97, 103, 101], [102, 105, 110, 101], [115, 104, 111, 114, 116], [111, 97, 116, 104]]
end
section
/-! the shape of the world: the cells in the order in which the constructors make them -/
abbrev SC : Type := (Nat × Nat) ⊕ (Nat × List Nat)
def SH : List SC := [
  .inr (10, [4, 15, 20, 22, 25, 30, 45, 51, 55, 64, 0]), -- 0 x
  .inr (7, [5, 6, 7, 8, 9, 10, 11, 12, 13, 14, 0, 0]), -- 1 x.people
  .inl (0, 30), -- 2 x.people.born
  .inl (0, 30), -- 3 x.people.house
  .inl (0, 30), -- 4 x.people.firstRank
  .inl (0, 30), -- 5 x.people.father
  .inl (0, 30), -- 6 x.people.mother
  .inl (0, 30), -- 7 x.people.will
  .inl (0, 30), -- 8 x.people.death
  .inl (0, 60), -- 9 x.people.rankedWho
  .inl (0, 60), -- 10 x.people.rankedAs
  .inl (0, 60), -- 11 x.people.rankedOn
  .inr (2, [16, 17, 18, 19, 0]), -- 12 x.feuds
  .inl (0, 20), -- 13 x.feuds.oneHouse
  .inl (0, 20), -- 14 x.feuds.otherHouse
  .inl (0, 20), -- 15 x.feuds.begun
  .inl (0, 20), -- 16 x.feuds.ended
  .inr (4, [21, 0, 0, 2]), -- 17 x.kinship
  .inl (0, 900), -- 18 x.kinship.steps
  .inr (6, [23, 24, 0]), -- 19 x.laws
  .inl (0, 9), -- 20 x.laws.from
  .inl (0, 180), -- 21 x.laws.values
  .inr (5, [26, 27, 0, 0, 0, 0]), -- 22 x.reader
  .inl (0, 240), -- 23 x.reader.text
  .inr (6, [28, 29, 0]), -- 24 x.reader.draft
  .inl (0, 9), -- 25 x.reader.draft.from
  .inl (0, 180), -- 26 x.reader.draft.values
  .inr (1, [31, 32, 33, 34, 35, 36, 37, 38, 39, 40, 41, 42, 43, 44, 0, 0, 0]), -- 27 x.docket
  .inl (0, 20), -- 28 x.docket.kind
  .inl (0, 20), -- 29 x.docket.accused
  .inl (0, 20), -- 30 x.docket.accuser
  .inl (0, 20), -- 31 x.docket.deed
  .inl (0, 20), -- 32 x.docket.toldOn
  .inl (0, 20), -- 33 x.docket.lawRow
  .inl (0, 20), -- 34 x.docket.foundOn
  .inl (0, 20), -- 35 x.docket.metBy
  .inl (0, 100), -- 36 x.docket.oathWho
  .inl (0, 100), -- 37 x.docket.oathFor
  .inl (0, 100), -- 38 x.docket.oathOn
  .inl (0, 100), -- 39 x.docket.oathWeight
  .inl (0, 120), -- 40 x.docket.eventIs
  .inl (0, 120), -- 41 x.docket.eventOn
  .inr (0, [4, 15, 20, 22, 30, 46, 47, 48, 49, 50, 0, 0]), -- 42 x.anew
  .inl (0, 20), -- 43 x.anew.state
  .inl (0, 20), -- 44 x.anew.decidedOn
  .inl (0, 20), -- 45 x.anew.total
  .inl (0, 100), -- 46 x.anew.oathCounts
  .inl (0, 20), -- 47 x.anew.remembered
  .inr (8, [52, 53, 54, 0]), -- 48 x.purse
  .inl (0, 60), -- 49 x.purse.payer
  .inl (0, 60), -- 50 x.purse.paid
  .inl (0, 60), -- 51 x.purse.paidOn
  .inr (3, [4, 30, 45, 56, 57, 58, 59, 60, 61, 62, 63, 0, 0, 0, 0, 2, 0, 0]), -- 52 x.finding
  .inl (0, 5), -- 53 x.finding.charges
  .inl (0, 5), -- 54 x.finding.enoughSize
  .inl (0, 1260), -- 55 x.finding.enough
  .inl (0, 10), -- 56 x.finding.callable
  .inl (0, 10), -- 57 x.finding.weight
  .inl (0, 30), -- 58 x.finding.room
  .inl (0, 5), -- 59 x.finding.way
  .inl (0, 5), -- 60 x.finding.best
  .inr (9, [65, 66, 67, 0]), -- 61 x.rings
  .inl (0, 30), -- 62 x.rings.stoodFor
  .inl (0, 30), -- 63 x.rings.distance
  .inl (0, 30), -- 64 x.rings.row
  .inr (11, [0, 0, 69, 70, 71, 72, 73, 74, 75, 0, 76, 0, 77, 78, 0, 0, 0, 79, 80, 81, 82, 0, 83, 84, 85, 86, 87, 88, 0, 89, 90, 91, 92, 93, 0, 0, 94, 0, 95, 96, 0, 0, 2, 0, 1, 0, 0, 0, 97, 98, 99, 100, 101, 0, 102, 103, 104, 105, 106, 107, 108, 109, 0, 2, 0, 0, 110]), -- 65 m
  .inl (0, 30), -- 66 m.born
  .inl (0, 30), -- 67 m.house
  .inl (0, 30), -- 68 m.firstRank
  .inl (0, 30), -- 69 m.father
  .inl (0, 30), -- 70 m.mother
  .inl (0, 30), -- 71 m.will
  .inl (0, 30), -- 72 m.dead
  .inl (0, 180), -- 73 m.ranks
  .inl (0, 80), -- 74 m.quarrels
  .inl (0, 240), -- 75 m.text
  .inl (0, 8), -- 76 m.partDay
  .inl (0, 160), -- 77 m.says
  .inl (0, 8), -- 78 m.freshDay
  .inl (0, 160), -- 79 m.freshSays
  .inl (0, 20), -- 80 m.kind
  .inl (0, 20), -- 81 m.accused
  .inl (0, 20), -- 82 m.accuser
  .inl (0, 20), -- 83 m.deed
  .inl (0, 20), -- 84 m.toldOn
  .inl (0, 20), -- 85 m.foundOn
  .inl (0, 120), -- 86 m.deedPerson
  .inl (0, 120), -- 87 m.deedCharge
  .inl (0, 120), -- 88 m.deedDay
  .inl (1, 120), -- 89 m.deedMet
  .inl (0, 120), -- 90 m.deedRank
  .inl (0, 180), -- 91 m.paid
  .inl (0, 30), -- 92 m.upOne
  .inl (0, 30), -- 93 m.upTwo
  .inl (0, 20), -- 94 m.states
  .inl (0, 20), -- 95 m.decided
  .inl (0, 20), -- 96 m.total
  .inl (0, 120), -- 97 m.counts
  .inl (0, 20), -- 98 m.before
  .inl (0, 5), -- 99 m.asked
  .inl (0, 5), -- 100 m.callMany
  .inl (0, 50), -- 101 m.callWho
  .inl (1, 5120), -- 102 m.isEnough
  .inl (0, 5), -- 103 m.tried
  .inl (0, 5), -- 104 m.bestSets
  .inl (0, 30), -- 105 m.times
  .inl (0, 30), -- 106 m.most
  .inl (0, 30) -- 107 m.away
  ]
/-- what the cells hold at first, where it is not 0 -/
def IN0 : List (Nat × Nat × Int) := [(21, 0, 12), (21, 1, 12), (21, 2, 12), (21, 3, 12), (21, 4, 1), (21, 5, 1), (21, 6, 1), (21, 7, 1), (21, 8, 2), (21, 10, 1), (21, 14, 10), (21, 15, 10), (21, 16, 10), (21, 17, 10), (22, 5, -1), (26, 0, 12), (26, 1, 12), (26, 2, 12), (26, 3, 12), (26, 4, 1), (26, 5, 1), (26, 6, 1), (26, 7, 1), (26, 8, 2), (26, 10, 1), (26, 14, 10), (26, 15, 10), (26, 16, 10), (26, 17, 10), (52, 13, 1000), (65, 15, -1), (65, 37, 1000)]
end
section
/-! a logic of numbers over the machine: the cells of the world hold whole numbers, a method is a list of instructions -/
abbrev Mm : Type := Nat → Nat → Int
abbrev V : Type := Int ⊕ Int ⊕ (Nat × Nat)
abbrev vI (z : Int) : V := .inl z
abbrev vL (z : Int) : V := .inr (.inl z)
abbrev vR (t i : Nat) : V := .inr (.inr (t, i))
/-- where things lie: the tables' part, the cells, the kinds of arrays, the arrays that nobody writes, the String constants, one value of the JDK's -/
abbrev Gx : Type := va_G × (Nat → Nat) × (Nat → ClassId) × (Nat → Nat) × (Nat → Nat) × Value
/-- the script: how long, what it holds -/
abbrev Xs : Type := Nat × (Nat → Int)
def gro (g : Gx) (j : Nat) : Nat := g.2.2.2.1 j
def gsa (g : Gx) (j : Nat) : Nat := g.2.2.2.2.1 j
def gop (g : Gx) : Value := g.2.2.2.2.2
def gad (g : Gx) (t i : Nat) : Value := match t with
  | 0 => .ref (g.2.1 i)
  | 1 => .ref (gro g i)
  | 2 => .ref (gsa g i)
  | _ => gop g
def cv (g : Gx) : V → Value
  | .inl z => .int (Int32.ofInt z)
  | .inr (.inl z) => .long (Int64.ofInt z)
  | .inr (.inr (t, i)) => gad g t i
def catV : V → Nat
  | .inr (.inl _) => 2
  | _ => 1
def in32 (z : Int) : Prop := -2147483648 ≤ z ∧ z ≤ 2147483647
def in64 (z : Int) : Prop := -9223372036854775808 ≤ z ∧ z ≤ 9223372036854775807
def rV : V → Prop
  | .inl z => in32 z
  | .inr (.inl z) => in64 z
  | _ => True
theorem i32_to {z : Int} (h : in32 z) : (Int32.ofInt z).toInt = z := Int32.toInt_ofInt_of_le (by have := h.1; omega) (by have := h.2; omega)
theorem i64_to {z : Int} (h : in64 z) : (Int64.ofInt z).toInt = z := Int64.toInt_ofInt_of_le (by have := h.1; omega) (by have := h.2; omega)
theorem i32_r (x : Int32) : in32 x.toInt := ⟨by have := x.le_toInt; omega, by have := x.toInt_lt; omega⟩
theorem i64_r (x : Int64) : in64 x.toInt := ⟨by have := x.le_toInt; omega, by have := x.toInt_lt; omega⟩
theorem i32_cl {z : Int} (h : in32 z) : (Int32.ofInt z).toNatClampNeg = z.toNat := by
  show (Int32.ofInt z).toInt.toNat = z.toNat
  rw [i32_to h]
/-- the shape's cells in the machine's words -/
def fvl (g : Gx) (f : Nat) (z : Int) : Value := match f with
  | 0 => .int (Int32.ofInt z)
  | 1 => .long (Int64.ofInt z)
  | 2 => .int (Int32.ofInt z)
  | n + 3 => .ref (g.2.1 n)
def ent (g : Gx) (c : SC) (row : Nat → Int) : va_E := match c with
  | .inl (k, n) => .inl (g.2.2.1 k, n, .inl (fun j => Int32.ofInt (row j)))
  | .inr (ci, fk) => .inr (ci, fk.mapIdx (fun j f => fvl g f (row j)))
def wsOf (g : Gx) (M : Mm) : va_W := SH.mapIdx (fun i c => (g.2.1 i, ent g c (M i)))
def kd (i j : Nat) : Nat := match SH[i]? with
  | some (.inl (k, _)) => if k = 0 then 0 else 2
  | some (.inr (_, fk)) => fk.getD j 9
  | none => 9
def rK (f : Nat) (z : Int) : Prop := match f with
  | 0 => in32 z
  | 1 => in64 z
  | 2 => z = 0 ∨ z = 1
  | _ => True
def okM (M : Mm) : Prop := ∀ i j, rK (kd i j) (M i j)
def up (M : Mm) (i j : Nat) (z : Int) : Mm := fun a b => if a = i ∧ b = j then z else M a b
theorem okM_up {M : Mm} {i j : Nat} {z : Int} (h : okM M) (hz : rK (kd i j) z) : okM (up M i j z) := by
  intro a b
  unfold up
  split
  next q => obtain ⟨rfl, rfl⟩ := q; exact hz
  next => exact h a b
def tysOf (g : Gx) : List (ClassId × FieldType) := [(g.2.2.1 0, .int), (g.2.2.1 1, .boolean)]
/-! what nobody writes: the script, a table, the String constants, three statics -/
def FSL : List Int32 := [0, 4, 8, 9, 10, 11, 12, 13, 14, 18, 19]
def strLen : List Nat := strB.map List.length
def ROk (X : Xs) (g : Gx) (A : Nat → Prop) (s : State) : Prop :=
  (va_T .int (gro g 0) X.1 (fun j => .int (Int32.ofInt (X.2 j))) A s s.heap ∧ X.1 ≤ 2147483647 ∧ ∀ j, in32 (X.2 j)) ∧
  va_T .int (gro g 1) 11 (fun j => .int (FSL.getD j 0)) A s s.heap ∧
  vk_S 12 strLen strB (gsa g) (fun i => gro g (3 + i)) A s s.heap ∧
  (∀ (i : Nat) (x : String × Nat × Nat × String), strT[i]? = some x → vk_R x.1 x.2.1 x.2.2.2 (gsa g i) s) ∧
  va_Z "SwornCourt$Laws" "FIRST_SLOTS" "[I" (.ref (gro g 1)) A s s.heap ∧
  va_Z "java/lang/String" "COMPACT_STRINGS" "Z" (.int 1) A s s.heap ∧
  va_Z "jdk/internal/util/Preconditions" "SIOOBE_FORMATTER" "Ljava/util/function/BiFunction;" (gop g) A s s.heap ∧
  (gop g).category = 1
theorem ROk.to {X : Xs} {g : Gx} {A B : Nat → Prop} {s U : State} (h : ROk X g A s) (hW : s.WarmedH U.vm) (hq : ∀ a : Nat, a < s.heap.size → ¬ A a → U.heap[a]? = s.heap[a]?) (hAB : ∀ q, B q → A q) : ROk X g B U := by
  obtain ⟨⟨h1, h1b, h1c⟩, h2, h3, h4, h5, h6, h7, h8⟩ := h
  have hvm := hW.alike
  exact ⟨⟨((h1.moved hvm).kept hq).narrow hAB, h1b, h1c⟩, ((h2.moved hvm).kept hq).narrow hAB, ((h3.moved hvm).kept hq).narrow hAB, fun i x hx => (h4 i x hx).warm hW, ((h5.moved hvm).kept hq).narrow hAB, ((h6.moved hvm).kept hq).narrow hAB, ((h7.moved hvm).kept hq).narrow hAB, h8⟩
theorem ROk.same {X : Xs} {g : Gx} {A : Nat → Prop} {s U : State} (h : ROk X g A s) (hv : U.vm = s.vm) (hh : U.heap = s.heap) : ROk X g A U := by
  obtain ⟨⟨h1, h1b, h1c⟩, h2, h3, h4, h5, h6, h7, h8⟩ := h
  have hvm : s.vm.Alike U.vm := by rw [hv]; exact Vm.Alike.refl s.vm
  rw [← hh] at h1 h2 h3 h5 h6 h7
  exact ⟨⟨h1.moved hvm, h1b, h1c⟩, h2.moved hvm, h3.moved hvm, fun i x hx => (h4 i x hx).same hv, h5.moved hvm, h6.moved hvm, h7.moved hvm, h8⟩
/-! an instruction is one number: pc, op, a, b, places -/
def iP (w : Nat) : Nat := w % 65536
def iO (w : Nat) : Nat := w / 65536 % 256
def iA (w : Nat) : Nat := w / 16777216 % 1099511627776
def iB (w : Nat) : Nat := w / 18446744073709551616 % 16777216
def iC (w j : Nat) : Nat := w / 2 ^ (88 + 12 * j) % 4096
def iZ (w : Nat) : Int := if iB w = 0 then (iA w : Int) else -(iA w : Int)
/-- beyond the list stands an instruction that is none -/
def wd (k i : Nat) : Nat := (cod k).getD i 6488064
def pcA (k i : Nat) : Nat := iP (wd k i)
def wtb : List Jvm.Cond := lw_tbl.filter goodWord
def wt (i : Nat) : Option Jvm.Cond := match (tbls.getD (i / 512) [])[i % 512]? with
  | some w => if goodWord w = true then some w else none
  | none => none
def ws (k : Nat) : List Jvm.Cond := Jvm.Cond.code (mY k) (mB k) (mN k) (mR k) :: wtb
theorem wt_mem {i : Nat} {w : Jvm.Cond} (h : wt i = some w) : w ∈ wtb := by
  unfold wt at h
  split at h
  next w2 hw =>
    split at h
    next hg =>
      obtain rfl := Option.some.inj h
      refine List.mem_filter.mpr ⟨?_, hg⟩
      have h1 := List.mem_of_getElem? hw
      rw [List.getD_eq_getElem?_getD] at h1
      cases h2 : tbls[i / 512]? with
      | none => rw [h2] at h1; cases h1
      | some l => rw [h2] at h1; exact tbls_in l (List.mem_of_getElem? h2) w2 h1
    next => cases h
  next => cases h
theorem wt_in {k i : Nat} {w : Jvm.Cond} (h : wt i = some w) : w ∈ ws k := List.mem_cons_of_mem _ (wt_mem h)
def Cx (X : Xs) (k : Nat) (p : Program) (s : State) (m : MethodId) (args : Array Value) (c : Code) (g : Gx) (A : Nat → Prop) : Prop :=
  p.tables.exec = Jvm.exec ∧ c.code = mB k ∧ c.maxLocals = mN k ∧ s.vm.findClass (mY k).cls = some m.cls ∧ (∀ w ∈ ws k, w.before args s = true) ∧ va_K g.1 cls (tysOf g) s ∧ ROk X g A s ∧ ∀ q : Nat, s.heap.size ≤ q → A q
def Hold (g : Gx) (A : Nat → Prop) (s : State) (H : Heap) (locs : List Loc) (M : Mm) : Prop :=
  va_P g.1 cls (wsOf g M) H ∧ va_D A (wsOf g M) ∧ va_S A s.heap H locs ∧ okM M
def retI : Option V → Instr
  | none => .return_
  | some (.inl _) => .ireturn
  | some (.inr (.inl _)) => .lreturn
  | some (.inr (.inr _)) => .areturn
/-- an answer of a method: of its type, and as narrow as that -/
def retOK (r : Option FieldType) (v : Option V) : Prop := match r, v with
  | none, none => True
  | some .int, some (.inl _) => True
  | some .boolean, some (.inl z) => z = 0 ∨ z = 1
  | some .char, some (.inl z) => 0 ≤ z ∧ z < 65536
  | some .byte, some (.inl z) => z = 0 ∨ z = 1
  | some .long, some (.inr (.inl _)) => True
  | some (.object _), some (.inr (.inr (2, _))) => True
  | _, _ => False
def mapL (g : Gx) (L : List (Nat × V)) : List (Nat × Value) := L.map (fun q => (q.1, cv g q.2))
/-- THE JUDGEMENT: method k at its i-th instruction, locals L, stack S, cells M, comes to its end with Q of the answer and the cells; d calls deep at most -/
def Wp (X : Xs) (d k i : Nat) (L : List (Nat × V)) (S : List V) (M : Mm) (Q : Option V → Mm → Prop) : Prop :=
  ∀ (p : Program) (l : Launch) (e : Env) (R : Room) (s : State) (m : MethodId) (args : Array Value) (below : List Frame) (meth : Method) (c : Code) (g : Gx) (A : Nat → Prop) (cells slots : Nat) (QQ : State → Prop),
    Cx X k p s m args c g A → (d ≤ R.frames ∧ 64 * d ≤ R.locals ∧ cells ≤ R.cells ∧ slots ≤ R.slots) →
    (∀ (i' : Nat) (ls' : Array Slot) (v : Option V) (M' : Mm) (H' : Heap) (locs' : List Loc), decode (mB k) (pcA k i') = .ok (retI v, 1) → Q v M' → retOK (mR k) v → (∀ x, v = some x → rV x) → Hold g A s H' locs' M' →
      W p l e R s m args below meth c H' locs' cells slots QQ (F0 m (pcA k i') ls' (v.toList.map (cv g)))) →
    ∀ (H : Heap) (locs : List Loc) (ls : Array Slot), Hold g A s H locs M → lv_has ls (mN k) (mapL g L) → (∀ q ∈ L, rV q.2) → (∀ v ∈ S, rV v) →
      W p l e R s m args below meth c H locs cells slots QQ (F0 m (pcA k i) ls (S.map (cv g)))
theorem Wp.mono {X : Xs} {d k i : Nat} {L : List (Nat × V)} {S : List V} {M : Mm} {Q Q' : Option V → Mm → Prop} (h : Wp X d k i L S M Q) (hq : ∀ v M', Q v M' → Q' v M') : Wp X d k i L S M Q' := by
  intro p l e R s m args below meth c g A cells slots QQ C hr hk
  exact h p l e R s m args below meth c g A cells slots QQ C hr (fun i' ls' v M' H' locs' h1 h2 => hk i' ls' v M' H' locs' h1 (hq v M' h2))
theorem Wp.deeper {X : Xs} {d d' k i : Nat} {L : List (Nat × V)} {S : List V} {M : Mm} {Q : Option V → Mm → Prop} (h : Wp X d k i L S M Q) (hd : d ≤ d') : Wp X d' k i L S M Q := by
  intro p l e R s m args below meth c g A cells slots QQ C hr hk
  exact h p l e R s m args below meth c g A cells slots QQ C ⟨by omega, by omega, hr.2.2⟩ hk
/-- what the ranges and the kinds say may be used -/
theorem Wp.known {X : Xs} {d k i : Nat} {L : List (Nat × V)} {S : List V} {M : Mm} {Q : Option V → Mm → Prop} (h : okM M → (∀ q ∈ L, rV q.2) → (∀ v ∈ S, rV v) → X.1 ≤ 2147483647 → (∀ j, in32 (X.2 j)) → Wp X d k i L S M Q) : Wp X d k i L S M Q := by
  intro p l e R s m args below meth c g A cells slots QQ C hr hk H locs ls hH hl hL hS
  exact h hH.2.2.2 hL hS C.2.2.2.2.2.2.1.1.2.1 C.2.2.2.2.2.2.1.1.2.2 p l e R s m args below meth c g A cells slots QQ C hr hk H locs ls hH hl hL hS
/-- fewer locals -/
theorem Wp.fewer {X : Xs} {d k i : Nat} {L L' : List (Nat × V)} {S : List V} {M : Mm} {Q : Option V → Mm → Prop} (h : Wp X d k i L' S M Q) (hs : ∀ q ∈ L', q ∈ L) : Wp X d k i L S M Q := by
  intro p l e R s m args below meth c g A cells slots QQ C hr hk H locs ls hH hl hL hS
  refine h p l e R s m args below meth c g A cells slots QQ C hr hk H locs ls hH ⟨hl.1, hl.2.1, fun q hq => ?_⟩ (fun q hq => hL q (hs q hq)) hS
  obtain ⟨x, hx, rfl⟩ := List.mem_map.mp hq
  exact hl.2.2 _ (List.mem_map.mpr ⟨x, hs x hx, rfl⟩)
theorem cv_cat {X : Xs} {g : Gx} {A : Nat → Prop} {s : State} (h : ROk X g A s) (v : V) : (cv g v).category = catV v := by
  obtain ⟨-, -, -, -, -, -, -, h8⟩ := h
  match v with
  | .inl z => rfl
  | .inr (.inl z) => rfl
  | .inr (.inr (0, i)) => rfl
  | .inr (.inr (1, i)) => rfl
  | .inr (.inr (2, i)) => rfl
  | .inr (.inr (n + 3, i)) => exact h8
end
section
/-! the rules: an instruction of the list, checked against its bytes, and the judgement one step on -/
def ib (b : Nat) (x y : Int) : Int := match b with
  | 0 => (Int32.ofInt x + Int32.ofInt y).toInt
  | 1 => (Int32.ofInt x - Int32.ofInt y).toInt
  | 2 => (Int32.ofInt x * Int32.ofInt y).toInt
  | 3 => (Int32.ofInt x &&& Int32.ofInt y).toInt
  | 4 => (Int32.ofInt x ||| Int32.ofInt y).toInt
  | 5 => (Int32.ofInt x ^^^ Int32.ofInt y).toInt
  | 6 => (Int32.ofInt x <<< (Int32.ofInt y &&& 31)).toInt
  | 7 => (Int32.ofInt x >>> (Int32.ofInt y &&& 31)).toInt
  | 8 => ((Int32.ofInt x).toUInt32 >>> ((Int32.ofInt y).toUInt32 &&& Int32.toUInt32 31)).toInt32.toInt
  | 9 => (if Int32.ofInt x < Int32.ofInt y then Int32.ofInt y else Int32.ofInt x).toInt
  | _ => (if Int32.ofInt y < Int32.ofInt x then Int32.ofInt y else Int32.ofInt x).toInt
def lb (b : Nat) (x y : Int) : Int := match b with
  | 0 => (Int64.ofInt x + Int64.ofInt y).toInt
  | 1 => (Int64.ofInt x - Int64.ofInt y).toInt
  | 2 => (Int64.ofInt x * Int64.ofInt y).toInt
  | 3 => (Int64.ofInt x &&& Int64.ofInt y).toInt
  | 4 => (Int64.ofInt x ||| Int64.ofInt y).toInt
  | _ => (Int64.ofInt x ^^^ Int64.ofInt y).toInt
def sb (b : Nat) (x y : Int) : Int := match b with
  | 0 => (Int64.ofInt x <<< ((Int32.ofInt y).toInt64 &&& 63)).toInt
  | 1 => (Int64.ofInt x >>> ((Int32.ofInt y).toInt64 &&& 63)).toInt
  | _ => ((Int64.ofInt x).toUInt64 >>> ((Int32.ofInt y).toInt64.toUInt64 &&& Int64.toUInt64 63)).toInt64.toInt
def cb (x : Int) : Int := ((Int32.ofInt x).toUInt32 % 65536).toInt32.toInt
def lo32 (x : Int) : Int := (Int64.ofInt x).toInt32.toInt
def icP (c : Nat) (x y : Int) : Prop := match c with
  | 0 => x = y
  | 1 => x ≠ y
  | 2 => x < y
  | 3 => y ≤ x
  | 4 => y < x
  | _ => x ≤ y
def icN : ClassFile.Cond → Nat
  | .eq => 0
  | .ne => 1
  | .lt => 2
  | .ge => 3
  | .gt => 4
  | .le => 5
theorem e32 {x y : Int} (hx : in32 x) (hy : in32 y) : (Int32.ofInt x = Int32.ofInt y ↔ x = y) := by
  rw [← Int32.toInt_inj, i32_to hx, i32_to hy]
theorem l32 {x y : Int} (hx : in32 x) (hy : in32 y) : (Int32.ofInt x < Int32.ofInt y ↔ x < y) := by
  rw [Int32.lt_iff_toInt_lt, i32_to hx, i32_to hy]
theorem m32 {x y : Int} (hx : in32 x) (hy : in32 y) : (Int32.ofInt x ≤ Int32.ofInt y ↔ x ≤ y) := by
  rw [Int32.le_iff_toInt_le, i32_to hx, i32_to hy]
theorem z32 : in32 0 := ⟨by decide, by decide⟩
theorem ofz : (0 : Int32) = Int32.ofInt 0 := by decide
theorem inn {z : Int} {n : Nat} (h : in32 z) (h1 : 0 ≤ z) (h2 : z < n) : vp_in (Int32.ofInt z) n := vp_in_iff.mpr (by rw [i32_to h]; exact ⟨h1, h2⟩)
def stL1 (b : Nat) (v : V) (L : List (Nat × V)) : List (Nat × V) := (b, v) :: L.filter (fun q => !(q.1 == b) && !(q.1 + 1 == b && catV q.2 == 2))
def stL2 (b : Nat) (v : V) (L : List (Nat × V)) : List (Nat × V) := (b, v) :: L.filter (fun q => !(q.1 == b) && (!(q.1 == b + 1) && !(q.1 + 1 == b && catV q.2 == 2)))
theorem mapL_st1 {X : Xs} {g : Gx} {A : Nat → Prop} {s : State} (h : ROk X g A s) (b : Nat) (v : V) (L : List (Nat × V)) : (b, cv g v) :: (mapL g L).filter (fun q => !(q.1 == b) && !(q.1 + 1 == b && q.2.category == 2)) = mapL g (stL1 b v L) := by
  show _ = (b, cv g v) :: List.map _ _
  congr 1
  unfold mapL
  rw [List.filter_map]
  congr 1
  refine List.filter_congr fun q _ => ?_
  show (!(q.1 == b) && !(q.1 + 1 == b && (cv g q.2).category == 2)) = _
  rw [cv_cat h]
theorem mapL_st2 {X : Xs} {g : Gx} {A : Nat → Prop} {s : State} (h : ROk X g A s) (b : Nat) (v : V) (L : List (Nat × V)) : (b, cv g v) :: (mapL g L).filter (fun q => !(q.1 == b) && (!(q.1 == b + 1) && !(q.1 + 1 == b && q.2.category == 2))) = mapL g (stL2 b v L) := by
  show _ = (b, cv g v) :: List.map _ _
  congr 1
  unfold mapL
  rw [List.filter_map]
  congr 1
  refine List.filter_congr fun q _ => ?_
  show (!(q.1 == b) && (!(q.1 == b + 1) && !(q.1 + 1 == b && (cv g q.2).category == 2))) = _
  rw [cv_cat h]
theorem rst1 {b : Nat} {v : V} {L : List (Nat × V)} (hL : ∀ q ∈ L, rV q.2) (hv : rV v) : ∀ q ∈ stL1 b v L, rV q.2 := by
  intro q hq
  rcases List.mem_cons.mp hq with rfl | h
  · exact hv
  · exact hL q (List.mem_filter.mp h).1
theorem rst2 {b : Nat} {v : V} {L : List (Nat × V)} (hL : ∀ q ∈ L, rV q.2) (hv : rV v) : ∀ q ∈ stL2 b v L, rV q.2 := by
  intro q hq
  rcases List.mem_cons.mp hq with rfl | h
  · exact hv
  · exact hL q (List.mem_filter.mp h).1
theorem rS1 {v : V} {S : List V} (hS : ∀ x ∈ S, rV x) (hv : rV v) : ∀ x ∈ v :: S, rV x := List.forall_mem_cons.mpr ⟨hv, hS⟩
theorem lget {g : Gx} {ls : Array Slot} {n b : Nat} {L : List (Nat × V)} {v : V} (hl : lv_has ls n (mapL g L)) (h : (b, v) ∈ L) : ls[b]? = some (.val (cv g v)) := hl.2.2 (b, cv g v) (List.mem_map.mpr ⟨(b, v), h, rfl⟩)
theorem ws_len (g : Gx) (M : Mm) : (wsOf g M).length = SH.length := by simp [wsOf]
theorem ws_get {g : Gx} {M : Mm} {i : Nat} {c : SC} (h : SH[i]? = some c) : (wsOf g M)[i]? = some (g.2.1 i, ent g c (M i)) := by
  simp [wsOf, List.getElem?_mapIdx, h]
section RULES
variable {X : Xs} {d k i : Nat} {L : List (Nat × V)} {S : List V} {M : Mm} {Q : Option V → Mm → Prop} {ins : Instr} {len : Nat}

def ok0 (w nx : Nat) : Instr → Nat → Bool
  | .iconst n, 1 => Int32.ofInt n == Int32.ofInt (iZ w) && iA w ≤ 2147483647 && nx == iP w + 1
  | .bipush n, 2 => (Int8.ofInt n).toInt32 == Int32.ofInt (iZ w) && iA w ≤ 2147483647 && nx == iP w + 2
  | .sipush n, 3 => (Int16.ofInt n).toInt32 == Int32.ofInt (iZ w) && iA w ≤ 2147483647 && nx == iP w + 3
  | _, _ => false
theorem iZ_in {w : Nat} (h : iA w ≤ 2147483647) : in32 (iZ w) := by
  unfold iZ in32
  split <;> constructor <;> omega
theorem iZ_in64 {w : Nat} : in64 (iZ w) := by
  have h : iA w < 1099511627776 := Nat.mod_lt _ (by decide)
  unfold iZ in64
  split <;> constructor <;> omega
theorem T0 (hd : decode (mB k) (pcA k i) = .ok (ins, len)) (ho : ok0 (wd k i) (pcA k (i + 1)) ins len = true) (h : Wp X d k (i + 1) L (vI (iZ (wd k i)) :: S) M Q) : Wp X d k i L S M Q := by
  intro p l e R s m args below meth c g A cells slots QQ C hr hk H locs ls hH hl hL hS
  unfold ok0 at ho
  split at ho
  · simp only [Bool.and_eq_true, beq_iff_eq, decide_eq_true_eq] at ho
    have q := (h p l e R s m args below meth c g A cells slots QQ C hr hk H locs ls hH hl hL (rS1 hS (iZ_in ho.1.2)))
    rw [ho.2] at q
    exact lv_iconst C.1 C.2.1 hd ho.1.1 q
  · simp only [Bool.and_eq_true, beq_iff_eq, decide_eq_true_eq] at ho
    have q := (h p l e R s m args below meth c g A cells slots QQ C hr hk H locs ls hH hl hL (rS1 hS (iZ_in ho.1.2)))
    rw [ho.2] at q
    exact lv_bipush C.1 C.2.1 hd ho.1.1 q
  · simp only [Bool.and_eq_true, beq_iff_eq, decide_eq_true_eq] at ho
    have q := (h p l e R s m args below meth c g A cells slots QQ C hr hk H locs ls hH hl hL (rS1 hS (iZ_in ho.1.2)))
    rw [ho.2] at q
    exact lv_sipush C.1 C.2.1 hd ho.1.1 q
  · cases ho
def ok1 (k w nx : Nat) : Instr → Nat → Bool
  | .ldc n, 2 => decide (wt (iC w 0) = some (Jvm.Cond.constant (mY k).cls n (Int32.ofInt (iZ w)))) && iA w ≤ 2147483647 && nx == iP w + 2
  | .ldc_w n, 3 => decide (wt (iC w 0) = some (Jvm.Cond.constant (mY k).cls n (Int32.ofInt (iZ w)))) && iA w ≤ 2147483647 && nx == iP w + 3
  | _, _ => false
theorem T1 (hd : decode (mB k) (pcA k i) = .ok (ins, len)) (ho : ok1 k (wd k i) (pcA k (i + 1)) ins len = true) (h : Wp X d k (i + 1) L (vI (iZ (wd k i)) :: S) M Q) : Wp X d k i L S M Q := by
  intro p l e R s m args below meth c g A cells slots QQ C hr hk H locs ls hH hl hL hS
  unfold ok1 at ho
  split at ho
  · simp only [Bool.and_eq_true, beq_iff_eq, decide_eq_true_eq] at ho
    have q := (h p l e R s m args below meth c g A cells slots QQ C hr hk H locs ls hH hl hL (rS1 hS (iZ_in ho.1.2)))
    rw [ho.2] at q
    exact lv_ldc C.1 C.2.1 C.2.2.2.1 (C.2.2.2.2.1 _ (wt_in ho.1.1)) hd q
  · simp only [Bool.and_eq_true, beq_iff_eq, decide_eq_true_eq] at ho
    have q := (h p l e R s m args below meth c g A cells slots QQ C hr hk H locs ls hH hl hL (rS1 hS (iZ_in ho.1.2)))
    rw [ho.2] at q
    exact lv_ldcw C.1 C.2.1 C.2.2.2.1 (C.2.2.2.2.1 _ (wt_in ho.1.1)) hd q
  · cases ho
def ok2 (w nx : Nat) : Instr → Nat → Bool
  | .lconst n, 1 => Int64.ofNat (n : Nat) == Int64.ofInt (iZ w) && nx == iP w + 1
  | _, _ => false
theorem T2 (hd : decode (mB k) (pcA k i) = .ok (ins, len)) (ho : ok2 (wd k i) (pcA k (i + 1)) ins len = true) (h : Wp X d k (i + 1) L (vL (iZ (wd k i)) :: S) M Q) : Wp X d k i L S M Q := by
  intro p l e R s m args below meth c g A cells slots QQ C hr hk H locs ls hH hl hL hS
  unfold ok2 at ho
  split at ho
  · simp only [Bool.and_eq_true, beq_iff_eq, decide_eq_true_eq] at ho
    have q := (h p l e R s m args below meth c g A cells slots QQ C hr hk H locs ls hH hl hL (rS1 hS iZ_in64))
    rw [ho.2] at q
    exact lv_lconst C.1 C.2.1 hd ho.1 q
  · cases ho
def ok3 (k w nx : Nat) : Instr → Nat → Bool
  | .ldc2_w n, 3 => decide (wt (iC w 0) = some (Jvm.Cond.constantLong (mY k).cls n (Int64.ofInt (iZ w)))) && nx == iP w + 3
  | _, _ => false
theorem T3 (hd : decode (mB k) (pcA k i) = .ok (ins, len)) (ho : ok3 k (wd k i) (pcA k (i + 1)) ins len = true) (h : Wp X d k (i + 1) L (vL (iZ (wd k i)) :: S) M Q) : Wp X d k i L S M Q := by
  intro p l e R s m args below meth c g A cells slots QQ C hr hk H locs ls hH hl hL hS
  unfold ok3 at ho
  split at ho
  · simp only [Bool.and_eq_true, beq_iff_eq, decide_eq_true_eq] at ho
    have q := (h p l e R s m args below meth c g A cells slots QQ C hr hk H locs ls hH hl hL (rS1 hS iZ_in64))
    rw [ho.2] at q
    exact lv_ldc2 C.1 C.2.1 C.2.2.2.1 (C.2.2.2.2.1 _ (wt_in ho.1)) hd q
  · cases ho

def ok4 (w nx : Nat) : Instr → Nat → Bool
  | .iload_n n, 1 => (n : Nat) == iB w && nx == iP w + 1
  | .iload n, 2 => n == iB w && nx == iP w + 2
  | _, _ => false
theorem T4 {z : Int} (hd : decode (mB k) (pcA k i) = .ok (ins, len)) (ho : ok4 (wd k i) (pcA k (i + 1)) ins len = true) (hv : (iB (wd k i), vI z) ∈ L) (h : Wp X d k (i + 1) L (vI z :: S) M Q) : Wp X d k i L S M Q := by
  intro p l e R s m args below meth c g A cells slots QQ C hr hk H locs ls hH hl hL hS
  unfold ok4 at ho
  have q := (h p l e R s m args below meth c g A cells slots QQ C hr hk H locs ls hH hl hL (rS1 hS (hL _ hv)))
  split at ho
  · simp only [Bool.and_eq_true, beq_iff_eq, decide_eq_true_eq] at ho
    rw [ho.2] at q
    exact lv_iload_n C.1 C.2.1 hd ho.1 (lget hl hv) q
  · simp only [Bool.and_eq_true, beq_iff_eq, decide_eq_true_eq] at ho
    rw [ho.2] at q
    rw [ho.1] at hd
    exact lv_iload C.1 C.2.1 hd (lget hl hv) q
  · cases ho

def ok5 (w nx : Nat) : Instr → Nat → Bool
  | .lload_n n, 1 => (n : Nat) == iB w && nx == iP w + 1
  | .lload n, 2 => n == iB w && nx == iP w + 2
  | _, _ => false
theorem T5 {z : Int} (hd : decode (mB k) (pcA k i) = .ok (ins, len)) (ho : ok5 (wd k i) (pcA k (i + 1)) ins len = true) (hv : (iB (wd k i), vL z) ∈ L) (h : Wp X d k (i + 1) L (vL z :: S) M Q) : Wp X d k i L S M Q := by
  intro p l e R s m args below meth c g A cells slots QQ C hr hk H locs ls hH hl hL hS
  unfold ok5 at ho
  have q := (h p l e R s m args below meth c g A cells slots QQ C hr hk H locs ls hH hl hL (rS1 hS (hL _ hv)))
  split at ho
  · simp only [Bool.and_eq_true, beq_iff_eq, decide_eq_true_eq] at ho
    rw [ho.2] at q
    exact lv_lload_n C.1 C.2.1 hd ho.1 (lget hl hv) q
  · simp only [Bool.and_eq_true, beq_iff_eq, decide_eq_true_eq] at ho
    rw [ho.2] at q
    rw [ho.1] at hd
    exact lv_lload C.1 C.2.1 hd (lget hl hv) q
  · cases ho

def ok6 (w nx : Nat) : Instr → Nat → Bool
  | .aload_n n, 1 => (n : Nat) == iB w && nx == iP w + 1
  | .aload n, 2 => n == iB w && nx == iP w + 2
  | _, _ => false
theorem gad_ref {g : Gx} {t j : Nat} (h : t < 3) : ∃ a, gad g t j = .ref a := by
  match t, h with
  | 0, _ => exact ⟨_, rfl⟩
  | 1, _ => exact ⟨_, rfl⟩
  | 2, _ => exact ⟨_, rfl⟩
theorem T6 {t j : Nat} (ht : t < 3) (hd : decode (mB k) (pcA k i) = .ok (ins, len)) (ho : ok6 (wd k i) (pcA k (i + 1)) ins len = true) (hv : (iB (wd k i), vR t j) ∈ L) (h : Wp X d k (i + 1) L (vR t j :: S) M Q) : Wp X d k i L S M Q := by
  intro p l e R s m args below meth c g A cells slots QQ C hr hk H locs ls hH hl hL hS
  unfold ok6 at ho
  have q := (h p l e R s m args below meth c g A cells slots QQ C hr hk H locs ls hH hl hL (rS1 hS (hL _ hv)))
  obtain ⟨a, ha⟩ := gad_ref (g := g) (j := j) ht
  have hg := lget hl hv
  have e : cv g (vR t j) = .ref a := ha
  rw [e] at hg
  rw [List.map_cons, e] at q
  split at ho
  · simp only [Bool.and_eq_true, beq_iff_eq, decide_eq_true_eq] at ho
    rw [ho.2] at q
    exact lv_aload_n C.1 C.2.1 hd ho.1 hg q
  · simp only [Bool.and_eq_true, beq_iff_eq, decide_eq_true_eq] at ho
    rw [ho.2] at q
    rw [ho.1] at hd
    exact lv_aload C.1 C.2.1 hd hg q
  · cases ho

def ok7 (k w nx : Nat) : Instr → Nat → Bool
  | .istore_n n, 1 => (n : Nat) == iB w && decide (iB w < mN k) && nx == iP w + 1
  | .istore n, 2 => n == iB w && decide (iB w < mN k) && nx == iP w + 2
  | _, _ => false
theorem T7 {z : Int} (hd : decode (mB k) (pcA k i) = .ok (ins, len)) (ho : ok7 k (wd k i) (pcA k (i + 1)) ins len = true) (h : Wp X d k (i + 1) (stL1 (iB (wd k i)) (vI z) L) S M Q) : Wp X d k i L (vI z :: S) M Q := by
  intro p l e R s m args below meth c g A cells slots QQ C hr hk H locs ls hH hl hL hS
  unfold ok7 at ho
  have hz := hS _ List.mem_cons_self
  have q := fun ls' hl' => h p l e R s m args below meth c g A cells slots QQ C hr hk H locs ls' hH hl' (rst1 hL hz) (fun x hx => hS x (List.mem_cons_of_mem _ hx))
  split at ho
  · simp only [Bool.and_eq_true, beq_iff_eq, decide_eq_true_eq] at ho
    rw [ho.2] at q
    exact lv_istore_n C.1 C.2.1 hd ho.1.1 hl ho.1.2 (mapL_st1 C.2.2.2.2.2.2.1 _ (vI z) L) q
  · simp only [Bool.and_eq_true, beq_iff_eq, decide_eq_true_eq] at ho
    rw [ho.2] at q
    rw [ho.1.1] at hd
    exact lv_istore C.1 C.2.1 hd hl ho.1.2 (mapL_st1 C.2.2.2.2.2.2.1 _ (vI z) L) q
  · cases ho

def ok8 (k w nx : Nat) : Instr → Nat → Bool
  | .lstore_n n, 1 => (n : Nat) == iB w && decide (iB w + 1 < mN k) && nx == iP w + 1
  | .lstore n, 2 => n == iB w && decide (iB w + 1 < mN k) && nx == iP w + 2
  | _, _ => false
theorem T8 {z : Int} (hd : decode (mB k) (pcA k i) = .ok (ins, len)) (ho : ok8 k (wd k i) (pcA k (i + 1)) ins len = true) (h : Wp X d k (i + 1) (stL2 (iB (wd k i)) (vL z) L) S M Q) : Wp X d k i L (vL z :: S) M Q := by
  intro p l e R s m args below meth c g A cells slots QQ C hr hk H locs ls hH hl hL hS
  unfold ok8 at ho
  have hz := hS _ List.mem_cons_self
  have q := fun ls' hl' => h p l e R s m args below meth c g A cells slots QQ C hr hk H locs ls' hH hl' (rst2 hL hz) (fun x hx => hS x (List.mem_cons_of_mem _ hx))
  split at ho
  · simp only [Bool.and_eq_true, beq_iff_eq, decide_eq_true_eq] at ho
    rw [ho.2] at q
    exact lv_lstore_n C.1 C.2.1 hd ho.1.1 hl ho.1.2 (mapL_st2 C.2.2.2.2.2.2.1 _ (vL z) L) q
  · simp only [Bool.and_eq_true, beq_iff_eq, decide_eq_true_eq] at ho
    rw [ho.2] at q
    rw [ho.1.1] at hd
    exact lv_lstore C.1 C.2.1 hd hl ho.1.2 (mapL_st2 C.2.2.2.2.2.2.1 _ (vL z) L) q
  · cases ho

def ok9 (k w nx : Nat) : Instr → Nat → Bool
  | .astore_n n, 1 => (n : Nat) == iB w && decide (iB w < mN k) && nx == iP w + 1
  | .astore n, 2 => n == iB w && decide (iB w < mN k) && nx == iP w + 2
  | _, _ => false
theorem T9 {t j : Nat} (ht : t < 3) (hd : decode (mB k) (pcA k i) = .ok (ins, len)) (ho : ok9 k (wd k i) (pcA k (i + 1)) ins len = true) (h : Wp X d k (i + 1) (stL1 (iB (wd k i)) (vR t j) L) S M Q) : Wp X d k i L (vR t j :: S) M Q := by
  intro p l e R s m args below meth c g A cells slots QQ C hr hk H locs ls hH hl hL hS
  unfold ok9 at ho
  have hz := hS _ List.mem_cons_self
  have q := fun ls' hl' => h p l e R s m args below meth c g A cells slots QQ C hr hk H locs ls' hH hl' (rst1 hL hz) (fun x hx => hS x (List.mem_cons_of_mem _ hx))
  obtain ⟨a, ha⟩ := gad_ref (g := g) (j := j) ht
  have e : cv g (vR t j) = .ref a := ha
  have e2 := mapL_st1 C.2.2.2.2.2.2.1 (iB (wd k i)) (vR t j) L
  rw [e] at e2
  rw [List.map_cons, e]
  split at ho
  · simp only [Bool.and_eq_true, beq_iff_eq, decide_eq_true_eq] at ho
    rw [ho.2] at q
    exact lv_astore_n C.1 C.2.1 hd ho.1.1 hl ho.1.2 e2 q
  · simp only [Bool.and_eq_true, beq_iff_eq, decide_eq_true_eq] at ho
    rw [ho.2] at q
    rw [ho.1.1] at hd
    exact lv_astore C.1 C.2.1 hd hl ho.1.2 e2 q
  · cases ho
def iS (w : Nat) : Int := if iC w 0 = 0 then (iA w : Int) else -(iA w : Int)
def ok10 (k w nx : Nat) : Instr → Nat → Bool
  | .iinc n v, 3 => n == iB w && v == iS w && decide (iB w < mN k) && nx == iP w + 3
  | _, _ => false
theorem T10 {z : Int} (hd : decode (mB k) (pcA k i) = .ok (ins, len)) (ho : ok10 k (wd k i) (pcA k (i + 1)) ins len = true) (hv : (iB (wd k i), vI z) ∈ L) (h : Wp X d k (i + 1) (stL1 (iB (wd k i)) (vI (ib 0 z (iS (wd k i)))) L) S M Q) : Wp X d k i L S M Q := by
  intro p l e R s m args below meth c g A cells slots QQ C hr hk H locs ls hH hl hL hS
  unfold ok10 at ho
  have q := fun ls' hl' => h p l e R s m args below meth c g A cells slots QQ C hr hk H locs ls' hH hl' (rst1 hL (i32_r _)) hS
  split at ho
  · simp only [Bool.and_eq_true, beq_iff_eq, decide_eq_true_eq] at ho
    rw [ho.2] at q
    rw [ho.1.1.1, ho.1.1.2] at hd
    obtain ⟨y, hy⟩ := List.getElem?_of_mem (List.mem_map.mpr ⟨_, hv, rfl⟩ : (iB (wd k i), cv g (vI z)) ∈ mapL g L)
    exact lv_iinc C.1 C.2.1 hd hl hy (v := Int32.ofInt (ib 0 z (iS (wd k i)))) (Int32.ofInt_toInt _).symm ho.1.2 (mapL_st1 C.2.2.2.2.2.2.1 _ (vI (ib 0 z (iS (wd k i)))) L) q
  · cases ho

def ok11 (w nx : Nat) : Instr → Nat → Bool
  | .iadd, 1 => iB w == 0 && nx == iP w + 1
  | .isub, 1 => iB w == 1 && nx == iP w + 1
  | .imul, 1 => iB w == 2 && nx == iP w + 1
  | .iand, 1 => iB w == 3 && nx == iP w + 1
  | .ior, 1 => iB w == 4 && nx == iP w + 1
  | .ixor, 1 => iB w == 5 && nx == iP w + 1
  | .ishl, 1 => iB w == 6 && nx == iP w + 1
  | .ishr, 1 => iB w == 7 && nx == iP w + 1
  | .iushr, 1 => iB w == 8 && nx == iP w + 1
  | _, _ => false
theorem T11 {x y : Int} (hd : decode (mB k) (pcA k i) = .ok (ins, len)) (ho : ok11 (wd k i) (pcA k (i + 1)) ins len = true) (h : Wp X d k (i + 1) L (vI (ib (iB (wd k i)) x y) :: S) M Q) : Wp X d k i L (vI y :: vI x :: S) M Q := by
  intro p l e R s m args below meth c g A cells slots QQ C hr hk H locs ls hH hl hL hS
  unfold ok11 at ho
  have hS2 : ∀ v ∈ S, rV v := fun v hv => hS v (List.mem_cons_of_mem _ (List.mem_cons_of_mem _ hv))
  have hr2 : rV (vI (ib (iB (wd k i)) x y)) := by
    show in32 _
    unfold ib
    split <;> exact i32_r _
  have q := (h p l e R s m args below meth c g A cells slots QQ C hr hk H locs ls hH hl hL (rS1 hS2 hr2))
  rw [List.map_cons] at q
  split at ho
  · simp only [Bool.and_eq_true, beq_iff_eq, decide_eq_true_eq] at ho
    rw [ho.2, ho.1] at q
    refine lv_iadd C.1 C.2.1 hd ?_
    rw [show cv g (vI (ib 0 x y)) = .int _ from congrArg Value.int (Int32.ofInt_toInt _)] at q
    exact q
  · simp only [Bool.and_eq_true, beq_iff_eq, decide_eq_true_eq] at ho
    rw [ho.2, ho.1] at q
    refine lv_isub C.1 C.2.1 hd ?_
    rw [show cv g (vI (ib 1 x y)) = .int _ from congrArg Value.int (Int32.ofInt_toInt _)] at q
    exact q
  · simp only [Bool.and_eq_true, beq_iff_eq, decide_eq_true_eq] at ho
    rw [ho.2, ho.1] at q
    refine lv_imul C.1 C.2.1 hd ?_
    rw [show cv g (vI (ib 2 x y)) = .int _ from congrArg Value.int (Int32.ofInt_toInt _)] at q
    exact q
  · simp only [Bool.and_eq_true, beq_iff_eq, decide_eq_true_eq] at ho
    rw [ho.2, ho.1] at q
    refine lv_iand C.1 C.2.1 hd ?_
    rw [show cv g (vI (ib 3 x y)) = .int _ from congrArg Value.int (Int32.ofInt_toInt _)] at q
    exact q
  · simp only [Bool.and_eq_true, beq_iff_eq, decide_eq_true_eq] at ho
    rw [ho.2, ho.1] at q
    refine lv_ior C.1 C.2.1 hd ?_
    rw [show cv g (vI (ib 4 x y)) = .int _ from congrArg Value.int (Int32.ofInt_toInt _)] at q
    exact q
  · simp only [Bool.and_eq_true, beq_iff_eq, decide_eq_true_eq] at ho
    rw [ho.2, ho.1] at q
    refine lv_ixor C.1 C.2.1 hd ?_
    rw [show cv g (vI (ib 5 x y)) = .int _ from congrArg Value.int (Int32.ofInt_toInt _)] at q
    exact q
  · simp only [Bool.and_eq_true, beq_iff_eq, decide_eq_true_eq] at ho
    rw [ho.2, ho.1] at q
    refine lv_ishl C.1 C.2.1 hd ?_
    rw [show cv g (vI (ib 6 x y)) = .int _ from congrArg Value.int (Int32.ofInt_toInt _)] at q
    exact q
  · simp only [Bool.and_eq_true, beq_iff_eq, decide_eq_true_eq] at ho
    rw [ho.2, ho.1] at q
    refine lv_ishr C.1 C.2.1 hd ?_
    rw [show cv g (vI (ib 7 x y)) = .int _ from congrArg Value.int (Int32.ofInt_toInt _)] at q
    exact q
  · simp only [Bool.and_eq_true, beq_iff_eq, decide_eq_true_eq] at ho
    rw [ho.2, ho.1] at q
    exact lv_iushr C.1 C.2.1 hd (Int32.ofInt_toInt _).symm q
  · cases ho

def ok12 (w nx : Nat) : Instr → Nat → Bool
  | .ladd, 1 => iB w == 0 && nx == iP w + 1
  | .lsub, 1 => iB w == 1 && nx == iP w + 1
  | .lmul, 1 => iB w == 2 && nx == iP w + 1
  | .land, 1 => iB w == 3 && nx == iP w + 1
  | .lor, 1 => iB w == 4 && nx == iP w + 1
  | .lxor, 1 => iB w == 5 && nx == iP w + 1
  | _, _ => false
theorem T12 {x y : Int} (hd : decode (mB k) (pcA k i) = .ok (ins, len)) (ho : ok12 (wd k i) (pcA k (i + 1)) ins len = true) (h : Wp X d k (i + 1) L (vL (lb (iB (wd k i)) x y) :: S) M Q) : Wp X d k i L (vL y :: vL x :: S) M Q := by
  intro p l e R s m args below meth c g A cells slots QQ C hr hk H locs ls hH hl hL hS
  unfold ok12 at ho
  have hS2 : ∀ v ∈ S, rV v := fun v hv => hS v (List.mem_cons_of_mem _ (List.mem_cons_of_mem _ hv))
  have hr2 : rV (vL (lb (iB (wd k i)) x y)) := by
    show in64 _
    unfold lb
    split <;> exact i64_r _
  have q := (h p l e R s m args below meth c g A cells slots QQ C hr hk H locs ls hH hl hL (rS1 hS2 hr2))
  rw [List.map_cons] at q
  split at ho
  · simp only [Bool.and_eq_true, beq_iff_eq, decide_eq_true_eq] at ho
    rw [ho.2, ho.1] at q
    refine lv_ladd C.1 C.2.1 hd ?_
    rw [show cv g (vL (lb 0 x y)) = .long _ from congrArg Value.long (Int64.ofInt_toInt _)] at q
    exact q
  · simp only [Bool.and_eq_true, beq_iff_eq, decide_eq_true_eq] at ho
    rw [ho.2, ho.1] at q
    refine lv_lsub C.1 C.2.1 hd ?_
    rw [show cv g (vL (lb 1 x y)) = .long _ from congrArg Value.long (Int64.ofInt_toInt _)] at q
    exact q
  · simp only [Bool.and_eq_true, beq_iff_eq, decide_eq_true_eq] at ho
    rw [ho.2, ho.1] at q
    refine lv_lmul C.1 C.2.1 hd ?_
    rw [show cv g (vL (lb 2 x y)) = .long _ from congrArg Value.long (Int64.ofInt_toInt _)] at q
    exact q
  · simp only [Bool.and_eq_true, beq_iff_eq, decide_eq_true_eq] at ho
    rw [ho.2, ho.1] at q
    refine lv_land C.1 C.2.1 hd ?_
    rw [show cv g (vL (lb 3 x y)) = .long _ from congrArg Value.long (Int64.ofInt_toInt _)] at q
    exact q
  · simp only [Bool.and_eq_true, beq_iff_eq, decide_eq_true_eq] at ho
    rw [ho.2, ho.1] at q
    refine lv_lor C.1 C.2.1 hd ?_
    rw [show cv g (vL (lb 4 x y)) = .long _ from congrArg Value.long (Int64.ofInt_toInt _)] at q
    exact q
  · simp only [Bool.and_eq_true, beq_iff_eq, decide_eq_true_eq] at ho
    rw [ho.2, ho.1] at q
    refine lv_lxor C.1 C.2.1 hd ?_
    rw [show cv g (vL (lb 5 x y)) = .long _ from congrArg Value.long (Int64.ofInt_toInt _)] at q
    exact q
  · cases ho

def ok13 (w nx : Nat) : Instr → Nat → Bool
  | .lshl, 1 => iB w == 0 && nx == iP w + 1
  | .lshr, 1 => iB w == 1 && nx == iP w + 1
  | .lushr, 1 => iB w == 2 && nx == iP w + 1
  | _, _ => false
theorem T13 {x y : Int} (hd : decode (mB k) (pcA k i) = .ok (ins, len)) (ho : ok13 (wd k i) (pcA k (i + 1)) ins len = true) (h : Wp X d k (i + 1) L (vL (sb (iB (wd k i)) x y) :: S) M Q) : Wp X d k i L (vI y :: vL x :: S) M Q := by
  intro p l e R s m args below meth c g A cells slots QQ C hr hk H locs ls hH hl hL hS
  unfold ok13 at ho
  have hS2 : ∀ v ∈ S, rV v := fun v hv => hS v (List.mem_cons_of_mem _ (List.mem_cons_of_mem _ hv))
  have hr2 : rV (vL (sb (iB (wd k i)) x y)) := by
    show in64 _
    unfold sb
    split <;> exact i64_r _
  have q := (h p l e R s m args below meth c g A cells slots QQ C hr hk H locs ls hH hl hL (rS1 hS2 hr2))
  rw [List.map_cons] at q
  split at ho
  · simp only [Bool.and_eq_true, beq_iff_eq, decide_eq_true_eq] at ho
    rw [ho.2, ho.1] at q
    exact lv_lshl C.1 C.2.1 hd (Int64.ofInt_toInt _).symm q
  · simp only [Bool.and_eq_true, beq_iff_eq, decide_eq_true_eq] at ho
    rw [ho.2, ho.1] at q
    exact lv_lshr C.1 C.2.1 hd (Int64.ofInt_toInt _).symm q
  · simp only [Bool.and_eq_true, beq_iff_eq, decide_eq_true_eq] at ho
    rw [ho.2, ho.1] at q
    exact lv_lushr C.1 C.2.1 hd (Int64.ofInt_toInt _).symm q
  · cases ho

def ok14 (w nx : Nat) : Instr → Nat → Bool
  | .i2l, 1 => nx == iP w + 1
  | _, _ => false
theorem T14 {x : Int} (hd : decode (mB k) (pcA k i) = .ok (ins, len)) (ho : ok14 (wd k i) (pcA k (i + 1)) ins len = true) (h : Wp X d k (i + 1) L (vL x :: S) M Q) : Wp X d k i L (vI x :: S) M Q := by
  intro p l e R s m args below meth c g A cells slots QQ C hr hk H locs ls hH hl hL hS
  unfold ok14 at ho
  have hS2 : ∀ v ∈ S, rV v := fun v hv => hS v (List.mem_cons_of_mem _ hv)
  have hx : in32 x := hS _ List.mem_cons_self
  have hx6 : in64 x := ⟨by have := hx.1; omega, by have := hx.2; omega⟩
  have ex : (Int32.ofInt x).toInt64 = Int64.ofInt x := Int64.toInt_inj.mp (by rw [Int32.toInt_toInt64, i32_to hx, i64_to hx6])
  have q := (h p l e R s m args below meth c g A cells slots QQ C hr hk H locs ls hH hl hL (rS1 hS2 hx6))
  split at ho
  · simp only [Bool.and_eq_true, beq_iff_eq, decide_eq_true_eq] at ho
    rw [ho] at q
    exact lv_i2l C.1 C.2.1 hd ex q
  · cases ho

def ok15 (w nx : Nat) : Instr → Nat → Bool
  | .l2i, 1 => nx == iP w + 1
  | _, _ => false
theorem T15 {x : Int} (hd : decode (mB k) (pcA k i) = .ok (ins, len)) (ho : ok15 (wd k i) (pcA k (i + 1)) ins len = true) (h : Wp X d k (i + 1) L (vI (lo32 x) :: S) M Q) : Wp X d k i L (vL x :: S) M Q := by
  intro p l e R s m args below meth c g A cells slots QQ C hr hk H locs ls hH hl hL hS
  unfold ok15 at ho
  have hS2 : ∀ v ∈ S, rV v := fun v hv => hS v (List.mem_cons_of_mem _ hv)
  have q := (h p l e R s m args below meth c g A cells slots QQ C hr hk H locs ls hH hl hL (rS1 hS2 (i32_r _)))
  split at ho
  · simp only [Bool.and_eq_true, beq_iff_eq, decide_eq_true_eq] at ho
    rw [ho] at q
    exact lv_l2i C.1 C.2.1 hd (Int32.ofInt_toInt _).symm q
  · cases ho

def ok16 (w nx : Nat) : Instr → Nat → Bool
  | .i2c, 1 => nx == iP w + 1
  | _, _ => false
theorem T16 {x : Int} (hd : decode (mB k) (pcA k i) = .ok (ins, len)) (ho : ok16 (wd k i) (pcA k (i + 1)) ins len = true) (h : Wp X d k (i + 1) L (vI (cb x) :: S) M Q) : Wp X d k i L (vI x :: S) M Q := by
  intro p l e R s m args below meth c g A cells slots QQ C hr hk H locs ls hH hl hL hS
  unfold ok16 at ho
  have hS2 : ∀ v ∈ S, rV v := fun v hv => hS v (List.mem_cons_of_mem _ hv)
  have q := (h p l e R s m args below meth c g A cells slots QQ C hr hk H locs ls hH hl hL (rS1 hS2 (i32_r _)))
  split at ho
  · simp only [Bool.and_eq_true, beq_iff_eq, decide_eq_true_eq] at ho
    rw [ho] at q
    exact lv_i2c C.1 C.2.1 hd (Int32.ofInt_toInt _).symm q
  · cases ho

def ok17 (k w nx : Nat) : Instr → Nat → Bool
  | .ifCond c off, 3 => icN c == iA w && decide ((iP w : Int) + off = (pcA k (iB w) : Int)) && nx == iP w + 3
  | _, _ => false
theorem T17 {x : Int} (hd : decode (mB k) (pcA k i) = .ok (ins, len)) (ho : ok17 k (wd k i) (pcA k (i + 1)) ins len = true) (h1 : icP (iA (wd k i)) x 0 → Wp X d k (iB (wd k i)) L S M Q) (h2 : ¬ icP (iA (wd k i)) x 0 → Wp X d k (i + 1) L S M Q) : Wp X d k i L (vI x :: S) M Q := by
  intro p l e R s m args below meth c g A cells slots QQ C hr hk H locs ls hH hl hL hS
  unfold ok17 at ho
  have hx : in32 x := hS _ List.mem_cons_self
  have hS2 : ∀ v ∈ S, rV v := fun v hv => hS v (List.mem_cons_of_mem _ hv)
  have q1 := fun z => (h1 z p l e R s m args below meth c g A cells slots QQ C hr hk H locs ls hH hl hL hS2)
  have q2 := fun z => (h2 z p l e R s m args below meth c g A cells slots QQ C hr hk H locs ls hH hl hL hS2)
  split at ho
  · rename_i cc off
    simp only [Bool.and_eq_true, beq_iff_eq, decide_eq_true_eq] at ho
    obtain ⟨⟨ha, ht⟩, hn⟩ := ho
    rw [← ha] at q1 q2
    rw [hn] at q2
    cases cc
    · exact lv_if_eq C.1 C.2.1 hd ht (fun z => q1 ((e32 hx z32).mp (by rw [← ofz]; exact z))) (fun z => q2 (fun e => z (by rw [ofz]; exact (e32 hx z32).mpr e)))
    · exact lv_if_ne C.1 C.2.1 hd ht (fun z => q1 (fun e => z (by rw [ofz]; exact (e32 hx z32).mpr e))) (fun z => q2 (fun e => e ((e32 hx z32).mp (by rw [← ofz]; exact z))))
    · exact lv_if_lt C.1 C.2.1 hd ht (fun z => q1 ((l32 hx z32).mp (by rw [← ofz]; exact z))) (fun z => q2 (fun e => z (by rw [ofz]; exact (l32 hx z32).mpr e)))
    · exact lv_if_ge C.1 C.2.1 hd ht (fun z => q1 ((m32 z32 hx).mp (by rw [← ofz]; exact z))) (fun z => q2 (fun e => z (by rw [ofz]; exact (m32 z32 hx).mpr e)))
    · exact lv_if_gt C.1 C.2.1 hd ht (fun z => q1 ((l32 z32 hx).mp (by rw [← ofz]; exact z))) (fun z => q2 (fun e => z (by rw [ofz]; exact (l32 z32 hx).mpr e)))
    · exact lv_if_le C.1 C.2.1 hd ht (fun z => q1 ((m32 hx z32).mp (by rw [← ofz]; exact z))) (fun z => q2 (fun e => z (by rw [ofz]; exact (m32 hx z32).mpr e)))
  · cases ho

def ok18 (k w nx : Nat) : Instr → Nat → Bool
  | .if_icmp c off, 3 => icN c == iA w && decide ((iP w : Int) + off = (pcA k (iB w) : Int)) && nx == iP w + 3
  | _, _ => false
theorem T18 {x y : Int} (hd : decode (mB k) (pcA k i) = .ok (ins, len)) (ho : ok18 k (wd k i) (pcA k (i + 1)) ins len = true) (h1 : icP (iA (wd k i)) x y → Wp X d k (iB (wd k i)) L S M Q) (h2 : ¬ icP (iA (wd k i)) x y → Wp X d k (i + 1) L S M Q) : Wp X d k i L (vI y :: vI x :: S) M Q := by
  intro p l e R s m args below meth c g A cells slots QQ C hr hk H locs ls hH hl hL hS
  unfold ok18 at ho
  have hy : in32 y := hS _ List.mem_cons_self
  have hx : in32 x := hS _ (List.mem_cons_of_mem _ List.mem_cons_self)
  have hS2 : ∀ v ∈ S, rV v := fun v hv => hS v (List.mem_cons_of_mem _ (List.mem_cons_of_mem _ hv))
  have q1 := fun z => (h1 z p l e R s m args below meth c g A cells slots QQ C hr hk H locs ls hH hl hL hS2)
  have q2 := fun z => (h2 z p l e R s m args below meth c g A cells slots QQ C hr hk H locs ls hH hl hL hS2)
  split at ho
  · rename_i cc off
    simp only [Bool.and_eq_true, beq_iff_eq, decide_eq_true_eq] at ho
    obtain ⟨⟨ha, ht⟩, hn⟩ := ho
    rw [← ha] at q1 q2
    rw [hn] at q2
    cases cc
    · exact lv_icmp_eq C.1 C.2.1 hd ht (fun z => q1 ((e32 hx hy).mp z)) (fun z => q2 (fun e => z ((e32 hx hy).mpr e)))
    · exact lv_icmp_ne C.1 C.2.1 hd ht (fun z => q1 (fun e => z ((e32 hx hy).mpr e))) (fun z => q2 (fun e => e ((e32 hx hy).mp z)))
    · exact lv_icmp_lt C.1 C.2.1 hd ht (fun z => q1 ((l32 hx hy).mp z)) (fun z => q2 (fun e => z ((l32 hx hy).mpr e)))
    · exact lv_icmp_ge C.1 C.2.1 hd ht (fun z => q1 ((m32 hy hx).mp z)) (fun z => q2 (fun e => z ((m32 hy hx).mpr e)))
    · exact lv_icmp_gt C.1 C.2.1 hd ht (fun z => q1 ((l32 hy hx).mp z)) (fun z => q2 (fun e => z ((l32 hy hx).mpr e)))
    · exact lv_icmp_le C.1 C.2.1 hd ht (fun z => q1 ((m32 hx hy).mp z)) (fun z => q2 (fun e => z ((m32 hx hy).mpr e)))
  · cases ho

def ok20 (k w : Nat) : Instr → Nat → Bool
  | .goto off, 3 => decide ((iP w : Int) + off = (pcA k (iB w) : Int))
  | _, _ => false
theorem T20 (hd : decode (mB k) (pcA k i) = .ok (ins, len)) (ho : ok20 k (wd k i) ins len = true) (h : Wp X d k (iB (wd k i)) L S M Q) : Wp X d k i L S M Q := by
  intro p l e R s m args below meth c g A cells slots QQ C hr hk H locs ls hH hl hL hS
  unfold ok20 at ho
  have q := (h p l e R s m args below meth c g A cells slots QQ C hr hk H locs ls hH hl hL hS)
  split at ho
  · exact lv_goto C.1 C.2.1 hd (of_decide_eq_true ho) q
  · cases ho
end RULES
end
section
/-! the rules of the cells -/
theorem cls_in : ∀ r ∈ cls, ∀ w ∈ u_ws r.1 r.2.1 r.2.2, w ∈ wtb := by
  intro r hr
  simp only [cls, List.mem_cons, List.not_mem_nil, or_false] at hr
  rcases hr with rfl | rfl | rfl | rfl | rfl | rfl | rfl | rfl | rfl | rfl | rfl | rfl
  all_goals (show ∀ w ∈ u_ws _ _ _, w ∈ wtb; decide +kernel)
def clsGood (r : vw_C) : Prop := (∃ ty : Nat → FieldType, ∀ k, k < r.2.2 → parseFieldDescriptor (r.2.1 k).2.2.1 = some (ty k)) ∧ ∀ a, a < r.2.2 → ∀ b, b < r.2.2 → a ≠ b → (r.2.1 a).2.1 ≠ (r.2.1 b).2.1
theorem cls_good : ∀ r ∈ cls, clsGood r := by
  intro r hr
  simp only [cls, List.mem_cons, List.not_mem_nil, or_false] at hr
  rcases hr with rfl | rfl | rfl | rfl | rfl | rfl | rfl | rfl | rfl | rfl | rfl | rfl
  · exact ⟨⟨tyX0, tyX0_ok⟩, nmX0⟩
  · exact ⟨⟨tyX1, tyX1_ok⟩, nmX1⟩
  · exact ⟨⟨tyX2, tyX2_ok⟩, nmX2⟩
  · exact ⟨⟨tyX3, tyX3_ok⟩, nmX3⟩
  · exact ⟨⟨tyX4, tyX4_ok⟩, nmX4⟩
  · exact ⟨⟨tyX5, tyX5_ok⟩, nmX5⟩
  · exact ⟨⟨tyX6, tyX6_ok⟩, nmX6⟩
  · exact ⟨⟨tyX7, tyX7_ok⟩, nmX7⟩
  · exact ⟨⟨tyX8, tyX8_ok⟩, nmX8⟩
  · exact ⟨⟨tyX9, tyX9_ok⟩, nmX9⟩
  · exact ⟨⟨tyX10, tyX10_ok⟩, nmX10⟩
  · exact ⟨⟨tyX11, tyX11_ok⟩, nmX11⟩
def fV (f : Nat) (z : Int) : V := match f with
  | 0 => vI z
  | 1 => vL z
  | 2 => vI z
  | n + 3 => vR 0 n
theorem cv_fV (g : Gx) (f : Nat) (z : Int) : cv g (fV f z) = fvl g f z := by
  match f with
  | 0 => rfl
  | 1 => rfl
  | 2 => rfl
  | n + 3 => rfl
theorem rK_fV {f : Nat} {z : Int} (h : rK f z) : rV (fV f z) := by
  match f, h with
  | 0, h => exact h
  | 1, h => exact h
  | 2, h => rcases h with rfl | rfl <;> exact ⟨by decide, by decide⟩
  | n + 3, _ => exact trivial
theorem kd_obj {j ci s f : Nat} {fk : List Nat} (hj : SH[j]? = some (.inr (ci, fk))) (hf : fk[s]? = some f) : kd j s = f := by
  unfold kd
  rw [hj]
  show fk.getD s 9 = f
  rw [List.getD_eq_getElem?_getD, hf]
  rfl
theorem kd_arr {j c n s : Nat} (hj : SH[j]? = some (.inl (c, n))) : kd j s = if c = 0 then 0 else 2 := by
  unfold kd
  rw [hj]
theorem up_ne {M : Mm} {i j a : Nat} {z : Int} (h : a ≠ i) : up M i j z a = M a := by
  funext b
  unfold up
  rw [if_neg (fun q => h q.1)]
theorem up_eq {M : Mm} {i j b : Nat} {z : Int} : up M i j z i b = if b = j then z else M i b := by
  unfold up
  by_cases h : b = j
  · rw [if_pos ⟨rfl, h⟩, if_pos h]
  · rw [if_neg (fun q => h q.2), if_neg h]
theorem ws_set {g : Gx} {M : Mm} {j s : Nat} {z : Int} {c : SC} {e : va_E} (hj : SH[j]? = some c) (he : e = ent g c (up M j s z j)) : (wsOf g M).set j (g.2.1 j, e) = wsOf g (up M j s z) := by
  refine List.ext_getElem? fun t => ?_
  rw [List.getElem?_set]
  by_cases h : j = t
  · subst h
    have hl : j < (wsOf g M).length := by rw [ws_len]; exact (List.getElem?_eq_some_iff.mp hj).1
    rw [if_pos rfl, if_pos hl, ws_get hj, he]
  · rw [if_neg h]
    simp only [wsOf, List.getElem?_mapIdx]
    rw [up_ne (Ne.symm h)]
theorem ent_obj {g : Gx} {M : Mm} {j s ci f : Nat} {z : Int} {fk : List Nat} (hf : fk[s]? = some f) : (Sum.inr (ci, (fk.mapIdx (fun t q => fvl g q (M j t))).set s (fvl g f z)) : va_E) = ent g (.inr (ci, fk)) (up M j s z j) := by
  show Sum.inr _ = Sum.inr (ci, fk.mapIdx (fun t q => fvl g q (up M j s z j t)))
  congr 2
  refine List.ext_getElem? fun t => ?_
  rw [List.getElem?_set, List.length_mapIdx]
  by_cases h : s = t
  · subst h
    rw [if_pos rfl, if_pos (List.getElem?_eq_some_iff.mp hf).1, List.getElem?_mapIdx, hf]
    show some _ = some _
    rw [up_eq, if_pos rfl]
  · rw [if_neg h, List.getElem?_mapIdx, List.getElem?_mapIdx]
    rw [up_eq, if_neg (Ne.symm h)]
theorem ent_arr {g : Gx} {M : Mm} {j s c n : Nat} {z : Int} : (Sum.inl (g.2.2.1 c, n, .inl (upd (fun t => Int32.ofInt (M j t)) s (Int32.ofInt z))) : va_E) = ent g (.inl (c, n)) (up M j s z j) := by
  show Sum.inl _ = Sum.inl _
  congr 3
  refine congrArg Sum.inl (funext fun t => ?_)
  show (if t = s then _ else _) = Int32.ofInt (up M j s z j t)
  rw [up_eq]
  split <;> rfl
theorem Hold.put {g : Gx} {A : Nat → Prop} {s0 : State} {H1 : Heap} {locs1 : List Loc} {M : Mm} {j s : Nat} {z : Int} {c : SC} {e : va_E} (hM : okM M) (hj : SH[j]? = some c) (he : e = ent g c (up M j s z j)) (hz : rK (kd j s) z) (hP : va_P g.1 cls ((wsOf g M).set j (g.2.1 j, e)) H1) (hD : va_D A ((wsOf g M).set j (g.2.1 j, e))) (hS : va_S A s0.heap H1 locs1) : Hold g A s0 H1 locs1 (up M j s z) := by
  rw [ws_set hj he] at hP hD
  exact ⟨hP, hD, hS, okM_up hM hz⟩
section RULES
variable {X : Xs} {d k i : Nat} {L : List (Nat × V)} {S : List V} {M : Mm} {Q : Option V → Mm → Prop} {ins : Instr} {len : Nat}
def okF (k w n : Nat) : Bool := match cls[iA w]? with
  | some r => decide (wt (iC w 0) = some (Jvm.Cond.fieldLink (mY k).cls n (r.2.1 (iB w)).1 (r.2.1 (iB w)).2.1 (r.2.1 (iB w)).2.2.1)) && decide (iB w < r.2.2)
  | none => false
def ok22 (k w nx : Nat) : Instr → Nat → Bool
  | .getfield n, 3 => okF k w n && nx == iP w + 3
  | _, _ => false
theorem T22 {j f : Nat} {fk : List Nat} (hd : decode (mB k) (pcA k i) = .ok (ins, len)) (ho : ok22 k (wd k i) (pcA k (i + 1)) ins len = true) (hj : SH[j]? = some (.inr (iA (wd k i), fk))) (hf : fk[iB (wd k i)]? = some f) (h : rK f (M j (iB (wd k i))) → Wp X d k (i + 1) L (fV f (M j (iB (wd k i))) :: S) M Q) : Wp X d k i L (vR 0 j :: S) M Q := by

  intro p l e R s m args below meth c g A cells slots QQ C hr hk H locs ls hH hl hL hS
  have hr3 : rK f (M j (iB (wd k i))) := by
    have q := hH.2.2.2 j (iB (wd k i))
    rw [kd_obj hj hf] at q
    exact q
  have hS2 : ∀ v ∈ S, rV v := fun v hv => hS v (List.mem_cons_of_mem _ hv)
  have q := (h hr3 p l e R s m args below meth c g A cells slots QQ C hr hk H locs ls hH hl hL (rS1 hS2 (rK_fV hr3)))
  rw [List.map_cons, cv_fV] at q
  unfold ok22 okF at ho
  split at ho
  · rename_i n
    simp only [Bool.and_eq_true, beq_iff_eq] at ho
    obtain ⟨hc, hn⟩ := ho
    rw [hn] at q
    split at hc
    · rename_i r hr2
      simp only [Bool.and_eq_true, decide_eq_true_eq] at hc
      exact va_get (C := r.1) (T := r.2.1) (N := r.2.2) C.1 C.2.1 C.2.2.2.2.1 (fun w hw => List.mem_cons_of_mem _ (cls_in r (List.mem_of_getElem? hr2) w hw)) C.2.2.2.1 C.2.2.2.2.2.1 hH.1 j (ws_get hj) hr2 (iB (wd k i)) hc.2 (C.2.2.2.2.1 _ (wt_in hc.1)) (fun x hx => hx) (by rw [List.getElem?_mapIdx, hf]; rfl) hd q
    · cases hc
  · cases ho
def fty (f : Nat) : FieldType := match f with
  | 0 => .int
  | 1 => .long
  | _ => .boolean
def okG (w : Nat) : Bool := match cls[iA w]? with
  | some r => (r.2.1 (iB w)).2.2.2 == false
  | none => false
def ok23 (k w nx : Nat) : Instr → Nat → Bool
  | .putfield n, 3 => okF k w n && okG w && nx == iP w + 3
  | _, _ => false
def okT (ci s f : Nat) : Prop := ∀ r, cls[ci]? = some r → parseFieldDescriptor (r.2.1 s).2.2.1 = some (fty f)
theorem nar_b {z : Int} (h : z = 0 ∨ z = 1) : narrow .boolean (.int (Int32.ofInt z)) = .int (Int32.ofInt z) ∧ fits .boolean (.int (Int32.ofInt z)) = true := by
  rcases h with rfl | rfl <;> exact ⟨by decide, by decide⟩
theorem T23 {j f : Nat} {z : Int} {v : V} {fk : List Nat} (hd : decode (mB k) (pcA k i) = .ok (ins, len)) (ho : ok23 k (wd k i) (pcA k (i + 1)) ins len = true) (hj : SH[j]? = some (.inr (iA (wd k i), fk))) (hf : fk[iB (wd k i)]? = some f) (hT : okT (iA (wd k i)) (iB (wd k i)) f) (hf3 : f < 3) (hv : v = fV f z) (hz : rV v → rK f z) (h : Wp X d k (i + 1) L S (up M j (iB (wd k i)) z) Q) : Wp X d k i L (v :: vR 0 j :: S) M Q := by
  intro p l e R s m args below meth c g A cells slots QQ C hr hk H locs ls hH hl hL hS
  have hz2 : rK f z := hz (hS _ List.mem_cons_self)
  have hS2 : ∀ v ∈ S, rV v := fun v hv => hS v (List.mem_cons_of_mem _ (List.mem_cons_of_mem _ hv))
  have hnar : narrow (fty f) (fvl g f z) = fvl g f z ∧ fits (fty f) (fvl g f z) = true := by
    match f, hf3, hz2 with
    | 0, _, _ => exact ⟨rfl, rfl⟩
    | 1, _, _ => exact ⟨rfl, rfl⟩
    | 2, _, hz2 => exact nar_b hz2
  have hfl : iB (wd k i) < (fk.mapIdx (fun t q => fvl g q (M j t))).length := by
    rw [List.length_mapIdx]
    exact (List.getElem?_eq_some_iff.mp hf).1
  unfold ok23 okF okG at ho
  split at ho
  · rename_i n
    simp only [Bool.and_eq_true, beq_iff_eq] at ho
    obtain ⟨⟨hc, hfin⟩, hn⟩ := ho
    split at hc
    · rename_i r hr2
      rw [hr2] at hfin
      simp only [Bool.and_eq_true, decide_eq_true_eq] at hc
      obtain ⟨⟨ty0, hty0⟩, hnm⟩ := cls_good r (List.mem_of_getElem? hr2)
      rw [List.map_cons, List.map_cons, hv, cv_fV]
      refine va_put (C := r.1) (T := r.2.1) (N := r.2.2) (ty := fty f) C.1 C.2.1 C.2.2.2.2.1 (fun w hw => List.mem_cons_of_mem _ (cls_in r (List.mem_of_getElem? hr2) w hw)) ty0 hty0 hnm C.2.2.2.1 C.2.2.2.2.2.1 hH.1 hH.2.1 hH.2.2.1 j (ws_get hj) hr2 (iB (wd k i)) hc.2 (C.2.2.2.2.1 _ (wt_in hc.1)) (fun x hx => hx) (by simpa using hfin) (hT r hr2) hnar.1 hnar.2 hfl hd fun H1 locs1 hP hD hSS => ?_
      have q := h p l e R s m args below meth c g A cells slots QQ C hr hk H1 locs1 ls (Hold.put hH.2.2.2 hj (ent_obj hf) (by rw [kd_obj hj hf]; exact hz2) hP hD hSS) hl hL hS2
      rw [hn] at q
      exact q
    · cases hc
  · cases ho
def ok25 (w nx : Nat) : Instr → Nat → Bool
  | .iaload, 1 => nx == iP w + 1
  | _, _ => false
theorem T25 {j n : Nat} {x : Int} (hd : decode (mB k) (pcA k i) = .ok (ins, len)) (ho : ok25 (wd k i) (pcA k (i + 1)) ins len = true) (hj : SH[j]? = some (.inl (0, n))) (h0 : 0 ≤ x) (h1 : x < n) (h : in32 (M j x.toNat) → Wp X d k (i + 1) L (vI (M j x.toNat) :: S) M Q) : Wp X d k i L (vI x :: vR 0 j :: S) M Q := by
  intro p l e R s m args below meth c g A cells slots QQ C hr hk H locs ls hH hl hL hS
  have hr3 : in32 (M j x.toNat) := by
    have q := hH.2.2.2 j x.toNat
    rw [kd_arr hj] at q
    exact q
  have hx : in32 x := hS _ List.mem_cons_self
  have hS2 : ∀ v ∈ S, rV v := fun v hv => hS v (List.mem_cons_of_mem _ (List.mem_cons_of_mem _ hv))
  have q := (h hr3 p l e R s m args below meth c g A cells slots QQ C hr hk H locs ls hH hl hL (rS1 hS2 hr3))
  unfold ok25 at ho
  split at ho
  · simp only [beq_iff_eq] at ho
    rw [ho] at q
    refine va_iald C.1 C.2.1 C.2.2.2.2.2.1 hH.1 j 0 (ws_get hj) rfl (inn hx h0 h1) hd ?_
    rw [i32_cl hx]
    exact q
  · cases ho
theorem T25s {x : Int} (hd : decode (mB k) (pcA k i) = .ok (ins, len)) (ho : ok25 (wd k i) (pcA k (i + 1)) ins len = true) (h0 : 0 ≤ x) (h1 : x < X.1) (h : Wp X d k (i + 1) L (vI (X.2 x.toNat) :: S) M Q) : Wp X d k i L (vI x :: vR 1 0 :: S) M Q := by
  intro p l e R s m args below meth c g A cells slots QQ C hr hk H locs ls hH hl hL hS
  have hx : in32 x := hS _ List.mem_cons_self
  have hS2 : ∀ v ∈ S, rV v := fun v hv => hS v (List.mem_cons_of_mem _ (List.mem_cons_of_mem _ hv))
  have hO := C.2.2.2.2.2.2.1
  have q := (h p l e R s m args below meth c g A cells slots QQ C hr hk H locs ls hH hl hL (rS1 hS2 (hO.1.2.2 _)))
  unfold ok25 at ho
  split at ho
  · simp only [beq_iff_eq] at ho
    rw [ho] at q
    exact va_ti C.1 C.2.1 hO.1.1 hH.2.2.1 (inn hx h0 h1) (by show Value.int (Int32.ofInt _) = Value.int (Int32.ofInt _); rw [i32_cl hx]) hd q
  · cases ho
theorem T25t {x : Int} (hd : decode (mB k) (pcA k i) = .ok (ins, len)) (ho : ok25 (wd k i) (pcA k (i + 1)) ins len = true) (h0 : 0 ≤ x) (h1 : x < 11) (h : Wp X d k (i + 1) L (vI ((FSL.getD x.toNat 0).toInt) :: S) M Q) : Wp X d k i L (vI x :: vR 1 1 :: S) M Q := by
  intro p l e R s m args below meth c g A cells slots QQ C hr hk H locs ls hH hl hL hS
  have hx : in32 x := hS _ List.mem_cons_self
  have hS2 : ∀ v ∈ S, rV v := fun v hv => hS v (List.mem_cons_of_mem _ (List.mem_cons_of_mem _ hv))
  have hO := C.2.2.2.2.2.2.1
  have q := (h p l e R s m args below meth c g A cells slots QQ C hr hk H locs ls hH hl hL (rS1 hS2 (i32_r _)))
  unfold ok25 at ho
  split at ho
  · simp only [beq_iff_eq] at ho
    rw [ho] at q
    exact va_ti C.1 C.2.1 hO.2.1 hH.2.2.1 (inn hx h0 h1) (by show Value.int _ = Value.int (Int32.ofInt _); rw [i32_cl hx, Int32.ofInt_toInt]) hd q
  · cases ho
def ok26 (w nx : Nat) : Instr → Nat → Bool
  | .baload, 1 => nx == iP w + 1
  | _, _ => false
theorem T26 {j n : Nat} {x : Int} (hd : decode (mB k) (pcA k i) = .ok (ins, len)) (ho : ok26 (wd k i) (pcA k (i + 1)) ins len = true) (hj : SH[j]? = some (.inl (1, n))) (h0 : 0 ≤ x) (h1 : x < n) (h : (M j x.toNat = 0 ∨ M j x.toNat = 1) → Wp X d k (i + 1) L (vI (M j x.toNat) :: S) M Q) : Wp X d k i L (vI x :: vR 0 j :: S) M Q := by
  intro p l e R s m args below meth c g A cells slots QQ C hr hk H locs ls hH hl hL hS
  have hr3 : M j x.toNat = 0 ∨ M j x.toNat = 1 := by
    have q := hH.2.2.2 j x.toNat
    rw [kd_arr hj] at q
    exact q
  have hr4 : in32 (M j x.toNat) := by
    rcases hr3 with q | q <;> rw [q] <;> exact ⟨by decide, by decide⟩
  have hx : in32 x := hS _ List.mem_cons_self
  have hS2 : ∀ v ∈ S, rV v := fun v hv => hS v (List.mem_cons_of_mem _ (List.mem_cons_of_mem _ hv))
  have q := (h hr3 p l e R s m args below meth c g A cells slots QQ C hr hk H locs ls hH hl hL (rS1 hS2 hr4))
  unfold ok26 at ho
  split at ho
  · simp only [beq_iff_eq] at ho
    rw [ho] at q
    refine va_zald C.1 C.2.1 C.2.2.2.2.2.1 hH.1 j 1 (ws_get hj) rfl (inn hx h0 h1) hd ?_
    rw [i32_cl hx]
    exact q
  · cases ho
theorem T26t {n : Nat} {x : Int} (hd : decode (mB k) (pcA k i) = .ok (ins, len)) (ho : ok26 (wd k i) (pcA k (i + 1)) ins len = true) (hn : n < 12) (h0 : 0 ≤ x) (h1 : x < strLen.getD n 0) (h : Wp X d k (i + 1) L (vI (((strB.getD n []).getD x.toNat 0).toInt) :: S) M Q) : Wp X d k i L (vI x :: vR 1 (3 + n) :: S) M Q := by
  intro p l e R s m args below meth c g A cells slots QQ C hr hk H locs ls hH hl hL hS
  have hx : in32 x := hS _ List.mem_cons_self
  have hS2 : ∀ v ∈ S, rV v := fun v hv => hS v (List.mem_cons_of_mem _ (List.mem_cons_of_mem _ hv))
  have hO := C.2.2.2.2.2.2.1
  have q := (h p l e R s m args below meth c g A cells slots QQ C hr hk H locs ls hH hl hL (rS1 hS2 (i32_r _)))
  unfold ok26 at ho
  split at ho
  · simp only [beq_iff_eq] at ho
    rw [ho] at q
    exact va_tb C.1 C.2.1 (hO.2.2.1.1 n hn).2.2.2 hH.2.2.1 (inn hx h0 h1) (by show Value.int _ = Value.int (Int32.ofInt _); rw [i32_cl hx, Int32.ofInt_toInt]) hd q
  · cases ho
def ok27 (w nx : Nat) : Instr → Nat → Bool
  | .iastore, 1 => nx == iP w + 1
  | _, _ => false
theorem T27 {j n : Nat} {x z : Int} (hd : decode (mB k) (pcA k i) = .ok (ins, len)) (ho : ok27 (wd k i) (pcA k (i + 1)) ins len = true) (hj : SH[j]? = some (.inl (0, n))) (h0 : 0 ≤ x) (h1 : x < n) (h : Wp X d k (i + 1) L S (up M j x.toNat z) Q) : Wp X d k i L (vI z :: vI x :: vR 0 j :: S) M Q := by
  intro p l e R s m args below meth c g A cells slots QQ C hr hk H locs ls hH hl hL hS
  have hz : in32 z := hS _ List.mem_cons_self
  have hx : in32 x := hS _ (List.mem_cons_of_mem _ List.mem_cons_self)
  have hS2 : ∀ v ∈ S, rV v := fun v hv => hS v (List.mem_cons_of_mem _ (List.mem_cons_of_mem _ (List.mem_cons_of_mem _ hv)))
  unfold ok27 at ho
  split at ho
  · simp only [beq_iff_eq] at ho
    refine va_iast C.1 C.2.1 C.2.2.2.2.2.1 hH.1 hH.2.1 hH.2.2.1 j 0 (ws_get hj) rfl (inn hx h0 h1) hd fun H1 locs1 hP hD hSS => ?_
    rw [i32_cl hx] at hP hD
    have q := h p l e R s m args below meth c g A cells slots QQ C hr hk H1 locs1 ls (Hold.put hH.2.2.2 hj ent_arr (by rw [kd_arr hj]; exact hz) hP hD hSS) hl hL hS2
    rw [ho] at q
    exact q
  · cases ho
def ok28 (w nx : Nat) : Instr → Nat → Bool
  | .bastore, 1 => nx == iP w + 1
  | _, _ => false
theorem T28 {j n : Nat} {x z : Int} (hd : decode (mB k) (pcA k i) = .ok (ins, len)) (ho : ok28 (wd k i) (pcA k (i + 1)) ins len = true) (hj : SH[j]? = some (.inl (1, n))) (h0 : 0 ≤ x) (h1 : x < n) (hz : z = 0 ∨ z = 1) (h : Wp X d k (i + 1) L S (up M j x.toNat z) Q) : Wp X d k i L (vI z :: vI x :: vR 0 j :: S) M Q := by
  intro p l e R s m args below meth c g A cells slots QQ C hr hk H locs ls hH hl hL hS
  have hx : in32 x := hS _ (List.mem_cons_of_mem _ List.mem_cons_self)
  have hS2 : ∀ v ∈ S, rV v := fun v hv => hS v (List.mem_cons_of_mem _ (List.mem_cons_of_mem _ (List.mem_cons_of_mem _ hv)))
  unfold ok28 at ho
  split at ho
  · simp only [beq_iff_eq] at ho
    refine va_zast C.1 C.2.1 C.2.2.2.2.2.1 hH.1 hH.2.1 hH.2.2.1 j 1 (ws_get hj) rfl (inn hx h0 h1) hd fun H1 locs1 hP hD hSS => ?_
    rw [i32_cl hx, show vp_nar .boolean (Int32.ofInt z) = Int32.ofInt z by rcases hz with rfl | rfl <;> decide] at hP hD
    have q := h p l e R s m args below meth c g A cells slots QQ C hr hk H1 locs1 ls (Hold.put hH.2.2.2 hj ent_arr (by rw [kd_arr hj]; exact hz) hP hD hSS) hl hL hS2
    rw [ho] at q
    exact q
  · cases ho
def ok29 (w nx : Nat) : Instr → Nat → Bool
  | .arraylength, 1 => nx == iP w + 1
  | _, _ => false
theorem T29s (hd : decode (mB k) (pcA k i) = .ok (ins, len)) (ho : ok29 (wd k i) (pcA k (i + 1)) ins len = true) (h : Wp X d k (i + 1) L (vI X.1 :: S) M Q) : Wp X d k i L (vR 1 0 :: S) M Q := by
  intro p l e R s m args below meth c g A cells slots QQ C hr hk H locs ls hH hl hL hS
  have hS2 : ∀ v ∈ S, rV v := fun v hv => hS v (List.mem_cons_of_mem _ hv)
  have hO := C.2.2.2.2.2.2.1
  have hx : in32 X.1 := ⟨by omega, by have := hO.1.2.1; omega⟩
  have q := (h p l e R s m args below meth c g A cells slots QQ C hr hk H locs ls hH hl hL (rS1 hS2 hx))
  unfold ok29 at ho
  split at ho
  · simp only [beq_iff_eq] at ho
    rw [ho] at q
    exact va_tlen C.1 C.2.1 hO.1.1 hH.2.2.1 rfl hd q
  · cases ho
theorem T29t {n : Nat} (hd : decode (mB k) (pcA k i) = .ok (ins, len)) (ho : ok29 (wd k i) (pcA k (i + 1)) ins len = true) (hn : n < 12) (h : Wp X d k (i + 1) L (vI (strLen.getD n 0) :: S) M Q) : Wp X d k i L (vR 1 (3 + n) :: S) M Q := by
  intro p l e R s m args below meth c g A cells slots QQ C hr hk H locs ls hH hl hL hS
  have hS2 : ∀ v ∈ S, rV v := fun v hv => hS v (List.mem_cons_of_mem _ hv)
  have hO := C.2.2.2.2.2.2.1
  have hx : ∀ n, n < 12 → in32 (strLen.getD n 0) := by unfold in32; decide +kernel
  have q := (h p l e R s m args below meth c g A cells slots QQ C hr hk H locs ls hH hl hL (rS1 hS2 (hx n hn)))
  unfold ok29 at ho
  split at ho
  · simp only [beq_iff_eq] at ho
    rw [ho] at q
    exact va_tlen C.1 C.2.1 (hO.2.2.1.1 n hn).2.2.2 hH.2.2.1 rfl hd q
  · cases ho
def ok30 (w nx : Nat) : Instr → Nat → Bool
  | .dup, 1 => nx == iP w + 1
  | _, _ => false
theorem T30 {v : V} (hd : decode (mB k) (pcA k i) = .ok (ins, len)) (ho : ok30 (wd k i) (pcA k (i + 1)) ins len = true) (hc : catV v = 1) (h : Wp X d k (i + 1) L (v :: v :: S) M Q) : Wp X d k i L (v :: S) M Q := by
  intro p l e R s m args below meth c g A cells slots QQ C hr hk H locs ls hH hl hL hS
  have q := (h p l e R s m args below meth c g A cells slots QQ C hr hk H locs ls hH hl hL (rS1 hS (hS _ List.mem_cons_self)))
  unfold ok30 at ho
  split at ho
  · simp only [beq_iff_eq] at ho
    rw [ho] at q
    exact lv_dup C.1 C.2.1 hd (by rw [cv_cat C.2.2.2.2.2.2.1]; exact hc) q
  · cases ho
def ok31 (w nx : Nat) : Instr → Nat → Bool
  | .dup2, 1 => nx == iP w + 1
  | _, _ => false
theorem T31 {v u : V} (hd : decode (mB k) (pcA k i) = .ok (ins, len)) (ho : ok31 (wd k i) (pcA k (i + 1)) ins len = true) (hc : catV v = 1) (hc2 : catV u = 1) (h : Wp X d k (i + 1) L (v :: u :: v :: u :: S) M Q) : Wp X d k i L (v :: u :: S) M Q := by
  intro p l e R s m args below meth c g A cells slots QQ C hr hk H locs ls hH hl hL hS
  have q := (h p l e R s m args below meth c g A cells slots QQ C hr hk H locs ls hH hl hL (rS1 (rS1 hS (hS _ (List.mem_cons_of_mem _ List.mem_cons_self))) (hS _ List.mem_cons_self)))
  unfold ok31 at ho
  split at ho
  · simp only [beq_iff_eq] at ho
    rw [ho] at q
    exact lv_dup2_11 C.1 C.2.1 hd (by rw [cv_cat C.2.2.2.2.2.2.1]; exact hc) (by rw [cv_cat C.2.2.2.2.2.2.1]; exact hc2) q
  · cases ho
def ok32 (w nx : Nat) : Instr → Nat → Bool
  | .pop, 1 => nx == iP w + 1
  | _, _ => false
theorem T32 {v : V} (hd : decode (mB k) (pcA k i) = .ok (ins, len)) (ho : ok32 (wd k i) (pcA k (i + 1)) ins len = true) (hc : catV v = 1) (h : Wp X d k (i + 1) L S M Q) : Wp X d k i L (v :: S) M Q := by
  intro p l e R s m args below meth c g A cells slots QQ C hr hk H locs ls hH hl hL hS
  have q := (h p l e R s m args below meth c g A cells slots QQ C hr hk H locs ls hH hl hL (fun x hx => hS x (List.mem_cons_of_mem _ hx)))
  unfold ok32 at ho
  split at ho
  · simp only [beq_iff_eq] at ho
    rw [ho] at q
    exact lv_pop C.1 C.2.1 hd (by rw [cv_cat C.2.2.2.2.2.2.1]; exact hc) q
  · cases ho
/-- the end of a method -/
theorem TR {v : Option V} (hd : decode (mB k) (pcA k i) = .ok (retI v, 1)) (hq : (∀ x, v = some x → rV x) → Q v M) (hv : retOK (mR k) v) : Wp X d k i L v.toList M Q := by
  intro p l e R s m args below meth c g A cells slots QQ C hr hk H locs ls hH hl hL hS
  have hx : ∀ x, v = some x → rV x := fun x hx => hS x (by rw [hx]; exact List.mem_cons_self)
  exact hk i ls v M H locs hd (hq hx) hv hx hH
def ok24 (k w nx : Nat) : Instr → Nat → Bool
  | .getstatic n, 3 => (match iA w with
      | 0 => decide (wt (iC w 0) = some (Jvm.Cond.fieldLink (mY k).cls n "SwornCourt$Laws" "FIRST_SLOTS" "[I"))
      | 1 => decide (wt (iC w 0) = some (Jvm.Cond.fieldLink (mY k).cls n "java/lang/String" "COMPACT_STRINGS" "Z"))
      | _ => decide (wt (iC w 0) = some (Jvm.Cond.fieldLink (mY k).cls n "jdk/internal/util/Preconditions" "SIOOBE_FORMATTER" "Ljava/util/function/BiFunction;"))) && nx == iP w + 3
  | _, _ => false
def stV (a : Nat) : V := match a with
  | 0 => vR 1 1
  | 1 => vI 1
  | _ => vR 3 0
theorem T24 (hd : decode (mB k) (pcA k i) = .ok (ins, len)) (ho : ok24 k (wd k i) (pcA k (i + 1)) ins len = true) (h : Wp X d k (i + 1) L (stV (iA (wd k i)) :: S) M Q) : Wp X d k i L S M Q := by
  intro p l e R s m args below meth c g A cells slots QQ C hr hk H locs ls hH hl hL hS
  have hO := C.2.2.2.2.2.2.1
  have hrv : rV (stV (iA (wd k i))) := by
    unfold stV
    split
    · exact trivial
    · exact ⟨by decide, by decide⟩
    · exact trivial
  have q := (h p l e R s m args below meth c g A cells slots QQ C hr hk H locs ls hH hl hL (rS1 hS hrv))
  unfold ok24 at ho
  split at ho
  · simp only [Bool.and_eq_true, beq_iff_eq] at ho
    obtain ⟨hc, hn⟩ := ho
    rw [hn] at q
    split at hc
    · rename_i ha
      rw [ha] at q
      exact va_gets C.1 C.2.1 hO.2.2.2.2.1 hH.2.2.1 C.2.2.2.1 (C.2.2.2.2.1 _ (wt_in (of_decide_eq_true hc))) (fun x hx => hx) hd q
    · rename_i ha
      rw [ha] at q
      exact va_gets C.1 C.2.1 hO.2.2.2.2.2.1 hH.2.2.1 C.2.2.2.1 (C.2.2.2.2.1 _ (wt_in (of_decide_eq_true hc))) (fun x hx => hx) hd q
    · rename_i h0 h1
      rw [show stV (iA (wd k i)) = vR 3 0 from by unfold stV; split <;> first | contradiction | rfl] at q
      exact va_gets C.1 C.2.1 hO.2.2.2.2.2.2.1 hH.2.2.1 C.2.2.2.1 (C.2.2.2.2.1 _ (wt_in (of_decide_eq_true hc))) (fun x hx => hx) hd q
  · cases ho
def ok40 (k w nx : Nat) : Instr → Nat → Bool
  | .ldc n, 2 => (match strT[iA w]? with
      | some x => decide (x.1 = (mY k).cls) && x.2.1 == n
      | none => false) && nx == iP w + 2
  | _, _ => false
theorem T40 (hd : decode (mB k) (pcA k i) = .ok (ins, len)) (ho : ok40 k (wd k i) (pcA k (i + 1)) ins len = true) (h : Wp X d k (i + 1) L (vR 2 (iA (wd k i)) :: S) M Q) : Wp X d k i L S M Q := by
  intro p l e R s m args below meth c g A cells slots QQ C hr hk H locs ls hH hl hL hS
  have hO := C.2.2.2.2.2.2.1
  have q := (h p l e R s m args below meth c g A cells slots QQ C hr hk H locs ls hH hl hL (rS1 hS trivial))
  unfold ok40 at ho
  split at ho
  · rename_i n
    simp only [Bool.and_eq_true, beq_iff_eq] at ho
    obtain ⟨hc, hn⟩ := ho
    rw [hn] at q
    split at hc
    · rename_i x hx
      simp only [Bool.and_eq_true, decide_eq_true_eq, beq_iff_eq] at hc
      have hR := hO.2.2.2.1 _ x hx
      rw [hc.1, hc.2] at hR
      exact va_ldcS C.1 C.2.1 C.2.2.2.1 hR hd q
    · cases hc
  · cases ho
def ok41 (k w nx : Nat) : Instr → Nat → Bool
  | .getfield n, 3 => (match iA w with
      | 0 => decide (wt (iC w 0) = some (Jvm.Cond.fieldLink (mY k).cls n "java/lang/String" "value" "[B"))
      | _ => decide (wt (iC w 0) = some (Jvm.Cond.fieldLink (mY k).cls n "java/lang/String" "coder" "B"))) && nx == iP w + 3
  | _, _ => false
theorem T41 {n : Nat} (hd : decode (mB k) (pcA k i) = .ok (ins, len)) (ho : ok41 k (wd k i) (pcA k (i + 1)) ins len = true) (hn : n < 12) (h : Wp X d k (i + 1) L ((if iA (wd k i) = 0 then vR 1 (3 + n) else vI 0) :: S) M Q) : Wp X d k i L (vR 2 n :: S) M Q := by
  intro p l e R s m args below meth c g A cells slots QQ C hr hk H locs ls hH hl hL hS
  have hO := C.2.2.2.2.2.2.1
  have hrv : rV (if iA (wd k i) = 0 then vR 1 (3 + n) else vI 0) := by
    split
    · exact trivial
    · exact z32
  have hS2 : ∀ v ∈ S, rV v := fun v hv => hS v (List.mem_cons_of_mem _ hv)
  have q := (h p l e R s m args below meth c g A cells slots QQ C hr hk H locs ls hH hl hL (rS1 hS2 hrv))
  unfold ok41 at ho
  split at ho
  · simp only [Bool.and_eq_true, beq_iff_eq] at ho
    obtain ⟨hc, hn2⟩ := ho
    rw [hn2] at q
    split at hc
    · rename_i ha
      rw [if_pos ha] at q
      exact vk_getf C.1 C.2.1 (hO.2.2.1.1 n hn).2.2.1 hH.2.2.1 C.2.2.2.1 (C.2.2.2.2.1 _ (wt_in (of_decide_eq_true hc))) (fun x hx => hx) hd q
    · rename_i ha
      rw [if_neg ha] at q
      exact vk_getf C.1 C.2.1 (hO.2.2.1.1 n hn).2.1 hH.2.2.1 C.2.2.2.1 (C.2.2.2.2.1 _ (wt_in (of_decide_eq_true hc))) (fun x hx => hx) hd q
  · cases ho
def ok42 (k w : Nat) : Instr → Nat → Bool
  | .ifnonnull off, 3 => decide ((iP w : Int) + off = (pcA k (iB w) : Int))
  | _, _ => false
theorem T42 {t j : Nat} (ht : t < 3) (hd : decode (mB k) (pcA k i) = .ok (ins, len)) (ho : ok42 k (wd k i) ins len = true) (h : Wp X d k (iB (wd k i)) L S M Q) : Wp X d k i L (vR t j :: S) M Q := by
  intro p l e R s m args below meth c g A cells slots QQ C hr hk H locs ls hH hl hL hS
  have q := (h p l e R s m args below meth c g A cells slots QQ C hr hk H locs ls hH hl hL (fun x hx => hS x (List.mem_cons_of_mem _ hx)))
  obtain ⟨a, ha⟩ := gad_ref (g := g) (j := j) ht
  have e : cv g (vR t j) = .ref a := ha
  rw [List.map_cons, e]
  unfold ok42 at ho
  split at ho
  · exact lv_ifnonnull C.1 C.2.1 hd (of_decide_eq_true ho) q
  · cases ho
end RULES
end
section
/-! the rules of calls: a method's judgement is its contract -/
def cmpI (x y : Int) : Int := if y < x then 1 else if x = y then 0 else -1
theorem lgc {x y : Int} (hx : in64 x) (hy : in64 y) : Int32.ofInt (cmpI x y) = lg_cmp (Int64.ofInt x) (Int64.ofInt y) := by
  have e1 : (Int64.ofInt x > Int64.ofInt y) ↔ y < x := by rw [gt_iff_lt, Int64.lt_iff_toInt_lt, i64_to hx, i64_to hy]
  have e2 : (Int64.ofInt x = Int64.ofInt y) ↔ x = y := by rw [← Int64.toInt_inj, i64_to hx, i64_to hy]
  unfold cmpI lg_cmp
  by_cases h1 : y < x
  · rw [if_pos h1, if_pos (e1.mpr h1)]; decide
  · rw [if_neg h1, if_neg (fun q => h1 (e1.mp q))]
    by_cases h2 : x = y
    · rw [if_pos h2, if_pos (e2.mpr h2)]; decide
    · rw [if_neg h2, if_neg (fun q => h2 (e2.mp q))]; decide
theorem cmpI_r (x y : Int) : in32 (cmpI x y) := by
  unfold cmpI in32
  split
  · omega
  · split <;> omega
theorem icP_cmp {c : Nat} {x y : Int} : icP c (cmpI x y) 0 ↔ icP c x y := by
  unfold cmpI
  match c with
  | 0 => show (_ = (0 : Int)) ↔ x = y; split <;> (try split) <;> omega
  | 1 => show (_ ≠ (0 : Int)) ↔ x ≠ y; split <;> (try split) <;> omega
  | 2 => show (_ < (0 : Int)) ↔ x < y; split <;> (try split) <;> omega
  | 3 => show ((0 : Int) ≤ _) ↔ y ≤ x; split <;> (try split) <;> omega
  | 4 => show ((0 : Int) < _) ↔ y < x; split <;> (try split) <;> omega
  | n + 5 => show (_ ≤ (0 : Int)) ↔ x ≤ y; split <;> (try split) <;> omega
def cSum (vs : List V) : Nat := (vs.map catV).sum
def eL : Nat → List V → List (Nat × V)
  | _, [] => []
  | n, v :: vs => (n, v) :: eL (n + catV v) vs
theorem eL_args {X : Xs} {g : Gx} {A : Nat → Prop} {s : State} (h : ROk X g A s) : ∀ (vs : List V) (n : Nat), mapL g (eL n vs) = lv_args n (vs.map (cv g)) := by
  intro vs
  induction vs with
  | nil => intro n; rfl
  | cons v vs ih =>
    intro n
    show (n, cv g v) :: mapL g (eL (n + catV v) vs) = (n, cv g v) :: lv_args (if (cv g v).category = 2 then n + 2 else n + 1) (vs.map (cv g))
    rw [ih, cv_cat h]
    congr 2
    match v with
    | .inl _ => rfl
    | .inr (.inl _) => rfl
    | .inr (.inr _) => rfl
theorem eL_mem : ∀ (vs : List V) (n : Nat) (q : Nat × V), q ∈ eL n vs → q.2 ∈ vs := by
  intro vs
  induction vs with
  | nil => intro n q h; cases h
  | cons v vs ih =>
    intro n q h
    rcases List.mem_cons.mp h with rfl | h
    · exact List.mem_cons_self
    · exact List.mem_cons_of_mem _ (ih _ q h)
theorem cat_sl {X : Xs} {g : Gx} {A : Nat → Prop} {s : State} (h : ROk X g A s) : ∀ vs : List V, (lg_sl (vs.map (cv g))).length = cSum vs := by
  intro vs
  induction vs with
  | nil => rfl
  | cons v vs ih =>
    show (lg_sl (cv g v :: vs.map (cv g))).length = (catV v :: vs.map catV).sum
    unfold lg_sl at ih ⊢
    rw [List.flatMap_cons, List.length_append, ih, List.sum_cons, cv_cat h]
    show _ + cSum vs = catV v + cSum vs
    congr 1
    match v with
    | .inl _ => rfl
    | .inr (.inl _) => rfl
    | .inr (.inr _) => rfl
theorem cat_sum {X : Xs} {g : Gx} {A : Nat → Prop} {s : State} (h : ROk X g A s) (vs : List V) : ((vs.map (cv g)).map fun v => v.category).sum = cSum vs := by
  rw [List.map_map]
  unfold cSum
  congr 1
  exact List.map_congr_left fun v _ => cv_cat h v
def Rm (d : Nat) : Room := { frames := d, cells := 0, slots := 0, locals := 64 * d }
def Pcc (X : Xs) (g : Gx) (M : Mm) (sz : Nat) (vs : List V) : Array Value → State → Prop := va_Pc (vs.map (cv g)) (fun U => U.heap.size = sz ∧ va_P g.1 cls (wsOf g M) U.heap ∧ va_K g.1 cls (tysOf g) U ∧ va_D (fun _ => True) (wsOf g M) ∧ ROk X g (va_A (wsOf g M) sz) U)
def Qcc (k : Nat) (g : Gx) (A : Nat → Prop) (Q : Option V → Mm → Prop) : Array Value → State → Outcome → State → Prop := fun _ st o t =>
  (∃ (v : Option V) (M' : Mm), Q v M' ∧ retOK (mR k) v ∧ (∀ x, v = some x → rV x) ∧ okM M' ∧ o = .returned (v.map (cv g)) ∧ va_P g.1 cls (wsOf g M') t.heap) ∧ va_F A st t
theorem nar_c {z : Int} (h : 0 ≤ z ∧ z < 65536) : narrow .char (.int (Int32.ofInt z)) = .int (Int32.ofInt z) := by
  have e : z = (z.toNat : Int) := by omega
  have h2 : z.toNat < 65536 := by omega
  rw [e]
  show narrow .char (.int (nI z.toNat)) = .int (nI z.toNat)
  exact (pk_charN h2).1
theorem met_of {X : Xs} {d k : Nat} {vs : List V} {M : Mm} {Q : Option V → Mm → Prop} (h : Wp X d k 0 (eL 0 vs) [] M Q) (hc : cSum vs ≤ mN k) (hpl : plainName (mY k).cls = true) (hM : okM M) (hv : ∀ v ∈ vs, rV v) (hp0 : pcA k 0 = 0) (l : Launch) (g : Gx) (sz : Nat) :
    Met l (mY k) (ws k) (Rm d) (Pcc X g M sz vs) (Qcc k g (va_A (wsOf g M) sz) Q) 0 0 (va_A (wsOf g M) sz) := by
  refine Met.ofW (cc := mB k) (maxL := mN k) (ret := mR k) hpl rfl ?_
  intro p e s m args below meth c s₁ B hml hv2
  obtain ⟨rfl, hsz, hP, hK, hD0, hO⟩ := hv2
  have hx := B.exec
  have hb := B.bytes
  have hr := B.returns
  have hts := atoms_spec (ws := ws k) B.pre
  have hown : s.vm.findClass (mY k).cls = some m.cls := findClass_of_methodNamed B.named
  have hlocks := B.notSynchronized
  subst hsz
  have hD := hD0.self (sz := s.heap.size)
  rw [lg_entry_eq]
  have hl := lv_entry (vs.map (cv g)) (n := mN k) (by rw [cat_sl hO]; exact hc)
  generalize (lg_sl (vs.map (cv g)) ++ List.replicate (mN k - (lg_sl (vs.map (cv g))).length) Slot.unset).toArray = ls at hl ⊢
  rw [← eL_args hO] at hl
  have q := h p l e (Rm d) s m (vs.map (cv g)).toArray below meth c g (va_A (wsOf g M) s.heap.size) 0 0 (MQ below (Qcc k g (va_A (wsOf g M) s.heap.size) Q) (vs.map (cv g)).toArray s 0 0 (va_A (wsOf g M) s.heap.size)) ⟨hx, hb, hml, hown, hts, hK, hO, fun q h => Or.inr h⟩ ⟨Nat.le_refl _, Nat.le_refl _, Nat.le_refl _, Nat.le_refl _⟩ ?_ s.heap [] ls ⟨hP, hD, va_S.rf, hM⟩ hl (fun x hx => hv _ (eL_mem _ _ _ hx)) (fun v hv => by cases hv)
  · rw [hp0] at q
    exact q
  · intro i' ls' v M' H' locs' hdec hq hrok hrv hH
    have hend : ∀ t : State, t.heap = H' → Qcc k g (va_A (wsOf g M) s.heap.size) Q (vs.map (cv g)).toArray s (.returned (v.map (cv g))) t := fun t ht => ⟨⟨v, M', hq, hrok, hrv, hH.2.2.2, rfl, by rw [ht]; exact hH.1⟩, hH.2.2.1.F ht⟩
    generalize hrk : mR k = rk at hr hrok
    match v, rk, hrok, hdec, hend, hr with
    | none, none, _, hdec, hend, hr => exact W.vret hx hb hr (fun t ht _ => hend t ht) hH.2.2.1.2.2 hdec hlocks
    | some (.inl z), some .int, _, hdec, hend, hr => exact W.iret hx hb hr (fun t ht _ => hend t ht) hH.2.2.1.2.2 hdec hlocks
    | some (.inl z), some .boolean, hz, hdec, hend, hr => exact W.zret hx hb hr (nar_b hz).1 (fun t ht _ => hend t ht) hH.2.2.1.2.2 hdec hlocks
    | some (.inl z), some .char, hz, hdec, hend, hr => exact W.zret hx hb hr (nar_c hz) (fun t ht _ => hend t ht) hH.2.2.1.2.2 hdec hlocks
    | some (.inl z), some .byte, hz, hdec, hend, hr => exact W.zret hx hb hr (by rcases hz with rfl | rfl <;> decide) (fun t ht _ => hend t ht) hH.2.2.1.2.2 hdec hlocks
    | some (.inr (.inl z)), some .long, _, hdec, hend, hr => exact W.lret hx hb hr (fun t ht _ => hend t ht) hH.2.2.1.2.2 hdec hlocks
    | some (.inr (.inr (2, j))), some (.object nm), _, hdec, hend, hr => exact W.aret hx hb hr (Or.inl ⟨nm, rfl⟩) (Or.inr ⟨_, rfl⟩) (fun t ht _ => hend t ht) hH.2.2.1.2.2 hdec hlocks
    | none, some t, h, _, _, _ => exact absurd h (by cases t <;> exact fun q => q)
    | some (.inr (.inr (0, j))), some t, h, _, _, _ => exact absurd h (by cases t <;> exact fun q => q)
    | some (.inr (.inr (1, j))), some t, h, _, _, _ => exact absurd h (by cases t <;> exact fun q => q)
    | some (.inr (.inr (n + 3, j))), some t, h, _, _, _ => exact absurd h (by cases t <;> exact fun q => q)
section CG
variable {p : Program} {l : Launch} {e : Env} {R : Room} {s : State} {m : MethodId} {args : Array Value} {below : List Frame} {meth : Method} {c : Code} {H : Heap} {locs : List Loc} {cells slots : Nat} {QQ : State → Prop}
theorem callG {k' : Nat} {g : Gx} {A0 A1 : Nat → Prop} {H0 : Heap} {Q : Option V → Mm → Prop} {pc : Nat} {ls : Array Slot} {st0 rest : List Value} {a : Array Value} {free : Addr → Prop}
    (hr : va_Run p l e R s m args below meth c H locs cells slots 0 0 (F0 m pc ls st0) rest (Qcc k' g A1 Q a) free) (hS : va_S A0 H0 H locs) (hA : ∀ q, q < H.size → A1 q → A0 q) (hf : ∀ q, free q → A0 q)
    (kk : ∀ (v : Option V) (M' : Mm) (H1 : Heap) (locs1 : List Loc), Q v M' → retOK (mR k') v → (∀ x, v = some x → rV x) → okM M' → va_P g.1 cls (wsOf g M') H1 → va_S A0 H0 H1 locs1 → W p l e R s m args below meth c H1 locs1 cells slots QQ (F0 m (pc + 3) ls (v.toList.map (cv g) ++ rest))) : W p l e R s m args below meth c H locs cells slots QQ (F0 m pc ls st0) := by
  intro T hT X
  obtain ⟨v, st₀, t, T', L, h0, X', hL, e1, e2, ⟨⟨v', M', hq, hro, hrv, hM, hv, hP⟩, hz, hk⟩, st⟩ := hr T hT X
  have hv2 : v = v'.map (cv g) := Outcome.returned.inj hv
  subst hv2
  rw [h0] at hz hk
  obtain ⟨t2, a1, b1⟩ := kk v' M' T'.heap (locs ++ L) hq hro hrv hM (by rw [e1]; exact hP)
    ⟨Nat.le_trans hS.1 (by rw [e1]; exact hz), fun q h1 h2 => by rw [e1, hk q (Nat.lt_of_lt_of_le h1 hS.1) (fun z => h2 (hA q (Nat.lt_of_lt_of_le h1 hS.1) z))]; exact hS.2.1 q h1 h2, fun q hq => by
      rcases List.mem_append.mp hq with h | h
      · exact hS.2.2 q h
      · exact hf _ (hL q h)⟩ T' rfl X'
  refine ⟨t2, st t2 ?_, b1⟩
  have e3 : (v'.map (cv g)).toList = v'.toList.map (cv g) := by cases v' <;> rfl
  rw [e3]
  exact a1
end CG
theorem ws_fst (g : Gx) (M M' : Mm) (j : Nat) : ((wsOf g M)[j]?).map Prod.fst = ((wsOf g M')[j]?).map Prod.fst := by
  simp only [wsOf, List.getElem?_mapIdx, Option.map_map]
  congr 1
theorem vD_any {g : Gx} {A : Nat → Prop} {M M' : Mm} (h : va_D A (wsOf g M)) : va_D A (wsOf g M') := by
  have tr : ∀ (j : Nat) (q : Nat × va_E), (wsOf g M')[j]? = some q → ∃ e, (wsOf g M)[j]? = some (q.1, e) := by
    intro j q hq
    have h1 := ws_fst g M M' j
    rw [hq] at h1
    cases h2 : (wsOf g M)[j]? with
    | none => rw [h2] at h1; cases h1
    | some r =>
      rw [h2] at h1
      have h3 : r.1 = q.1 := Option.some.inj h1
      exact ⟨r.2, by rw [← h3]⟩
  refine ⟨fun i j x y hx hy hxy => ?_, fun j q hq => ?_⟩
  · obtain ⟨e1, h1⟩ := tr i x hx
    obtain ⟨e2, h2⟩ := tr j y hy
    exact h.1 i j _ _ h1 h2 hxy
  · obtain ⟨e1, h1⟩ := tr j q hq
    exact h.2 j (q.1, e1) h1
theorem vA_in {g : Gx} {A0 : Nat → Prop} {M : Mm} {s : State} {H : Heap} {locs : List Loc} (hD : va_D A0 (wsOf g M)) (hS : va_S A0 s.heap H locs) (hA : ∀ q, s.heap.size ≤ q → A0 q) : ∀ q, va_A (wsOf g M) H.size q → A0 q := by
  intro q h
  rcases h with ⟨j, e, h⟩ | h
  · exact hD.2 j _ h
  · exact hA q (Nat.le_trans hS.1 h)
theorem pcc_blind (X : Xs) (g : Gx) (M : Mm) (sz : Nat) (vs : List V) : FrameBlind (Pcc X g M sz vs) := by
  intro a U gg mk q
  obtain ⟨q1, q2, q3, q4, q5, q6⟩ := q
  exact ⟨q1, q2, q3, va_K.moved (u := U) (U := U.calling gg mk a) (Vm.Alike.refl U.vm) q4, q5, ROk.same q6 rfl rfl⟩
theorem pcc_pre {X : Xs} {g : Gx} {A : Nat → Prop} {M : Mm} {s : State} {H : Heap} {locs : List Loc} (hH : Hold g A s H locs M) (hK : va_K g.1 cls (tysOf g) s) (hO : ROk X g A s) (hA : ∀ q, s.heap.size ≤ q → A q) (vs : List V) : ∀ U : State, U.heap = H → s.WarmedH U.vm → Pcc X g M H.size vs (vs.map (cv g)).toArray U := by
  intro U hU hW
  refine ⟨rfl, by rw [hU], by rw [hU]; exact hH.1, va_K.moved hW.alike hK, hH.2.1.weaken (fun _ _ _ _ => trivial), ?_⟩
  exact hO.to hW (fun a h1 h2 => by rw [hU]; exact hH.2.2.1.2.1 a h1 h2) (vA_in hH.2.1 hH.2.2.1 hA)
/-- the tables' words are all such as a callee may have -/
theorem tbl_good : ∀ w ∈ wtb, goodWord w = true := fun w hw => (List.mem_filter.mp hw).2
/-- what a callee must be -/
def lEq : List UInt8 → List UInt8 → Bool
  | [], [] => true
  | x :: xs, y :: ys => Nat.beq x.toNat y.toNat && lEq xs ys
  | _, _ => false
theorem lEq_ok : ∀ {l m : List UInt8}, lEq l m = true → l = m := by
  intro l
  induction l with
  | nil => intro m h; cases m with
    | nil => rfl
    | cons y ys => cases h
  | cons x xs ih =>
    intro m h
    cases m with
    | nil => cases h
    | cons y ys =>
      unfold lEq at h
      rw [Bool.and_eq_true] at h
      rw [ih h.2, UInt8.toNat_inj.mp (Nat.eq_of_beq_eq_true h.1)]
def okWord (k : Nat) : Option Jvm.Cond → Bool
  | some (Jvm.Cond.code y b n r) => decide (y = mY k) && lEq b.data.toList (mB k).data.toList && Nat.beq n (mN k) && decide (r = mR k)
  | _ => false
theorem okWord_ok {k : Nat} {w : Option Jvm.Cond} (h : okWord k w = true) : w = some (Jvm.Cond.code (mY k) (mB k) (mN k) (mR k)) := by
  unfold okWord at h
  split at h
  · rename_i y b n r
    simp only [Bool.and_eq_true, decide_eq_true_eq] at h
    obtain ⟨⟨⟨h1, h2⟩, h3⟩, h4⟩ := h
    have hb : b = mB k := by
      have e := lEq_ok h2
      have e2 : b.data = (mB k).data := Array.toList_inj.mp e
      cases b
      generalize mB k = z at e2
      cases z
      exact congrArg ByteArray.mk e2
    rw [h1, hb, Nat.eq_of_beq_eq_true h3, h4]
  · cases h
def okMeth (k : Nat) : Bool := okWord k (wt (cpl.getD k 0)) && decide (mN k ≤ 45) && plainName (mY k).cls && decide (pcA k 0 = 0) && decide ((mY k).cls ≠ "java/lang/invoke/MethodHandle" ∧ (mY k).cls ≠ "java/lang/invoke/VarHandle")
def npar (k : Nat) : Option Nat := (parseMethodDescriptor (mY k).desc).map (fun d => d.parameters.length)
theorem callee_words {k k' : Nat} (h : okMeth k' = true) {args : Array Value} {s : State} (hts : ∀ w ∈ ws k, w.before args s = true) : (∀ w ∈ ws k', ∀ (a' : Array Value) (U : State), s.WarmedH U.vm → w.before a' U = true) ∧ (Jvm.Cond.code (mY k') (mB k') (mN k') (mR k')).before args s = true := by
  unfold okMeth at h
  simp only [Bool.and_eq_true, decide_eq_true_eq] at h
  have hc := wt_mem (okWord_ok h.1.1.1.1)
  refine ⟨fun w hw a' U hW => ?_, hts _ (List.mem_cons_of_mem _ hc)⟩
  have hw2 : w ∈ wtb := by
    rcases List.mem_cons.mp hw with rfl | h
    · exact hc
    · exact h
  exact word_at hW (good_of_word (tbl_good w hw2)) (hts w (List.mem_cons_of_mem _ hw2))
section RULES
variable {X : Xs} {d k i : Nat} {L : List (Nat × V)} {S : List V} {M : Mm} {Q : Option V → Mm → Prop} {ins : Instr} {len : Nat}
def ok37 (k w nx : Nat) : Instr → Nat → Bool
  | .invokevirtual n, 3 => decide (wt (iC w 0) = some (Jvm.Cond.methodLink (mY k).cls n (mY (iA w)))) && decide (wt (iC w 1) = some (Jvm.Cond.instanceMethod (mY (iA w)))) && decide (wt (iC w 2) = some (Jvm.Cond.selects (mY (iA w)).cls (mY (iA w)) (mY (iA w)))) && decide (wt (iC w 3) = some (Jvm.Cond.initialized (mY (iA w)).cls)) && decide (npar (iA w) = some (iB w - 1)) && nx == iP w + 3
  | _, _ => false
def ok38 (k w nx : Nat) : Instr → Nat → Bool
  | .invokestatic n, 3 => decide (wt (iC w 0) = some (Jvm.Cond.methodLink (mY k).cls n (mY (iA w)))) && decide (wt (iC w 1) = some (Jvm.Cond.static (mY (iA w)))) && decide (wt (iC w 3) = some (Jvm.Cond.initialized (mY (iA w)).cls)) && decide (npar (iA w) = some (iB w)) && nx == iP w + 3
  | _, _ => false
theorem npar_len {k n : Nat} (h : npar k = some n) : ∀ sig, parseMethodDescriptor (mY k).desc = some sig → n = sig.parameters.length := by
  intro sig hs
  unfold npar at h
  rw [hs] at h
  exact (Option.some.inj h).symm
/-- who is called: an object of the world, of the callee's class, or a String constant -/
def recOK (k' : Nat) (r : V) : Prop := (∃ j ci fk q, r = vR 0 j ∧ SH[j]? = some (.inr (ci, fk)) ∧ cls[ci]? = some q ∧ q.1 = (mY k').cls) ∨ (∃ n, r = vR 2 n ∧ n < 12 ∧ (mY k').cls = "java/lang/String")
theorem T37 {d' k' : Nat} {r : V} {as : List V} {Q' : Option V → Mm → Prop} (hd : decode (mB k) (pcA k i) = .ok (ins, len)) (ho : ok37 k (wd k i) (pcA k (i + 1)) ins len = true) (hk' : iA (wd k i) = k') (hm : okMeth k' = true) (hn : as.length + 1 = iB (wd k i)) (hc : cSum (r :: as) ≤ mN k') (hcS : cSum S ≤ 8) (hrec : recOK k' r) (hdd : d' < d) (hw : Wp X d' k' 0 (eL 0 (r :: as)) [] M Q') (h : ∀ v M', Q' v M' → retOK (mR k') v → (∀ x, v = some x → rV x) → okM M' → Wp X d k (i + 1) L (v.toList ++ S) M' Q) : Wp X d k i L (as.reverse ++ r :: S) M Q := by
  intro p l e R s m args below meth c g A cells slots QQ C hr hk H locs ls hH hl hL hS
  subst hk'
  have hvs : ∀ v ∈ r :: as, rV v := by
    intro v hv
    rcases List.mem_cons.mp hv with rfl | hv
    · exact hS _ (by simp)
    · exact hS _ (by simp [hv])
  have hS2 : ∀ v ∈ S, rV v := fun v hv => hS v (by simp [hv])
  obtain ⟨hws, hcode⟩ := callee_words hm C.2.2.2.2.1
  have hm2 := hm
  unfold okMeth at hm2
  simp only [Bool.and_eq_true, decide_eq_true_eq] at hm2
  obtain ⟨⟨⟨⟨hm0, hmN⟩, hpl⟩, hp0⟩, hne⟩ := hm2
  unfold ok37 at ho
  split at ho
  · rename_i n
    simp only [Bool.and_eq_true, beq_iff_eq, decide_eq_true_eq] at ho
    obtain ⟨⟨⟨⟨⟨o1, o2⟩, o3⟩, o4⟩, o5⟩, o6⟩ := ho
    have hM := met_of hw hc hpl hH.2.2.2 hvs hp0 l g H.size
    have hfree := vA_in hH.2.1 hH.2.2.1 C.2.2.2.2.2.2.2
    have hpre := pcc_pre hH C.2.2.2.2.2.1 C.2.2.2.2.2.2.1 C.2.2.2.2.2.2.2 (r :: as)
    obtain ⟨a0, ha0, cellB, hcB, hoB, hclB⟩ : ∃ a0 : Nat, cv g r = .ref a0 ∧ ∃ cellB : Cell, H[a0]? = some cellB ∧ cellB.vm.isStatics = false ∧ s.vm.findClass (mY (iA (wd k i))).cls = some cellB.cls := by
      rcases hrec with ⟨j, ci, fk, q, rfl, hj, hq, he⟩ | ⟨n, rfl, hn, he⟩
      · refine ⟨g.2.1 j, rfl, ?_⟩
        rw [← he]
        exact va_recv C.2.2.2.2.2.1 hH.1 hq (ws_get hj)
      · refine ⟨gsa g n, rfl, ?_⟩
        rw [he]
        exact vk_recv C.2.2.2.2.2.2.1.2.2.1 hn hH.2.2.1
    have hstk : (as.reverse ++ r :: S).map (cv g) = (as.map (cv g)).reverse ++ .ref a0 :: S.map (cv g) := by
      rw [List.map_append, List.map_reverse, List.map_cons, ha0]
    rw [hstk]
    have hargs : (r :: as).map (cv g) = .ref a0 :: as.map (cv g) := by rw [List.map_cons, ha0]
    rw [hargs] at hpre
    refine callG (va_runV (As := as.map (cv g)) (rest := S.map (cv g)) (n := as.length) (C := (mY (iA (wd k i))).cls) (index := n) (bytes := mB (iA (wd k i))) (maxL := mN (iA (wd k i))) (ret := mR (iA (wd k i))) ⟨C.1, C.2.1, C.2.2.1, C.2.2.2.1, C.2.2.2.2.1⟩ hM ⟨⟨rfl, rfl, ?_, ?_, hws, List.mem_cons_self, hcode, C.2.2.2.2.1 _ (wt_in o4), hne, ?_, C.2.2.2.2.1 _ (wt_in o1)⟩, C.2.2.2.2.1 _ (wt_in o2), C.2.2.2.2.1 _ (wt_in o3)⟩ ⟨pcc_blind X g M H.size (r :: as), ⟨cellB, hcB, hoB, hclB⟩, hpre⟩ rfl (by simp) hl.1 rfl (lv_room (by rw [cat_sum C.2.2.2.2.2.2.1]; exact hcS)) hd ⟨hr.2.2.1, hr.2.2.2⟩) hH.2.2.1 (fun q _ h => hfree q h) hfree (fun v M' H1 locs1 hq hro hrv hM1 hP1 hS1 => ?_)
    · show d' + 1 ≤ R.frames
      omega
    · show 8 + (mN (iA (wd k i)) + 11) + 64 * d' ≤ R.locals
      omega
    · intro sig hsig
      have := npar_len o5 sig hsig
      omega
    · have q := h v M' hq hro hrv hM1 p l e R s m args below meth c g A cells slots QQ C hr hk H1 locs1 ls ⟨hP1, vD_any hH.2.1, hS1, hM1⟩ hl hL (fun x hx => by
        rcases List.mem_append.mp hx with hx | hx
        · exact hrv x (by cases v with
            | none => cases hx
            | some y => rw [List.mem_singleton.mp hx])
        · exact hS2 x hx)
      rw [o6, List.map_append] at q
      exact q
  · cases ho
theorem T38 {d' k' : Nat} {as : List V} {Q' : Option V → Mm → Prop} (hd : decode (mB k) (pcA k i) = .ok (ins, len)) (ho : ok38 k (wd k i) (pcA k (i + 1)) ins len = true) (hk' : iA (wd k i) = k') (hm : okMeth k' = true) (hn : as.length = iB (wd k i)) (hc : cSum as ≤ mN k') (hcS : cSum S ≤ 8) (hdd : d' < d) (hw : Wp X d' k' 0 (eL 0 as) [] M Q') (h : ∀ v M', Q' v M' → retOK (mR k') v → (∀ x, v = some x → rV x) → okM M' → Wp X d k (i + 1) L (v.toList ++ S) M' Q) : Wp X d k i L (as.reverse ++ S) M Q := by
  intro p l e R s m args below meth c g A cells slots QQ C hr hk H locs ls hH hl hL hS
  subst hk'
  have hvs : ∀ v ∈ as, rV v := fun v hv => hS _ (by simp [hv])
  have hS2 : ∀ v ∈ S, rV v := fun v hv => hS v (by simp [hv])
  obtain ⟨hws, hcode⟩ := callee_words hm C.2.2.2.2.1
  have hm2 := hm
  unfold okMeth at hm2
  simp only [Bool.and_eq_true, decide_eq_true_eq] at hm2
  obtain ⟨⟨⟨⟨hm0, hmN⟩, hpl⟩, hp0⟩, hne⟩ := hm2
  unfold ok38 at ho
  split at ho
  · rename_i n
    simp only [Bool.and_eq_true, beq_iff_eq, decide_eq_true_eq] at ho
    obtain ⟨⟨⟨⟨o1, o2⟩, o4⟩, o5⟩, o6⟩ := ho
    have hM := met_of hw hc hpl hH.2.2.2 hvs hp0 l g H.size
    have hfree := vA_in hH.2.1 hH.2.2.1 C.2.2.2.2.2.2.2
    have hpre := pcc_pre hH C.2.2.2.2.2.1 C.2.2.2.2.2.2.1 C.2.2.2.2.2.2.2 as
    have hstk : (as.reverse ++ S).map (cv g) = (as.map (cv g)).reverse ++ S.map (cv g) := by
      rw [List.map_append, List.map_reverse]
    rw [hstk]
    refine callG (va_runS (As := as.map (cv g)) (rest := S.map (cv g)) (n := as.length) (index := n) (bytes := mB (iA (wd k i))) (maxL := mN (iA (wd k i))) (ret := mR (iA (wd k i))) ⟨C.1, C.2.1, C.2.2.1, C.2.2.2.1, C.2.2.2.2.1⟩ hM ⟨⟨rfl, rfl, ?_, ?_, hws, List.mem_cons_self, hcode, C.2.2.2.2.1 _ (wt_in o4), hne, ?_, C.2.2.2.2.1 _ (wt_in o1)⟩, C.2.2.2.2.1 _ (wt_in o2)⟩ ⟨pcc_blind X g M H.size as, hpre⟩ rfl (by simp) hl.1 rfl (lv_room (by rw [cat_sum C.2.2.2.2.2.2.1]; exact hcS)) hd ⟨hr.2.2.1, hr.2.2.2⟩) hH.2.2.1 (fun q _ h => hfree q h) hfree (fun v M' H1 locs1 hq hro hrv hM1 hP1 hS1 => ?_)
    · show d' + 1 ≤ R.frames
      omega
    · show 8 + (mN (iA (wd k i)) + 11) + 64 * d' ≤ R.locals
      omega
    · intro sig hsig
      have := npar_len o5 sig hsig
      omega
    · have q := h v M' hq hro hrv hM1 p l e R s m args below meth c g A cells slots QQ C hr hk H1 locs1 ls ⟨hP1, vD_any hH.2.1, hS1, hM1⟩ hl hL (fun x hx => by
        rcases List.mem_append.mp hx with hx | hx
        · exact hrv x (by cases v with
            | none => cases hx
            | some y => rw [List.mem_singleton.mp hx])
        · exact hS2 x hx)
      rw [o6, List.map_append] at q
      exact q
  · cases ho
def ok43 (k w nx : Nat) : Instr → Nat → Bool
  | .invokestatic n, 3 => (match iA w with
      | 0 => decide (wt (iC w 0) = some (Jvm.Cond.methodLink (mY k).cls n Lib.Math.max.name)) && decide (wt (iC w 1) = some (Jvm.Cond.static Lib.Math.max.name)) && decide (wt (iC w 3) = some (Jvm.Cond.code Lib.Math.max.name Lib.Math.max.code 2 (some .int)))
      | _ => decide (wt (iC w 0) = some (Jvm.Cond.methodLink (mY k).cls n Lib.Math.min.name)) && decide (wt (iC w 1) = some (Jvm.Cond.static Lib.Math.min.name)) && decide (wt (iC w 3) = some (Jvm.Cond.code Lib.Math.min.name Lib.Math.min.code 2 (some .int))))
      && decide (wt (iC w 2) = some (Jvm.Cond.initialized "java/lang/Math")) && nx == iP w + 3
  | _, _ => false
theorem T43 {x y : Int} (hd : decode (mB k) (pcA k i) = .ok (ins, len)) (ho : ok43 k (wd k i) (pcA k (i + 1)) ins len = true) (hcS : cSum S ≤ 8) (hdd : 1 ≤ d) (h : Wp X d k (i + 1) L (vI (ib (if iA (wd k i) = 0 then 9 else 10) x y) :: S) M Q) : Wp X d k i L (vI y :: vI x :: S) M Q := by
  intro p l e R s m args below meth c g A cells slots QQ C hr hk H locs ls hH hl hL hS
  have hS2 : ∀ v ∈ S, rV v := fun v hv => hS v (List.mem_cons_of_mem _ (List.mem_cons_of_mem _ hv))
  have hr2 : rV (vI (ib (if iA (wd k i) = 0 then 9 else 10) x y)) := by
    show in32 _
    unfold ib
    split <;> exact i32_r _
  have q := h p l e R s m args below meth c g A cells slots QQ C hr hk H locs ls hH hl hL (rS1 hS2 hr2)
  rw [List.map_cons] at q
  have hloc : ((S.map (cv g)).map fun v => v.category).sum + 13 ≤ R.locals := by
    rw [cat_sum C.2.2.2.2.2.2.1]
    omega
  unfold ok43 at ho
  split at ho
  · rename_i n
    simp only [Bool.and_eq_true, beq_iff_eq] at ho
    obtain ⟨⟨hc, o2⟩, o3⟩ := ho
    rw [o3] at q
    split at hc
    · rename_i ha
      simp only [Bool.and_eq_true] at hc
      rw [if_pos ha] at q
      refine va_mmax C.1 C.2.1 (by rw [C.2.2.1]; exact hl.1.symm) C.2.2.2.1 (C.2.2.2.2.1 _ (wt_in (of_decide_eq_true hc.1.1))) (C.2.2.2.2.1 _ (wt_in (of_decide_eq_true hc.1.2))) (C.2.2.2.2.1 _ (wt_in (of_decide_eq_true o2))) (C.2.2.2.2.1 _ (wt_in (of_decide_eq_true hc.2))) (by omega) hloc hr.2.2.1 hr.2.2.2 hd ?_
      rw [show cv g (vI (ib 9 x y)) = .int _ from congrArg Value.int (Int32.ofInt_toInt _)] at q
      exact q
    · rename_i ha
      simp only [Bool.and_eq_true] at hc
      rw [if_neg ha] at q
      refine va_mmin C.1 C.2.1 (by rw [C.2.2.1]; exact hl.1.symm) C.2.2.2.1 (C.2.2.2.2.1 _ (wt_in (of_decide_eq_true hc.1.1))) (C.2.2.2.2.1 _ (wt_in (of_decide_eq_true hc.1.2))) (C.2.2.2.2.1 _ (wt_in (of_decide_eq_true o2))) (C.2.2.2.2.1 _ (wt_in (of_decide_eq_true hc.2))) (by omega) hloc hr.2.2.1 hr.2.2.2 hd ?_
      rw [show cv g (vI (ib 10 x y)) = .int _ from congrArg Value.int (Int32.ofInt_toInt _)] at q
      exact q
  · cases ho
def ok19 (k i w nx : Nat) : Instr → Nat → Bool
  | .lcmp, 1 => nx == iP w + 1 && iO (wd k (i + 1)) == 17 && iA (wd k (i + 1)) == iA w && iB (wd k (i + 1)) == iB w
  | _, _ => false
theorem T19a {x y : Int} (hd : decode (mB k) (pcA k i) = .ok (ins, len)) (ho : ok19 k i (wd k i) (pcA k (i + 1)) ins len = true) (h : Wp X d k (i + 1) L (vI (cmpI x y) :: S) M Q) : Wp X d k i L (vL y :: vL x :: S) M Q := by
  intro p l e R s m args below meth c g A cells slots QQ C hr hk H locs ls hH hl hL hS
  have hy : in64 y := hS _ List.mem_cons_self
  have hx : in64 x := hS _ (List.mem_cons_of_mem _ List.mem_cons_self)
  have hS2 : ∀ v ∈ S, rV v := fun v hv => hS v (List.mem_cons_of_mem _ (List.mem_cons_of_mem _ hv))
  have q := h p l e R s m args below meth c g A cells slots QQ C hr hk H locs ls hH hl hL (rS1 hS2 (cmpI_r x y))
  rw [List.map_cons, show cv g (vI (cmpI x y)) = .int _ from congrArg Value.int (lgc hx hy)] at q
  unfold ok19 at ho
  split at ho
  · simp only [Bool.and_eq_true, beq_iff_eq] at ho
    rw [ho.1.1.1] at q
    exact W.lcmp C.1 C.2.1 hd q
  · cases ho
def ok21 (k w : Nat) : Instr → Nat → Bool
  | .tableswitch df lo hi offs, _ => decide (lo = 0) && decide (hi + 1 = ((swt.getD (iC w 0) []).length : Int)) && decide (offs.toList.map (fun o => (iP w : Int) + o) = (swt.getD (iC w 0) []).map (fun u => (pcA k u : Int))) && decide ((iP w : Int) + df = (pcA k (iB w) : Int))
  | _, _ => false
theorem T21 {x : Int} (hd : decode (mB k) (pcA k i) = .ok (ins, len)) (ho : ok21 k (wd k i) ins len = true) (h1 : ∀ t, 0 ≤ x → (swt.getD (iC (wd k i) 0) [])[x.toNat]? = some t → Wp X d k t L S M Q) (h2 : x < 0 ∨ ((swt.getD (iC (wd k i) 0) []).length : Int) ≤ x → Wp X d k (iB (wd k i)) L S M Q) : Wp X d k i L (vI x :: S) M Q := by
  intro p l e R s m args below meth c g A cells slots QQ C hr hk H locs ls hH hl hL hS
  have hx : in32 x := hS _ List.mem_cons_self
  have hS2 : ∀ v ∈ S, rV v := fun v hv => hS v (List.mem_cons_of_mem _ hv)
  unfold ok21 at ho
  split at ho
  · rename_i df lo hi offs ln
    simp only [Bool.and_eq_true, decide_eq_true_eq] at ho
    obtain ⟨⟨⟨o1, o2⟩, o3⟩, o4⟩ := ho
    subst o1
    by_cases hb : x < 0 ∨ ((swt.getD (iC (wd k i) 0) []).length : Int) ≤ x
    · refine lv_tableOut C.1 C.2.1 hd ?_ o4 (h2 hb p l e R s m args below meth c g A cells slots QQ C hr hk H locs ls hH hl hL hS2)
      rw [i32_to hx]
      omega
    · have h0 : 0 ≤ x := by omega
      have hlt : x.toNat < (swt.getD (iC (wd k i) 0) []).length := by omega
      obtain ⟨t, ht⟩ : ∃ t, (swt.getD (iC (wd k i) 0) [])[x.toNat]? = some t := ⟨_, List.getElem?_eq_getElem hlt⟩
      have ee := congrArg (fun l : List Int => l[x.toNat]?) o3
      simp only [List.getElem?_map, ht, Option.map_some] at ee
      obtain ⟨off, hoff, he⟩ := Option.map_eq_some_iff.mp ee
      refine lv_tableIn C.1 C.2.1 hd (by rw [i32_to hx]; omega) (by rw [i32_to hx]; omega) (off := off) (by rw [i32_to hx, ← Array.getElem?_toList]; simpa using hoff) he (h1 t h0 ht p l e R s m args below meth c g A cells slots QQ C hr hk H locs ls hH hl hL hS2)
  · cases ho
/-- System.arraycopy between two int arrays of the world -/
def cpM (M : Mm) (j1 j2 sp dp n : Nat) : Mm := fun a b => if a = j2 ∧ dp ≤ b ∧ b < dp + n then M j1 (sp + (b - dp)) else M a b
def ok39 (k w nx : Nat) : Instr → Nat → Bool
  | .invokestatic n, 3 => decide (wt (iC w 0) = some (Jvm.Cond.methodLink (mY k).cls n arraycopyName)) && decide (wt (iC w 1) = some (Jvm.Cond.native arraycopyName)) && decide (wt (iC w 2) = some (Jvm.Cond.static arraycopyName)) && decide (wt (iC w 3) = some (Jvm.Cond.initialized "java/lang/System")) && nx == iP w + 3
  | _, _ => false
theorem ws_setA {g : Gx} {M M' : Mm} {j : Nat} {c : SC} {e : va_E} (hj : SH[j]? = some c) (he : e = ent g c (M' j)) (hne : ∀ a, a ≠ j → M' a = M a) : (wsOf g M).set j (g.2.1 j, e) = wsOf g M' := by
  refine List.ext_getElem? fun t => ?_
  rw [List.getElem?_set]
  by_cases h : j = t
  · subst h
    have hl : j < (wsOf g M).length := by rw [ws_len]; exact (List.getElem?_eq_some_iff.mp hj).1
    rw [if_pos rfl, if_pos hl, ws_get hj, he]
  · rw [if_neg h]
    simp only [wsOf, List.getElem?_mapIdx]
    rw [hne t (Ne.symm h)]
theorem T39 {j1 j2 n1 n2 : Nat} {sp dp n : Int} (hd : decode (mB k) (pcA k i) = .ok (ins, len)) (ho : ok39 k (wd k i) (pcA k (i + 1)) ins len = true) (hj1 : SH[j1]? = some (.inl (0, n1))) (hj2 : SH[j2]? = some (.inl (0, n2))) (h0 : 0 ≤ sp ∧ 0 ≤ dp ∧ 0 ≤ n) (h1 : sp + n ≤ n1) (h2 : dp + n ≤ n2) (hcS : cSum S ≤ 8) (hdd : 1 ≤ d) (h : Wp X d k (i + 1) L S (cpM M j1 j2 sp.toNat dp.toNat n.toNat) Q) : Wp X d k i L (vI n :: vI dp :: vR 0 j2 :: vI sp :: vR 0 j1 :: S) M Q := by
  intro p l e R s m args below meth c g A cells slots QQ C hr hk H locs ls hH hl hL hS
  have hn : in32 n := hS (vI n) (by simp)
  have hdp : in32 dp := hS (vI dp) (by simp)
  have hsp : in32 sp := hS (vI sp) (by simp)
  have hS2 : ∀ v ∈ S, rV v := fun v hv => hS v (by simp [hv])
  have neg : ∀ z : Int, in32 z → 0 ≤ z → ¬ Int32.ofInt z < 0 := fun z hz h0 q => by
    rw [ofz] at q
    have := (l32 hz z32).mp q
    omega
  unfold ok39 at ho
  split at ho
  · simp only [Bool.and_eq_true, beq_iff_eq, decide_eq_true_eq] at ho
    obtain ⟨⟨⟨⟨o1, o2⟩, o3⟩, o4⟩, o5⟩ := ho
    refine va_copyi C.1 C.2.1 (by rw [C.2.2.1]; exact hl.1.symm) C.2.2.2.1 (C.2.2.2.2.1 _ (wt_in o1)) (C.2.2.2.2.1 _ (wt_in o2)) (C.2.2.2.2.1 _ (wt_in o3)) (C.2.2.2.2.1 _ (wt_in o4)) C.2.2.2.2.2.1 hH.1 hH.2.1 hH.2.2.1 j1 j2 0 0 (ws_get hj1) (ws_get hj2) rfl rfl rfl (neg sp hsp h0.1) (neg dp hdp h0.2.1) (neg n hn h0.2.2) (by rw [i32_cl hsp, i32_cl hn]; omega) (by rw [i32_cl hdp, i32_cl hn]; omega) (fun _ _ => rfl) (by omega) ?_ hd fun H1 locs1 hP hD hSS => ?_
    · rw [cat_sum C.2.2.2.2.2.2.1]
      have e3 : nativeFrameWords "java/lang/System" "arraycopy" 5 + 11 ≤ 56 := by decide
      omega
    · rw [i32_cl hsp, i32_cl hdp, i32_cl hn] at hP hD
      have he : (Sum.inl (g.2.2.1 0, n2, .inl (va_cpy (fun t => Int32.ofInt (M j1 t)) (fun t => Int32.ofInt (M j2 t)) sp.toNat dp.toNat n.toNat)) : va_E) = ent g (.inl (0, n2)) (cpM M j1 j2 sp.toNat dp.toNat n.toNat j2) := by
        show Sum.inl _ = Sum.inl _
        congr 3
        refine congrArg Sum.inl (funext fun t => ?_)
        unfold va_cpy cpM
        by_cases q : dp.toNat ≤ t ∧ t < dp.toNat + n.toNat
        · rw [if_pos q, if_pos ⟨rfl, q⟩]
        · rw [if_neg q, if_neg (fun z => q z.2)]
      have hne : ∀ a, a ≠ j2 → cpM M j1 j2 sp.toNat dp.toNat n.toNat a = M a := fun a ha => funext fun b => by
        unfold cpM
        rw [if_neg (fun z => ha z.1)]
      rw [ws_setA hj2 he hne] at hP hD
      have hM2 : okM (cpM M j1 j2 sp.toNat dp.toNat n.toNat) := by
        intro a b
        unfold cpM
        split
        next q =>
          obtain ⟨rfl, -⟩ := q
          have q1 := hH.2.2.2 j1 (sp.toNat + (b - dp.toNat))
          rw [kd_arr hj1] at q1
          rw [kd_arr hj2]
          exact q1
        next => exact hH.2.2.2 a b
      have q := h p l e R s m args below meth c g A cells slots QQ C hr hk H1 locs1 ls ⟨hP, hD, hSS, hM2⟩ hl hL hS2
      rw [o5] at q
      exact q
  · cases ho
end RULES
end
section
/-! every instruction of the lists is that of the bytes -/
def okO (k i w nx : Nat) (ins : Instr) (len : Nat) : Bool := match iO w with
  | 0 => ok0 w nx ins len
  | 1 => ok1 k w nx ins len
  | 2 => ok2 w nx ins len
  | 3 => ok3 k w nx ins len
  | 4 => ok4 w nx ins len
  | 5 => ok5 w nx ins len
  | 6 => ok6 w nx ins len
  | 7 => ok7 k w nx ins len
  | 8 => ok8 k w nx ins len
  | 9 => ok9 k w nx ins len
  | 10 => ok10 k w nx ins len
  | 11 => ok11 w nx ins len
  | 12 => ok12 w nx ins len
  | 13 => ok13 w nx ins len
  | 14 => ok14 w nx ins len
  | 15 => ok15 w nx ins len
  | 16 => ok16 w nx ins len
  | 17 => ok17 k w nx ins len
  | 18 => ok18 k w nx ins len
  | 19 => ok19 k i w nx ins len
  | 20 => ok20 k w ins len
  | 21 => ok21 k w ins len
  | 22 => ok22 k w nx ins len
  | 23 => ok23 k w nx ins len
  | 24 => ok24 k w nx ins len
  | 25 => ok25 w nx ins len
  | 26 => ok26 w nx ins len
  | 27 => ok27 w nx ins len
  | 28 => ok28 w nx ins len
  | 29 => ok29 w nx ins len
  | 30 => ok30 w nx ins len
  | 31 => ok31 w nx ins len
  | 32 => ok32 w nx ins len
  | 33 => decide (ins = .return_) && len == 1
  | 34 => decide (ins = .ireturn) && len == 1
  | 35 => decide (ins = .lreturn) && len == 1
  | 36 => decide (ins = .areturn) && len == 1
  | 37 => ok37 k w nx ins len
  | 38 => ok38 k w nx ins len
  | 39 => ok39 k w nx ins len
  | 40 => ok40 k w nx ins len
  | 41 => ok41 k w nx ins len
  | 42 => ok42 k w ins len
  | 43 => ok43 k w nx ins len
  | _ => false
def okI (k i : Nat) : Bool := match decode (mB k) (pcA k i) with
  | .ok (ins, len) => okO k i (wd k i) (pcA k (i + 1)) ins len || iO (wd k i) == 99
  | .error _ => false

def okR (k a b : Nat) : Bool := (List.range (b - a)).all (fun j => okI k (a + j))
theorem okR_get {k a b i : Nat} (h : okR k a b = true) (h1 : a ≤ i) (h2 : i < b) : okI k i = true := by
  have q := List.all_eq_true.mp h (i - a) (List.mem_range.mpr (by omega))
  rw [show a + (i - a) = i by omega] at q
  exact q

theorem tb_0_0 : okR 0 0 60 = true := by decide +kernel
theorem tb_0_1 : okR 0 60 120 = true := by decide +kernel
theorem tb_0_2 : okR 0 120 180 = true := by decide +kernel
theorem tb_0_3 : okR 0 180 240 = true := by decide +kernel
theorem tb_0_4 : okR 0 240 300 = true := by decide +kernel
theorem tb_0_5 : okR 0 300 360 = true := by decide +kernel
theorem tb_0_6 : okR 0 360 420 = true := by decide +kernel
theorem tb_0_7 : okR 0 420 480 = true := by decide +kernel
theorem tb_0_8 : okR 0 480 540 = true := by decide +kernel
theorem tb_0_9 : okR 0 540 600 = true := by decide +kernel
theorem tb_0_10 : okR 0 600 660 = true := by decide +kernel
theorem tb_0_11 : okR 0 660 720 = true := by decide +kernel
theorem tb_0_12 : okR 0 720 780 = true := by decide +kernel
theorem tb_0_13 : okR 0 780 840 = true := by decide +kernel
theorem tb_0_14 : okR 0 840 900 = true := by decide +kernel
theorem tb_0_15 : okR 0 900 937 = true := by decide +kernel
theorem tb_0 {i : Nat} (hi : i < 937) : okI 0 i = true := by
  by_cases h0 : i < 60
  · exact okR_get tb_0_0 (by omega) h0
  by_cases h1 : i < 120
  · exact okR_get tb_0_1 (by omega) h1
  by_cases h2 : i < 180
  · exact okR_get tb_0_2 (by omega) h2
  by_cases h3 : i < 240
  · exact okR_get tb_0_3 (by omega) h3
  by_cases h4 : i < 300
  · exact okR_get tb_0_4 (by omega) h4
  by_cases h5 : i < 360
  · exact okR_get tb_0_5 (by omega) h5
  by_cases h6 : i < 420
  · exact okR_get tb_0_6 (by omega) h6
  by_cases h7 : i < 480
  · exact okR_get tb_0_7 (by omega) h7
  by_cases h8 : i < 540
  · exact okR_get tb_0_8 (by omega) h8
  by_cases h9 : i < 600
  · exact okR_get tb_0_9 (by omega) h9
  by_cases h10 : i < 660
  · exact okR_get tb_0_10 (by omega) h10
  by_cases h11 : i < 720
  · exact okR_get tb_0_11 (by omega) h11
  by_cases h12 : i < 780
  · exact okR_get tb_0_12 (by omega) h12
  by_cases h13 : i < 840
  · exact okR_get tb_0_13 (by omega) h13
  by_cases h14 : i < 900
  · exact okR_get tb_0_14 (by omega) h14
  exact okR_get tb_0_15 (by omega) hi
theorem tb_1 : okR 1 0 70 = true := by decide +kernel
theorem tb_2 : okR 2 0 72 = true := by decide +kernel
theorem tb_3 : okR 3 0 26 = true := by decide +kernel
theorem tb_4 : okR 4 0 9 = true := by decide +kernel
theorem tb_5 : okR 5 0 30 = true := by decide +kernel
theorem tb_6 : okR 6 0 16 = true := by decide +kernel
theorem tb_7 : okR 7 0 11 = true := by decide +kernel
theorem tb_8 : okR 8 0 20 = true := by decide +kernel
theorem tb_9 : okR 9 0 25 = true := by decide +kernel
theorem tb_10 : okR 10 0 12 = true := by decide +kernel
theorem tb_11 : okR 11 0 21 = true := by decide +kernel
theorem tb_12 : okR 12 0 73 = true := by decide +kernel
theorem tb_13 : okR 13 0 21 = true := by decide +kernel
theorem tb_14 : okR 14 0 42 = true := by decide +kernel
theorem tb_15 : okR 15 0 51 = true := by decide +kernel
theorem tb_16 : okR 16 0 41 = true := by decide +kernel
theorem tb_17 : okR 17 0 12 = true := by decide +kernel
theorem tb_18 : okR 18 0 43 = true := by decide +kernel
theorem tb_19 : okR 19 0 30 = true := by decide +kernel
theorem tb_20_0 : okR 20 0 60 = true := by decide +kernel
theorem tb_20_1 : okR 20 60 96 = true := by decide +kernel
theorem tb_20 {i : Nat} (hi : i < 96) : okI 20 i = true := by
  by_cases h0 : i < 60
  · exact okR_get tb_20_0 (by omega) h0
  exact okR_get tb_20_1 (by omega) hi
theorem tb_21 : okR 21 0 10 = true := by decide +kernel
theorem tb_22 : okR 22 0 9 = true := by decide +kernel
theorem tb_23 : okR 23 0 55 = true := by decide +kernel
theorem tb_24 : okR 24 0 39 = true := by decide +kernel
theorem tb_25 : okR 25 0 7 = true := by decide +kernel
theorem tb_26 : okR 26 0 24 = true := by decide +kernel
theorem tb_27 : okR 27 0 24 = true := by decide +kernel
theorem tb_28 : okR 28 0 16 = true := by decide +kernel
theorem tb_29 : okR 29 0 19 = true := by decide +kernel
theorem tb_30 : okR 30 0 25 = true := by decide +kernel
theorem tb_31 : okR 31 0 28 = true := by decide +kernel
theorem tb_32 : okR 32 0 36 = true := by decide +kernel
theorem tb_33 : okR 33 0 28 = true := by decide +kernel
theorem tb_34 : okR 34 0 24 = true := by decide +kernel
theorem tb_35 : okR 35 0 19 = true := by decide +kernel
theorem tb_36 : okR 36 0 36 = true := by decide +kernel
theorem tb_37 : okR 37 0 78 = true := by decide +kernel
theorem tb_38 : okR 38 0 29 = true := by decide +kernel
theorem tb_39 : okR 39 0 41 = true := by decide +kernel
theorem tb_40 : okR 40 0 79 = true := by decide +kernel
theorem tb_41 : okR 41 0 50 = true := by decide +kernel
theorem tb_42 : okR 42 0 28 = true := by decide +kernel
theorem tb_43 : okR 43 0 75 = true := by decide +kernel
theorem tb_44 : okR 44 0 43 = true := by decide +kernel
theorem tb_45 : okR 45 0 38 = true := by decide +kernel
theorem tb_46 : okR 46 0 56 = true := by decide +kernel
theorem tb_47 : okR 47 0 62 = true := by decide +kernel
theorem tb_48 : okR 48 0 21 = true := by decide +kernel
theorem tb_49_0 : okR 49 0 60 = true := by decide +kernel
theorem tb_49_1 : okR 49 60 93 = true := by decide +kernel
theorem tb_49 {i : Nat} (hi : i < 93) : okI 49 i = true := by
  by_cases h0 : i < 60
  · exact okR_get tb_49_0 (by omega) h0
  exact okR_get tb_49_1 (by omega) hi
theorem tb_50 : okR 50 0 32 = true := by decide +kernel
theorem tb_51 : okR 51 0 43 = true := by decide +kernel
theorem tb_52 : okR 52 0 69 = true := by decide +kernel
theorem tb_53 : okR 53 0 36 = true := by decide +kernel
theorem tb_54 : okR 54 0 57 = true := by decide +kernel
theorem tb_55 : okR 55 0 76 = true := by decide +kernel
theorem tb_56 : okR 56 0 8 = true := by decide +kernel
theorem tb_57 : okR 57 0 20 = true := by decide +kernel
theorem tb_58 : okR 58 0 22 = true := by decide +kernel
theorem tb_59 : okR 59 0 36 = true := by decide +kernel
theorem tb_60 : okR 60 0 18 = true := by decide +kernel
theorem tb_61 : okR 61 0 24 = true := by decide +kernel
theorem tb_62 : okR 62 0 15 = true := by decide +kernel
theorem tb_63 : okR 63 0 12 = true := by decide +kernel
theorem tb_64 : okR 64 0 11 = true := by decide +kernel
theorem tb_65 : okR 65 0 34 = true := by decide +kernel
theorem tb_66 : okR 66 0 16 = true := by decide +kernel
theorem tb_67 : okR 67 0 18 = true := by decide +kernel
theorem tb_68 : okR 68 0 21 = true := by decide +kernel
theorem tb_69 : okR 69 0 24 = true := by decide +kernel
theorem tb_70 : okR 70 0 10 = true := by decide +kernel
theorem tb_71 : okR 71 0 11 = true := by decide +kernel
theorem tb_72 : okR 72 0 50 = true := by decide +kernel
theorem tb_73 : okR 73 0 30 = true := by decide +kernel
theorem tb_74 : okR 74 0 31 = true := by decide +kernel
theorem tb_75 : okR 75 0 16 = true := by decide +kernel
theorem tb_76 : okR 76 0 30 = true := by decide +kernel
theorem tb_77 : okR 77 0 31 = true := by decide +kernel
theorem tb_78 : okR 78 0 67 = true := by decide +kernel
theorem tb_79 : okR 79 0 40 = true := by decide +kernel
theorem tb_80 : okR 80 0 73 = true := by decide +kernel
theorem tb_81 : okR 81 0 44 = true := by decide +kernel
theorem tb_82 : okR 82 0 66 = true := by decide +kernel
theorem tb_83 : okR 83 0 37 = true := by decide +kernel
theorem tb_84 : okR 84 0 25 = true := by decide +kernel
theorem tb_85 : okR 85 0 38 = true := by decide +kernel
theorem tb_86 : okR 86 0 31 = true := by decide +kernel
theorem tb_87 : okR 87 0 24 = true := by decide +kernel
theorem tb_88 : okR 88 0 59 = true := by decide +kernel
theorem tb_89 : okR 89 0 45 = true := by decide +kernel
theorem tb_90 : okR 90 0 25 = true := by decide +kernel
theorem tb_91 : okR 91 0 32 = true := by decide +kernel
theorem tb_92 : okR 92 0 4 = true := by decide +kernel
theorem tb_93 : okR 93 0 36 = true := by decide +kernel
theorem tb_94 : okR 94 0 45 = true := by decide +kernel
theorem tb_95 : okR 95 0 33 = true := by decide +kernel
theorem tb_96 : okR 96 0 72 = true := by decide +kernel
theorem tb_97 : okR 97 0 31 = true := by decide +kernel
theorem tb_98 : okR 98 0 40 = true := by decide +kernel
theorem tb_99 : okR 99 0 55 = true := by decide +kernel
theorem tb_100 : okR 100 0 82 = true := by decide +kernel
theorem tb_101 : okR 101 0 28 = true := by decide +kernel
theorem tb_102 : okR 102 0 37 = true := by decide +kernel
theorem tb_103 : okR 103 0 42 = true := by decide +kernel
theorem tb_104 : okR 104 0 17 = true := by decide +kernel
theorem tb_105 : okR 105 0 57 = true := by decide +kernel
theorem tb_106 : okR 106 0 46 = true := by decide +kernel
theorem tb_107 : okR 107 0 34 = true := by decide +kernel
theorem tb_108 : okR 108 0 37 = true := by decide +kernel
theorem tb_109 : okR 109 0 40 = true := by decide +kernel
theorem tb_110 : okR 110 0 31 = true := by decide +kernel
theorem tb_111 : okR 111 0 83 = true := by decide +kernel
theorem tb_112 : okR 112 0 47 = true := by decide +kernel
theorem tb_113 : okR 113 0 10 = true := by decide +kernel
theorem tb_114 : okR 114 0 5 = true := by decide +kernel
theorem tb_115 : okR 115 0 5 = true := by decide +kernel
theorem tb_116 : okR 116 0 6 = true := by decide +kernel
theorem tb_117 : okR 117 0 6 = true := by decide +kernel
theorem tb_118 : okR 118 0 40 = true := by decide +kernel
theorem tb_119 : okR 119 0 13 = true := by decide +kernel
theorem tb_120 : okR 120 0 21 = true := by decide +kernel
theorem tb_121 : okR 121 0 12 = true := by decide +kernel
theorem tb_122 : okR 122 0 10 = true := by decide +kernel
theorem tb_123 : okR 123 0 10 = true := by decide +kernel
theorem tb_124 : okR 124 0 8 = true := by decide +kernel
theorem tb_125_0 : okR 125 0 60 = true := by decide +kernel
theorem tb_125_1 : okR 125 60 101 = true := by decide +kernel
theorem tb_125 {i : Nat} (hi : i < 101) : okI 125 i = true := by
  by_cases h0 : i < 60
  · exact okR_get tb_125_0 (by omega) h0
  exact okR_get tb_125_1 (by omega) hi
theorem tb_126 : okR 126 0 73 = true := by decide +kernel
theorem tb_127 : okR 127 0 63 = true := by decide +kernel
theorem tb_128 : okR 128 0 21 = true := by decide +kernel
theorem tb_129 : okR 129 0 6 = true := by decide +kernel
theorem tb_130_0 : okR 130 0 60 = true := by decide +kernel
theorem tb_130_1 : okR 130 60 93 = true := by decide +kernel
theorem tb_130 {i : Nat} (hi : i < 93) : okI 130 i = true := by
  by_cases h0 : i < 60
  · exact okR_get tb_130_0 (by omega) h0
  exact okR_get tb_130_1 (by omega) hi
theorem tb_131 : okR 131 0 74 = true := by decide +kernel
theorem tb_132 : okR 132 0 34 = true := by decide +kernel
theorem tb_133 : okR 133 0 25 = true := by decide +kernel
theorem tb_134 : okR 134 0 51 = true := by decide +kernel
theorem tb_135_0 : okR 135 0 60 = true := by decide +kernel
theorem tb_135_1 : okR 135 60 103 = true := by decide +kernel
theorem tb_135 {i : Nat} (hi : i < 103) : okI 135 i = true := by
  by_cases h0 : i < 60
  · exact okR_get tb_135_0 (by omega) h0
  exact okR_get tb_135_1 (by omega) hi
theorem tb_136_0 : okR 136 0 60 = true := by decide +kernel
theorem tb_136_1 : okR 136 60 115 = true := by decide +kernel
theorem tb_136 {i : Nat} (hi : i < 115) : okI 136 i = true := by
  by_cases h0 : i < 60
  · exact okR_get tb_136_0 (by omega) h0
  exact okR_get tb_136_1 (by omega) hi
theorem tb_137 : okR 137 0 40 = true := by decide +kernel
theorem tb_138 : okR 138 0 46 = true := by decide +kernel
theorem tb_139 : okR 139 0 12 = true := by decide +kernel
theorem tb_140 : okR 140 0 29 = true := by decide +kernel
theorem tb_141 : okR 141 0 24 = true := by decide +kernel
theorem tb_142 : okR 142 0 36 = true := by decide +kernel
theorem tb_143 : okR 143 0 32 = true := by decide +kernel
theorem tb_144 : okR 144 0 5 = true := by decide +kernel
theorem tb_145 : okR 145 0 57 = true := by decide +kernel
theorem tb_146 : okR 146 0 45 = true := by decide +kernel
theorem tb_147_0 : okR 147 0 60 = true := by decide +kernel
theorem tb_147_1 : okR 147 60 120 = true := by decide +kernel
theorem tb_147_2 : okR 147 120 130 = true := by decide +kernel
theorem tb_147 {i : Nat} (hi : i < 130) : okI 147 i = true := by
  by_cases h0 : i < 60
  · exact okR_get tb_147_0 (by omega) h0
  by_cases h1 : i < 120
  · exact okR_get tb_147_1 (by omega) h1
  exact okR_get tb_147_2 (by omega) hi
theorem tb_148 : okR 148 0 87 = true := by decide +kernel
theorem tb_149 : okR 149 0 66 = true := by decide +kernel
theorem tb_150_0 : okR 150 0 60 = true := by decide +kernel
theorem tb_150_1 : okR 150 60 98 = true := by decide +kernel
theorem tb_150 {i : Nat} (hi : i < 98) : okI 150 i = true := by
  by_cases h0 : i < 60
  · exact okR_get tb_150_0 (by omega) h0
  exact okR_get tb_150_1 (by omega) hi
theorem tb_151 : okR 151 0 71 = true := by decide +kernel
theorem tb_152 : okR 152 0 3 = true := by decide +kernel
theorem tb_153 : okR 153 0 36 = true := by decide +kernel
theorem tb_154 : okR 154 0 73 = true := by decide +kernel
theorem tb_155 : okR 155 0 17 = true := by decide +kernel
theorem tb_156 : okR 156 0 15 = true := by decide +kernel
theorem tb_157_0 : okR 157 0 60 = true := by decide +kernel
theorem tb_157_1 : okR 157 60 120 = true := by decide +kernel
theorem tb_157_2 : okR 157 120 180 = true := by decide +kernel
theorem tb_157_3 : okR 157 180 193 = true := by decide +kernel
theorem tb_157 {i : Nat} (hi : i < 193) : okI 157 i = true := by
  by_cases h0 : i < 60
  · exact okR_get tb_157_0 (by omega) h0
  by_cases h1 : i < 120
  · exact okR_get tb_157_1 (by omega) h1
  by_cases h2 : i < 180
  · exact okR_get tb_157_2 (by omega) h2
  exact okR_get tb_157_3 (by omega) hi
theorem tb_158 : okR 158 0 19 = true := by decide +kernel
theorem tb_159 : okR 159 0 11 = true := by decide +kernel
theorem tb_160_0 : okR 160 0 60 = true := by decide +kernel
theorem tb_160_1 : okR 160 60 120 = true := by decide +kernel
theorem tb_160_2 : okR 160 120 160 = true := by decide +kernel
theorem tb_160 {i : Nat} (hi : i < 160) : okI 160 i = true := by
  by_cases h0 : i < 60
  · exact okR_get tb_160_0 (by omega) h0
  by_cases h1 : i < 120
  · exact okR_get tb_160_1 (by omega) h1
  exact okR_get tb_160_2 (by omega) hi
theorem tb_161 : okR 161 0 16 = true := by decide +kernel
theorem tb_162 : okR 162 0 30 = true := by decide +kernel
theorem tb_163 : okR 163 0 30 = true := by decide +kernel
theorem tb_164 : okR 164 0 31 = true := by decide +kernel
theorem tb_165 : okR 165 0 46 = true := by decide +kernel
theorem tb_166 : okR 166 0 84 = true := by decide +kernel
theorem tb_167 : okR 167 0 25 = true := by decide +kernel
theorem tb_168 : okR 168 0 58 = true := by decide +kernel
theorem tb_169 : okR 169 0 60 = true := by decide +kernel
theorem tb_170 : okR 170 0 75 = true := by decide +kernel
theorem tb_171 : okR 171 0 71 = true := by decide +kernel
theorem tb_172 : okR 172 0 81 = true := by decide +kernel
theorem tb_173 : okR 173 0 43 = true := by decide +kernel
theorem tb_174 : okR 174 0 71 = true := by decide +kernel
theorem tb_175 : okR 175 0 44 = true := by decide +kernel
theorem tb_176 : okR 176 0 16 = true := by decide +kernel
theorem tb_177 : okR 177 0 19 = true := by decide +kernel
theorem tb_178_0 : okR 178 0 60 = true := by decide +kernel
theorem tb_178_1 : okR 178 60 120 = true := by decide +kernel
theorem tb_178_2 : okR 178 120 157 = true := by decide +kernel
theorem tb_178 {i : Nat} (hi : i < 157) : okI 178 i = true := by
  by_cases h0 : i < 60
  · exact okR_get tb_178_0 (by omega) h0
  by_cases h1 : i < 120
  · exact okR_get tb_178_1 (by omega) h1
  exact okR_get tb_178_2 (by omega) hi
theorem tb_179 : okR 179 0 35 = true := by decide +kernel
theorem tb_180 : okR 180 0 44 = true := by decide +kernel
theorem tb_181 : okR 181 0 78 = true := by decide +kernel
theorem tb_182_0 : okR 182 0 60 = true := by decide +kernel
theorem tb_182_1 : okR 182 60 120 = true := by decide +kernel
theorem tb_182_2 : okR 182 120 153 = true := by decide +kernel
theorem tb_182 {i : Nat} (hi : i < 153) : okI 182 i = true := by
  by_cases h0 : i < 60
  · exact okR_get tb_182_0 (by omega) h0
  by_cases h1 : i < 120
  · exact okR_get tb_182_1 (by omega) h1
  exact okR_get tb_182_2 (by omega) hi
theorem tb_183 : okR 183 0 73 = true := by decide +kernel
theorem tb_184 : okR 184 0 49 = true := by decide +kernel
theorem tb_185_0 : okR 185 0 60 = true := by decide +kernel
theorem tb_185_1 : okR 185 60 100 = true := by decide +kernel
theorem tb_185 {i : Nat} (hi : i < 100) : okI 185 i = true := by
  by_cases h0 : i < 60
  · exact okR_get tb_185_0 (by omega) h0
  exact okR_get tb_185_1 (by omega) hi
theorem tb_186 : okR 186 0 72 = true := by decide +kernel
theorem tb_187 : okR 187 0 33 = true := by decide +kernel
theorem tb_188 : okR 188 0 35 = true := by decide +kernel
theorem tb_189_0 : okR 189 0 60 = true := by decide +kernel
theorem tb_189_1 : okR 189 60 120 = true := by decide +kernel
theorem tb_189_2 : okR 189 120 180 = true := by decide +kernel
theorem tb_189_3 : okR 189 180 189 = true := by decide +kernel
theorem tb_189 {i : Nat} (hi : i < 189) : okI 189 i = true := by
  by_cases h0 : i < 60
  · exact okR_get tb_189_0 (by omega) h0
  by_cases h1 : i < 120
  · exact okR_get tb_189_1 (by omega) h1
  by_cases h2 : i < 180
  · exact okR_get tb_189_2 (by omega) h2
  exact okR_get tb_189_3 (by omega) hi
theorem tb_190 : okR 190 0 45 = true := by decide +kernel
theorem tb_191 : okR 191 0 27 = true := by decide +kernel
theorem tb_192 : okR 192 0 78 = true := by decide +kernel
theorem tb_193_0 : okR 193 0 60 = true := by decide +kernel
theorem tb_193_1 : okR 193 60 108 = true := by decide +kernel
theorem tb_193 {i : Nat} (hi : i < 108) : okI 193 i = true := by
  by_cases h0 : i < 60
  · exact okR_get tb_193_0 (by omega) h0
  exact okR_get tb_193_1 (by omega) hi
theorem tb_194 : okR 194 0 42 = true := by decide +kernel
theorem tb_195 : okR 195 0 7 = true := by decide +kernel
theorem tb_196 : okR 196 0 7 = true := by decide +kernel
theorem tb_197 : okR 197 0 13 = true := by decide +kernel
theorem tb_198 : okR 198 0 9 = true := by decide +kernel
theorem tb_199 : okR 199 0 11 = true := by decide +kernel
theorem tb_200 : okR 200 0 6 = true := by decide +kernel
theorem tb_201 : okR 201 0 12 = true := by decide +kernel
set_option maxRecDepth 20000 in
theorem gp_0 : ∀ r, r < 12 → ∀ i, i < (cod (12 * 0 + r)).length → okI (12 * 0 + r) i = true
  | 0, _, i, hi => tb_0 hi
  | 1, _, i, hi => okR_get tb_1 (Nat.zero_le _) hi
  | 2, _, i, hi => okR_get tb_2 (Nat.zero_le _) hi
  | 3, _, i, hi => okR_get tb_3 (Nat.zero_le _) hi
  | 4, _, i, hi => okR_get tb_4 (Nat.zero_le _) hi
  | 5, _, i, hi => okR_get tb_5 (Nat.zero_le _) hi
  | 6, _, i, hi => okR_get tb_6 (Nat.zero_le _) hi
  | 7, _, i, hi => okR_get tb_7 (Nat.zero_le _) hi
  | 8, _, i, hi => okR_get tb_8 (Nat.zero_le _) hi
  | 9, _, i, hi => okR_get tb_9 (Nat.zero_le _) hi
  | 10, _, i, hi => okR_get tb_10 (Nat.zero_le _) hi
  | 11, _, i, hi => okR_get tb_11 (Nat.zero_le _) hi
set_option maxRecDepth 20000 in
theorem gp_1 : ∀ r, r < 12 → ∀ i, i < (cod (12 * 1 + r)).length → okI (12 * 1 + r) i = true
  | 0, _, i, hi => okR_get tb_12 (Nat.zero_le _) hi
  | 1, _, i, hi => okR_get tb_13 (Nat.zero_le _) hi
  | 2, _, i, hi => okR_get tb_14 (Nat.zero_le _) hi
  | 3, _, i, hi => okR_get tb_15 (Nat.zero_le _) hi
  | 4, _, i, hi => okR_get tb_16 (Nat.zero_le _) hi
  | 5, _, i, hi => okR_get tb_17 (Nat.zero_le _) hi
  | 6, _, i, hi => okR_get tb_18 (Nat.zero_le _) hi
  | 7, _, i, hi => okR_get tb_19 (Nat.zero_le _) hi
  | 8, _, i, hi => tb_20 hi
  | 9, _, i, hi => okR_get tb_21 (Nat.zero_le _) hi
  | 10, _, i, hi => okR_get tb_22 (Nat.zero_le _) hi
  | 11, _, i, hi => okR_get tb_23 (Nat.zero_le _) hi
set_option maxRecDepth 20000 in
theorem gp_2 : ∀ r, r < 12 → ∀ i, i < (cod (12 * 2 + r)).length → okI (12 * 2 + r) i = true
  | 0, _, i, hi => okR_get tb_24 (Nat.zero_le _) hi
  | 1, _, i, hi => okR_get tb_25 (Nat.zero_le _) hi
  | 2, _, i, hi => okR_get tb_26 (Nat.zero_le _) hi
  | 3, _, i, hi => okR_get tb_27 (Nat.zero_le _) hi
  | 4, _, i, hi => okR_get tb_28 (Nat.zero_le _) hi
  | 5, _, i, hi => okR_get tb_29 (Nat.zero_le _) hi
  | 6, _, i, hi => okR_get tb_30 (Nat.zero_le _) hi
  | 7, _, i, hi => okR_get tb_31 (Nat.zero_le _) hi
  | 8, _, i, hi => okR_get tb_32 (Nat.zero_le _) hi
  | 9, _, i, hi => okR_get tb_33 (Nat.zero_le _) hi
  | 10, _, i, hi => okR_get tb_34 (Nat.zero_le _) hi
  | 11, _, i, hi => okR_get tb_35 (Nat.zero_le _) hi
set_option maxRecDepth 20000 in
theorem gp_3 : ∀ r, r < 12 → ∀ i, i < (cod (12 * 3 + r)).length → okI (12 * 3 + r) i = true
  | 0, _, i, hi => okR_get tb_36 (Nat.zero_le _) hi
  | 1, _, i, hi => okR_get tb_37 (Nat.zero_le _) hi
  | 2, _, i, hi => okR_get tb_38 (Nat.zero_le _) hi
  | 3, _, i, hi => okR_get tb_39 (Nat.zero_le _) hi
  | 4, _, i, hi => okR_get tb_40 (Nat.zero_le _) hi
  | 5, _, i, hi => okR_get tb_41 (Nat.zero_le _) hi
  | 6, _, i, hi => okR_get tb_42 (Nat.zero_le _) hi
  | 7, _, i, hi => okR_get tb_43 (Nat.zero_le _) hi
  | 8, _, i, hi => okR_get tb_44 (Nat.zero_le _) hi
  | 9, _, i, hi => okR_get tb_45 (Nat.zero_le _) hi
  | 10, _, i, hi => okR_get tb_46 (Nat.zero_le _) hi
  | 11, _, i, hi => okR_get tb_47 (Nat.zero_le _) hi
set_option maxRecDepth 20000 in
theorem gp_4 : ∀ r, r < 12 → ∀ i, i < (cod (12 * 4 + r)).length → okI (12 * 4 + r) i = true
  | 0, _, i, hi => okR_get tb_48 (Nat.zero_le _) hi
  | 1, _, i, hi => tb_49 hi
  | 2, _, i, hi => okR_get tb_50 (Nat.zero_le _) hi
  | 3, _, i, hi => okR_get tb_51 (Nat.zero_le _) hi
  | 4, _, i, hi => okR_get tb_52 (Nat.zero_le _) hi
  | 5, _, i, hi => okR_get tb_53 (Nat.zero_le _) hi
  | 6, _, i, hi => okR_get tb_54 (Nat.zero_le _) hi
  | 7, _, i, hi => okR_get tb_55 (Nat.zero_le _) hi
  | 8, _, i, hi => okR_get tb_56 (Nat.zero_le _) hi
  | 9, _, i, hi => okR_get tb_57 (Nat.zero_le _) hi
  | 10, _, i, hi => okR_get tb_58 (Nat.zero_le _) hi
  | 11, _, i, hi => okR_get tb_59 (Nat.zero_le _) hi
set_option maxRecDepth 20000 in
theorem gp_5 : ∀ r, r < 12 → ∀ i, i < (cod (12 * 5 + r)).length → okI (12 * 5 + r) i = true
  | 0, _, i, hi => okR_get tb_60 (Nat.zero_le _) hi
  | 1, _, i, hi => okR_get tb_61 (Nat.zero_le _) hi
  | 2, _, i, hi => okR_get tb_62 (Nat.zero_le _) hi
  | 3, _, i, hi => okR_get tb_63 (Nat.zero_le _) hi
  | 4, _, i, hi => okR_get tb_64 (Nat.zero_le _) hi
  | 5, _, i, hi => okR_get tb_65 (Nat.zero_le _) hi
  | 6, _, i, hi => okR_get tb_66 (Nat.zero_le _) hi
  | 7, _, i, hi => okR_get tb_67 (Nat.zero_le _) hi
  | 8, _, i, hi => okR_get tb_68 (Nat.zero_le _) hi
  | 9, _, i, hi => okR_get tb_69 (Nat.zero_le _) hi
  | 10, _, i, hi => okR_get tb_70 (Nat.zero_le _) hi
  | 11, _, i, hi => okR_get tb_71 (Nat.zero_le _) hi
set_option maxRecDepth 20000 in
theorem gp_6 : ∀ r, r < 12 → ∀ i, i < (cod (12 * 6 + r)).length → okI (12 * 6 + r) i = true
  | 0, _, i, hi => okR_get tb_72 (Nat.zero_le _) hi
  | 1, _, i, hi => okR_get tb_73 (Nat.zero_le _) hi
  | 2, _, i, hi => okR_get tb_74 (Nat.zero_le _) hi
  | 3, _, i, hi => okR_get tb_75 (Nat.zero_le _) hi
  | 4, _, i, hi => okR_get tb_76 (Nat.zero_le _) hi
  | 5, _, i, hi => okR_get tb_77 (Nat.zero_le _) hi
  | 6, _, i, hi => okR_get tb_78 (Nat.zero_le _) hi
  | 7, _, i, hi => okR_get tb_79 (Nat.zero_le _) hi
  | 8, _, i, hi => okR_get tb_80 (Nat.zero_le _) hi
  | 9, _, i, hi => okR_get tb_81 (Nat.zero_le _) hi
  | 10, _, i, hi => okR_get tb_82 (Nat.zero_le _) hi
  | 11, _, i, hi => okR_get tb_83 (Nat.zero_le _) hi
set_option maxRecDepth 20000 in
theorem gp_7 : ∀ r, r < 12 → ∀ i, i < (cod (12 * 7 + r)).length → okI (12 * 7 + r) i = true
  | 0, _, i, hi => okR_get tb_84 (Nat.zero_le _) hi
  | 1, _, i, hi => okR_get tb_85 (Nat.zero_le _) hi
  | 2, _, i, hi => okR_get tb_86 (Nat.zero_le _) hi
  | 3, _, i, hi => okR_get tb_87 (Nat.zero_le _) hi
  | 4, _, i, hi => okR_get tb_88 (Nat.zero_le _) hi
  | 5, _, i, hi => okR_get tb_89 (Nat.zero_le _) hi
  | 6, _, i, hi => okR_get tb_90 (Nat.zero_le _) hi
  | 7, _, i, hi => okR_get tb_91 (Nat.zero_le _) hi
  | 8, _, i, hi => okR_get tb_92 (Nat.zero_le _) hi
  | 9, _, i, hi => okR_get tb_93 (Nat.zero_le _) hi
  | 10, _, i, hi => okR_get tb_94 (Nat.zero_le _) hi
  | 11, _, i, hi => okR_get tb_95 (Nat.zero_le _) hi
set_option maxRecDepth 20000 in
theorem gp_8 : ∀ r, r < 12 → ∀ i, i < (cod (12 * 8 + r)).length → okI (12 * 8 + r) i = true
  | 0, _, i, hi => okR_get tb_96 (Nat.zero_le _) hi
  | 1, _, i, hi => okR_get tb_97 (Nat.zero_le _) hi
  | 2, _, i, hi => okR_get tb_98 (Nat.zero_le _) hi
  | 3, _, i, hi => okR_get tb_99 (Nat.zero_le _) hi
  | 4, _, i, hi => okR_get tb_100 (Nat.zero_le _) hi
  | 5, _, i, hi => okR_get tb_101 (Nat.zero_le _) hi
  | 6, _, i, hi => okR_get tb_102 (Nat.zero_le _) hi
  | 7, _, i, hi => okR_get tb_103 (Nat.zero_le _) hi
  | 8, _, i, hi => okR_get tb_104 (Nat.zero_le _) hi
  | 9, _, i, hi => okR_get tb_105 (Nat.zero_le _) hi
  | 10, _, i, hi => okR_get tb_106 (Nat.zero_le _) hi
  | 11, _, i, hi => okR_get tb_107 (Nat.zero_le _) hi
set_option maxRecDepth 20000 in
theorem gp_9 : ∀ r, r < 12 → ∀ i, i < (cod (12 * 9 + r)).length → okI (12 * 9 + r) i = true
  | 0, _, i, hi => okR_get tb_108 (Nat.zero_le _) hi
  | 1, _, i, hi => okR_get tb_109 (Nat.zero_le _) hi
  | 2, _, i, hi => okR_get tb_110 (Nat.zero_le _) hi
  | 3, _, i, hi => okR_get tb_111 (Nat.zero_le _) hi
  | 4, _, i, hi => okR_get tb_112 (Nat.zero_le _) hi
  | 5, _, i, hi => okR_get tb_113 (Nat.zero_le _) hi
  | 6, _, i, hi => okR_get tb_114 (Nat.zero_le _) hi
  | 7, _, i, hi => okR_get tb_115 (Nat.zero_le _) hi
  | 8, _, i, hi => okR_get tb_116 (Nat.zero_le _) hi
  | 9, _, i, hi => okR_get tb_117 (Nat.zero_le _) hi
  | 10, _, i, hi => okR_get tb_118 (Nat.zero_le _) hi
  | 11, _, i, hi => okR_get tb_119 (Nat.zero_le _) hi
set_option maxRecDepth 20000 in
theorem gp_10 : ∀ r, r < 12 → ∀ i, i < (cod (12 * 10 + r)).length → okI (12 * 10 + r) i = true
  | 0, _, i, hi => okR_get tb_120 (Nat.zero_le _) hi
  | 1, _, i, hi => okR_get tb_121 (Nat.zero_le _) hi
  | 2, _, i, hi => okR_get tb_122 (Nat.zero_le _) hi
  | 3, _, i, hi => okR_get tb_123 (Nat.zero_le _) hi
  | 4, _, i, hi => okR_get tb_124 (Nat.zero_le _) hi
  | 5, _, i, hi => tb_125 hi
  | 6, _, i, hi => okR_get tb_126 (Nat.zero_le _) hi
  | 7, _, i, hi => okR_get tb_127 (Nat.zero_le _) hi
  | 8, _, i, hi => okR_get tb_128 (Nat.zero_le _) hi
  | 9, _, i, hi => okR_get tb_129 (Nat.zero_le _) hi
  | 10, _, i, hi => tb_130 hi
  | 11, _, i, hi => okR_get tb_131 (Nat.zero_le _) hi
set_option maxRecDepth 20000 in
theorem gp_11 : ∀ r, r < 12 → ∀ i, i < (cod (12 * 11 + r)).length → okI (12 * 11 + r) i = true
  | 0, _, i, hi => okR_get tb_132 (Nat.zero_le _) hi
  | 1, _, i, hi => okR_get tb_133 (Nat.zero_le _) hi
  | 2, _, i, hi => okR_get tb_134 (Nat.zero_le _) hi
  | 3, _, i, hi => tb_135 hi
  | 4, _, i, hi => tb_136 hi
  | 5, _, i, hi => okR_get tb_137 (Nat.zero_le _) hi
  | 6, _, i, hi => okR_get tb_138 (Nat.zero_le _) hi
  | 7, _, i, hi => okR_get tb_139 (Nat.zero_le _) hi
  | 8, _, i, hi => okR_get tb_140 (Nat.zero_le _) hi
  | 9, _, i, hi => okR_get tb_141 (Nat.zero_le _) hi
  | 10, _, i, hi => okR_get tb_142 (Nat.zero_le _) hi
  | 11, _, i, hi => okR_get tb_143 (Nat.zero_le _) hi
set_option maxRecDepth 20000 in
theorem gp_12 : ∀ r, r < 12 → ∀ i, i < (cod (12 * 12 + r)).length → okI (12 * 12 + r) i = true
  | 0, _, i, hi => okR_get tb_144 (Nat.zero_le _) hi
  | 1, _, i, hi => okR_get tb_145 (Nat.zero_le _) hi
  | 2, _, i, hi => okR_get tb_146 (Nat.zero_le _) hi
  | 3, _, i, hi => tb_147 hi
  | 4, _, i, hi => okR_get tb_148 (Nat.zero_le _) hi
  | 5, _, i, hi => okR_get tb_149 (Nat.zero_le _) hi
  | 6, _, i, hi => tb_150 hi
  | 7, _, i, hi => okR_get tb_151 (Nat.zero_le _) hi
  | 8, _, i, hi => okR_get tb_152 (Nat.zero_le _) hi
  | 9, _, i, hi => okR_get tb_153 (Nat.zero_le _) hi
  | 10, _, i, hi => okR_get tb_154 (Nat.zero_le _) hi
  | 11, _, i, hi => okR_get tb_155 (Nat.zero_le _) hi
set_option maxRecDepth 20000 in
theorem gp_13 : ∀ r, r < 12 → ∀ i, i < (cod (12 * 13 + r)).length → okI (12 * 13 + r) i = true
  | 0, _, i, hi => okR_get tb_156 (Nat.zero_le _) hi
  | 1, _, i, hi => tb_157 hi
  | 2, _, i, hi => okR_get tb_158 (Nat.zero_le _) hi
  | 3, _, i, hi => okR_get tb_159 (Nat.zero_le _) hi
  | 4, _, i, hi => tb_160 hi
  | 5, _, i, hi => okR_get tb_161 (Nat.zero_le _) hi
  | 6, _, i, hi => okR_get tb_162 (Nat.zero_le _) hi
  | 7, _, i, hi => okR_get tb_163 (Nat.zero_le _) hi
  | 8, _, i, hi => okR_get tb_164 (Nat.zero_le _) hi
  | 9, _, i, hi => okR_get tb_165 (Nat.zero_le _) hi
  | 10, _, i, hi => okR_get tb_166 (Nat.zero_le _) hi
  | 11, _, i, hi => okR_get tb_167 (Nat.zero_le _) hi
set_option maxRecDepth 20000 in
theorem gp_14 : ∀ r, r < 12 → ∀ i, i < (cod (12 * 14 + r)).length → okI (12 * 14 + r) i = true
  | 0, _, i, hi => okR_get tb_168 (Nat.zero_le _) hi
  | 1, _, i, hi => okR_get tb_169 (Nat.zero_le _) hi
  | 2, _, i, hi => okR_get tb_170 (Nat.zero_le _) hi
  | 3, _, i, hi => okR_get tb_171 (Nat.zero_le _) hi
  | 4, _, i, hi => okR_get tb_172 (Nat.zero_le _) hi
  | 5, _, i, hi => okR_get tb_173 (Nat.zero_le _) hi
  | 6, _, i, hi => okR_get tb_174 (Nat.zero_le _) hi
  | 7, _, i, hi => okR_get tb_175 (Nat.zero_le _) hi
  | 8, _, i, hi => okR_get tb_176 (Nat.zero_le _) hi
  | 9, _, i, hi => okR_get tb_177 (Nat.zero_le _) hi
  | 10, _, i, hi => tb_178 hi
  | 11, _, i, hi => okR_get tb_179 (Nat.zero_le _) hi
set_option maxRecDepth 20000 in
theorem gp_15 : ∀ r, r < 12 → ∀ i, i < (cod (12 * 15 + r)).length → okI (12 * 15 + r) i = true
  | 0, _, i, hi => okR_get tb_180 (Nat.zero_le _) hi
  | 1, _, i, hi => okR_get tb_181 (Nat.zero_le _) hi
  | 2, _, i, hi => tb_182 hi
  | 3, _, i, hi => okR_get tb_183 (Nat.zero_le _) hi
  | 4, _, i, hi => okR_get tb_184 (Nat.zero_le _) hi
  | 5, _, i, hi => tb_185 hi
  | 6, _, i, hi => okR_get tb_186 (Nat.zero_le _) hi
  | 7, _, i, hi => okR_get tb_187 (Nat.zero_le _) hi
  | 8, _, i, hi => okR_get tb_188 (Nat.zero_le _) hi
  | 9, _, i, hi => tb_189 hi
  | 10, _, i, hi => okR_get tb_190 (Nat.zero_le _) hi
  | 11, _, i, hi => okR_get tb_191 (Nat.zero_le _) hi
set_option maxRecDepth 20000 in
theorem gp_16 : ∀ r, r < 10 → ∀ i, i < (cod (12 * 16 + r)).length → okI (12 * 16 + r) i = true
  | 0, _, i, hi => okR_get tb_192 (Nat.zero_le _) hi
  | 1, _, i, hi => tb_193 hi
  | 2, _, i, hi => okR_get tb_194 (Nat.zero_le _) hi
  | 3, _, i, hi => okR_get tb_195 (Nat.zero_le _) hi
  | 4, _, i, hi => okR_get tb_196 (Nat.zero_le _) hi
  | 5, _, i, hi => okR_get tb_197 (Nat.zero_le _) hi
  | 6, _, i, hi => okR_get tb_198 (Nat.zero_le _) hi
  | 7, _, i, hi => okR_get tb_199 (Nat.zero_le _) hi
  | 8, _, i, hi => okR_get tb_200 (Nat.zero_le _) hi
  | 9, _, i, hi => okR_get tb_201 (Nat.zero_le _) hi
theorem okI_all (k i : Nat) (hk : k < 202) (hi : i < (cod k).length) : okI k i = true := by
  have e : 12 * (k / 12) + k % 12 = k := Nat.div_add_mod k 12
  have h2 : k % 12 < 12 := Nat.mod_lt _ (by decide)
  rw [← e] at hi ⊢
  generalize k / 12 = g at *
  generalize k % 12 = r at *
  match g, hi with
  | 0, hi => exact gp_0 r (by omega) i hi
  | 1, hi => exact gp_1 r (by omega) i hi
  | 2, hi => exact gp_2 r (by omega) i hi
  | 3, hi => exact gp_3 r (by omega) i hi
  | 4, hi => exact gp_4 r (by omega) i hi
  | 5, hi => exact gp_5 r (by omega) i hi
  | 6, hi => exact gp_6 r (by omega) i hi
  | 7, hi => exact gp_7 r (by omega) i hi
  | 8, hi => exact gp_8 r (by omega) i hi
  | 9, hi => exact gp_9 r (by omega) i hi
  | 10, hi => exact gp_10 r (by omega) i hi
  | 11, hi => exact gp_11 r (by omega) i hi
  | 12, hi => exact gp_12 r (by omega) i hi
  | 13, hi => exact gp_13 r (by omega) i hi
  | 14, hi => exact gp_14 r (by omega) i hi
  | 15, hi => exact gp_15 r (by omega) i hi
  | 16, hi => exact gp_16 r (by omega) i hi
  | m + 17, _ => exact absurd hk (by omega)
theorem wd_in {k i : Nat} (h : iO (wd k i) ≠ 99) : k < 202 ∧ i < (cod k).length := by
  have hi : i < (cod k).length := by
    rcases Nat.lt_or_ge i (cod k).length with q | q
    · exact q
    · exfalso
      refine h ?_
      unfold wd
      rw [List.getD_eq_getElem?_getD, List.getElem?_eq_none_iff.mpr q]
      decide
  refine ⟨?_, hi⟩
  rcases Nat.lt_or_ge k 202 with q | q
  · exact q
  · exfalso
    have hl : ctab.length = 202 := by decide +kernel
    unfold cod at hi
    rw [List.getD_eq_getElem?_getD, List.getElem?_eq_none_iff.mpr (by omega)] at hi
    exact absurd hi (Nat.not_lt_zero _)
theorem okI_dec {k i : Nat} (h99 : iO (wd k i) ≠ 99) : ∃ ins len, decode (mB k) (pcA k i) = .ok (ins, len) ∧ okO k i (wd k i) (pcA k (i + 1)) ins len = true := by
  obtain ⟨hk, hi⟩ := wd_in h99
  have hI := okI_all k i hk hi
  unfold okI at hI
  split at hI
  · rename_i ins len hd
    refine ⟨ins, len, hd, ?_⟩
    rcases Bool.or_eq_true_iff.mp hI with h | h
    · exact h
    · exact absurd (by simpa using h) h99
  · cases hI
end
section
/-! what a callee must be, of all methods -/
def okMR (a b : Nat) : Bool := (List.range (b - a)).all (fun j => okMeth (a + j))
theorem om_0 : okMR 1 18 = true := by decide +kernel
theorem om_1 : okMR 18 35 = true := by decide +kernel
theorem om_2 : okMR 35 52 = true := by decide +kernel
theorem om_3 : okMR 52 69 = true := by decide +kernel
theorem om_4 : okMR 69 86 = true := by decide +kernel
theorem om_5 : okMR 86 103 = true := by decide +kernel
theorem om_6 : okMR 103 120 = true := by decide +kernel
theorem om_7 : okMR 120 137 = true := by decide +kernel
theorem om_8 : okMR 137 154 = true := by decide +kernel
theorem om_9 : okMR 154 171 = true := by decide +kernel
theorem om_10 : okMR 171 188 = true := by decide +kernel
theorem om_11 : okMR 188 202 = true := by decide +kernel
theorem okMR_get {a b k : Nat} (h : okMR a b = true) (h1 : a ≤ k) (h2 : k < b) : okMeth k = true := by
  have q := List.all_eq_true.mp h (k - a) (List.mem_range.mpr (by omega))
  rw [show a + (k - a) = k by omega] at q
  exact q
theorem okMeth_all {k : Nat} (h : k < nK) (h1 : 1 ≤ k) : okMeth k = true := by
  have h : k < 202 := h
  by_cases q0 : k < 18
  · exact okMR_get om_0 (by omega) q0
  by_cases q1 : k < 35
  · exact okMR_get om_1 (by omega) q1
  by_cases q2 : k < 52
  · exact okMR_get om_2 (by omega) q2
  by_cases q3 : k < 69
  · exact okMR_get om_3 (by omega) q3
  by_cases q4 : k < 86
  · exact okMR_get om_4 (by omega) q4
  by_cases q5 : k < 103
  · exact okMR_get om_5 (by omega) q5
  by_cases q6 : k < 120
  · exact okMR_get om_6 (by omega) q6
  by_cases q7 : k < 137
  · exact okMR_get om_7 (by omega) q7
  by_cases q8 : k < 154
  · exact okMR_get om_8 (by omega) q8
  by_cases q9 : k < 171
  · exact okMR_get om_9 (by omega) q9
  by_cases q10 : k < 188
  · exact okMR_get om_10 (by omega) q10
  exact okMR_get om_11 (by omega) h
end
section
/-! a method's instructions as a list of steps over named numbers, its branches side by side -/
abbrev AV : Type := Nat × Int
abbrev Node : Type := Nat × Nat × List AV
abbrev Fr : Type := Nat × Nat × List (Nat × AV) × List AV
def ev (σ : Nat → Int) (a : AV) : V := match a.1 with
  | 0 => vI a.2
  | 1 => vI (σ a.2.toNat)
  | 2 => vL a.2
  | 3 => vL (σ a.2.toNat)
  | n + 4 => vR n a.2.toNat
def nm (σ : Nat → Int) (a : AV) : Int := match a.1 with
  | 1 => σ a.2.toNat
  | 3 => σ a.2.toNat
  | _ => a.2
def us (σ : Nat → Int) (n : Nat) (z : Int) : Nat → Int := fun j => if j = n then z else σ j
def catA (a : AV) : Nat := match a.1 with
  | 2 => 2
  | 3 => 2
  | _ => 1
def isI (a : AV) : Bool := match a.1 with
  | 0 => true
  | 1 => true
  | _ => false
def isL (a : AV) : Bool := match a.1 with
  | 2 => true
  | 3 => true
  | _ => false
def isR (a : AV) : Bool := match a.1 with
  | 4 => true
  | 5 => true
  | 6 => true
  | _ => false
def wA (n : Nat) (a : AV) : Prop := (a.1 = 1 ∨ a.1 = 3) → a.2.toNat < n
def wS (n : Nat) (S : List AV) : Prop := ∀ a ∈ S, wA n a
def wL (n : Nat) (L : List (Nat × AV)) : Prop := ∀ q ∈ L, wA n q.2
def evL (σ : Nat → Int) (L : List (Nat × AV)) : List (Nat × V) := L.map (fun q => (q.1, ev σ q.2))
theorem us_at {σ : Nat → Int} {n : Nat} {z : Int} : us σ n z n = z := by simp [us]
theorem us_ne {σ : Nat → Int} {n j : Nat} {z : Int} (h : j < n) : us σ n z j = σ j := by
  unfold us
  rw [if_neg (by omega)]
theorem ev_I {σ : Nat → Int} {a : AV} (h : isI a = true) : ev σ a = vI (nm σ a) := by
  obtain ⟨t, c⟩ := a
  match t, h with
  | 0, _ => rfl
  | 1, _ => rfl
theorem ev_L {σ : Nat → Int} {a : AV} (h : isL a = true) : ev σ a = vL (nm σ a) := by
  obtain ⟨t, c⟩ := a
  match t, h with
  | 2, _ => rfl
  | 3, _ => rfl
theorem ev_R {σ : Nat → Int} {a : AV} (h : isR a = true) : ∃ t, t < 3 ∧ a.1 = t + 4 ∧ ev σ a = vR t a.2.toNat := by
  obtain ⟨t, c⟩ := a
  match t, h with
  | 4, _ => exact ⟨0, by decide, rfl, rfl⟩
  | 5, _ => exact ⟨1, by decide, rfl, rfl⟩
  | 6, _ => exact ⟨2, by decide, rfl, rfl⟩
theorem ev_agree {σ τ : Nat → Int} {n : Nat} (h : ∀ j, j < n → τ j = σ j) {a : AV} (ha : wA n a) : ev τ a = ev σ a := by
  obtain ⟨t, c⟩ := a
  match t, ha with
  | 0, _ => rfl
  | 1, ha => exact congrArg vI (h _ (ha (Or.inl rfl)))
  | 2, _ => rfl
  | 3, ha => exact congrArg vL (h _ (ha (Or.inr rfl)))
  | n + 4, _ => rfl
theorem evS_agree {σ τ : Nat → Int} {n : Nat} (h : ∀ j, j < n → τ j = σ j) {S : List AV} (hS : wS n S) : S.map (ev τ) = S.map (ev σ) := List.map_congr_left fun a ha => ev_agree h (hS a ha)
theorem evL_agree {σ τ : Nat → Int} {n : Nat} (h : ∀ j, j < n → τ j = σ j) {L : List (Nat × AV)} (hL : wL n L) : evL τ L = evL σ L := List.map_congr_left fun q hq => by rw [ev_agree h (hL q hq)]
theorem us_agree (σ : Nat → Int) (n : Nat) (z : Int) : ∀ j, j < n → us σ n z j = σ j := fun _ h => us_ne h
theorem wA.mono {n n' : Nat} {a : AV} (h : wA n a) (hn : n ≤ n') : wA n' a := fun q => Nat.lt_of_lt_of_le (h q) hn
theorem wS.mono {n n' : Nat} {S : List AV} (h : wS n S) (hn : n ≤ n') : wS n' S := fun a ha => (h a ha).mono hn
theorem wL.mono {n n' : Nat} {L : List (Nat × AV)} (h : wL n L) (hn : n ≤ n') : wL n' L := fun q hq => (h q hq).mono hn
theorem cat_ev (σ : Nat → Int) (a : AV) : catV (ev σ a) = catA a := by
  obtain ⟨t, c⟩ := a
  match t with
  | 0 => rfl
  | 1 => rfl
  | 2 => rfl
  | 3 => rfl
  | n + 4 => rfl
def lkA : List (Nat × AV) → Nat → Option AV
  | [], _ => none
  | q :: L, b => if q.1 = b then some q.2 else lkA L b
theorem lkA_mem {b : Nat} {a : AV} : ∀ {L : List (Nat × AV)}, lkA L b = some a → (b, a) ∈ L := by
  intro L
  induction L with
  | nil => intro h; cases h
  | cons q L ih =>
    intro h
    unfold lkA at h
    split at h
    next e => obtain rfl := Option.some.inj h; rw [← e]; exact List.mem_cons_self
    next => exact List.mem_cons_of_mem _ (ih h)
def stA1 (b : Nat) (v : AV) (L : List (Nat × AV)) : List (Nat × AV) := (b, v) :: L.filter (fun q => !(q.1 == b) && !(q.1 + 1 == b && catA q.2 == 2))
def stA2 (b : Nat) (v : AV) (L : List (Nat × AV)) : List (Nat × AV) := (b, v) :: L.filter (fun q => !(q.1 == b) && (!(q.1 == b + 1) && !(q.1 + 1 == b && catA q.2 == 2)))
theorem evL_st1 (σ : Nat → Int) (b : Nat) (v : AV) (L : List (Nat × AV)) : evL σ (stA1 b v L) = stL1 b (ev σ v) (evL σ L) := by
  show (b, ev σ v) :: _ = (b, ev σ v) :: _
  congr 1
  unfold evL
  rw [List.filter_map]
  congr 1
  refine List.filter_congr fun q _ => ?_
  show _ = (!(q.1 == b) && !(q.1 + 1 == b && catV (ev σ q.2) == 2))
  rw [cat_ev]
theorem evL_st2 (σ : Nat → Int) (b : Nat) (v : AV) (L : List (Nat × AV)) : evL σ (stA2 b v L) = stL2 b (ev σ v) (evL σ L) := by
  show (b, ev σ v) :: _ = (b, ev σ v) :: _
  congr 1
  unfold evL
  rw [List.filter_map]
  congr 1
  refine List.filter_congr fun q _ => ?_
  show _ = (!(q.1 == b) && (!(q.1 == b + 1) && !(q.1 + 1 == b && catV (ev σ q.2) == 2)))
  rw [cat_ev]
theorem wL_st1 {n b : Nat} {v : AV} {L : List (Nat × AV)} (hL : wL n L) (hv : wA n v) : wL n (stA1 b v L) := by
  intro q hq
  rcases List.mem_cons.mp hq with rfl | h
  · exact hv
  · exact hL q (List.mem_filter.mp h).1
theorem wL_st2 {n b : Nat} {v : AV} {L : List (Nat × AV)} (hL : wL n L) (hv : wA n v) : wL n (stA2 b v L) := by
  intro q hq
  rcases List.mem_cons.mp hq with rfl | h
  · exact hv
  · exact hL q (List.mem_filter.mp h).1
theorem wS_c {n : Nat} {a : AV} {S : List AV} (ha : wA n a) (hS : wS n S) : wS n (a :: S) := List.forall_mem_cons.mpr ⟨ha, hS⟩
theorem wA_k {n t : Nat} {c : Int} (h : ¬ (t = 1 ∨ t = 3)) : wA n (t, c) := fun q => absurd q h
theorem wA_n {n t : Nat} : wA (n + 1) (t, (n : Int)) := fun _ => by show ((n : Int)).toNat < n + 1; omega
theorem ev_lk {σ : Nat → Int} {L : List (Nat × AV)} {b : Nat} {a : AV} (h : lkA L b = some a) : (b, ev σ a) ∈ evL σ L := List.mem_map.mpr ⟨(b, a), lkA_mem h, rfl⟩
/-! the steps -/
def alen (j : Nat) : Nat := match SH[j]? with
  | some (.inl (_, n)) => n
  | _ => 0
def bn (x : Node) : Nat := if x.1 < 10 then 1 else 0
def nd (X : Xs) (x : Node) (n : Nat) (σ : Nat → Int) (M : Mm) (K : (Nat → Int) → Mm → Prop) : Prop := match x with
  | (0, b, [x, y]) => K (us σ n (ib b (nm σ x) (nm σ y))) M
  | (1, b, [x, y]) => K (us σ n (lb b (nm σ x) (nm σ y))) M
  | (2, b, [x, y]) => K (us σ n (sb b (nm σ x) (nm σ y))) M
  | (3, 0, [x]) => K (us σ n (lo32 (nm σ x))) M
  | (3, _, [x]) => K (us σ n (cb (nm σ x))) M
  | (4, j, [s]) => rK (kd j s.2.toNat) (M j s.2.toNat) → K (us σ n (M j s.2.toNat)) M
  | (5, j, [x]) => 0 ≤ nm σ x ∧ nm σ x < alen j ∧ (rK (kd j (nm σ x).toNat) (M j (nm σ x).toNat) → K (us σ n (M j (nm σ x).toNat)) M)
  | (6, _, [x]) => 0 ≤ nm σ x ∧ nm σ x < X.1 ∧ K (us σ n (X.2 (nm σ x).toNat)) M
  | (7, _, []) => K (us σ n X.1) M
  | (8, _, [x]) => 0 ≤ nm σ x ∧ nm σ x < 11 ∧ K (us σ n (FSL.getD (nm σ x).toNat 0).toInt) M
  | (9, t, [x]) => 0 ≤ nm σ x ∧ nm σ x < strLen.getD t 0 ∧ K (us σ n ((strB.getD t []).getD (nm σ x).toNat 0).toInt) M
  | (10, j, [s, v]) => K σ (up M j s.2.toNat (nm σ v))
  | (11, j, [x, v]) => 0 ≤ nm σ x ∧ nm σ x < alen j ∧ K σ (up M j (nm σ x).toNat (nm σ v))
  | (12, _, [v]) => (nm σ v = 0 ∨ nm σ v = 1) ∧ K σ M
  | (13, _, [v]) => (0 ≤ nm σ v ∧ nm σ v < 65536) ∧ K σ M
  | (14, j1, [j2, sp, dp, q]) => (0 ≤ nm σ sp ∧ 0 ≤ nm σ dp ∧ 0 ≤ nm σ q) ∧ nm σ sp + nm σ q ≤ alen j1 ∧ nm σ dp + nm σ q ≤ alen j2.2.toNat ∧ K σ (cpM M j1 j2.2.toNat (nm σ sp).toNat (nm σ dp).toNat (nm σ q).toNat)
  | _ => False
theorem nd_mono {X : Xs} {x : Node} {n : Nat} {σ : Nat → Int} {M : Mm} {K K' : (Nat → Int) → Mm → Prop} (h : ∀ τ M', (∀ j, j < n → τ j = σ j) → K τ M' → K' τ M') (hn : nd X x n σ M K) : nd X x n σ M K' := by
  unfold nd at hn ⊢
  split at hn
  · exact h _ _ (us_agree σ n _) hn
  · exact h _ _ (us_agree σ n _) hn
  · exact h _ _ (us_agree σ n _) hn
  · exact h _ _ (us_agree σ n _) hn
  · exact h _ _ (us_agree σ n _) hn
  · exact fun q => h _ _ (us_agree σ n _) (hn q)
  · exact ⟨hn.1, hn.2.1, fun q => h _ _ (us_agree σ n _) (hn.2.2 q)⟩
  · exact ⟨hn.1, hn.2.1, h _ _ (us_agree σ n _) hn.2.2⟩
  · exact h _ _ (us_agree σ n _) hn
  · exact ⟨hn.1, hn.2.1, h _ _ (us_agree σ n _) hn.2.2⟩
  · exact ⟨hn.1, hn.2.1, h _ _ (us_agree σ n _) hn.2.2⟩
  · exact h _ _ (fun _ _ => rfl) hn
  · exact ⟨hn.1, hn.2.1, h _ _ (fun _ _ => rfl) hn.2.2⟩
  · exact ⟨hn.1, h _ _ (fun _ _ => rfl) hn.2⟩
  · exact ⟨hn.1, h _ _ (fun _ _ => rfl) hn.2⟩
  · exact ⟨hn.1, hn.2.1, hn.2.2.1, h _ _ (fun _ _ => rfl) hn.2.2.2⟩
  · exact hn.elim
def nds (X : Xs) : List Node → Nat → (Nat → Int) → Mm → ((Nat → Int) → Mm → Prop) → Prop
  | [], _, σ, M, K => K σ M
  | x :: r, n, σ, M, K => nd X x n σ M (fun τ M' => nds X r (n + bn x) τ M' K)
def bns (l : List Node) : Nat := (l.map bn).sum
theorem nds_mono {X : Xs} : ∀ {l : List Node} {n : Nat} {σ : Nat → Int} {M : Mm} {K K' : (Nat → Int) → Mm → Prop}, (∀ τ M', (∀ j, j < n → τ j = σ j) → K τ M' → K' τ M') → nds X l n σ M K → nds X l n σ M K' := by
  intro l
  induction l with
  | nil => intro n σ M K K' h hn; exact h σ M (fun _ _ => rfl) hn
  | cons x r ih =>
    intro n σ M K K' h hn
    refine nd_mono (fun τ M' ht hq => ih (fun υ M'' hu hk => h υ M'' (fun j hj => ?_) hk) hq) hn
    rw [hu j (by omega), ht j hj]
end
section
/-! one instruction as steps -/
def in32B (z : Int) : Bool := decide (-2147483648 ≤ z) && decide (z ≤ 2147483647)
def in64B (z : Int) : Bool := decide (-9223372036854775808 ≤ z) && decide (z ≤ 9223372036854775807)
def zb (b : Nat) (x y : Int) : Int := match b with
  | 0 => x + y
  | 1 => x - y
  | _ => x * y
theorem in32B_ok {z : Int} (h : in32B z = true) : in32 z := by
  unfold in32B at h
  simp only [Bool.and_eq_true, decide_eq_true_eq] at h
  exact h
theorem in64B_ok {z : Int} (h : in64B z = true) : in64 z := by
  unfold in64B at h
  simp only [Bool.and_eq_true, decide_eq_true_eq] at h
  exact h
theorem ib_zb {b : Nat} {x y : Int} (hb : b ≤ 2) (h : in32 (zb b x y)) : ib b x y = zb b x y := by
  have key : ∀ z : Int32, ∀ w : Int, z = Int32.ofInt w → in32 w → z.toInt = w := fun z w e h => by rw [e]; exact i32_to h
  match b, hb with
  | 0, _ => exact key _ _ (by rw [← Int32.toInt_inj]; simp [zb]) h
  | 1, _ => exact key _ _ (by rw [← Int32.toInt_inj]; simp [zb]) h
  | 2, _ => exact key _ _ (by rw [← Int32.toInt_inj]; simp [zb]) h
theorem lb_zb {b : Nat} {x y : Int} (hb : b ≤ 2) (h : in64 (zb b x y)) : lb b x y = zb b x y := by
  have key : ∀ z : Int64, ∀ w : Int, z = Int64.ofInt w → in64 w → z.toInt = w := fun z w e h => by rw [e]; exact i64_to h
  match b, hb with
  | 0, _ => exact key _ _ (by rw [← Int64.toInt_inj]; simp [zb]) h
  | 1, _ => exact key _ _ (by rw [← Int64.toInt_inj]; simp [zb]) h
  | 2, _ => exact key _ _ (by rw [← Int64.toInt_inj]; simp [zb]) h
abbrev Go : Type := List Node × Nat × List (Nat × AV) × List AV
def okTB (ci s f : Nat) : Bool := match cls[ci]? with
  | some r => decide (parseFieldDescriptor (r.2.1 s).2.2.1 = some (fty f))
  | none => false
def g4 (w i : Nat) (L : List (Nat × AV)) (S : List AV) (p : AV → Bool) : Option Go := match lkA L (iB w) with
  | some a => if p a = true then some ([], i + 1, L, a :: S) else none
  | none => none
def g7 (w i : Nat) (L : List (Nat × AV)) (S : List AV) (p : AV → Bool) (st : Nat → AV → List (Nat × AV) → List (Nat × AV)) : Option Go := match S with
  | a :: S' => if p a = true then some ([], i + 1, st (iB w) a L, S') else none
  | [] => none
def g10 (w i n : Nat) (L : List (Nat × AV)) (S : List AV) : Option Go := match lkA L (iB w) with
  | some (0, c) => if in32B (c + iS w) = true then some ([], i + 1, stA1 (iB w) (0, c + iS w) L, S) else none
  | some (1, c) => some ([(0, 0, [(1, c), (0, iS w)])], i + 1, stA1 (iB w) (1, (n : Int)) L, S)
  | _ => none
def g11 (w i n : Nat) (L : List (Nat × AV)) (S : List AV) : Option Go := match S with
  | (0, y) :: (0, x) :: S' => if decide (iB w ≤ 2) && in32B (zb (iB w) x y) then some ([], i + 1, L, (0, zb (iB w) x y) :: S') else some ([(0, iB w, [(0, x), (0, y)])], i + 1, L, (1, (n : Int)) :: S')
  | y :: x :: S' => if isI x && isI y then some ([(0, iB w, [x, y])], i + 1, L, (1, (n : Int)) :: S') else none
  | _ => none
def g12 (w i n : Nat) (L : List (Nat × AV)) (S : List AV) : Option Go := match S with
  | (2, y) :: (2, x) :: S' => if decide (iB w ≤ 2) && in64B (zb (iB w) x y) then some ([], i + 1, L, (2, zb (iB w) x y) :: S') else some ([(1, iB w, [(2, x), (2, y)])], i + 1, L, (3, (n : Int)) :: S')
  | y :: x :: S' => if isL x && isL y then some ([(1, iB w, [x, y])], i + 1, L, (3, (n : Int)) :: S') else none
  | _ => none
def g13 (w i n : Nat) (L : List (Nat × AV)) (S : List AV) : Option Go := match S with
  | y :: x :: S' => if isL x && isI y then some ([(2, iB w, [x, y])], i + 1, L, (3, (n : Int)) :: S') else none
  | _ => none
def g14 (i : Nat) (L : List (Nat × AV)) (S : List AV) : Option Go := match S with
  | (0, c) :: S' => some ([], i + 1, L, (2, c) :: S')
  | (1, c) :: S' => some ([], i + 1, L, (3, c) :: S')
  | _ => none
def g15 (i n : Nat) (L : List (Nat × AV)) (S : List AV) : Option Go := match S with
  | x :: S' => if isL x = true then some ([(3, 0, [x])], i + 1, L, (1, (n : Int)) :: S') else none
  | [] => none
def g16 (i n : Nat) (L : List (Nat × AV)) (S : List AV) : Option Go := match S with
  | x :: S' => if isI x = true then some ([(3, 1, [x])], i + 1, L, (1, (n : Int)) :: S') else none
  | [] => none
def g22 (w i n : Nat) (L : List (Nat × AV)) (S : List AV) : Option Go := match S with
  | (4, r) :: S' => match SH[r.toNat]? with
    | some (.inr (ci, fk)) => if ci = iA w then match fk[iB w]? with
        | some 0 => some ([(4, r.toNat, [(0, (iB w : Int))])], i + 1, L, (1, (n : Int)) :: S')
        | some 1 => some ([(4, r.toNat, [(0, (iB w : Int))])], i + 1, L, (3, (n : Int)) :: S')
        | some 2 => some ([(4, r.toNat, [(0, (iB w : Int))])], i + 1, L, (1, (n : Int)) :: S')
        | some (q + 3) => some ([], i + 1, L, (4, (q : Int)) :: S')
        | none => none
      else none
    | _ => none
  | _ => none
def g23 (w i : Nat) (L : List (Nat × AV)) (S : List AV) : Option Go := match S with
  | v :: (4, r) :: S' => match SH[r.toNat]? with
    | some (.inr (ci, fk)) => if ci = iA w then match fk[iB w]? with
        | some 0 => if isI v && okTB ci (iB w) 0 then some ([(10, r.toNat, [(0, (iB w : Int)), v])], i + 1, L, S') else none
        | some 1 => if isL v && okTB ci (iB w) 1 then some ([(10, r.toNat, [(0, (iB w : Int)), v])], i + 1, L, S') else none
        | some 2 => if isI v && okTB ci (iB w) 2 then some ([(12, 0, [v]), (10, r.toNat, [(0, (iB w : Int)), v])], i + 1, L, S') else none
        | _ => none
      else none
    | _ => none
  | _ => none
def g24 (w i : Nat) (L : List (Nat × AV)) (S : List AV) : Option Go := match iA w with
  | 0 => some ([], i + 1, L, (5, 1) :: S)
  | 1 => some ([], i + 1, L, (0, 1) :: S)
  | _ => some ([], i + 1, L, (7, 0) :: S)
def g25 (i n : Nat) (L : List (Nat × AV)) (S : List AV) : Option Go := match S with
  | x :: (4, r) :: S' => if isI x = true then match SH[r.toNat]? with
      | some (.inl (0, _)) => some ([(5, r.toNat, [x])], i + 1, L, (1, (n : Int)) :: S')
      | _ => none
    else none
  | x :: (5, 0) :: S' => if isI x = true then some ([(6, 0, [x])], i + 1, L, (1, (n : Int)) :: S') else none
  | x :: (5, 1) :: S' => if isI x = true then some ([(8, 0, [x])], i + 1, L, (1, (n : Int)) :: S') else none
  | _ => none
def g26 (i n : Nat) (L : List (Nat × AV)) (S : List AV) : Option Go := match S with
  | x :: (4, r) :: S' => if isI x = true then match SH[r.toNat]? with
      | some (.inl (1, _)) => some ([(5, r.toNat, [x])], i + 1, L, (1, (n : Int)) :: S')
      | _ => none
    else none
  | x :: (5, r) :: S' => if isI x && decide (3 ≤ r.toNat) && decide (r.toNat < 15) then some ([(9, r.toNat - 3, [x])], i + 1, L, (1, (n : Int)) :: S') else none
  | _ => none
def g27 (i : Nat) (L : List (Nat × AV)) (S : List AV) : Option Go := match S with
  | z :: x :: (4, r) :: S' => if isI x && isI z then match SH[r.toNat]? with
      | some (.inl (0, _)) => some ([(11, r.toNat, [x, z])], i + 1, L, S')
      | _ => none
    else none
  | _ => none
def g28 (i : Nat) (L : List (Nat × AV)) (S : List AV) : Option Go := match S with
  | z :: x :: (4, r) :: S' => if isI x && isI z then match SH[r.toNat]? with
      | some (.inl (1, _)) => some ([(12, 0, [z]), (11, r.toNat, [x, z])], i + 1, L, S')
      | _ => none
    else none
  | _ => none
def g29 (i n : Nat) (L : List (Nat × AV)) (S : List AV) : Option Go := match S with
  | (5, 0) :: S' => some ([(7, 0, [])], i + 1, L, (1, (n : Int)) :: S')
  | (5, r) :: S' => if decide (3 ≤ r.toNat) && decide (r.toNat < 15) then some ([], i + 1, L, (0, (strLen.getD (r.toNat - 3) 0 : Int)) :: S') else none
  | _ => none
def g30 (i : Nat) (L : List (Nat × AV)) (S : List AV) : Option Go := match S with
  | a :: S' => if catA a = 1 then some ([], i + 1, L, a :: a :: S') else none
  | [] => none
def g31 (i : Nat) (L : List (Nat × AV)) (S : List AV) : Option Go := match S with
  | a :: b :: S' => if catA a = 1 ∧ catA b = 1 then some ([], i + 1, L, a :: b :: a :: b :: S') else none
  | _ => none
def g32 (i : Nat) (L : List (Nat × AV)) (S : List AV) : Option Go := match S with
  | a :: S' => if catA a = 1 then some ([], i + 1, L, S') else none
  | [] => none
def cSA (S : List AV) : Nat := (S.map catA).sum
def g39 (i : Nat) (L : List (Nat × AV)) (S : List AV) : Option Go := match S with
  | q :: dp :: (4, r2) :: sp :: (4, r1) :: S' => if isI q && isI dp && isI sp && decide (cSA S' ≤ 8) then match SH[r1.toNat]?, SH[r2.toNat]? with
      | some (.inl (0, _)), some (.inl (0, _)) => some ([(14, r1.toNat, [(4, r2), sp, dp, q])], i + 1, L, S')
      | _, _ => none
    else none
  | _ => none
def g41 (w i : Nat) (L : List (Nat × AV)) (S : List AV) : Option Go := match S with
  | (6, r) :: S' => if r.toNat < 12 then some ([], i + 1, L, (if iA w = 0 then (5, ((3 + r.toNat : Nat) : Int)) else (0, 0)) :: S') else none
  | _ => none
def g42 (w : Nat) (L : List (Nat × AV)) (S : List AV) : Option Go := match S with
  | a :: S' => if isR a = true then some ([], iB w, L, S') else none
  | [] => none
def g43 (w i n : Nat) (L : List (Nat × AV)) (S : List AV) : Option Go := match S with
  | y :: x :: S' => if isI x && isI y && decide (cSA S' ≤ 8) then some ([(0, if iA w = 0 then 9 else 10, [x, y])], i + 1, L, (1, (n : Int)) :: S') else none
  | _ => none
def go1 (k i n : Nat) (L : List (Nat × AV)) (S : List AV) : Option Go := match iO (wd k i) with
  | 0 => some ([], i + 1, L, (0, iZ (wd k i)) :: S)
  | 1 => some ([], i + 1, L, (0, iZ (wd k i)) :: S)
  | 2 => some ([], i + 1, L, (2, iZ (wd k i)) :: S)
  | 3 => some ([], i + 1, L, (2, iZ (wd k i)) :: S)
  | 4 => g4 (wd k i) i L S isI
  | 5 => g4 (wd k i) i L S isL
  | 6 => g4 (wd k i) i L S isR
  | 7 => g7 (wd k i) i L S isI stA1
  | 8 => g7 (wd k i) i L S isL stA2
  | 9 => g7 (wd k i) i L S isR stA1
  | 10 => g10 (wd k i) i n L S
  | 11 => g11 (wd k i) i n L S
  | 12 => g12 (wd k i) i n L S
  | 13 => g13 (wd k i) i n L S
  | 14 => g14 i L S
  | 15 => g15 i n L S
  | 16 => g16 i n L S
  | 20 => some ([], iB (wd k i), L, S)
  | 22 => g22 (wd k i) i n L S
  | 23 => g23 (wd k i) i L S
  | 24 => g24 (wd k i) i L S
  | 25 => g25 i n L S
  | 26 => g26 i n L S
  | 27 => g27 i L S
  | 28 => g28 i L S
  | 29 => g29 i n L S
  | 30 => g30 i L S
  | 31 => g31 i L S
  | 32 => g32 i L S
  | 39 => g39 i L S
  | 40 => some ([], i + 1, L, (6, (iA (wd k i) : Int)) :: S)
  | 41 => g41 (wd k i) i L S
  | 42 => g42 (wd k i) L S
  | 43 => g43 (wd k i) i n L S
  | _ => none
/-! what the steps say of the instruction -/
section GO
variable {X : Xs} {d k i n : Nat} {L : List (Nat × AV)} {S : List AV} {ins : Instr} {len : Nat} {o : Go}
def GoOK (X : Xs) (d k i n : Nat) (L : List (Nat × AV)) (S : List AV) (o : Go) : Prop := (∀ x ∈ o.1, x.1 < 15) ∧ wL (n + bns o.1) o.2.2.1 ∧ wS (n + bns o.1) o.2.2.2 ∧ ∀ (σ : Nat → Int) (M : Mm) (Q : Option V → Mm → Prop), nds X o.1 n σ M (fun τ M' => Wp X d k o.2.1 (evL τ o.2.2.1) (o.2.2.2.map (ev τ)) M' Q) → Wp X d k i (evL σ L) (S.map (ev σ)) M Q
theorem ev_n1 {σ : Nat → Int} {n : Nat} {z : Int} : ev (us σ n z) (1, (n : Int)) = vI z := by
  show vI (us σ n z ((n : Int)).toNat) = vI z
  rw [Int.toNat_natCast, us_at]
theorem ev_n3 {σ : Nat → Int} {n : Nat} {z : Int} : ev (us σ n z) (3, (n : Int)) = vL z := by
  show vL (us σ n z ((n : Int)).toNat) = vL z
  rw [Int.toNat_natCast, us_at]
theorem fin1 {i' : Nat} {σ : Nat → Int} {z : Int} {M : Mm} {Q : Option V → Mm → Prop} (hL : wL n L) (hS : wS n S) (q : Wp X d k i' (evL (us σ n z) L) (((1, (n : Int)) :: S).map (ev (us σ n z))) M Q) : Wp X d k i' (evL σ L) (vI z :: S.map (ev σ)) M Q := by
  rw [List.map_cons, ev_n1, evL_agree (us_agree σ n z) hL, evS_agree (us_agree σ n z) hS] at q
  exact q
theorem fin3 {i' : Nat} {σ : Nat → Int} {z : Int} {M : Mm} {Q : Option V → Mm → Prop} (hL : wL n L) (hS : wS n S) (q : Wp X d k i' (evL (us σ n z) L) (((3, (n : Int)) :: S).map (ev (us σ n z))) M Q) : Wp X d k i' (evL σ L) (vL z :: S.map (ev σ)) M Q := by
  rw [List.map_cons, ev_n3, evL_agree (us_agree σ n z) hL, evS_agree (us_agree σ n z) hS] at q
  exact q
theorem wS_t {a : AV} (h : wS n (a :: S)) : wS n S := fun x hx => h x (List.mem_cons_of_mem _ hx)
theorem wS_h {a : AV} (h : wS n (a :: S)) : wA n a := h a List.mem_cons_self
theorem bns1 {x : Node} (h : x.1 < 10) : bns [x] = 1 := by
  unfold bns bn
  simp [h]
theorem lt15 {x : Node} (h : x.1 < 15) : ∀ y ∈ [x], y.1 < 15 := fun y hy => by rw [List.mem_singleton.mp hy]; exact h
theorem lt152 {x y : Node} (h : x.1 < 15) (h2 : y.1 < 15) : ∀ z ∈ [x, y], z.1 < 15 := by
  intro z hz
  rcases List.mem_cons.mp hz with rfl | hz
  · exact h
  · rw [List.mem_singleton.mp hz]; exact h2
/-- a step that names a new number -/
theorem ok1n {x : Node} {t i' : Nat} {S' : List AV} (hx : x.1 < 10) (hL : wL n L) (hS' : wS n S') (h : ∀ (σ : Nat → Int) (M : Mm) (Q : Option V → Mm → Prop), nd X x n σ M (fun τ M' => Wp X d k i' (evL τ L) (((t, (n : Int)) :: S').map (ev τ)) M' Q) → Wp X d k i (evL σ L) (S.map (ev σ)) M Q) : GoOK X d k i n L S ([x], i', L, (t, (n : Int)) :: S') := by
  refine ⟨lt15 (Nat.lt_of_lt_of_le hx (by decide)), ?_, ?_, fun σ M Q q => h σ M Q q⟩
  · show wL (n + bns [x]) L
    rw [bns1 hx]
    exact hL.mono (Nat.le_succ _)
  · show wS (n + bns [x]) _
    rw [bns1 hx]
    exact wS_c wA_n (hS'.mono (Nat.le_succ _))
theorem gs0 (hd : decode (mB k) (pcA k i) = .ok (ins, len)) (ho : ok0 (wd k i) (pcA k (i + 1)) ins len = true) (hL : wL n L) (hS : wS n S) : GoOK X d k i n L S ([], i + 1, L, (0, iZ (wd k i)) :: S) :=
  ⟨fun x hx => (by cases hx), hL, wS_c (wA_k (by decide)) hS, fun σ M Q q => T0 hd ho q⟩
theorem gs1 (hd : decode (mB k) (pcA k i) = .ok (ins, len)) (ho : ok1 k (wd k i) (pcA k (i + 1)) ins len = true) (hL : wL n L) (hS : wS n S) : GoOK X d k i n L S ([], i + 1, L, (0, iZ (wd k i)) :: S) :=
  ⟨fun x hx => (by cases hx), hL, wS_c (wA_k (by decide)) hS, fun σ M Q q => T1 hd ho q⟩
theorem gs2 (hd : decode (mB k) (pcA k i) = .ok (ins, len)) (ho : ok2 (wd k i) (pcA k (i + 1)) ins len = true) (hL : wL n L) (hS : wS n S) : GoOK X d k i n L S ([], i + 1, L, (2, iZ (wd k i)) :: S) :=
  ⟨fun x hx => (by cases hx), hL, wS_c (wA_k (by decide)) hS, fun σ M Q q => T2 hd ho q⟩
theorem gs3 (hd : decode (mB k) (pcA k i) = .ok (ins, len)) (ho : ok3 k (wd k i) (pcA k (i + 1)) ins len = true) (hL : wL n L) (hS : wS n S) : GoOK X d k i n L S ([], i + 1, L, (2, iZ (wd k i)) :: S) :=
  ⟨fun x hx => (by cases hx), hL, wS_c (wA_k (by decide)) hS, fun σ M Q q => T3 hd ho q⟩
theorem gs4 (hd : decode (mB k) (pcA k i) = .ok (ins, len)) (ho : ok4 (wd k i) (pcA k (i + 1)) ins len = true) (hL : wL n L) (hS : wS n S) (h : g4 (wd k i) i L S isI = some o) : GoOK X d k i n L S o := by
  unfold g4 at h
  split at h
  · rename_i a ha
    split at h
    · rename_i hp
      obtain rfl := Option.some.inj h
      refine ⟨fun x hx => (by cases hx), hL, wS_c (hL _ (lkA_mem ha)) hS, fun σ M Q q => ?_⟩
      have hv := ev_lk (σ := σ) ha
      rw [ev_I hp] at hv
      have q : Wp X d k (i + 1) (evL σ L) ((a :: S).map (ev σ)) M Q := q
      rw [List.map_cons, ev_I hp] at q
      exact T4 hd ho hv q
    · cases h
  · cases h
theorem gs5 (hd : decode (mB k) (pcA k i) = .ok (ins, len)) (ho : ok5 (wd k i) (pcA k (i + 1)) ins len = true) (hL : wL n L) (hS : wS n S) (h : g4 (wd k i) i L S isL = some o) : GoOK X d k i n L S o := by
  unfold g4 at h
  split at h
  · rename_i a ha
    split at h
    · rename_i hp
      obtain rfl := Option.some.inj h
      refine ⟨fun x hx => (by cases hx), hL, wS_c (hL _ (lkA_mem ha)) hS, fun σ M Q q => ?_⟩
      have hv := ev_lk (σ := σ) ha
      rw [ev_L hp] at hv
      have q : Wp X d k (i + 1) (evL σ L) ((a :: S).map (ev σ)) M Q := q
      rw [List.map_cons, ev_L hp] at q
      exact T5 hd ho hv q
    · cases h
  · cases h
theorem gs6 (hd : decode (mB k) (pcA k i) = .ok (ins, len)) (ho : ok6 (wd k i) (pcA k (i + 1)) ins len = true) (hL : wL n L) (hS : wS n S) (h : g4 (wd k i) i L S isR = some o) : GoOK X d k i n L S o := by
  unfold g4 at h
  split at h
  · rename_i a ha
    split at h
    · rename_i hp
      obtain rfl := Option.some.inj h
      refine ⟨fun x hx => (by cases hx), hL, wS_c (hL _ (lkA_mem ha)) hS, fun σ M Q q => ?_⟩
      have hv := ev_lk (σ := σ) ha
      obtain ⟨t, ht, -, e⟩ := ev_R (σ := σ) hp
      rw [e] at hv
      have q : Wp X d k (i + 1) (evL σ L) ((a :: S).map (ev σ)) M Q := q
      rw [List.map_cons, e] at q
      exact T6 ht hd ho hv q
    · cases h
  · cases h
theorem gs7 (hd : decode (mB k) (pcA k i) = .ok (ins, len)) (ho : ok7 k (wd k i) (pcA k (i + 1)) ins len = true) (hL : wL n L) (hS : wS n S) (h : g7 (wd k i) i L S isI stA1 = some o) : GoOK X d k i n L S o := by
  unfold g7 at h
  split at h
  · rename_i a S'
    split at h
    · rename_i hp
      obtain rfl := Option.some.inj h
      refine ⟨fun x hx => (by cases hx), wL_st1 hL (wS_h hS), wS_t hS, fun σ M Q q => ?_⟩
      have q : Wp X d k (i + 1) (evL σ (stA1 (iB (wd k i)) a L)) (S'.map (ev σ)) M Q := q
      rw [evL_st1, ev_I hp] at q
      rw [List.map_cons, ev_I hp]
      exact T7 hd ho q
    · cases h
  · cases h
theorem gs8 (hd : decode (mB k) (pcA k i) = .ok (ins, len)) (ho : ok8 k (wd k i) (pcA k (i + 1)) ins len = true) (hL : wL n L) (hS : wS n S) (h : g7 (wd k i) i L S isL stA2 = some o) : GoOK X d k i n L S o := by
  unfold g7 at h
  split at h
  · rename_i a S'
    split at h
    · rename_i hp
      obtain rfl := Option.some.inj h
      refine ⟨fun x hx => (by cases hx), wL_st2 hL (wS_h hS), wS_t hS, fun σ M Q q => ?_⟩
      have q : Wp X d k (i + 1) (evL σ (stA2 (iB (wd k i)) a L)) (S'.map (ev σ)) M Q := q
      rw [evL_st2, ev_L hp] at q
      rw [List.map_cons, ev_L hp]
      exact T8 hd ho q
    · cases h
  · cases h
theorem gs9 (hd : decode (mB k) (pcA k i) = .ok (ins, len)) (ho : ok9 k (wd k i) (pcA k (i + 1)) ins len = true) (hL : wL n L) (hS : wS n S) (h : g7 (wd k i) i L S isR stA1 = some o) : GoOK X d k i n L S o := by
  unfold g7 at h
  split at h
  · rename_i a S'
    split at h
    · rename_i hp
      obtain rfl := Option.some.inj h
      refine ⟨fun x hx => (by cases hx), wL_st1 hL (wS_h hS), wS_t hS, fun σ M Q q => ?_⟩
      obtain ⟨t, ht, -, e⟩ := ev_R (σ := σ) hp
      have q : Wp X d k (i + 1) (evL σ (stA1 (iB (wd k i)) a L)) (S'.map (ev σ)) M Q := q
      rw [evL_st1, e] at q
      rw [List.map_cons, e]
      exact T9 ht hd ho q
    · cases h
  · cases h
theorem gs10 (hd : decode (mB k) (pcA k i) = .ok (ins, len)) (ho : ok10 k (wd k i) (pcA k (i + 1)) ins len = true) (hL : wL n L) (hS : wS n S) (h : g10 (wd k i) i n L S = some o) : GoOK X d k i n L S o := by
  unfold g10 at h
  split at h
  · rename_i c ha
    split at h
    · rename_i hp
      obtain rfl := Option.some.inj h
      refine ⟨fun x hx => (by cases hx), wL_st1 hL (wA_k (by decide)), hS, fun σ M Q q => ?_⟩
      have q : Wp X d k (i + 1) (evL σ (stA1 (iB (wd k i)) (0, c + iS (wd k i)) L)) (S.map (ev σ)) M Q := q
      rw [evL_st1] at q
      refine T10 (z := c) hd ho (ev_lk (σ := σ) ha) ?_
      rw [ib_zb (b := 0) (x := c) (y := iS (wd k i)) (by decide) (in32B_ok hp)]
      exact q
    · cases h
  · rename_i c ha
    obtain rfl := Option.some.inj h
    have hc := hL _ (lkA_mem ha)
    refine ⟨lt15 (by show (0 : Nat) < 15; decide), ?_, ?_, fun σ M Q q => ?_⟩
    · show wL (n + 1) _
      exact wL_st1 (hL.mono (Nat.le_succ _)) wA_n
    · show wS (n + 1) _
      exact hS.mono (Nat.le_succ _)
    · have q : Wp X d k (i + 1) (evL (us σ n (ib 0 (σ c.toNat) (iS (wd k i)))) (stA1 (iB (wd k i)) (1, (n : Int)) L)) (S.map (ev (us σ n (ib 0 (σ c.toNat) (iS (wd k i)))))) M Q := q
      rw [evL_st1, ev_n1, evL_agree (us_agree σ n _) hL, evS_agree (us_agree σ n _) hS] at q
      exact T10 (z := σ c.toNat) hd ho (ev_lk (σ := σ) ha) q
  · cases h
theorem gs11 (hd : decode (mB k) (pcA k i) = .ok (ins, len)) (ho : ok11 (wd k i) (pcA k (i + 1)) ins len = true) (hL : wL n L) (hS : wS n S) (h : g11 (wd k i) i n L S = some o) : GoOK X d k i n L S o := by
  unfold g11 at h
  split at h
  · rename_i y x S'
    have hS' := wS_t (wS_t hS)
    split at h
    · rename_i hp
      simp only [Bool.and_eq_true, decide_eq_true_eq] at hp
      obtain rfl := Option.some.inj h
      refine ⟨fun x hx => (by cases hx), hL, wS_c (wA_k (by decide)) hS', fun σ M Q q => T11 hd ho ?_⟩
      rw [ib_zb hp.1 (in32B_ok hp.2)]
      exact q
    · obtain rfl := Option.some.inj h
      exact ok1n (by show (0 : Nat) < 10; decide) hL hS' fun σ M Q q => T11 hd ho (fin1 hL hS' q)
  · rename_i y x S' _
    have hS' := wS_t (wS_t hS)
    split at h
    · rename_i hp
      simp only [Bool.and_eq_true] at hp
      obtain rfl := Option.some.inj h
      refine ok1n (by show (0 : Nat) < 10; decide) hL hS' fun σ M Q q => ?_
      rw [List.map_cons, List.map_cons, ev_I hp.1, ev_I hp.2]
      exact T11 hd ho (fin1 hL hS' q)
    · cases h
  · cases h
theorem gs12 (hd : decode (mB k) (pcA k i) = .ok (ins, len)) (ho : ok12 (wd k i) (pcA k (i + 1)) ins len = true) (hL : wL n L) (hS : wS n S) (h : g12 (wd k i) i n L S = some o) : GoOK X d k i n L S o := by
  unfold g12 at h
  split at h
  · rename_i y x S'
    have hS' := wS_t (wS_t hS)
    split at h
    · rename_i hp
      simp only [Bool.and_eq_true, decide_eq_true_eq] at hp
      obtain rfl := Option.some.inj h
      refine ⟨fun x hx => (by cases hx), hL, wS_c (wA_k (by decide)) hS', fun σ M Q q => T12 hd ho ?_⟩
      rw [lb_zb hp.1 (in64B_ok hp.2)]
      exact q
    · obtain rfl := Option.some.inj h
      exact ok1n (by show (1 : Nat) < 10; decide) hL hS' fun σ M Q q => T12 hd ho (fin3 hL hS' q)
  · rename_i y x S' _
    have hS' := wS_t (wS_t hS)
    split at h
    · rename_i hp
      simp only [Bool.and_eq_true] at hp
      obtain rfl := Option.some.inj h
      refine ok1n (by show (1 : Nat) < 10; decide) hL hS' fun σ M Q q => ?_
      rw [List.map_cons, List.map_cons, ev_L hp.1, ev_L hp.2]
      exact T12 hd ho (fin3 hL hS' q)
    · cases h
  · cases h
theorem gs13 (hd : decode (mB k) (pcA k i) = .ok (ins, len)) (ho : ok13 (wd k i) (pcA k (i + 1)) ins len = true) (hL : wL n L) (hS : wS n S) (h : g13 (wd k i) i n L S = some o) : GoOK X d k i n L S o := by
  unfold g13 at h
  split at h
  · rename_i y x S'
    have hS' := wS_t (wS_t hS)
    split at h
    · rename_i hp
      simp only [Bool.and_eq_true] at hp
      obtain rfl := Option.some.inj h
      refine ok1n (by show (2 : Nat) < 10; decide) hL hS' fun σ M Q q => ?_
      rw [List.map_cons, List.map_cons, ev_L hp.1, ev_I hp.2]
      exact T13 hd ho (fin3 hL hS' q)
    · cases h
  · cases h
theorem gs14 (hd : decode (mB k) (pcA k i) = .ok (ins, len)) (ho : ok14 (wd k i) (pcA k (i + 1)) ins len = true) (hL : wL n L) (hS : wS n S) (h : g14 i L S = some o) : GoOK X d k i n L S o := by
  unfold g14 at h
  split at h
  · obtain rfl := Option.some.inj h
    exact ⟨fun x hx => (by cases hx), hL, wS_c (wA_k (by decide)) (wS_t hS), fun σ M Q q => T14 hd ho q⟩
  · obtain rfl := Option.some.inj h
    have h0 := wS_h hS
    exact ⟨fun x hx => (by cases hx), hL, wS_c (fun _ => h0 (Or.inl rfl)) (wS_t hS), fun σ M Q q => T14 hd ho q⟩
  · cases h
theorem gs15 (hd : decode (mB k) (pcA k i) = .ok (ins, len)) (ho : ok15 (wd k i) (pcA k (i + 1)) ins len = true) (hL : wL n L) (hS : wS n S) (h : g15 i n L S = some o) : GoOK X d k i n L S o := by
  unfold g15 at h
  split at h
  · split at h
    · rename_i hp
      obtain rfl := Option.some.inj h
      refine ok1n (by show (3 : Nat) < 10; decide) hL (wS_t hS) fun σ M Q q => ?_
      rw [List.map_cons, ev_L hp]
      exact T15 hd ho (fin1 hL (wS_t hS) q)
    · cases h
  · cases h
theorem gs16 (hd : decode (mB k) (pcA k i) = .ok (ins, len)) (ho : ok16 (wd k i) (pcA k (i + 1)) ins len = true) (hL : wL n L) (hS : wS n S) (h : g16 i n L S = some o) : GoOK X d k i n L S o := by
  unfold g16 at h
  split at h
  · split at h
    · rename_i hp
      obtain rfl := Option.some.inj h
      refine ok1n (by show (3 : Nat) < 10; decide) hL (wS_t hS) fun σ M Q q => ?_
      rw [List.map_cons, ev_I hp]
      exact T16 hd ho (fin1 hL (wS_t hS) q)
    · cases h
  · cases h
theorem gs20 (hd : decode (mB k) (pcA k i) = .ok (ins, len)) (ho : ok20 k (wd k i) ins len = true) (hL : wL n L) (hS : wS n S) : GoOK X d k i n L S ([], iB (wd k i), L, S) :=
  ⟨fun x hx => (by cases hx), hL, hS, fun σ M Q q => T20 hd ho q⟩
theorem gs22 (hd : decode (mB k) (pcA k i) = .ok (ins, len)) (ho : ok22 k (wd k i) (pcA k (i + 1)) ins len = true) (hL : wL n L) (hS : wS n S) (h : g22 (wd k i) i n L S = some o) : GoOK X d k i n L S o := by
  unfold g22 at h
  split at h
  · rename_i r S'
    have hS' := wS_t hS
    split at h
    · rename_i ci fk hj
      split at h
      · rename_i hc
        subst hc
        split at h
        · rename_i hf
          obtain rfl := Option.some.inj h
          refine ok1n (by show (4 : Nat) < 10; decide) hL hS' fun σ M Q q => T22 hd ho hj hf fun hr => fin1 hL hS' (q ?_)
          show rK (kd r.toNat (iB (wd k i))) _
          rw [kd_obj hj hf]
          exact hr
        · rename_i hf
          obtain rfl := Option.some.inj h
          refine ok1n (by show (4 : Nat) < 10; decide) hL hS' fun σ M Q q => T22 hd ho hj hf fun hr => fin3 hL hS' (q ?_)
          show rK (kd r.toNat (iB (wd k i))) _
          rw [kd_obj hj hf]
          exact hr
        · rename_i hf
          obtain rfl := Option.some.inj h
          refine ok1n (by show (4 : Nat) < 10; decide) hL hS' fun σ M Q q => T22 hd ho hj hf fun hr => fin1 hL hS' (q ?_)
          show rK (kd r.toNat (iB (wd k i))) _
          rw [kd_obj hj hf]
          exact hr
        · rename_i q2 hf
          obtain rfl := Option.some.inj h
          exact ⟨fun x hx => (by cases hx), hL, wS_c (wA_k (by decide)) hS', fun σ M Q q => T22 hd ho hj hf fun _ => q⟩
        · cases h
      · cases h
    · cases h
  · cases h
theorem okTB_ok {ci s f : Nat} (h : okTB ci s f = true) : okT ci s f := by
  intro r hr
  unfold okTB at h
  rw [hr] at h
  exact of_decide_eq_true h
theorem gs23 (hd : decode (mB k) (pcA k i) = .ok (ins, len)) (ho : ok23 k (wd k i) (pcA k (i + 1)) ins len = true) (hL : wL n L) (hS : wS n S) (h : g23 (wd k i) i L S = some o) : GoOK X d k i n L S o := by
  unfold g23 at h
  split at h
  · rename_i v r S'
    have hS' := wS_t (wS_t hS)
    split at h
    · rename_i ci fk hj
      split at h
      · rename_i hc
        subst hc
        split at h
        · rename_i hf
          split at h
          · rename_i hp
            simp only [Bool.and_eq_true] at hp
            obtain rfl := Option.some.inj h
            refine ⟨lt15 (by show (10 : Nat) < 15; decide), hL, hS', fun σ M Q q => ?_⟩
            rw [List.map_cons, ev_I hp.1]
            exact T23 hd ho hj hf (okTB_ok hp.2) (by decide) rfl (fun h => h) q
          · cases h
        · rename_i hf
          split at h
          · rename_i hp
            simp only [Bool.and_eq_true] at hp
            obtain rfl := Option.some.inj h
            refine ⟨lt15 (by show (10 : Nat) < 15; decide), hL, hS', fun σ M Q q => ?_⟩
            rw [List.map_cons, ev_L hp.1]
            exact T23 hd ho hj hf (okTB_ok hp.2) (by decide) rfl (fun h => h) q
          · cases h
        · rename_i hf
          split at h
          · rename_i hp
            simp only [Bool.and_eq_true] at hp
            obtain rfl := Option.some.inj h
            refine ⟨lt152 (by show (12 : Nat) < 15; decide) (by show (10 : Nat) < 15; decide), hL, hS', fun σ M Q q => ?_⟩
            rw [List.map_cons, ev_I hp.1]
            exact T23 hd ho hj hf (okTB_ok hp.2) (by decide) rfl (fun _ => q.1) q.2
          · cases h
        · cases h
      · cases h
    · cases h
  · cases h
theorem gs24 (hd : decode (mB k) (pcA k i) = .ok (ins, len)) (ho : ok24 k (wd k i) (pcA k (i + 1)) ins len = true) (hL : wL n L) (hS : wS n S) (h : g24 (wd k i) i L S = some o) : GoOK X d k i n L S o := by
  unfold g24 at h
  split at h
  · rename_i ha
    obtain rfl := Option.some.inj h
    refine ⟨fun x hx => (by cases hx), hL, wS_c (wA_k (by decide)) hS, fun σ M Q q => T24 hd ho ?_⟩
    rw [ha]
    exact q
  · rename_i ha
    obtain rfl := Option.some.inj h
    refine ⟨fun x hx => (by cases hx), hL, wS_c (wA_k (by decide)) hS, fun σ M Q q => T24 hd ho ?_⟩
    rw [ha]
    exact q
  · obtain rfl := Option.some.inj h
    refine ⟨fun x hx => (by cases hx), hL, wS_c (wA_k (by decide)) hS, fun σ M Q q => T24 hd ho ?_⟩
    rw [show stV (iA (wd k i)) = vR 3 0 from by unfold stV; split <;> first | contradiction | rfl]
    exact q
theorem alen_of {j c m : Nat} (h : SH[j]? = some (.inl (c, m))) : alen j = m := by
  unfold alen
  rw [h]
theorem gs25 (hd : decode (mB k) (pcA k i) = .ok (ins, len)) (ho : ok25 (wd k i) (pcA k (i + 1)) ins len = true) (hL : wL n L) (hS : wS n S) (h : g25 i n L S = some o) : GoOK X d k i n L S o := by
  unfold g25 at h
  split at h
  · rename_i x r S'
    have hS' := wS_t (wS_t hS)
    split at h
    · rename_i hp
      split at h
      · rename_i m hj
        obtain rfl := Option.some.inj h
        refine ok1n (by show (5 : Nat) < 10; decide) hL hS' fun σ M Q q => ?_
        obtain ⟨q1, q2, q3⟩ := q
        rw [alen_of hj] at q2
        rw [List.map_cons, List.map_cons, ev_I hp]
        refine T25 hd ho hj q1 q2 fun hr => fin1 hL hS' (q3 ?_)
        rw [kd_arr hj]
        exact hr
      · cases h
    · cases h
  · rename_i x S'
    have hS' := wS_t (wS_t hS)
    split at h
    · rename_i hp
      obtain rfl := Option.some.inj h
      refine ok1n (by show (6 : Nat) < 10; decide) hL hS' fun σ M Q q => ?_
      rw [List.map_cons, List.map_cons, ev_I hp]
      exact T25s hd ho q.1 q.2.1 (fin1 hL hS' q.2.2)
    · cases h
  · rename_i x S'
    have hS' := wS_t (wS_t hS)
    split at h
    · rename_i hp
      obtain rfl := Option.some.inj h
      refine ok1n (by show (8 : Nat) < 10; decide) hL hS' fun σ M Q q => ?_
      rw [List.map_cons, List.map_cons, ev_I hp]
      exact T25t hd ho q.1 q.2.1 (fin1 hL hS' q.2.2)
    · cases h
  · cases h
theorem gs26 (hd : decode (mB k) (pcA k i) = .ok (ins, len)) (ho : ok26 (wd k i) (pcA k (i + 1)) ins len = true) (hL : wL n L) (hS : wS n S) (h : g26 i n L S = some o) : GoOK X d k i n L S o := by
  unfold g26 at h
  split at h
  · rename_i x r S'
    have hS' := wS_t (wS_t hS)
    split at h
    · rename_i hp
      split at h
      · rename_i m hj
        obtain rfl := Option.some.inj h
        refine ok1n (by show (5 : Nat) < 10; decide) hL hS' fun σ M Q q => ?_
        obtain ⟨q1, q2, q3⟩ := q
        rw [alen_of hj] at q2
        rw [List.map_cons, List.map_cons, ev_I hp]
        refine T26 hd ho hj q1 q2 fun hr => fin1 hL hS' (q3 ?_)
        rw [kd_arr hj]
        exact hr
      · cases h
    · cases h
  · rename_i x r S'
    have hS' := wS_t (wS_t hS)
    split at h
    · rename_i hp
      simp only [Bool.and_eq_true, decide_eq_true_eq] at hp
      obtain ⟨⟨hp1, hp2⟩, hp3⟩ := hp
      obtain rfl := Option.some.inj h
      refine ok1n (by show (9 : Nat) < 10; decide) hL hS' fun σ M Q q => ?_
      obtain ⟨m, hm⟩ : ∃ m, r.toNat = 3 + m := ⟨r.toNat - 3, by omega⟩
      have hm2 : m < 12 := by omega
      have e : r.toNat - 3 = m := by omega
      have q : 0 ≤ nm σ x ∧ nm σ x < strLen.getD (r.toNat - 3) 0 ∧ Wp X d k (i + 1) (evL (us σ n ((strB.getD (r.toNat - 3) []).getD (nm σ x).toNat 0).toInt) L) (((1, (n : Int)) :: S').map (ev (us σ n ((strB.getD (r.toNat - 3) []).getD (nm σ x).toNat 0).toInt))) M Q := q
      rw [e] at q
      rw [List.map_cons, List.map_cons, ev_I hp1, show ev σ ((5, r) : AV) = vR 1 (3 + m) from congrArg (fun t => vR 1 t) hm]
      exact T26t hd ho hm2 q.1 q.2.1 (fin1 hL hS' q.2.2)
    · cases h
  · cases h
theorem gs27 (hd : decode (mB k) (pcA k i) = .ok (ins, len)) (ho : ok27 (wd k i) (pcA k (i + 1)) ins len = true) (hL : wL n L) (hS : wS n S) (h : g27 i L S = some o) : GoOK X d k i n L S o := by
  unfold g27 at h
  split at h
  · rename_i z x r S'
    have hS' := wS_t (wS_t (wS_t hS))
    split at h
    · rename_i hp
      simp only [Bool.and_eq_true] at hp
      split at h
      · rename_i m hj
        obtain rfl := Option.some.inj h
        refine ⟨lt15 (by show (11 : Nat) < 15; decide), hL, hS', fun σ M Q q => ?_⟩
        obtain ⟨q1, q2, q3⟩ := q
        rw [alen_of hj] at q2
        rw [List.map_cons, List.map_cons, List.map_cons, ev_I hp.1, ev_I hp.2]
        exact T27 hd ho hj q1 q2 q3
      · cases h
    · cases h
  · cases h
theorem gs28 (hd : decode (mB k) (pcA k i) = .ok (ins, len)) (ho : ok28 (wd k i) (pcA k (i + 1)) ins len = true) (hL : wL n L) (hS : wS n S) (h : g28 i L S = some o) : GoOK X d k i n L S o := by
  unfold g28 at h
  split at h
  · rename_i z x r S'
    have hS' := wS_t (wS_t (wS_t hS))
    split at h
    · rename_i hp
      simp only [Bool.and_eq_true] at hp
      split at h
      · rename_i m hj
        obtain rfl := Option.some.inj h
        refine ⟨lt152 (by show (12 : Nat) < 15; decide) (by show (11 : Nat) < 15; decide), hL, hS', fun σ M Q q => ?_⟩
        obtain ⟨q0, q1, q2, q3⟩ := q
        rw [alen_of hj] at q2
        rw [List.map_cons, List.map_cons, List.map_cons, ev_I hp.1, ev_I hp.2]
        exact T28 hd ho hj q1 q2 q0 q3
      · cases h
    · cases h
  · cases h
theorem gs29 (hd : decode (mB k) (pcA k i) = .ok (ins, len)) (ho : ok29 (wd k i) (pcA k (i + 1)) ins len = true) (hL : wL n L) (hS : wS n S) (h : g29 i n L S = some o) : GoOK X d k i n L S o := by
  unfold g29 at h
  split at h
  · rename_i S'
    have hS' := wS_t hS
    obtain rfl := Option.some.inj h
    exact ok1n (by show (7 : Nat) < 10; decide) hL hS' fun σ M Q q => T29s hd ho (fin1 hL hS' q)
  · rename_i r S' _
    have hS' := wS_t hS
    split at h
    · rename_i hp
      simp only [Bool.and_eq_true, decide_eq_true_eq] at hp
      obtain rfl := Option.some.inj h
      obtain ⟨m, hm⟩ : ∃ m, r.toNat = 3 + m := ⟨r.toNat - 3, by omega⟩
      have hm2 : m < 12 := by omega
      have e : r.toNat - 3 = m := by omega
      refine ⟨fun x hx => (by cases hx), hL, wS_c (wA_k (by decide)) hS', fun σ M Q q => ?_⟩
      rw [List.map_cons, show ev σ ((5, r) : AV) = vR 1 (3 + m) from congrArg (fun t => vR 1 t) hm]
      have q : Wp X d k (i + 1) (evL σ L) (vI (strLen.getD (r.toNat - 3) 0 : Int) :: S'.map (ev σ)) M Q := q
      rw [e] at q
      exact T29t hd ho hm2 q
    · cases h
  · cases h
theorem gs30 (hd : decode (mB k) (pcA k i) = .ok (ins, len)) (ho : ok30 (wd k i) (pcA k (i + 1)) ins len = true) (hL : wL n L) (hS : wS n S) (h : g30 i L S = some o) : GoOK X d k i n L S o := by
  unfold g30 at h
  split at h
  · split at h
    · rename_i hp
      obtain rfl := Option.some.inj h
      exact ⟨fun x hx => (by cases hx), hL, wS_c (wS_h hS) hS, fun σ M Q q => T30 hd ho (by rw [cat_ev]; exact hp) q⟩
    · cases h
  · cases h
theorem gs31 (hd : decode (mB k) (pcA k i) = .ok (ins, len)) (ho : ok31 (wd k i) (pcA k (i + 1)) ins len = true) (hL : wL n L) (hS : wS n S) (h : g31 i L S = some o) : GoOK X d k i n L S o := by
  unfold g31 at h
  split at h
  · split at h
    · rename_i hp
      obtain rfl := Option.some.inj h
      exact ⟨fun x hx => (by cases hx), hL, wS_c (wS_h hS) (wS_c (wS_h (wS_t hS)) hS), fun σ M Q q => T31 hd ho (by rw [cat_ev]; exact hp.1) (by rw [cat_ev]; exact hp.2) q⟩
    · cases h
  · cases h
theorem gs32 (hd : decode (mB k) (pcA k i) = .ok (ins, len)) (ho : ok32 (wd k i) (pcA k (i + 1)) ins len = true) (hL : wL n L) (hS : wS n S) (h : g32 i L S = some o) : GoOK X d k i n L S o := by
  unfold g32 at h
  split at h
  · split at h
    · rename_i hp
      obtain rfl := Option.some.inj h
      exact ⟨fun x hx => (by cases hx), hL, wS_t hS, fun σ M Q q => T32 hd ho (by rw [cat_ev]; exact hp) q⟩
    · cases h
  · cases h
theorem cSum_ev (σ : Nat → Int) (S : List AV) : cSum (S.map (ev σ)) = cSA S := by
  unfold cSum cSA
  rw [List.map_map]
  congr 1
  exact List.map_congr_left fun a _ => cat_ev σ a
theorem gs39 (hd1 : 1 ≤ d) (hd : decode (mB k) (pcA k i) = .ok (ins, len)) (ho : ok39 k (wd k i) (pcA k (i + 1)) ins len = true) (hL : wL n L) (hS : wS n S) (h : g39 i L S = some o) : GoOK X d k i n L S o := by
  unfold g39 at h
  split at h
  · rename_i q dp r2 sp r1 S'
    have hS' := wS_t (wS_t (wS_t (wS_t (wS_t hS))))
    split at h
    · rename_i hp
      simp only [Bool.and_eq_true, decide_eq_true_eq] at hp
      obtain ⟨⟨⟨p1, p2⟩, p3⟩, p4⟩ := hp
      split at h
      · rename_i m1 m2 hj1 hj2
        obtain rfl := Option.some.inj h
        refine ⟨lt15 (by show (14 : Nat) < 15; decide), hL, hS', fun σ M Q qq => ?_⟩
        obtain ⟨q0, q1, q2, q3⟩ := qq
        rw [alen_of hj1] at q1
        rw [show alen ((4, r2) : AV).2.toNat = m2 from alen_of hj2] at q2
        rw [List.map_cons, List.map_cons, List.map_cons, List.map_cons, List.map_cons, ev_I p1, ev_I p2, ev_I p3]
        exact T39 hd ho hj1 hj2 q0 q1 q2 (by rw [cSum_ev]; exact p4) hd1 q3
      · cases h
    · cases h
  · cases h
theorem gs40 (hd : decode (mB k) (pcA k i) = .ok (ins, len)) (ho : ok40 k (wd k i) (pcA k (i + 1)) ins len = true) (hL : wL n L) (hS : wS n S) : GoOK X d k i n L S ([], i + 1, L, (6, (iA (wd k i) : Int)) :: S) :=
  ⟨fun x hx => (by cases hx), hL, wS_c (wA_k (by decide)) hS, fun σ M Q q => T40 hd ho q⟩
theorem gs41 (hd : decode (mB k) (pcA k i) = .ok (ins, len)) (ho : ok41 k (wd k i) (pcA k (i + 1)) ins len = true) (hL : wL n L) (hS : wS n S) (h : g41 (wd k i) i L S = some o) : GoOK X d k i n L S o := by
  unfold g41 at h
  split at h
  · rename_i r S'
    have hS' := wS_t hS
    split at h
    · rename_i hp
      obtain rfl := Option.some.inj h
      refine ⟨fun x hx => (by cases hx), hL, wS_c ?_ hS', fun σ M Q q => T41 (n := r.toNat) hd ho hp ?_⟩
      · split <;> exact wA_k (by decide)
      · by_cases ha : iA (wd k i) = 0
        · rw [if_pos ha]
          simp only [if_pos ha] at q
          exact q
        · rw [if_neg ha]
          simp only [if_neg ha] at q
          exact q
    · cases h
  · cases h
theorem gs42 (hd : decode (mB k) (pcA k i) = .ok (ins, len)) (ho : ok42 k (wd k i) ins len = true) (hL : wL n L) (hS : wS n S) (h : g42 (wd k i) L S = some o) : GoOK X d k i n L S o := by
  unfold g42 at h
  split at h
  · split at h
    · rename_i hp
      obtain rfl := Option.some.inj h
      refine ⟨fun x hx => (by cases hx), hL, wS_t hS, fun σ M Q q => ?_⟩
      obtain ⟨t, ht, -, e⟩ := ev_R (σ := σ) hp
      rw [List.map_cons, e]
      exact T42 ht hd ho q
    · cases h
  · cases h
theorem gs43 (hd1 : 1 ≤ d) (hd : decode (mB k) (pcA k i) = .ok (ins, len)) (ho : ok43 k (wd k i) (pcA k (i + 1)) ins len = true) (hL : wL n L) (hS : wS n S) (h : g43 (wd k i) i n L S = some o) : GoOK X d k i n L S o := by
  unfold g43 at h
  split at h
  · rename_i y x S'
    have hS' := wS_t (wS_t hS)
    split at h
    · rename_i hp
      simp only [Bool.and_eq_true, decide_eq_true_eq] at hp
      obtain rfl := Option.some.inj h
      refine ok1n (by show (0 : Nat) < 10; decide) hL hS' fun σ M Q q => ?_
      rw [List.map_cons, List.map_cons, ev_I hp.1.1, ev_I hp.1.2]
      exact T43 hd ho (by rw [cSum_ev]; exact hp.2) hd1 (fin1 hL hS' q)
    · cases h
  · cases h
theorem go_sound (hd1 : 1 ≤ d) (hL : wL n L) (hS : wS n S) (h : go1 k i n L S = some o) : GoOK X d k i n L S o := by
  have h99 : iO (wd k i) ≠ 99 := by
    intro e
    unfold go1 at h
    rw [e] at h
    cases h
  obtain ⟨ins, len, hd, ho⟩ := okI_dec h99
  unfold go1 at h
  unfold okO at ho
  generalize iO (wd k i) = op at h ho
  match op, h, ho with
  | 0, h, ho => obtain rfl := Option.some.inj h; exact gs0 hd ho hL hS
  | 1, h, ho => obtain rfl := Option.some.inj h; exact gs1 hd ho hL hS
  | 2, h, ho => obtain rfl := Option.some.inj h; exact gs2 hd ho hL hS
  | 3, h, ho => obtain rfl := Option.some.inj h; exact gs3 hd ho hL hS
  | 4, h, ho => exact gs4 hd ho hL hS h
  | 5, h, ho => exact gs5 hd ho hL hS h
  | 6, h, ho => exact gs6 hd ho hL hS h
  | 7, h, ho => exact gs7 hd ho hL hS h
  | 8, h, ho => exact gs8 hd ho hL hS h
  | 9, h, ho => exact gs9 hd ho hL hS h
  | 10, h, ho => exact gs10 hd ho hL hS h
  | 11, h, ho => exact gs11 hd ho hL hS h
  | 12, h, ho => exact gs12 hd ho hL hS h
  | 13, h, ho => exact gs13 hd ho hL hS h
  | 14, h, ho => exact gs14 hd ho hL hS h
  | 15, h, ho => exact gs15 hd ho hL hS h
  | 16, h, ho => exact gs16 hd ho hL hS h
  | 20, h, ho => obtain rfl := Option.some.inj h; exact gs20 hd ho hL hS
  | 22, h, ho => exact gs22 hd ho hL hS h
  | 23, h, ho => exact gs23 hd ho hL hS h
  | 24, h, ho => exact gs24 hd ho hL hS h
  | 25, h, ho => exact gs25 hd ho hL hS h
  | 26, h, ho => exact gs26 hd ho hL hS h
  | 27, h, ho => exact gs27 hd ho hL hS h
  | 28, h, ho => exact gs28 hd ho hL hS h
  | 29, h, ho => exact gs29 hd ho hL hS h
  | 30, h, ho => exact gs30 hd ho hL hS h
  | 31, h, ho => exact gs31 hd ho hL hS h
  | 32, h, ho => exact gs32 hd ho hL hS h
  | 39, h, ho => exact gs39 hd1 hd ho hL hS h
  | 40, h, ho => obtain rfl := Option.some.inj h; exact gs40 hd ho hL hS
  | 41, h, ho => exact gs41 hd ho hL hS h
  | 42, h, ho => exact gs42 hd ho hL hS h
  | 43, h, ho => exact gs43 hd1 hd ho hL hS h
  | 17, h, _ => cases h
  | 18, h, _ => cases h
  | 19, h, _ => cases h
  | 21, h, _ => cases h
  | 33, h, _ => cases h
  | 34, h, _ => cases h
  | 35, h, _ => cases h
  | 36, h, _ => cases h
  | 37, h, _ => cases h
  | 38, h, _ => cases h
  | m + 44, h, _ => cases h
end GO
end
section
/-! a method from a place on: its steps till it ends, calls, or comes to a place that is marked -/
def icB (c : Nat) (x y : Int) : Bool := match c with
  | 0 => decide (x = y)
  | 1 => decide (x ≠ y)
  | 2 => decide (x < y)
  | 3 => decide (y ≤ x)
  | 4 => decide (y < x)
  | _ => decide (x ≤ y)
theorem icB_iff {c : Nat} {x y : Int} : icB c x y = true ↔ icP c x y := by
  match c with
  | 0 => exact decide_eq_true_iff
  | 1 => exact decide_eq_true_iff
  | 2 => exact decide_eq_true_iff
  | 3 => exact decide_eq_true_iff
  | 4 => exact decide_eq_true_iff
  | n + 5 => exact decide_eq_true_iff
abbrev Br : Type := Nat × AV × AV × Nat × Nat × List AV
def br1 (k i : Nat) (S : List AV) : Option Br := match iO (wd k i), S with
  | 17, x :: S' => if isI x = true then some (iA (wd k i), x, (0, 0), iB (wd k i), i + 1, S') else none
  | 18, y :: x :: S' => if isI x && isI y then some (iA (wd k i), x, y, iB (wd k i), i + 1, S') else none
  | 19, y :: x :: S' => if isL x && isL y then some (iA (wd k i), x, y, iB (wd k i), i + 2, S') else none
  | _, _ => none
def sw1 (k i : Nat) (S : List AV) : Option (AV × List Nat × Nat × List AV) := match iO (wd k i), S with
  | 21, x :: S' => if isI x = true then some (x, swt.getD (iC (wd k i) 0) [], iB (wd k i), S') else none
  | _, _ => none
def mclk (k : Nat) : Nat := mcl.getD k 99
def recB (k' : Nat) (r : AV) : Bool := match r with
  | (4, j) => match SH[j.toNat]? with
    | some (.inr (ci, _)) => ci == mclk k'
    | _ => false
  | (6, j) => decide (j.toNat < 12) && mclk k' == 13
  | _ => false
def ca1 (k i : Nat) (S : List AV) : Option (Nat × List AV × List AV) := match iO (wd k i) with
  | 37 => match (S.take (iB (wd k i))).reverse with
    | r :: as => if as.length + 1 = iB (wd k i) ∧ iA (wd k i) < nK ∧ cSA (r :: as) ≤ mN (iA (wd k i)) ∧ cSA (S.drop (iB (wd k i))) ≤ 8 ∧ recB (iA (wd k i)) r = true then some (iA (wd k i), r :: as, S.drop (iB (wd k i))) else none
    | [] => none
  | 38 => if (S.take (iB (wd k i))).reverse.length = iB (wd k i) ∧ iA (wd k i) < nK ∧ cSA (S.take (iB (wd k i))).reverse ≤ mN (iA (wd k i)) ∧ cSA (S.drop (iB (wd k i))) ≤ 8 then some (iA (wd k i), (S.take (iB (wd k i))).reverse, S.drop (iB (wd k i))) else none
  | _ => none
def re1 (k i : Nat) (S : List AV) : Option (List Node × Option AV) := match iO (wd k i), S, mR k with
  | 33, [], none => some ([], none)
  | 34, [x], some .int => if isI x = true then some ([], some x) else none
  | 34, [(0, 0)], some .boolean => some ([], some (0, 0))
  | 34, [(0, 1)], some .boolean => some ([], some (0, 1))
  | 34, [x], some .boolean => if isI x = true then some ([(12, 0, [x])], some x) else none
  | 34, [x], some .byte => if isI x = true then some ([(12, 0, [x])], some x) else none
  | 34, [x], some .char => if isI x = true then some ([(13, 0, [x])], some x) else none
  | 35, [x], some .long => if isL x = true then some ([], some x) else none
  | 36, [(6, j)], some (.object _) => some ([], some (6, j))
  | _, _, _ => none
def resA (k' n : Nat) : Option (List AV) := match mR k' with
  | none => some []
  | some .int => some [(1, (n : Int))]
  | some .boolean => some [(1, (n : Int))]
  | some .char => some [(1, (n : Int))]
  | some .byte => some [(1, (n : Int))]
  | some .long => some [(3, (n : Int))]
  | _ => none
def rb (k' : Nat) : Nat := match mR k' with
  | none => 0
  | _ => 1
def oz : Option V → Int
  | some (.inl z) => z
  | some (.inr (.inl z)) => z
  | _ => 0
def eLA : Nat → List AV → List (Nat × AV)
  | _, [] => []
  | n, v :: vs => (n, v) :: eLA (n + catA v) vs
def lkAll (L : List (Nat × AV)) : List Nat → Option (List AV)
  | [] => some []
  | b :: bs => match lkA L b, lkAll L bs with
    | some a, some as => some (a :: as)
    | _, _ => none
def isC (a : AV) : Bool := match a.1 with
  | 0 => true
  | 2 => true
  | _ => false
def cmp (inl : Nat → Bool) (cut : Nat → Option (List Nat)) : Nat → Bool → Nat → Nat → Nat → List (Nat × AV) → List AV → List Fr → List Node
  | 0, _, _, _, _, _, _, _ => [(99, 0, [])]
  | f + 1, c, n, k, i, L, S, fs =>
    match (if c && fs.isEmpty then cut i else none) with
    | some dl => match lkAll L dl, S with
      | some as, [] => [(17, i, as)]
      | _, _ => [(99, 0, [])]
    | none => match go1 k i n L S with
      | some o => o.1 ++ cmp inl cut f true (n + bns o.1) k o.2.1 o.2.2.1 o.2.2.2 fs
      | none => match br1 k i S with
        | some (cc, x, y, i1, i2, S') =>
          if isC x && isC y then cmp inl cut f true n k (if icB cc x.2 y.2 = true then i1 else i2) L S' fs
          else (15, cc, [x, y, (0, ((cmp inl cut f true n k i1 L S' fs).length : Int))]) :: (cmp inl cut f true n k i1 L S' fs ++ cmp inl cut f true n k i2 L S' fs)
        | none => match sw1 k i S with
          | some (x, ts, df, S') => (ts.zipIdx.foldr (fun t acc => (15, 0, [x, (0, (t.2 : Int)), (0, ((cmp inl cut f true n k t.1 L S' fs).length : Int))]) :: (cmp inl cut f true n k t.1 L S' fs ++ acc)) (cmp inl cut f true n k df L S' fs))
          | none => match ca1 k i S with
            | some (k', as, S') =>
              if inl k' && decide (fs.length < 9) then cmp inl cut f true n k' 0 (eLA 0 as) [] ((k, i, L, S') :: fs)
              else match resA k' n with
                | some rs => (16, k', as) :: cmp inl cut f true (n + rb k') k (i + 1) L (rs ++ S') fs
                | none => [(99, 0, [])]
            | none => match re1 k i S with
              | some (l, v) => match fs with
                | [] => match v with
                  | none => l ++ [(18, 0, [])]
                  | some a => l ++ [(19, 0, [a])]
                | g :: gs => l ++ cmp inl cut f true n g.1 (g.2.1 + 1) g.2.2.1 (v.toList ++ g.2.2.2) gs
              | none => [(99, 0, [])]
def den (X : Xs) (CP : Nat → List V → Mm → (Option V → Mm → Prop) → Prop) (CT : Nat → List V → Mm → Prop) (Q : Option V → Mm → Prop) : Nat → List Node → Nat → (Nat → Int) → Mm → Prop
  | 0, _, _, _, _ => False
  | _ + 1, [], _, _, _ => False
  | f + 1, x :: r, n, σ, M =>
    if x.1 < 15 then nd X x n σ M (fun τ M' => den X CP CT Q f r (n + bn x) τ M')
    else match x with
      | (15, c, [a, b, z]) => (icP c (nm σ a) (nm σ b) → den X CP CT Q f (r.take z.2.toNat) n σ M) ∧ (¬ icP c (nm σ a) (nm σ b) → den X CP CT Q f (r.drop z.2.toNat) n σ M)
      | (16, k', as) => CP k' (as.map (ev σ)) M (fun v M' => retOK (mR k') v → (∀ y, v = some y → rV y) → okM M' → den X CP CT Q f r (n + rb k') (us σ n (oz v)) M')
      | (17, i, as) => CT i (as.map (ev σ)) M
      | (18, _, _) => Q none M
      | (19, _, [a]) => Q (some (ev σ a)) M
      | _ => False
theorem mcl_ok : ∀ k, k < nK → ∀ q, cls[mclk k]? = some q → q.1 = (mY k).cls := by decide +kernel
theorem mcl_str : ∀ k, k < nK → mclk k = 13 → (mY k).cls = "java/lang/String" := by decide +kernel
section SOUND
variable {X : Xs} {d : Nat}
abbrev EF : Type := Nat × Nat × List (Nat × V) × List V
def evF (σ : Nat → Int) (g : Fr) : EF := (g.1, g.2.1, evL σ g.2.2.1, g.2.2.2.map (ev σ))
def WS (X : Xs) (d : Nat) : Nat → Nat → List (Nat × V) → List V → List EF → Mm → (Option V → Mm → Prop) → Prop
  | k, i, L, S, [], M, Q => Wp X d k i L S M Q
  | k, i, L, S, g :: gs, M, Q => Wp X (d - (gs.length + 1)) k i L S M (fun v M' => retOK (mR k) v → (∀ y, v = some y → rV y) → okM M' → WS X d g.1 (g.2.1 + 1) g.2.2.1 (v.toList ++ g.2.2.2) gs M' Q)
def QT (X : Xs) (d k : Nat) (fs : List EF) (Q : Option V → Mm → Prop) : Option V → Mm → Prop := match fs with
  | [] => Q
  | g :: gs => fun v M' => retOK (mR k) v → (∀ y, v = some y → rV y) → okM M' → WS X d g.1 (g.2.1 + 1) g.2.2.1 (v.toList ++ g.2.2.2) gs M' Q
theorem WS_eq {k i : Nat} {L : List (Nat × V)} {S : List V} {fs : List EF} {M : Mm} {Q : Option V → Mm → Prop} : WS X d k i L S fs M Q = Wp X (d - fs.length) k i L S M (QT X d k fs Q) := by
  cases fs <;> rfl
theorem eLA_ev (σ : Nat → Int) : ∀ (as : List AV) (n : Nat), evL σ (eLA n as) = eL n (as.map (ev σ)) := by
  intro as
  induction as with
  | nil => intro n; rfl
  | cons a as ih =>
    intro n
    show (n, ev σ a) :: evL σ (eLA (n + catA a) as) = (n, ev σ a) :: eL (n + catV (ev σ a)) (as.map (ev σ))
    rw [ih, cat_ev]
theorem wL_eLA {n : Nat} : ∀ {as : List AV} {b : Nat}, wS n as → wL n (eLA b as) := by
  intro as
  induction as with
  | nil => intro b _ q hq; cases hq
  | cons a as ih =>
    intro b h q hq
    rcases List.mem_cons.mp hq with rfl | hq
    · exact h a List.mem_cons_self
    · exact ih (fun x hx => h x (List.mem_cons_of_mem _ hx)) q hq
def botK : Nat → List Fr → Nat
  | k, [] => k
  | _, g :: gs => botK g.1 gs
def wF (n : Nat) (fs : List Fr) : Prop := ∀ g ∈ fs, wL n g.2.2.1 ∧ wS n g.2.2.2
theorem wF.mono {n n' : Nat} {fs : List Fr} (h : wF n fs) (hn : n ≤ n') : wF n' fs := fun g hg => ⟨(h g hg).1.mono hn, (h g hg).2.mono hn⟩
theorem evF_agree {σ τ : Nat → Int} {n : Nat} (h : ∀ j, j < n → τ j = σ j) {fs : List Fr} (hF : wF n fs) : fs.map (evF τ) = fs.map (evF σ) := List.map_congr_left fun g hg => by
  unfold evF
  rw [evL_agree h (hF g hg).1, evS_agree h (hF g hg).2]
theorem den_nds {CP : Nat → List V → Mm → (Option V → Mm → Prop) → Prop} {CT : Nat → List V → Mm → Prop} {Q : Option V → Mm → Prop} {r : List Node} : ∀ {l : List Node} {F n : Nat} {σ : Nat → Int} {M : Mm}, (∀ x ∈ l, x.1 < 15) → den X CP CT Q F (l ++ r) n σ M → nds X l n σ M (fun τ M' => den X CP CT Q (F - l.length) r (n + bns l) τ M') := by
  intro l
  induction l with
  | nil => intro F n σ M _ h; exact h
  | cons x l ih =>
    intro F n σ M hl h
    cases F with
    | zero => exact h.elim
    | succ F =>
      have hx := hl x List.mem_cons_self
      have h : (if x.1 < 15 then nd X x n σ M (fun τ M' => den X CP CT Q F (l ++ r) (n + bn x) τ M') else _) := h
      rw [if_pos hx] at h
      refine nd_mono (fun τ M' _ q => ?_) h
      have q2 := ih (fun y hy => hl y (List.mem_cons_of_mem _ hy)) q
      have e1 : F + 1 - (x :: l).length = F - l.length := by simp
      have e2 : n + bns (x :: l) = n + bn x + bns l := by
        unfold bns
        rw [List.map_cons, List.sum_cons]
        omega
      rw [e1, e2]
      exact q2
theorem lkAll_ok {L : List (Nat × AV)} : ∀ {bs : List Nat} {as : List AV}, lkAll L bs = some as → as.length = bs.length ∧ ∀ q ∈ bs.zip as, q ∈ L := by
  intro bs
  induction bs with
  | nil => intro as h; obtain rfl := Option.some.inj h; exact ⟨rfl, fun q hq => by cases hq⟩
  | cons b bs ih =>
    intro as h
    unfold lkAll at h
    split at h
    · rename_i a as' ha has
      obtain rfl := Option.some.inj h
      obtain ⟨h1, h2⟩ := ih has
      refine ⟨by simp [h1], fun q hq => ?_⟩
      rw [List.zip_cons_cons] at hq
      rcases List.mem_cons.mp hq with rfl | hq
      · exact lkA_mem ha
      · exact h2 q hq
    · cases h
theorem recB_ok {k' : Nat} {r : AV} {σ : Nat → Int} (hk : k' < nK) (h : recB k' r = true) : recOK k' (ev σ r) := by
  unfold recB at h
  split at h
  · rename_i j
    split at h
    · rename_i ci fk hj
      have hc : ci = mclk k' := by simpa using h
      refine Or.inl ⟨j.toNat, ci, fk, ?_⟩
      cases hq : cls[ci]? with
      | none =>
        exfalso
        have hlt : ∀ x ∈ SH, (match x with | .inr (c, _) => decide (c < 12) | _ => true) = true := by decide +kernel
        have h12 := hlt _ (List.mem_of_getElem? hj)
        have h12 : ci < 12 := of_decide_eq_true h12
        have hl : cls.length = 12 := rfl
        exact absurd (List.getElem?_eq_none_iff.mp hq) (by omega)
      | some q => exact ⟨q, rfl, hj, rfl, mcl_ok k' hk q (by rw [← hc]; exact hq)⟩
    · cases h
  · rename_i j
    simp only [Bool.and_eq_true, decide_eq_true_eq, beq_iff_eq] at h
    exact Or.inr ⟨j.toNat, rfl, h.1, mcl_str k' hk h.2⟩
  · cases h
theorem isC_nm {a : AV} {σ : Nat → Int} (h : isC a = true) : nm σ a = a.2 := by
  obtain ⟨t, c⟩ := a
  match t, h with
  | 0, _ => rfl
  | 2, _ => rfl
theorem wS_app {n : Nat} {S T : List AV} (h1 : wS n S) (h2 : wS n T) : wS n (S ++ T) := fun a ha => (List.mem_append.mp ha).elim (h1 a) (h2 a)
/-- a branch, at the judgement -/
theorem br_sound {k i : Nat} {cc i1 i2 : Nat} {x y : AV} {L : List (Nat × V)} {S S' : List AV} {M : Mm} {Q : Option V → Mm → Prop} {σ : Nat → Int} (h : br1 k i S = some (cc, x, y, i1, i2, S')) (h1 : icP cc (nm σ x) (nm σ y) → Wp X d k i1 L (S'.map (ev σ)) M Q) (h2 : ¬ icP cc (nm σ x) (nm σ y) → Wp X d k i2 L (S'.map (ev σ)) M Q) : Wp X d k i L (S.map (ev σ)) M Q := by
  have h99 : iO (wd k i) ≠ 99 := by
    intro e
    unfold br1 at h
    rw [e] at h
    cases h
  obtain ⟨ins, len, hd, ho⟩ := okI_dec h99
  unfold br1 at h
  unfold okO at ho
  split at h
  · rename_i x0 S0 he
    rw [he] at ho
    split at h
    · rename_i hp
      obtain ⟨rfl, rfl, rfl, rfl, rfl, rfl⟩ : iA (wd k i) = cc ∧ x0 = x ∧ ((0, 0) : AV) = y ∧ iB (wd k i) = i1 ∧ i + 1 = i2 ∧ S0 = S' := by
        have := Option.some.inj h
        simp only [Prod.mk.injEq] at this
        obtain ⟨a1, a2, a3, a4, a5, a6⟩ := this
        exact ⟨a1, a2, a3, a4, a5, a6⟩
      rw [List.map_cons, ev_I hp]
      exact T17 hd ho h1 h2
    · cases h
  · rename_i y0 x0 S0 he
    rw [he] at ho
    split at h
    · rename_i hp
      simp only [Bool.and_eq_true] at hp
      obtain ⟨rfl, rfl, rfl, rfl, rfl, rfl⟩ : iA (wd k i) = cc ∧ x0 = x ∧ y0 = y ∧ iB (wd k i) = i1 ∧ i + 1 = i2 ∧ S0 = S' := by
        have := Option.some.inj h
        simp only [Prod.mk.injEq] at this
        exact this
      rw [List.map_cons, List.map_cons, ev_I hp.1, ev_I hp.2]
      exact T18 hd ho h1 h2
    · cases h
  · rename_i y0 x0 S0 he
    rw [he] at ho
    split at h
    · rename_i hp
      simp only [Bool.and_eq_true] at hp
      obtain ⟨rfl, rfl, rfl, rfl, rfl, rfl⟩ : iA (wd k i) = cc ∧ x0 = x ∧ y0 = y ∧ iB (wd k i) = i1 ∧ i + 2 = i2 ∧ S0 = S' := by
        have := Option.some.inj h
        simp only [Prod.mk.injEq] at this
        exact this
      rw [List.map_cons, List.map_cons, ev_L hp.1, ev_L hp.2]
      have ho2 : ok19 k i (wd k i) (pcA k (i + 1)) ins len = true := ho
      unfold ok19 at ho2
      split at ho2
      · simp only [Bool.and_eq_true, beq_iff_eq] at ho2
        obtain ⟨⟨⟨-, o2⟩, o3⟩, o4⟩ := ho2
        obtain ⟨ins2, len2, hd2, ho3⟩ := okI_dec (k := k) (i := i + 1) (by rw [o2]; decide)
        unfold okO at ho3
        rw [o2] at ho3
        refine T19a hd ho (T17 hd2 ho3 (fun q => ?_) (fun q => ?_))
        · rw [o4]
          rw [o3] at q
          exact h1 (icP_cmp.mp q)
        · rw [o3] at q
          exact h2 (fun z => q (icP_cmp.mpr z))
      · cases ho2
    · cases h
  · cases h
/-- a switch -/
theorem sw_sound {k i : Nat} {x : AV} {ts : List Nat} {df : Nat} {L : List (Nat × V)} {S S' : List AV} {M : Mm} {Q : Option V → Mm → Prop} {σ : Nat → Int} (h : sw1 k i S = some (x, ts, df, S')) (h1 : ∀ (j t : Nat), ts[j]? = some t → nm σ x = (j : Int) → Wp X d k t L (S'.map (ev σ)) M Q) (h2 : (∀ j : Nat, j < ts.length → nm σ x ≠ (j : Int)) → Wp X d k df L (S'.map (ev σ)) M Q) : Wp X d k i L (S.map (ev σ)) M Q := by
  have h99 : iO (wd k i) ≠ 99 := by
    intro e
    unfold sw1 at h
    rw [e] at h
    cases h
  obtain ⟨ins, len, hd, ho⟩ := okI_dec h99
  unfold sw1 at h
  unfold okO at ho
  split at h
  · rename_i x0 S0 he
    rw [he] at ho
    split at h
    · rename_i hp
      obtain ⟨rfl, rfl, rfl, rfl⟩ : x0 = x ∧ swt.getD (iC (wd k i) 0) [] = ts ∧ iB (wd k i) = df ∧ S0 = S' := by
        have := Option.some.inj h
        simp only [Prod.mk.injEq] at this
        exact this
      rw [List.map_cons, ev_I hp]
      refine T21 hd ho (fun t h0 ht => h1 (nm σ x0).toNat t ht (by omega)) (fun hb => h2 fun j hj hx => ?_)
      omega
    · cases h
  · cases h
/-- a call -/
theorem ca_sound {k i k' d' : Nat} {as S S' : List AV} {L : List (Nat × V)} {M : Mm} {Q Q' : Option V → Mm → Prop} {σ : Nat → Int} (h : ca1 k i S = some (k', as, S')) (hdd : d' < d) (hw : Wp X d' k' 0 (eL 0 (as.map (ev σ))) [] M Q') (hq : ∀ v M', Q' v M' → retOK (mR k') v → (∀ y, v = some y → rV y) → okM M' → Wp X d k (i + 1) L (v.toList ++ S'.map (ev σ)) M' Q) : Wp X d k i L (S.map (ev σ)) M Q := by
  have h99 : iO (wd k i) ≠ 99 := by
    intro e
    unfold ca1 at h
    rw [e] at h
    cases h
  obtain ⟨ins, len, hd, ho⟩ := okI_dec h99
  have hk1 : ∀ {w : Nat}, w < nK → 1 ≤ w → okMeth w = true := fun h1 h2 => okMeth_all h1 h2
  unfold ca1 at h
  unfold okO at ho
  split at h
  · rename_i he
    rw [he] at ho
    split at h
    · rename_i r as' hs
      split at h
      · rename_i hp
        obtain ⟨p1, p2, p3, p4, p5⟩ := hp
        obtain ⟨rfl, rfl, rfl⟩ : iA (wd k i) = k' ∧ r :: as' = as ∧ S.drop (iB (wd k i)) = S' := by
          have := Option.some.inj h
          simp only [Prod.mk.injEq] at this
          exact this
        have hS : S = as'.reverse ++ r :: S.drop (iB (wd k i)) := by
          have e1 : S.take (iB (wd k i)) = (r :: as').reverse := by rw [← hs, List.reverse_reverse]
          rw [List.reverse_cons] at e1
          have e2 := List.take_append_drop (iB (wd k i)) S
          rw [e1] at e2
          rw [List.append_assoc] at e2
          exact e2.symm
        have hm1 : 1 ≤ iA (wd k i) := by
          rcases Nat.eq_zero_or_pos (iA (wd k i)) with e | e
          · rw [e] at p5
            exfalso
            unfold recB at p5
            have hm0 : mclk 0 = 12 := by decide +kernel
            rw [hm0] at p5
            split at p5
            · split at p5
              · rename_i ci fk hj
                have hc : ci = 12 := by simpa using p5
                have hlt : ∀ x ∈ SH, (match x with | .inr (c, _) => decide (c < 12) | _ => true) = true := by decide +kernel
                have h12 : ci < 12 := of_decide_eq_true (hlt _ (List.mem_of_getElem? hj))
                omega
              · cases p5
            · simp at p5
            · cases p5
          · exact e
        rw [show S.map (ev σ) = (as'.map (ev σ)).reverse ++ ev σ r :: (S.drop (iB (wd k i))).map (ev σ) by
          conv => lhs; rw [hS]
          rw [List.map_append, List.map_reverse, List.map_cons]]
        exact T37 hd ho rfl (hk1 p2 hm1) (by rw [List.length_map]; exact p1) (by rw [← List.map_cons, cSum_ev]; exact p3) (by rw [cSum_ev]; exact p4) (recB_ok p2 p5) hdd hw hq
      · cases h
    · cases h
  · rename_i he
    rw [he] at ho
    split at h
    · rename_i hp
      obtain ⟨p1, p2, p3, p4⟩ := hp
      obtain ⟨rfl, rfl, rfl⟩ : iA (wd k i) = k' ∧ (S.take (iB (wd k i))).reverse = as ∧ S.drop (iB (wd k i)) = S' := by
        have := Option.some.inj h
        simp only [Prod.mk.injEq] at this
        exact this
      have hm1 : 1 ≤ iA (wd k i) := by
        rcases Nat.eq_zero_or_pos (iA (wd k i)) with e | e
        · exfalso
          have ho2 : ok38 k (wd k i) (pcA k (i + 1)) ins len = true := ho
          unfold ok38 at ho2
          split at ho2
          · simp only [Bool.and_eq_true, decide_eq_true_eq] at ho2
            have hl := wt_mem ho2.1.1.1.1
            rw [e] at hl
            have hno : ∀ w ∈ wtb, (match w with | Jvm.Cond.methodLink _ _ y => decide (y ≠ mY 0) | _ => true) = true := by decide +kernel
            have := hno _ hl
            simp at this
          · cases ho2
        · exact e
      rw [show S.map (ev σ) = ((S.take (iB (wd k i))).reverse.map (ev σ)).reverse ++ (S.drop (iB (wd k i))).map (ev σ) by
        rw [List.map_reverse, List.reverse_reverse, ← List.map_append, List.take_append_drop]]
      exact T38 hd ho rfl (hk1 p2 hm1) (by rw [List.length_map]; exact p1) (by rw [cSum_ev]; exact p3) (by rw [cSum_ev]; exact p4) hdd hw hq
    · cases h
  · cases h
/-- an end -/
theorem re_sound {k i : Nat} {l : List Node} {v : Option AV} {n : Nat} {L : List (Nat × V)} {S : List AV} {M : Mm} {Q : Option V → Mm → Prop} {σ : Nat → Int} (h : re1 k i S = some (l, v)) : (∀ x ∈ l, x.1 < 15) ∧ bns l = 0 ∧ (∀ a, v = some a → a ∈ S) ∧ (nds X l n σ M (fun τ M' => retOK (mR k) (v.map (ev σ)) → (∀ y, v.map (ev σ) = some y → rV y) → Q (v.map (ev σ)) M') → Wp X d k i L (S.map (ev σ)) M Q) := by
  have h99 : iO (wd k i) ≠ 99 := by
    intro e
    unfold re1 at h
    rw [e] at h
    cases h
  obtain ⟨ins, len, hd, ho⟩ := okI_dec h99
  unfold re1 at h
  unfold okO at ho
  have dec2 : ∀ {r : Instr}, (decide (ins = r) && len == 1) = true → decode (mB k) (pcA k i) = .ok (r, 1) := by
    intro r q
    simp only [Bool.and_eq_true, decide_eq_true_eq, beq_iff_eq] at q
    rw [hd, q.1, q.2]
  split at h
  · rename_i he hr
    rw [he] at ho
    obtain ⟨rfl, rfl⟩ : [] = l ∧ none = v := by simpa using h
    exact ⟨fun x hx => (by cases hx), rfl, fun a ha => (by cases ha), fun hq => TR (v := none) (dec2 ho) (fun hr2 => hq (by rw [hr]; trivial) hr2) (by rw [hr]; trivial)⟩
  · rename_i x he hr
    rw [he] at ho
    split at h
    · rename_i hp
      obtain ⟨rfl, rfl⟩ : [] = l ∧ some x = v := by simpa using h
      refine ⟨fun x hx => (by cases hx), rfl, fun a ha => (by obtain rfl := Option.some.inj ha; simp), fun hq => ?_⟩
      have hq : retOK (mR k) (some (ev σ x)) → (∀ y, some (ev σ x) = some y → rV y) → Q (some (ev σ x)) M := hq
      rw [ev_I hp] at hq
      rw [List.map_cons, ev_I hp]
      exact TR (v := some (vI (nm σ x))) (dec2 ho) (fun hr2 => hq (by rw [hr]; trivial) hr2) (by rw [hr]; trivial)
    · cases h
  · rename_i he hr
    rw [he] at ho
    obtain ⟨rfl, rfl⟩ : [] = l ∧ some ((0, 0) : AV) = v := by
      have := Option.some.inj h
      simp only [Prod.mk.injEq] at this
      exact ⟨this.1, this.2⟩
    refine ⟨fun x hx => (by cases hx), rfl, fun a ha => (by obtain rfl := Option.some.inj ha; simp), fun hq => ?_⟩
    exact TR (v := some (vI 0)) (dec2 ho) (fun hr2 => hq (by rw [hr]; exact Or.inl rfl) hr2) (by rw [hr]; exact Or.inl rfl)
  · rename_i he hr
    rw [he] at ho
    obtain ⟨rfl, rfl⟩ : [] = l ∧ some ((0, 1) : AV) = v := by
      have := Option.some.inj h
      simp only [Prod.mk.injEq] at this
      exact ⟨this.1, this.2⟩
    refine ⟨fun x hx => (by cases hx), rfl, fun a ha => (by obtain rfl := Option.some.inj ha; simp), fun hq => ?_⟩
    exact TR (v := some (vI 1)) (dec2 ho) (fun hr2 => hq (by rw [hr]; exact Or.inr rfl) hr2) (by rw [hr]; exact Or.inr rfl)
  · rename_i x _ _ he hr
    rw [he] at ho
    split at h
    · rename_i hp
      obtain ⟨rfl, rfl⟩ : [((12, 0, [x]) : Node)] = l ∧ some x = v := by
        have := Option.some.inj h
        simp only [Prod.mk.injEq] at this
        exact ⟨this.1, this.2⟩
      refine ⟨lt15 (by show (12 : Nat) < 15; decide), rfl, fun a ha => (by obtain rfl := Option.some.inj ha; simp), fun hq => ?_⟩
      obtain ⟨hz, hq⟩ := hq
      have hq : retOK (mR k) (some (ev σ x)) → (∀ y, some (ev σ x) = some y → rV y) → Q (some (ev σ x)) M := hq
      rw [ev_I hp] at hq
      rw [List.map_cons, ev_I hp]
      exact TR (v := some (vI (nm σ x))) (dec2 ho) (fun hr2 => hq (by rw [hr]; exact hz) hr2) (by rw [hr]; exact hz)
    · cases h
  · rename_i x he hr
    rw [he] at ho
    split at h
    · rename_i hp
      obtain ⟨rfl, rfl⟩ : [((12, 0, [x]) : Node)] = l ∧ some x = v := by
        have := Option.some.inj h
        simp only [Prod.mk.injEq] at this
        exact ⟨this.1, this.2⟩
      refine ⟨lt15 (by show (12 : Nat) < 15; decide), rfl, fun a ha => (by obtain rfl := Option.some.inj ha; simp), fun hq => ?_⟩
      obtain ⟨hz, hq⟩ := hq
      have hq : retOK (mR k) (some (ev σ x)) → (∀ y, some (ev σ x) = some y → rV y) → Q (some (ev σ x)) M := hq
      rw [ev_I hp] at hq
      rw [List.map_cons, ev_I hp]
      exact TR (v := some (vI (nm σ x))) (dec2 ho) (fun hr2 => hq (by rw [hr]; exact hz) hr2) (by rw [hr]; exact hz)
    · cases h
  · rename_i x he hr
    rw [he] at ho
    split at h
    · rename_i hp
      obtain ⟨rfl, rfl⟩ : [((13, 0, [x]) : Node)] = l ∧ some x = v := by
        have := Option.some.inj h
        simp only [Prod.mk.injEq] at this
        exact ⟨this.1, this.2⟩
      refine ⟨lt15 (by show (13 : Nat) < 15; decide), rfl, fun a ha => (by obtain rfl := Option.some.inj ha; simp), fun hq => ?_⟩
      obtain ⟨hz, hq⟩ := hq
      have hq : retOK (mR k) (some (ev σ x)) → (∀ y, some (ev σ x) = some y → rV y) → Q (some (ev σ x)) M := hq
      rw [ev_I hp] at hq
      rw [List.map_cons, ev_I hp]
      exact TR (v := some (vI (nm σ x))) (dec2 ho) (fun hr2 => hq (by rw [hr]; exact hz) hr2) (by rw [hr]; exact hz)
    · cases h
  · rename_i x he hr
    rw [he] at ho
    split at h
    · rename_i hp
      obtain ⟨rfl, rfl⟩ : [] = l ∧ some x = v := by simpa using h
      refine ⟨fun x hx => (by cases hx), rfl, fun a ha => (by obtain rfl := Option.some.inj ha; simp), fun hq => ?_⟩
      have hq : retOK (mR k) (some (ev σ x)) → (∀ y, some (ev σ x) = some y → rV y) → Q (some (ev σ x)) M := hq
      rw [ev_L hp] at hq
      rw [List.map_cons, ev_L hp]
      exact TR (v := some (vL (nm σ x))) (dec2 ho) (fun hr2 => hq (by rw [hr]; trivial) hr2) (by rw [hr]; trivial)
    · cases h
  · rename_i j nm2 he hr
    rw [he] at ho
    obtain ⟨rfl, rfl⟩ : [] = l ∧ some ((6, j) : AV) = v := by
      have := Option.some.inj h
      simp only [Prod.mk.injEq] at this
      exact ⟨this.1, this.2⟩
    refine ⟨fun x hx => (by cases hx), rfl, fun a ha => (by obtain rfl := Option.some.inj ha; simp), fun hq => ?_⟩
    exact TR (v := some (vR 2 j.toNat)) (dec2 ho) (fun hr2 => hq (by rw [hr]; trivial) hr2) (by rw [hr]; trivial)
  · cases h

theorem resA_ok {k' n : Nat} {rs : List AV} {v : Option V} {σ : Nat → Int} (h : resA k' n = some rs) (hv : retOK (mR k') v) : rs.map (ev (us σ n (oz v))) = v.toList ∧ wS (n + rb k') rs := by
  unfold resA at h
  unfold rb
  generalize mR k' = r at h hv
  match r, v, h, hv with
  | none, none, h, _ => obtain rfl := Option.some.inj h; exact ⟨rfl, fun a ha => by cases ha⟩
  | some .int, some (.inl z), h, _ => obtain rfl := Option.some.inj h; exact ⟨by rw [List.map_cons, ev_n1]; rfl, wS_c wA_n (fun a ha => by cases ha)⟩
  | some .boolean, some (.inl z), h, _ => obtain rfl := Option.some.inj h; exact ⟨by rw [List.map_cons, ev_n1]; rfl, wS_c wA_n (fun a ha => by cases ha)⟩
  | some .char, some (.inl z), h, _ => obtain rfl := Option.some.inj h; exact ⟨by rw [List.map_cons, ev_n1]; rfl, wS_c wA_n (fun a ha => by cases ha)⟩
  | some .byte, some (.inl z), h, _ => obtain rfl := Option.some.inj h; exact ⟨by rw [List.map_cons, ev_n1]; rfl, wS_c wA_n (fun a ha => by cases ha)⟩
  | some .long, some (.inr (.inl z)), h, _ => obtain rfl := Option.some.inj h; exact ⟨by rw [List.map_cons, ev_n3]; rfl, wS_c wA_n (fun a ha => by cases ha)⟩
  | none, some x, _, hv => exact absurd hv (by cases x <;> exact fun q => q)
  | some t, none, _, hv => exact absurd hv (by cases t <;> exact fun q => q)
  | some (.object _), some x, h, _ => cases h
  | some (.array _), some x, h, _ => cases h
  | some .float, some x, h, _ => cases h
  | some .double, some x, h, _ => cases h
  | some .short, some x, h, _ => cases h
  | some .int, some (.inr x), _, hv => exact absurd hv (by cases x <;> exact fun q => q)
  | some .boolean, some (.inr x), _, hv => exact absurd hv (by cases x <;> exact fun q => q)
  | some .char, some (.inr x), _, hv => exact absurd hv (by cases x <;> exact fun q => q)
  | some .byte, some (.inr x), _, hv => exact absurd hv (by cases x <;> exact fun q => q)
  | some .long, some (.inl x), _, hv => exact absurd hv (fun q => q)
  | some .long, some (.inr (.inr x)), _, hv => exact absurd hv (fun q => q)
theorem br1_in {k i : Nat} {cc i1 i2 : Nat} {x y : AV} {S S' : List AV} (h : br1 k i S = some (cc, x, y, i1, i2, S')) : ∀ a ∈ S', a ∈ S := by
  unfold br1 at h
  split at h
  · split at h
    · obtain ⟨-, -, -, -, -, rfl⟩ := by simpa only [Option.some.injEq, Prod.mk.injEq] using h
      exact fun a ha => List.mem_cons_of_mem _ ha
    · cases h
  · split at h
    · obtain ⟨-, -, -, -, -, rfl⟩ := by simpa only [Option.some.injEq, Prod.mk.injEq] using h
      exact fun a ha => List.mem_cons_of_mem _ (List.mem_cons_of_mem _ ha)
    · cases h
  · split at h
    · obtain ⟨-, -, -, -, -, rfl⟩ := by simpa only [Option.some.injEq, Prod.mk.injEq] using h
      exact fun a ha => List.mem_cons_of_mem _ (List.mem_cons_of_mem _ ha)
    · cases h
  · cases h
theorem sw1_in {k i : Nat} {x : AV} {ts : List Nat} {df : Nat} {S S' : List AV} (h : sw1 k i S = some (x, ts, df, S')) : ∀ a ∈ S', a ∈ S := by
  unfold sw1 at h
  split at h
  · split at h
    · obtain ⟨-, -, -, rfl⟩ := by simpa only [Option.some.injEq, Prod.mk.injEq] using h
      exact fun a ha => List.mem_cons_of_mem _ ha
    · cases h
  · cases h
theorem ca1_in {k i k' : Nat} {as S S' : List AV} (h : ca1 k i S = some (k', as, S')) : (∀ a ∈ S', a ∈ S) ∧ ∀ a ∈ as, a ∈ S := by
  unfold ca1 at h
  split at h
  · split at h
    · rename_i r as' hs
      split at h
      · obtain ⟨-, rfl, rfl⟩ := by simpa only [Option.some.injEq, Prod.mk.injEq] using h
        refine ⟨fun a ha => List.mem_of_mem_drop ha, fun a ha => ?_⟩
        rw [← hs] at ha
        exact List.mem_of_mem_take (List.mem_reverse.mp ha)
      · cases h
    · cases h
  · split at h
    · obtain ⟨-, rfl, rfl⟩ := by simpa only [Option.some.injEq, Prod.mk.injEq] using h
      exact ⟨fun a ha => List.mem_of_mem_drop ha, fun a ha => List.mem_of_mem_take (List.mem_reverse.mp ha)⟩
    · cases h
  · cases h
theorem den_br {CP : Nat → List V → Mm → (Option V → Mm → Prop) → Prop} {CT : Nat → List V → Mm → Prop} {Q : Option V → Mm → Prop} {F n c : Nat} {x y : AV} {t e : List Node} {σ : Nat → Int} {M : Mm} (h : den X CP CT Q F ((15, c, [x, y, (0, (t.length : Int))]) :: (t ++ e)) n σ M) : ∃ F', (icP c (nm σ x) (nm σ y) → den X CP CT Q F' t n σ M) ∧ (¬ icP c (nm σ x) (nm σ y) → den X CP CT Q F' e n σ M) := by
  cases F with
  | zero => exact h.elim
  | succ F =>
    have h : (icP c (nm σ x) (nm σ y) → den X CP CT Q F ((t ++ e).take ((t.length : Int)).toNat) n σ M) ∧ (¬ icP c (nm σ x) (nm σ y) → den X CP CT Q F ((t ++ e).drop ((t.length : Int)).toNat) n σ M) := h
    rw [Int.toNat_natCast, List.take_left, List.drop_left] at h
    exact ⟨F, h⟩
theorem den_sw {CP : Nat → List V → Mm → (Option V → Mm → Prop) → Prop} {CT : Nat → List V → Mm → Prop} {Q : Option V → Mm → Prop} {n : Nat} {x : AV} (B : Nat → List Node) (E : List Node) {σ : Nat → Int} {M : Mm} : ∀ (ts : List Nat) (b F : Nat), den X CP CT Q F ((ts.zipIdx b).foldr (fun t acc => (15, 0, [x, (0, (t.2 : Int)), (0, ((B t.1).length : Int))]) :: (B t.1 ++ acc)) E) n σ M →
    (∀ (j t : Nat), ts[j]? = some t → nm σ x = ((b + j : Nat) : Int) → ∃ F', den X CP CT Q F' (B t) n σ M) ∧ ((∀ j : Nat, j < ts.length → nm σ x ≠ ((b + j : Nat) : Int)) → ∃ F', den X CP CT Q F' E n σ M) := by
  intro ts
  induction ts with
  | nil => intro b F h; exact ⟨fun j t hj => by simp at hj, fun _ => ⟨F, h⟩⟩
  | cons t ts ih =>
    intro b F h
    rw [List.zipIdx_cons, List.foldr_cons] at h
    obtain ⟨F', h1, h2⟩ := den_br h
    have e0 : nm σ ((0, ((b : Nat) : Int)) : AV) = (b : Int) := rfl
    by_cases hx : nm σ x = (b : Int)
    · refine ⟨fun j u hj hj2 => ?_, fun hn => absurd (by simpa using hx) (hn 0 (by simp))⟩
      have hj0 : j = 0 := by omega
      subst hj0
      have : t = u := by simpa using hj
      subst this
      exact ⟨F', h1 hx⟩
    · obtain ⟨g1, g2⟩ := ih (b + 1) F' (h2 hx)
      refine ⟨fun j u hj hj2 => ?_, fun hn => g2 fun j hj => ?_⟩
      · cases j with
        | zero => exact absurd (by simpa using hj2) hx
        | succ j => exact g1 j u (by simpa using hj) (by rw [hj2]; congr 1; omega)
      · have := hn (j + 1) (by simpa using hj)
        rw [show b + 1 + j = b + (j + 1) by omega]
        exact this
theorem wS_in {n : Nat} {S S' : List AV} (hS : wS n S) (h : ∀ a ∈ S', a ∈ S) : wS n S' := fun a ha => hS a (h a ha)
/-- THE STEPS SAY THE JUDGEMENT -/
theorem cmp_sound {inl : Nat → Bool} {cut : Nat → Option (List Nat)} {CP : Nat → List V → Mm → (Option V → Mm → Prop) → Prop} {CT : Nat → List V → Mm → Prop} {Q : Option V → Mm → Prop} {k0 : Nat} (hCP : ∀ (k' : Nat) (as : List V) (M : Mm) (Q' : Option V → Mm → Prop), CP k' as M Q' → ∃ d', d' + 10 ≤ d ∧ Wp X d' k' 0 (eL 0 as) [] M Q') (hCT : ∀ (i : Nat) (dl : List Nat) (as : List V) (M : Mm), cut i = some dl → as.length = dl.length → CT i as M → Wp X d k0 i (dl.zip as) [] M Q) (hd : 10 ≤ d) :
    ∀ (f : Nat) (c : Bool) (n k i : Nat) (L : List (Nat × AV)) (S : List AV) (fs : List Fr) (F : Nat) (σ : Nat → Int) (M : Mm), botK k fs = k0 → fs.length ≤ 9 → wL n L → wS n S → wF n fs → den X CP CT Q F (cmp inl cut f c n k i L S fs) n σ M → WS X d k i (evL σ L) (S.map (ev σ)) (fs.map (evF σ)) M Q := by
  have den99 : ∀ {F n : Nat} {σ : Nat → Int} {M : Mm}, ¬ den X CP CT Q F [(99, 0, [])] n σ M := by
    intro F n σ M h
    cases F with
    | zero => exact h
    | succ F => exact h
  intro f
  induction f with
  | zero => intro c n k i L S fs F σ M _ _ _ _ _ h; exact (den99 h).elim
  | succ f ih =>
    intro c n k i L S fs F σ M hb hf hL hS hF h
    have hlen : (fs.map (evF σ)).length = fs.length := List.length_map ..
    rw [cmp] at h
    split at h
    · rename_i dl hdl
      split at h
      · rename_i as hlk
        split at hdl
        · rename_i hc
          simp only [Bool.and_eq_true, List.isEmpty_iff] at hc
          obtain ⟨-, rfl⟩ := hc
          obtain rfl : k = k0 := hb
          obtain ⟨h1, h2⟩ := lkAll_ok hlk
          cases F with
          | zero => exact h.elim
          | succ F =>
            refine (hCT i dl (as.map (ev σ)) M hdl (by rw [List.length_map, h1]) h).fewer fun q hq => ?_
            obtain ⟨j, hj⟩ := List.getElem?_of_mem hq
            have hj2 : (dl.zip as)[j]? = some (q.1, (as[j]?).getD (0, 0)) ∧ q.2 = ev σ ((as[j]?).getD (0, 0)) := by
              rw [List.getElem?_zip_eq_some] at hj
              obtain ⟨a1, a2⟩ := hj
              rw [List.getElem?_map] at a2
              cases ha : as[j]? with
              | none => rw [ha] at a2; cases a2
              | some a =>
                rw [ha] at a2
                refine ⟨List.getElem?_zip_eq_some.mpr ⟨a1, ha⟩, (Option.some.inj a2).symm⟩
            have hm := h2 _ (List.mem_of_getElem? hj2.1)
            have : q = (q.1, ev σ ((as[j]?).getD (0, 0))) := Prod.ext rfl hj2.2
            rw [this]
            exact List.mem_map.mpr ⟨_, hm, rfl⟩
        · cases hdl
      · exact (den99 h).elim
    · split at h
      · rename_i o ho
        obtain ⟨g1, g2, g3, g4⟩ := go_sound (X := X) (d := d - (fs.map (evF σ)).length) (by omega) hL hS ho
        rw [WS_eq]
        refine g4 σ M _ (nds_mono (fun τ M' ht q => ?_) (den_nds g1 h))
        have q2 := ih true (n + bns o.1) k o.2.1 o.2.2.1 o.2.2.2 fs _ τ M' hb hf g2 g3 (hF.mono (Nat.le_add_right _ _)) q
        rw [evF_agree ht hF, WS_eq] at q2
        exact q2
      · split at h
        · rename_i cc x y i1 i2 S' hbr
          have hS' := wS_in hS (br1_in hbr)
          rw [WS_eq]
          split at h
          · rename_i hcc
            simp only [Bool.and_eq_true] at hcc
            have e1 := isC_nm (σ := σ) hcc.1
            have e2 := isC_nm (σ := σ) hcc.2
            have q := ih true n k _ L S' fs F σ M hb hf hL hS' hF h
            rw [WS_eq] at q
            refine br_sound hbr (fun z => ?_) (fun z => ?_)
            · rw [e1, e2] at z
              rw [if_pos (icB_iff.mpr z)] at q
              exact q
            · rw [e1, e2] at z
              rw [if_neg (fun w => z (icB_iff.mp w))] at q
              exact q
          · obtain ⟨F', h1, h2⟩ := den_br h
            refine br_sound hbr (fun z => ?_) (fun z => ?_)
            · have q := ih true n k i1 L S' fs F' σ M hb hf hL hS' hF (h1 z)
              rw [WS_eq] at q
              exact q
            · have q := ih true n k i2 L S' fs F' σ M hb hf hL hS' hF (h2 z)
              rw [WS_eq] at q
              exact q
        · split at h
          · rename_i x ts df S' hsw
            have hS' := wS_in hS (sw1_in hsw)
            rw [WS_eq]
            obtain ⟨h1, h2⟩ := den_sw (fun t => cmp inl cut f true n k t L S' fs) (cmp inl cut f true n k df L S' fs) ts 0 F h
            refine sw_sound hsw (fun j t hj hx => ?_) (fun hn => ?_)
            · obtain ⟨F', q0⟩ := h1 j t hj (by rw [hx]; congr 1; omega)
              have q := ih true n k t L S' fs F' σ M hb hf hL hS' hF q0
              rw [WS_eq] at q
              exact q
            · obtain ⟨F', q0⟩ := h2 (fun j hj => by rw [Nat.zero_add]; exact hn j hj)
              have q := ih true n k df L S' fs F' σ M hb hf hL hS' hF q0
              rw [WS_eq] at q
              exact q
          · split at h
            · rename_i k' as S' hca
              obtain ⟨hin1, hin2⟩ := ca1_in hca
              have hS' := wS_in hS hin1
              have hAS := wS_in hS hin2
              rw [WS_eq]
              split at h
              · rename_i hc
                simp only [Bool.and_eq_true, decide_eq_true_eq] at hc
                have q := ih true n k' 0 (eLA 0 as) [] ((k, i, L, S') :: fs) F σ M hb (by show fs.length + 1 ≤ 9; omega) (wL_eLA hAS) (fun a ha => by cases ha) (List.forall_mem_cons.mpr ⟨⟨hL, hS'⟩, hF⟩) h
                rw [eLA_ev] at q
                refine ca_sound (d' := d - ((fs.map (evF σ)).length + 1)) hca (by omega) q (fun v M' hv hro hrv hM => ?_)
                have q3 := hv hro hrv hM
                rw [WS_eq] at q3
                exact q3
              · split at h
                · rename_i rs hrs
                  cases F with
                  | zero => exact h.elim
                  | succ F =>
                    obtain ⟨d', hd', hw⟩ := hCP k' (as.map (ev σ)) M _ h
                    refine ca_sound hca (by omega) hw (fun v M' hv hro hrv hM => ?_)
                    obtain ⟨e1, e2⟩ := resA_ok (σ := σ) hrs hro
                    have hag := us_agree σ n (oz v)
                    have q := ih true (n + rb k') k (i + 1) L (rs ++ S') fs F (us σ n (oz v)) M' hb hf (hL.mono (Nat.le_add_right _ _)) (wS_app e2 (hS'.mono (Nat.le_add_right _ _))) (hF.mono (Nat.le_add_right _ _)) (hv hro hrv hM)
                    rw [WS_eq, List.map_append, e1, evL_agree hag hL, evS_agree hag hS', evF_agree hag hF] at q
                    exact q
                · exact (den99 h).elim
            · split at h
              · rename_i l v hre
                split at h
                · split at h
                  · obtain ⟨r1, r2, r3, r4⟩ := re_sound (X := X) (d := d) (n := n) (L := evL σ L) (M := M) (Q := Q) (σ := σ) hre
                    refine r4 (nds_mono (fun τ M' ht q _ _ => ?_) (den_nds r1 h))
                    generalize F - l.length = F' at q
                    cases F' with
                    | zero => exact q.elim
                    | succ F' => exact q
                  · rename_i a
                    obtain ⟨r1, r2, r3, r4⟩ := re_sound (X := X) (d := d) (n := n) (L := evL σ L) (M := M) (Q := Q) (σ := σ) hre
                    refine r4 (nds_mono (fun τ M' ht q _ _ => ?_) (den_nds r1 h))
                    generalize F - l.length = F' at q
                    cases F' with
                    | zero => exact q.elim
                    | succ F' =>
                      have q : Q (some (ev τ a)) M' := q
                      rw [ev_agree ht (hS a (r3 a rfl))] at q
                      exact q
                · rename_i g gs _
                  rw [WS_eq]
                  obtain ⟨r1, r2, r3, r4⟩ := re_sound (X := X) (d := d - ((g :: gs).map (evF σ)).length) (n := n) (L := evL σ L) (M := M) (Q := QT X d k ((g :: gs).map (evF σ)) Q) (σ := σ) hre
                  refine r4 (nds_mono (fun τ M' ht q hro hrv => ?_) (den_nds r1 h))
                  rw [r2, Nat.add_zero] at q
                  have hg := hF g List.mem_cons_self
                  have hgs : wF n gs := fun y hy => hF y (List.mem_cons_of_mem _ hy)
                  have hv : wS n (v.toList ++ g.2.2.2) := wS_app (fun a ha => by
                    cases v with
                    | none => cases ha
                    | some b =>
                      obtain rfl := List.mem_singleton.mp ha
                      exact hS a (r3 a rfl)) hg.2
                  have q3 := ih true n g.1 (g.2.1 + 1) g.2.2.1 (v.toList ++ g.2.2.2) gs _ τ M' hb (by have : (g :: gs).length = gs.length + 1 := rfl; omega) hg.1 hv hgs q
                  rw [evL_agree ht hg.1, evS_agree ht hv, evF_agree ht hgs] at q3
                  intro _ _ _
                  have e3 : (v.toList ++ g.2.2.2).map (ev σ) = (v.map (ev σ)).toList ++ g.2.2.2.map (ev σ) := by
                    rw [List.map_append]
                    cases v <;> rfl
                  rw [e3] at q3
                  exact q3
              · exact (den99 h).elim
end SOUND
end
section
/-! bounds of the cells: a modulus, an interval for each rest -/
def TT : List (Nat × List (Int × Int)) := [
  (11, [(0, 0), (0, 0), (0, 0), (0, 0), (0, 0), (0, 0), (0, 0), (0, 0), (0, 0), (0, 0), (0, 9000)]),
  (12, [(0, 0), (0, 0), (0, 0), (0, 0), (0, 0), (0, 0), (0, 0), (0, 0), (0, 0), (0, 0), (0, 30), (0, 60)]),
  (1, [(-9000, 9000)]),
  (1, [(0, 7)]),
  (1, [(0, 3)]),
  (1, [(-1, 29)]),
  (1, [(-1, 29)]),
  (1, [(0, 4)]),
  (1, [(-1, 9000)]),
  (1, [(0, 29)]),
  (1, [(0, 3)]),
  (1, [(0, 9000)]),
  (5, [(0, 0), (0, 0), (0, 0), (0, 0), (0, 20)]),
  (1, [(0, 7)]),
  (1, [(0, 7)]),
  (1, [(0, 9000)]),
  (1, [(-1, 9000)]),
  (4, [(0, 0), (-2147483648, 2147483647), (-2147483648, 2147483647), (0, 1)]),
  (1, [(-2147483648, 2147483647)]),
  (3, [(0, 0), (0, 0), (0, 8)]),
  (1, [(-2147483648, 2147483647)]),
  (1, [(-2147483648, 2147483647)]),
  (6, [(0, 0), (0, 0), (0, 240), (0, 240), (-2147483648, 2147483647), (-2147483648, 2147483647)]),
  (1, [(0, 255)]),
  (3, [(0, 0), (0, 0), (0, 8)]),
  (1, [(-2147483648, 2147483647)]),
  (1, [(-2147483648, 2147483647)]),
  (17, [(0, 0), (0, 0), (0, 0), (0, 0), (0, 0), (0, 0), (0, 0), (0, 0), (0, 0), (0, 0), (0, 0), (0, 0), (0, 0), (0, 0), (0, 20), (0, 100), (0, 120)]),
  (1, [(0, 3)]),
  (1, [(0, 29)]),
  (1, [(0, 29)]),
  (1, [(0, 9000)]),
  (1, [(0, 9000)]),
  (1, [(0, 8)]),
  (1, [(-1, 9000)]),
  (1, [(-2147483648, 2147483647)]),
  (1, [(0, 29)]),
  (1, [(0, 19)]),
  (1, [(0, 9000)]),
  (1, [(-2147483648, 2147483647)]),
  (1, [(-20, 99)]),
  (1, [(0, 9000)]),
  (12, [(0, 0), (0, 0), (0, 0), (0, 0), (0, 0), (0, 0), (0, 0), (0, 0), (0, 0), (0, 0), (0, 100), (-2147483648, 2147483647)]),
  (1, [(-2147483648, 2147483647)]),
  (1, [(-2147483648, 2147483647)]),
  (1, [(-2147483648, 2147483647)]),
  (1, [(-2147483648, 2147483647)]),
  (1, [(-2147483648, 2147483647)]),
  (4, [(0, 0), (0, 0), (0, 0), (0, 60)]),
  (1, [(0, 29)]),
  (1, [(-2147483648, 2147483647)]),
  (1, [(-2147483648, 2147483647)]),
  (18, [(0, 0), (0, 0), (0, 0), (0, 0), (0, 0), (0, 0), (0, 0), (0, 0), (0, 0), (0, 0), (0, 0), (0, 5), (-2147483648, 2147483647), (-2147483648, 2147483647), (-2147483648, 2147483647), (0, 1), (-2147483648, 2147483647), (-2147483648, 2147483647)]),
  (1, [(0, 19)]),
  (1, [(0, 252)]),
  (1, [(-2147483648, 2147483647)]),
  (1, [(0, 29)]),
  (1, [(-2147483648, 2147483647)]),
  (1, [(-2147483648, 2147483647)]),
  (1, [(-2147483648, 2147483647)]),
  (1, [(-2147483648, 2147483647)]),
  (4, [(0, 0), (0, 0), (0, 0), (0, 30)]),
  (1, [(-2147483648, 2147483647)]),
  (1, [(-2147483648, 2147483647)]),
  (1, [(0, 29)]),
  (67, [(0, 9000), (0, 30), (0, 0), (0, 0), (0, 0), (0, 0), (0, 0), (0, 0), (0, 0), (0, 60), (0, 0), (0, 20), (0, 0), (0, 0), (0, 240), (-2147483648, 2147483647), (0, 8), (0, 0), (0, 0), (0, 0), (0, 0), (0, 20), (0, 0), (0, 0), (0, 0), (0, 0), (0, 0), (0, 0), (0, 120), (0, 0), (0, 0), (0, 0), (0, 0), (0, 0), (-2147483648, 2147483647), (0, 60), (0, 0), (-2147483648, 2147483647), (0, 0), (0, 0), (-2147483648, 2147483647), (-2147483648, 2147483647), (0, 1), (0, 240), (-9223372036854775808, 9223372036854775807), (0, 240), (-2147483648, 2147483647), (-2147483648, 2147483647), (0, 0), (0, 0), (0, 0), (0, 0), (0, 0), (0, 5), (0, 0), (0, 0), (0, 0), (0, 0), (0, 0), (0, 0), (0, 0), (0, 0), (-2147483648, 2147483647), (0, 1), (-2147483648, 2147483647), (-2147483648, 2147483647), (0, 0)]),
  (1, [(-2147483648, 2147483647)]),
  (1, [(0, 7)]),
  (1, [(0, 3)]),
  (1, [(-1, 29)]),
  (1, [(-1, 29)]),
  (1, [(-2147483648, 2147483647)]),
  (1, [(-2147483648, 2147483647)]),
  (3, [(-2147483648, 2147483647), (-2147483648, 2147483647), (0, 3)]),
  (1, [(-2147483648, 2147483647)]),
  (1, [(0, 255)]),
  (1, [(-2147483648, 2147483647)]),
  (1, [(-2147483648, 2147483647)]),
  (1, [(-2147483648, 2147483647)]),
  (1, [(-2147483648, 2147483647)]),
  (1, [(0, 3)]),
  (1, [(0, 29)]),
  (1, [(0, 29)]),
  (1, [(-2147483648, 2147483647)]),
  (1, [(-2147483648, 2147483647)]),
  (1, [(-2147483648, 2147483647)]),
  (1, [(-1, 29)]),
  (1, [(0, 19)]),
  (1, [(0, 9000)]),
  (1, [(0, 1)]),
  (1, [(0, 3)]),
  (1, [(-2147483648, 2147483647)]),
  (1, [(-2147483648, 2147483647)]),
  (1, [(-2147483648, 2147483647)]),
  (1, [(0, 3)]),
  (1, [(-2147483648, 2147483647)]),
  (1, [(-2147483648, 2147483647)]),
  (1, [(-2147483648, 2147483647)]),
  (1, [(-2147483648, 2147483647)]),
  (1, [(0, 19)]),
  (1, [(0, 10)]),
  (1, [(0, 29)]),
  (1, [(0, 1)]),
  (1, [(-1, 1025)]),
  (1, [(-2147483648, 2147483647)]),
  (1, [(-2147483648, 2147483647)]),
  (1, [(-2147483648, 2147483647)]),
  (1, [(-2147483648, 2147483647)])]
end
section
/-! a checker of intervals over the steps -/
abbrev Fm : Type := Nat × Int
abbrev Iv : Type := Int × Int
def fv (σ : Nat → Int) (f : Fm) : Int := match f.1 with
  | 0 => f.2
  | b + 1 => σ b + f.2
/-- how far named, each number as another one and a whole number, the bounds, what divides it, what cells are known, sums and differences, cells whose bounds are known -/
abbrev CS : Type := Nat × (Nat → Fm) × (Nat → Iv) × (Nat → Nat) × List (Nat × Fm × Fm) × List (Nat × Fm × Fm × Nat) × List (Nat × Fm × Iv)
def fu {α : Type} (f : Nat → α) (n : Nat) (x : α) : Nat → α := fun j => bif Nat.beq j n then x else f j
theorem fu_at {α : Type} {f : Nat → α} {n : Nat} {x : α} : fu f n x n = x := by
  unfold fu
  rw [show Nat.beq n n = true from Nat.beq_refl n]
  rfl
theorem fu_ne {α : Type} {f : Nat → α} {n j : Nat} {x : α} (h : j ≠ n) : fu f n x j = f j := by
  unfold fu
  cases e : Nat.beq j n with
  | true => exact absurd (Nat.eq_of_beq_eq_true e) h
  | false => rfl
def imax (a b : Int) : Int := bif decide (a ≤ b) then b else a
def imin (a b : Int) : Int := bif decide (a ≤ b) then a else b
theorem imax_le {a b z : Int} (h1 : a ≤ z) (h2 : b ≤ z) : imax a b ≤ z := by
  unfold imax
  cases decide (a ≤ b) <;> assumption
theorem le_imin {a b z : Int} (h1 : z ≤ a) (h2 : z ≤ b) : z ≤ imin a b := by
  unfold imin
  cases decide (a ≤ b) <;> assumption
theorem imax_l {a b : Int} : a ≤ imax a b := by
  unfold imax
  cases e : decide (a ≤ b) with
  | true => exact of_decide_eq_true e
  | false => exact Int.le_refl a
theorem imax_r {a b : Int} : b ≤ imax a b := by
  unfold imax
  cases e : decide (a ≤ b) with
  | true => exact Int.le_refl b
  | false => exact Int.le_of_lt (Int.not_le.mp (of_decide_eq_false e))
theorem imin_l {a b : Int} : imin a b ≤ a := by
  unfold imin
  cases e : decide (a ≤ b) with
  | true => exact Int.le_refl a
  | false => exact Int.le_of_lt (Int.not_le.mp (of_decide_eq_false e))
theorem imin_r {a b : Int} : imin a b ≤ b := by
  unfold imin
  cases e : decide (a ≤ b) with
  | true => exact of_decide_eq_true e
  | false => exact Int.le_refl b
/-- a number's sign is worked out now -/
def fI {α : Type} (z : Int) (k : Int → α) : α := match z with
  | .ofNat n => k (.ofNat n)
  | .negSucc n => k (.negSucc n)
theorem fI_eq {α : Type} (z : Int) (k : Int → α) : fI z k = k z := by cases z <;> rfl
def cn (cs : CS) : Nat := cs.1
def cfm (cs : CS) : Nat → Fm := cs.2.1
def civ (cs : CS) : Nat → Iv := cs.2.2.1
def cmo (cs : CS) : Nat → Nat := cs.2.2.2.1
def ckn (cs : CS) : List (Nat × Fm × Fm) := cs.2.2.2.2.1
def cdf (cs : CS) : List (Nat × Fm × Fm × Nat) := cs.2.2.2.2.2.1
def cbd (cs : CS) : List (Nat × Fm × Iv) := cs.2.2.2.2.2.2
def zs (b : Nat) (x y : Int) : Int := match b with
  | 0 => x + y
  | _ => x - y
/-- what a state of the checker says -/
def Ok (cs : CS) (σ : Nat → Int) (M : Mm) : Prop :=
  (∀ j, j < cn cs → (cfm cs j).1 ≤ cn cs ∧ fv σ (cfm cs j) = σ j ∧ ((civ cs j).1 ≤ σ j ∧ σ j ≤ (civ cs j).2) ∧ ((cmo cs j : Nat) : Int) ∣ σ j) ∧
  (∀ q ∈ ckn cs, q.2.1.1 ≤ cn cs ∧ q.2.2.1 ≤ cn cs ∧ 0 ≤ fv σ q.2.1 ∧ M q.1 (fv σ q.2.1).toNat = fv σ q.2.2) ∧
  (∀ q ∈ cdf cs, q.2.1.1 ≤ cn cs ∧ q.2.2.1.1 ≤ cn cs ∧ q.2.2.2 < cn cs ∧ σ q.2.2.2 = zs q.1 (fv σ q.2.1) (fv σ q.2.2.1)) ∧
  ∀ q ∈ cbd cs, q.2.1.1 ≤ cn cs ∧ 0 ≤ fv σ q.2.1 ∧ q.2.2.1 ≤ M q.1 (fv σ q.2.1).toNat ∧ M q.1 (fv σ q.2.1).toNat ≤ q.2.2.2
theorem fv_agree {σ τ : Nat → Int} {n : Nat} {f : Fm} (h : ∀ j, j < n → τ j = σ j) (hf : f.1 ≤ n) : fv τ f = fv σ f := by
  obtain ⟨b, c⟩ := f
  cases b with
  | zero => rfl
  | succ b => show τ b + c = σ b + c; rw [h b (by have : b + 1 ≤ n := hf; omega)]
theorem Ok.agree {cs : CS} {σ τ : Nat → Int} {M : Mm} (h : Ok cs σ M) (ht : ∀ j, j < cn cs → τ j = σ j) : Ok cs τ M := by
  obtain ⟨h1, h2, h3, h4⟩ := h
  refine ⟨fun j hj => ?_, fun q hq => ?_, fun q hq => ?_, fun q hq => ?_⟩
  · obtain ⟨a, b, c, d⟩ := h1 j hj
    rw [ht j hj, fv_agree ht a]
    exact ⟨a, b, c, d⟩
  · obtain ⟨a, b, c, d⟩ := h2 q hq
    rw [fv_agree ht a, fv_agree ht b]
    exact ⟨a, b, c, d⟩
  · obtain ⟨a, b, c, d⟩ := h3 q hq
    rw [fv_agree ht a, fv_agree ht b, ht _ c]
    exact ⟨a, b, c, d⟩
  · obtain ⟨a, b, c⟩ := h4 q hq
    rw [fv_agree ht a]
    exact ⟨a, b, c⟩
def wAb (n : Nat) (a : AV) : Bool := match a.1 with
  | 1 => Nat.blt a.2.toNat n
  | 3 => Nat.blt a.2.toNat n
  | _ => true
def af (cs : CS) (a : AV) : Fm := match a.1 with
  | 1 => cfm cs a.2.toNat
  | 3 => cfm cs a.2.toNat
  | _ => (0, a.2)
theorem blt_lt {a b : Nat} (h : Nat.blt a b = true) : a < b := by
  have := Nat.le_of_ble_eq_true h
  omega
theorem af_ok {cs : CS} {σ : Nat → Int} {M : Mm} {a : AV} (h : Ok cs σ M) (hw : wAb (cn cs) a = true) : (af cs a).1 ≤ cn cs ∧ fv σ (af cs a) = nm σ a := by
  obtain ⟨t, c⟩ := a
  match t, hw with
  | 0, _ => exact ⟨Nat.zero_le _, rfl⟩
  | 1, hw => obtain ⟨h1, h2, -, -⟩ := h.1 _ (blt_lt hw); exact ⟨h1, h2⟩
  | 2, _ => exact ⟨Nat.zero_le _, rfl⟩
  | 3, hw => obtain ⟨h1, h2, -, -⟩ := h.1 _ (blt_lt hw); exact ⟨h1, h2⟩
  | n + 4, _ => exact ⟨Nat.zero_le _, rfl⟩
def ivf (cs : CS) (f : Fm) : Iv := match f.1 with
  | 0 => (f.2, f.2)
  | b + 1 => ((civ cs b).1 + f.2, (civ cs b).2 + f.2)
theorem ivf_ok {cs : CS} {σ : Nat → Int} {M : Mm} {f : Fm} (h : Ok cs σ M) (hf : f.1 ≤ cn cs) : (ivf cs f).1 ≤ fv σ f ∧ fv σ f ≤ (ivf cs f).2 := by
  obtain ⟨b, c⟩ := f
  cases b with
  | zero => exact ⟨Int.le_refl _, Int.le_refl _⟩
  | succ b =>
    obtain ⟨-, -, h3, -⟩ := h.1 b hf
    show (civ cs b).1 + c ≤ σ b + c ∧ σ b + c ≤ (civ cs b).2 + c
    omega
/-- a new name -/
def ext (cs : CS) (F : Fm) (I : Iv) (m : Nat) : CS := (cn cs + 1, fu (cfm cs) (cn cs) F, fu (civ cs) (cn cs) I, fu (cmo cs) (cn cs) m, ckn cs, cdf cs, cbd cs)
theorem ext_n {cs : CS} {F : Fm} {I : Iv} {m : Nat} : cn (ext cs F I m) = cn cs + 1 := rfl
theorem ext_ok {cs : CS} {σ : Nat → Int} {M : Mm} {F : Fm} {I : Iv} {m : Nat} {v : Int} (h : Ok cs σ M) (hF : F.1 ≤ cn cs + 1) (hv : fv (us σ (cn cs) v) F = v) (hI : I.1 ≤ v ∧ v ≤ I.2) (hm : ((m : Nat) : Int) ∣ v) : Ok (ext cs F I m) (us σ (cn cs) v) M := by
  have h0 := h.agree (us_agree σ (cn cs) v)
  obtain ⟨h1, h2, h3, h4⟩ := h0
  refine ⟨fun j hj => ?_, fun q hq => ?_, fun q hq => ?_, fun q hq => ?_⟩
  · by_cases e : j = cn cs
    · subst e
      show (fu (cfm cs) (cn cs) F (cn cs)).1 ≤ cn cs + 1 ∧ fv _ (fu (cfm cs) (cn cs) F (cn cs)) = _ ∧ ((fu (civ cs) (cn cs) I (cn cs)).1 ≤ _ ∧ _ ≤ (fu (civ cs) (cn cs) I (cn cs)).2) ∧ ((fu (cmo cs) (cn cs) m (cn cs) : Nat) : Int) ∣ _
      rw [fu_at, fu_at, fu_at, us_at]
      exact ⟨hF, hv, hI, hm⟩
    · have hj2 : j < cn cs := by have : j < cn cs + 1 := hj; omega
      obtain ⟨a, b, c, d⟩ := h1 j hj2
      show (fu (cfm cs) (cn cs) F j).1 ≤ cn cs + 1 ∧ fv _ (fu (cfm cs) (cn cs) F j) = _ ∧ ((fu (civ cs) (cn cs) I j).1 ≤ _ ∧ _ ≤ (fu (civ cs) (cn cs) I j).2) ∧ ((fu (cmo cs) (cn cs) m j : Nat) : Int) ∣ _
      rw [fu_ne e, fu_ne e, fu_ne e]
      exact ⟨Nat.le_succ_of_le a, b, c, d⟩
  · obtain ⟨a, b, c, d⟩ := h2 q hq
    exact ⟨Nat.le_succ_of_le a, Nat.le_succ_of_le b, c, d⟩
  · obtain ⟨a, b, c, d⟩ := h3 q hq
    exact ⟨Nat.le_succ_of_le a, Nat.le_succ_of_le b, Nat.lt_succ_of_lt c, d⟩
  · obtain ⟨a, b⟩ := h4 q hq
    exact ⟨Nat.le_succ_of_le a, b⟩
def newB (cs : CS) (lo hi : Int) (m : Nat) : CS := fI lo fun lo => fI hi fun hi => ext cs (cn cs + 1, 0) (lo, hi) m
def newF (cs : CS) (f : Fm) : CS := ext cs f (ivf cs f) 1
theorem newB_n {cs : CS} {lo hi : Int} {m : Nat} : cn (newB cs lo hi m) = cn cs + 1 := by
  unfold newB
  rw [fI_eq, fI_eq]
  rfl
theorem newB_ok {cs : CS} {σ : Nat → Int} {M : Mm} {lo hi : Int} {m : Nat} {v : Int} (h : Ok cs σ M) (hI : lo ≤ v ∧ v ≤ hi) (hm : ((m : Nat) : Int) ∣ v) : Ok (newB cs lo hi m) (us σ (cn cs) v) M := by
  unfold newB
  rw [fI_eq, fI_eq]
  refine ext_ok h (Nat.le_refl _) ?_ hI hm
  show us σ (cn cs) v (cn cs) + 0 = v
  rw [us_at, Int.add_zero]
theorem newB1 {cs : CS} {σ : Nat → Int} {M : Mm} {lo hi : Int} {v : Int} (h : Ok cs σ M) (hI : lo ≤ v ∧ v ≤ hi) : Ok (newB cs lo hi 1) (us σ (cn cs) v) M := newB_ok h hI ⟨v, by simp⟩
theorem newF_ok {cs : CS} {σ : Nat → Int} {M : Mm} {f : Fm} {v : Int} (h : Ok cs σ M) (hf : f.1 ≤ cn cs) (hv : fv σ f = v) : Ok (newF cs f) (us σ (cn cs) v) M := by
  subst hv
  exact ext_ok h (Nat.le_succ_of_le hf) (fv_agree (us_agree σ (cn cs) _) hf) (ivf_ok h hf) ⟨fv σ f, by simp⟩
/-- a step that names one number -/
def Nx (cs c2 : CS) (σ : Nat → Int) (v : Int) (M : Mm) : Prop := cn c2 = cn cs + 1 ∧ Ok c2 (us σ (cn cs) v) M
theorem Nx_B {cs : CS} {σ : Nat → Int} {M : Mm} {lo hi : Int} {m : Nat} {v : Int} (h : Ok cs σ M) (hI : lo ≤ v ∧ v ≤ hi) (hm : ((m : Nat) : Int) ∣ v) : Nx cs (newB cs lo hi m) σ v M := ⟨newB_n, newB_ok h hI hm⟩
theorem Nx_1 {cs : CS} {σ : Nat → Int} {M : Mm} {lo hi : Int} {v : Int} (h : Ok cs σ M) (hI : lo ≤ v ∧ v ≤ hi) : Nx cs (newB cs lo hi 1) σ v M := ⟨newB_n, newB1 h hI⟩
theorem Nx_F {cs : CS} {σ : Nat → Int} {M : Mm} {f : Fm} {v : Int} (h : Ok cs σ M) (hf : f.1 ≤ cn cs) (hv : fv σ f = v) : Nx cs (newF cs f) σ v M := ⟨rfl, newF_ok h hf hv⟩
theorem Nx_bif {cs c2 c3 : CS} {σ : Nat → Int} {M : Mm} {v : Int} {b : Bool} (h1 : b = true → Nx cs c2 σ v M) (h2 : Nx cs c3 σ v M) : Nx cs (bif b then c2 else c3) σ v M := by
  cases b with
  | true => exact h1 rfl
  | false => exact h2
def I32 : Iv := (-2147483648, 2147483647)
def I64 : Iv := (-9223372036854775808, 9223372036854775807)
def inI (a b : Iv) : Bool := decide (b.1 ≤ a.1) && decide (a.2 ≤ b.2)
theorem inI_ok {a b : Iv} (h : inI a b = true) {z : Int} (hz : a.1 ≤ z ∧ z ≤ a.2) : b.1 ≤ z ∧ z ≤ b.2 := by
  unfold inI at h
  simp only [Bool.and_eq_true, decide_eq_true_eq] at h
  omega
def eqF (f g : Fm) : Bool := Nat.beq f.1 g.1 && decide (f.2 = g.2)
theorem eqF_ok {f g : Fm} (h : eqF f g = true) : f = g := by
  unfold eqF at h
  simp only [Bool.and_eq_true, decide_eq_true_eq] at h
  exact Prod.ext (Nat.eq_of_beq_eq_true h.1) h.2
def addDf (cs : CS) (q : Nat × Fm × Fm × Nat) : CS := (cn cs, cfm cs, civ cs, cmo cs, ckn cs, q :: cdf cs, cbd cs)
def setK (cs : CS) (l : List (Nat × Fm × Fm)) : CS := (cn cs, cfm cs, civ cs, cmo cs, l, cdf cs, cbd cs)
/-- a sum, a difference, a product -/
def nmul (c : Int) (i : Iv) : Iv := bif decide (0 ≤ c) then (c * i.1, c * i.2) else (c * i.2, c * i.1)
theorem nmul_ok {c : Int} {i : Iv} {z : Int} (h : i.1 ≤ z ∧ z ≤ i.2) : (nmul c i).1 ≤ c * z ∧ c * z ≤ (nmul c i).2 := by
  unfold nmul
  cases e : decide (0 ≤ c) with
  | true => exact ⟨Int.mul_le_mul_of_nonneg_left h.1 (of_decide_eq_true e), Int.mul_le_mul_of_nonneg_left h.2 (of_decide_eq_true e)⟩
  | false =>
    have hc : c ≤ 0 := by have := of_decide_eq_false e; omega
    exact ⟨Int.mul_le_mul_of_nonpos_left hc h.2, Int.mul_le_mul_of_nonpos_left hc h.1⟩
def arI (b : Nat) (x y : Iv) : Iv := match b with
  | 0 => (x.1 + y.1, x.2 + y.2)
  | _ => (x.1 - y.2, x.2 - y.1)
theorem arI_ok {b : Nat} {x y : Iv} {u v : Int} (hx : x.1 ≤ u ∧ u ≤ x.2) (hy : y.1 ≤ v ∧ v ≤ y.2) : (arI b x y).1 ≤ zs b u v ∧ zs b u v ≤ (arI b x y).2 := by
  cases b with
  | zero => show x.1 + y.1 ≤ u + v ∧ u + v ≤ x.2 + y.2; omega
  | succ b => show x.1 - y.2 ≤ u - v ∧ u - v ≤ x.2 - y.1; omega
/-- sum or difference, where it stays within the bounds -/
def ar2 (cs : CS) (full : Iv) (b : Nat) (fx fy : Fm) : CS := match fy.1 with
  | 0 => let f : Fm := (fx.1, zs b fx.2 fy.2); bif inI (ivf cs f) full then newF cs f else newB cs full.1 full.2 1
  | _ + 1 => bif Nat.beq b 1 && Nat.beq fx.1 fy.1 then (bif inI (fx.2 - fy.2, fx.2 - fy.2) full then newF cs (0, fx.2 - fy.2) else newB cs full.1 full.2 1)
    else bif Nat.beq b 0 && Nat.beq fx.1 0 then (let f : Fm := (fy.1, fx.2 + fy.2); bif inI (ivf cs f) full then newF cs f else newB cs full.1 full.2 1)
    else match (cdf cs).find? (fun q => Nat.beq q.1 b && (eqF q.2.1 fx && eqF q.2.2.1 fy)) with
      | some q => bif inI (ivf cs (cfm cs q.2.2.2)) full then newF cs (cfm cs q.2.2.2) else newB cs full.1 full.2 1
      | none => let q := arI b (ivf cs fx) (ivf cs fy); bif inI q full then addDf (newB cs q.1 q.2 1) (b, fx, fy, cn cs) else newB cs full.1 full.2 1
def mu2 (cs : CS) (full : Iv) (fx fy : Fm) : CS := match fx.1, fy.1 with
  | 0, _ => let q := nmul fx.2 (ivf cs fy); bif inI q full then newB cs q.1 q.2 fx.2.natAbs else newB cs full.1 full.2 1
  | _ + 1, 0 => let q := nmul fy.2 (ivf cs fx); bif inI q full then newB cs q.1 q.2 fy.2.natAbs else newB cs full.1 full.2 1
  | _ + 1, _ + 1 => newB cs full.1 full.2 1
theorem fv_0 {σ : Nat → Int} {f : Fm} (h : f.1 = 0) : fv σ f = f.2 := by
  obtain ⟨b, c⟩ := f
  obtain rfl : b = 0 := h
  rfl
theorem fv_zs {σ : Nat → Int} {b : Nat} {f : Fm} {c : Int} : fv σ (f.1, zs b f.2 c) = zs b (fv σ f) c := by
  obtain ⟨t, e⟩ := f
  cases t with
  | zero => cases b <;> rfl
  | succ t =>
    cases b with
    | zero => show σ t + (e + c) = σ t + e + c; omega
    | succ b => show σ t + (e - c) = σ t + e - c; omega
theorem ar2_ok {cs : CS} {σ : Nat → Int} {M : Mm} {full : Iv} {b : Nat} {fx fy : Fm} {v : Int} (h : Ok cs σ M) (hx : fx.1 ≤ cn cs) (hy : fy.1 ≤ cn cs) (hb : b ≤ 1) (hv : full.1 ≤ v ∧ v ≤ full.2) (he : full.1 ≤ zs b (fv σ fx) (fv σ fy) ∧ zs b (fv σ fx) (fv σ fy) ≤ full.2 → v = zs b (fv σ fx) (fv σ fy)) : Nx cs (ar2 cs full b fx fy) σ v M := by
  have hF := Nx_1 h hv
  unfold ar2
  split
  next e =>
    refine Nx_bif (fun q => ?_) hF
    have hf : ((fx.1, zs b fx.2 fy.2) : Fm).1 ≤ cn cs := hx
    have e2 : fv σ (fx.1, zs b fx.2 fy.2) = zs b (fv σ fx) (fv σ fy) := by rw [fv_zs, fv_0 e]
    have := inI_ok q (ivf_ok h hf)
    rw [e2] at this
    exact Nx_F h hf (e2.trans (he this).symm)
  next t e =>
    refine Nx_bif (fun q => ?_) (Nx_bif (fun q => ?_) ?_)
    · simp only [Bool.and_eq_true] at q
      refine Nx_bif (fun q2 => ?_) hF
      have hb1 : b = 1 := Nat.eq_of_beq_eq_true q.1
      have e1 := Nat.eq_of_beq_eq_true q.2
      subst hb1
      have e2 : fx.2 - fy.2 = zs 1 (fv σ fx) (fv σ fy) := by
        obtain ⟨bx, cx⟩ := fx
        obtain ⟨b2, c2⟩ := fy
        obtain rfl : bx = b2 := e1
        obtain rfl : bx = t + 1 := e
        show cx - c2 = (σ t + cx) - (σ t + c2)
        omega
      have := inI_ok q2 (z := fx.2 - fy.2) ⟨Int.le_refl _, Int.le_refl _⟩
      rw [e2] at this
      exact Nx_F h (Nat.zero_le _) (e2.trans (he this).symm)
    · simp only [Bool.and_eq_true] at q
      refine Nx_bif (fun q2 => ?_) hF
      have hb1 : b = 0 := Nat.eq_of_beq_eq_true q.1
      have e1 := Nat.eq_of_beq_eq_true q.2
      subst hb1
      have hf : ((fy.1, fx.2 + fy.2) : Fm).1 ≤ cn cs := hy
      have e2 : fv σ (fy.1, fx.2 + fy.2) = zs 0 (fv σ fx) (fv σ fy) := by
        rw [fv_0 e1]
        obtain ⟨b2, c2⟩ := fy
        obtain rfl : b2 = t + 1 := e
        show σ t + (fx.2 + c2) = fx.2 + (σ t + c2)
        omega
      have := inI_ok q2 (ivf_ok h hf)
      rw [e2] at this
      exact Nx_F h hf (e2.trans (he this).symm)
    · split
      next q hq =>
        have h1 := List.find?_some hq
        have h2 := List.mem_of_find?_eq_some hq
        simp only [Bool.and_eq_true] at h1
        obtain ⟨g1, g2, g3, g4⟩ := h.2.2.1 q h2
        rw [Nat.eq_of_beq_eq_true h1.1, eqF_ok h1.2.1, eqF_ok h1.2.2] at g4
        obtain ⟨k1, k2, -, -⟩ := h.1 _ g3
        refine Nx_bif (fun q2 => ?_) hF
        have := inI_ok q2 (ivf_ok h k1)
        rw [k2, g4] at this
        exact Nx_F h k1 (by rw [k2, g4, he this])
      next =>
        refine Nx_bif (fun q2 => ?_) hF
        have a1 := arI_ok (b := b) (ivf_ok h hx) (ivf_ok h hy)
        have a2 := he (inI_ok q2 a1)
        rw [← a2] at a1
        have a3 := newB1 h a1
        refine ⟨newB_n, a3.1, a3.2.1, fun q hq => ?_, a3.2.2.2⟩
        rcases List.mem_cons.mp hq with rfl | hq
        · show fx.1 ≤ cn (newB _ _ _ _) ∧ fy.1 ≤ cn (newB _ _ _ _) ∧ cn cs < cn (newB _ _ _ _) ∧ us σ (cn cs) v (cn cs) = _
          rw [newB_n, us_at]
          refine ⟨by omega, by omega, by omega, ?_⟩
          show v = zs b (fv (us σ (cn cs) v) fx) (fv (us σ (cn cs) v) fy)
          rw [fv_agree (us_agree σ (cn cs) v) hx, fv_agree (us_agree σ (cn cs) v) hy]
          exact a2
        · exact a3.2.2.1 q hq
theorem natAbs_dvd' {c z : Int} : ((c.natAbs : Nat) : Int) ∣ c * z := by
  rcases Int.natAbs_eq c with e | e
  · exact ⟨z, by rw [← e]⟩
  · exact ⟨-z, by rw [Int.mul_neg, ← Int.neg_mul, ← e]⟩
theorem mu2_ok {cs : CS} {σ : Nat → Int} {M : Mm} {full : Iv} {fx fy : Fm} {v : Int} (h : Ok cs σ M) (hx : fx.1 ≤ cn cs) (hy : fy.1 ≤ cn cs) (hv : full.1 ≤ v ∧ v ≤ full.2) (he : full.1 ≤ fv σ fx * fv σ fy ∧ fv σ fx * fv σ fy ≤ full.2 → v = fv σ fx * fv σ fy) : Nx cs (mu2 cs full fx fy) σ v M := by
  have hF := Nx_1 h hv
  unfold mu2
  split
  next e =>
    refine Nx_bif (fun q => ?_) hF
    have a1 := nmul_ok (c := fx.2) (ivf_ok h hy)
    rw [← fv_0 (σ := σ) e] at a1 q ⊢
    have a2 := he (inI_ok q a1)
    rw [← a2] at a1
    exact Nx_B h a1 (by rw [a2]; exact natAbs_dvd')
  next e =>
    refine Nx_bif (fun q => ?_) hF
    have a1 := nmul_ok (c := fy.2) (ivf_ok h hx)
    rw [← fv_0 (σ := σ) e] at a1 q ⊢
    rw [Int.mul_comm (fv σ fx)] at he
    have a2 := he (inI_ok q a1)
    rw [← a2] at a1
    exact Nx_B h a1 (by rw [a2]; exact natAbs_dvd')
  next => exact hF
def andI (full : Iv) (fx fy : Fm) : Iv := match fy.1 with
  | 0 => bif decide (0 ≤ fy.2) && decide (fy.2 ≤ full.2) then (0, fy.2) else full
  | _ + 1 => match fx.1 with
    | 0 => bif decide (0 ≤ fx.2) && decide (fx.2 ≤ full.2) then (0, fx.2) else full
    | _ + 1 => full
theorem andI_ok {full : Iv} {fx fy : Fm} {σ : Nat → Int} {v : Int} (hv : full.1 ≤ v ∧ v ≤ full.2) (hx : 0 ≤ fv σ fx → fv σ fx ≤ full.2 → 0 ≤ v ∧ v ≤ fv σ fx) (hy : 0 ≤ fv σ fy → fv σ fy ≤ full.2 → 0 ≤ v ∧ v ≤ fv σ fy) : (andI full fx fy).1 ≤ v ∧ v ≤ (andI full fx fy).2 := by
  unfold andI
  split
  next e =>
    cases e2 : decide (0 ≤ fy.2) && decide (fy.2 ≤ full.2) with
    | true =>
      simp only [Bool.and_eq_true, decide_eq_true_eq] at e2
      rw [fv_0 e] at hy
      exact hy e2.1 e2.2
    | false => exact hv
  next =>
    split
    next e =>
      cases e2 : decide (0 ≤ fx.2) && decide (fx.2 ≤ full.2) with
      | true =>
        simp only [Bool.and_eq_true, decide_eq_true_eq] at e2
        rw [fv_0 e] at hx
        exact hx e2.1 e2.2
      | false => exact hv
    next => exact hv
def ckIb (cs : CS) (b : Nat) (fx fy : Fm) : CS := match b with
  | 0 => ar2 cs I32 0 fx fy
  | 1 => ar2 cs I32 1 fx fy
  | 2 => mu2 cs I32 fx fy
  | 3 => let q := andI I32 fx fy; newB cs q.1 q.2 1
  | 7 => bif eqF fy (0, 0) && inI (ivf cs fx) I32 then newF cs fx else newB cs I32.1 I32.2 1
  | 9 => bif inI (ivf cs fx) I32 && inI (ivf cs fy) I32 then newB cs (imax (ivf cs fx).1 (ivf cs fy).1) (imax (ivf cs fx).2 (ivf cs fy).2) 1 else newB cs I32.1 I32.2 1
  | 10 => bif inI (ivf cs fx) I32 && inI (ivf cs fy) I32 then newB cs (imin (ivf cs fx).1 (ivf cs fy).1) (imin (ivf cs fx).2 (ivf cs fy).2) 1 else newB cs I32.1 I32.2 1
  | _ => newB cs I32.1 I32.2 1
def ckLb (cs : CS) (b : Nat) (fx fy : Fm) : CS := match b with
  | 0 => ar2 cs I64 0 fx fy
  | 1 => ar2 cs I64 1 fx fy
  | 2 => mu2 cs I64 fx fy
  | 3 => let q := andI I64 fx fy; newB cs q.1 q.2 1
  | _ => newB cs I64.1 I64.2 1
theorem bvl (w : Nat) (x y : BitVec w) (h : 0 ≤ y.toInt) : 0 ≤ (x &&& y).toInt ∧ (x &&& y).toInt ≤ y.toInt := by
  have hm : y.msb = false := by
    cases e : y.msb with
    | false => rfl
    | true => have := BitVec.toInt_neg_of_msb_true e; omega
  have hm2 : (x &&& y).msb = false := by rw [BitVec.msb_and, hm, Bool.and_false]
  rw [BitVec.toInt_eq_toNat_of_msb hm, BitVec.toInt_eq_toNat_of_msb hm2, BitVec.toNat_and]
  have := Nat.and_le_right (n := x.toNat) (m := y.toNat)
  omega
theorem and32 {x y : Int} (hy : in32 y) (h : 0 ≤ y) : 0 ≤ ib 3 x y ∧ ib 3 x y ≤ y := by
  have e : (Int32.ofInt y).toBitVec.toInt = y := i32_to hy
  have := bvl 32 (Int32.ofInt x).toBitVec (Int32.ofInt y).toBitVec (by rw [e]; exact h)
  rw [e] at this
  exact this
theorem and32' {x y : Int} (hx : in32 x) (h : 0 ≤ x) : 0 ≤ ib 3 x y ∧ ib 3 x y ≤ x := by
  have := and32 (x := y) hx h
  have e : ib 3 x y = ib 3 y x := by show (_ &&& _ : Int32).toInt = (_ &&& _ : Int32).toInt; rw [Int32.and_comm]
  rw [e]
  exact this
theorem and64 {x y : Int} (hy : in64 y) (h : 0 ≤ y) : 0 ≤ lb 3 x y ∧ lb 3 x y ≤ y := by
  have e : (Int64.ofInt y).toBitVec.toInt = y := i64_to hy
  have := bvl 64 (Int64.ofInt x).toBitVec (Int64.ofInt y).toBitVec (by rw [e]; exact h)
  rw [e] at this
  exact this
theorem and64' {x y : Int} (hx : in64 x) (h : 0 ≤ x) : 0 ≤ lb 3 x y ∧ lb 3 x y ≤ x := by
  have := and64 (x := y) hx h
  have e : lb 3 x y = lb 3 y x := by show (_ &&& _ : Int64).toInt = (_ &&& _ : Int64).toInt; rw [Int64.and_comm]
  rw [e]
  exact this
theorem ib_in (b : Nat) (x y : Int) : in32 (ib b x y) := by
  unfold ib
  split <;> exact i32_r _
theorem lb_in (b : Nat) (x y : Int) : in64 (lb b x y) := by
  unfold lb
  split <;> exact i64_r _
theorem sb_in (b : Nat) (x y : Int) : in64 (sb b x y) := by
  unfold sb
  split <;> exact i64_r _
theorem mx32 {x y : Int} (hx : in32 x) (hy : in32 y) : ib 9 x y = (if x < y then y else x) := by
  show (if Int32.ofInt x < Int32.ofInt y then Int32.ofInt y else Int32.ofInt x).toInt = _
  have e : Int32.ofInt x < Int32.ofInt y ↔ x < y := by rw [Int32.lt_iff_toInt_lt, i32_to hx, i32_to hy]
  by_cases h : x < y
  · rw [if_pos h, if_pos (e.mpr h), i32_to hy]
  · rw [if_neg h, if_neg (fun q => h (e.mp q)), i32_to hx]
theorem mn32 {x y : Int} (hx : in32 x) (hy : in32 y) : ib 10 x y = (if y < x then y else x) := by
  show (if Int32.ofInt y < Int32.ofInt x then Int32.ofInt y else Int32.ofInt x).toInt = _
  have e : Int32.ofInt y < Int32.ofInt x ↔ y < x := by rw [Int32.lt_iff_toInt_lt, i32_to hx, i32_to hy]
  by_cases h : y < x
  · rw [if_pos h, if_pos (e.mpr h), i32_to hy]
  · rw [if_neg h, if_neg (fun q => h (e.mp q)), i32_to hx]
theorem sh0 {x : Int} (h : in32 x) : ib 7 x 0 = x := by
  show (Int32.ofInt x >>> (Int32.ofInt 0 &&& 31)).toInt = x
  have e : (Int32.ofInt 0 &&& 31 : Int32) = 0 := by decide
  rw [e]
  have : (Int32.ofInt x >>> (0 : Int32)) = Int32.ofInt x := by simp
  rw [this]
  exact i32_to h
theorem ckIb_ok {cs : CS} {σ : Nat → Int} {M : Mm} {b : Nat} {fx fy : Fm} (h : Ok cs σ M) (hx : fx.1 ≤ cn cs) (hy : fy.1 ≤ cn cs) : Nx cs (ckIb cs b fx fy) σ (ib b (fv σ fx) (fv σ fy)) M := by
  have hv := ib_in b (fv σ fx) (fv σ fy)
  unfold ckIb
  split
  · refine ar2_ok h hx hy (by decide) hv fun q => ?_
    show (Int32.ofInt _ + Int32.ofInt _).toInt = _
    rw [← Int32.ofInt_add]
    exact i32_to q
  · refine ar2_ok h hx hy (by decide) hv fun q => ?_
    show (Int32.ofInt _ - Int32.ofInt _).toInt = _
    rw [← Int32.ofInt_sub]
    exact i32_to q
  · refine mu2_ok h hx hy hv fun q => ?_
    show (Int32.ofInt _ * Int32.ofInt _).toInt = _
    rw [← Int32.ofInt_mul]
    exact i32_to q
  · refine Nx_1 h (andI_ok hv (fun a b => and32' ⟨by omega, b⟩ a) (fun a b => and32 ⟨by omega, b⟩ a))
  · refine Nx_bif (fun q => ?_) (Nx_1 h hv)
    simp only [Bool.and_eq_true] at q
    rw [eqF_ok q.1]
    exact Nx_F h hx (sh0 (inI_ok q.2 (ivf_ok h hx))).symm
  · refine Nx_bif (fun q => ?_) (Nx_1 h hv)
    simp only [Bool.and_eq_true] at q
    have bx := ivf_ok h hx
    have gy := ivf_ok h hy
    have rx := inI_ok q.1 bx
    have ry := inI_ok q.2 gy
    refine Nx_1 h ?_
    rw [mx32 rx ry]
    have m1 := @imax_l (ivf cs fx).2 (ivf cs fy).2
    have m2 := @imax_r (ivf cs fx).2 (ivf cs fy).2
    split
    · exact ⟨imax_le (by omega) (by omega), by omega⟩
    · exact ⟨imax_le (by omega) (by omega), by omega⟩
  · refine Nx_bif (fun q => ?_) (Nx_1 h hv)
    simp only [Bool.and_eq_true] at q
    have bx := ivf_ok h hx
    have gy := ivf_ok h hy
    have rx := inI_ok q.1 bx
    have ry := inI_ok q.2 gy
    refine Nx_1 h ?_
    rw [mn32 rx ry]
    have m1 := @imin_l (ivf cs fx).1 (ivf cs fy).1
    have m2 := @imin_r (ivf cs fx).1 (ivf cs fy).1
    split
    · exact ⟨by omega, le_imin (by omega) (by omega)⟩
    · exact ⟨by omega, le_imin (by omega) (by omega)⟩
  · exact Nx_1 h hv
theorem ckLb_ok {cs : CS} {σ : Nat → Int} {M : Mm} {b : Nat} {fx fy : Fm} (h : Ok cs σ M) (hx : fx.1 ≤ cn cs) (hy : fy.1 ≤ cn cs) : Nx cs (ckLb cs b fx fy) σ (lb b (fv σ fx) (fv σ fy)) M := by
  have hv := lb_in b (fv σ fx) (fv σ fy)
  unfold ckLb
  split
  · refine ar2_ok h hx hy (by decide) hv fun q => ?_
    show (Int64.ofInt _ + Int64.ofInt _).toInt = _
    rw [← Int64.ofInt_add]
    exact i64_to q
  · refine ar2_ok h hx hy (by decide) hv fun q => ?_
    show (Int64.ofInt _ - Int64.ofInt _).toInt = _
    rw [← Int64.ofInt_sub]
    exact i64_to q
  · refine mu2_ok h hx hy hv fun q => ?_
    show (Int64.ofInt _ * Int64.ofInt _).toInt = _
    rw [← Int64.ofInt_mul]
    exact i64_to q
  · refine Nx_1 h (andI_ok hv (fun a b => and64' ⟨by omega, b⟩ a) (fun a b => and64 ⟨by omega, b⟩ a))
  · exact Nx_1 h hv
theorem lo_in {x : Int} (h : in32 x) : lo32 x = x := by
  show (Int64.ofInt x).toInt32.toInt = x
  have h64 : in64 x := ⟨by have := h.1; omega, by have := h.2; omega⟩
  rw [Int64.toInt_toInt32, i64_to h64, Int.bmod_eq_of_le (by have := h.1; omega) (by have := h.2; omega)]
theorem cb_in (x : Int) : 0 ≤ cb x ∧ cb x ≤ 65535 := by
  unfold cb
  have e : ((Int32.ofInt x).toUInt32 % 65536).toNat < 65536 := by
    rw [UInt32.toNat_mod]
    exact Nat.mod_lt _ (by decide)
  have e2 : ((Int32.ofInt x).toUInt32 % 65536).toInt32.toInt = (((Int32.ofInt x).toUInt32 % 65536).toNat : Int) := by
    show BitVec.toInt ((Int32.ofInt x).toUInt32 % 65536).toBitVec = _
    have : ((Int32.ofInt x).toUInt32 % 65536).toBitVec.toNat < 65536 := e
    rw [BitVec.toInt_eq_toNat_of_lt (by omega)]
    rfl
  rw [e2]
  omega
end
section
/-! the cells' bounds, branches, what calls may write -/
def tiv (j s : Nat) : Iv := match TT[j]? with
  | some q => q.2.getD (s % q.1) I64
  | none => I64
def okTT (M : Mm) : Prop := ∀ j s, (tiv j s).1 ≤ M j s ∧ M j s ≤ (tiv j s).2
/-- the bounds of a cell at an index that is a form -/
def tif (cs : CS) (j : Nat) (f : Fm) : Option Iv := match TT[j]? with
  | some q => bif Nat.beq q.1 1 then some (q.2.getD 0 I64) else match f.1 with
    | 0 => some (q.2.getD (f.2.toNat % q.1) I64)
    | b + 1 => bif Nat.beq (cmo cs b % q.1) 0 then some (q.2.getD ((f.2 % (q.1 : Int)).toNat) I64) else none
  | none => some I64
theorem tif_ok {cs : CS} {σ : Nat → Int} {M : Mm} {j : Nat} {f : Fm} {q : Iv} (h : Ok cs σ M) (hf : f.1 ≤ cn cs) (h0 : 0 ≤ fv σ f) (ht : tif cs j f = some q) : tiv j (fv σ f).toNat = q := by
  unfold tif at ht
  unfold tiv
  split at ht
  next t e =>
    show t.2.getD _ I64 = q
    cases e1 : Nat.beq t.1 1 with
    | true =>
      rw [e1] at ht
      rw [Nat.eq_of_beq_eq_true e1, Nat.mod_one]
      exact Option.some.inj ht
    | false =>
      rw [e1] at ht
      obtain ⟨b, c⟩ := f
      cases b with
      | zero => exact Option.some.inj ht
      | succ b =>
        have ht : (bif Nat.beq (cmo cs b % t.1) 0 then some (t.2.getD ((c % (t.1 : Int)).toNat) I64) else none) = some q := ht
        cases e2 : Nat.beq (cmo cs b % t.1) 0 with
        | false => rw [e2] at ht; cases ht
        | true =>
          rw [e2] at ht
          rw [← Option.some.inj ht]
          congr 1
          obtain ⟨-, -, -, hd⟩ := h.1 b hf
          have hd2 : (t.1 : Int) ∣ σ b := Int.dvd_trans (Int.natCast_dvd_natCast.mpr (Nat.dvd_of_mod_eq_zero (Nat.eq_of_beq_eq_true e2))) hd
          obtain ⟨k, hk⟩ := hd2
          have h0 : 0 ≤ σ b + c := h0
          show (σ b + c).toNat % t.1 = _
          have : (((σ b + c).toNat % t.1 : Nat) : Int) = c % (t.1 : Int) := by
            rw [Int.natCast_emod, Int.toNat_of_nonneg h0, hk, Int.mul_add_emod_self_left]
          rw [← this, Int.toNat_natCast]
  next e =>
    exact Option.some.inj ht
def kfind (cs : CS) (j : Nat) (f : Fm) : Option Fm := ((ckn cs).find? (fun q => Nat.beq q.1 j && eqF q.2.1 f)).map (fun q => q.2.2)
theorem kfind_ok {cs : CS} {σ : Nat → Int} {M : Mm} {j : Nat} {f g : Fm} (h : Ok cs σ M) (hk : kfind cs j f = some g) : g.1 ≤ cn cs ∧ M j (fv σ f).toNat = fv σ g := by
  unfold kfind at hk
  rw [Option.map_eq_some_iff] at hk
  obtain ⟨q, hq, rfl⟩ := hk
  have h1 := List.find?_some hq
  have h2 := List.mem_of_find?_eq_some hq
  simp only [Bool.and_eq_true] at h1
  obtain ⟨-, g2, -, g4⟩ := h.2.1 q h2
  rw [Nat.eq_of_beq_eq_true h1.1, eqF_ok h1.2] at g4
  exact ⟨g2, g4⟩
def bfind (cs : CS) (j : Nat) (f : Fm) : Option Iv := ((cbd cs).find? (fun q => Nat.beq q.1 j && eqF q.2.1 f)).map (fun q => q.2.2)
theorem bfind_ok {cs : CS} {σ : Nat → Int} {M : Mm} {j : Nat} {f : Fm} {i : Iv} (h : Ok cs σ M) (hk : bfind cs j f = some i) : i.1 ≤ M j (fv σ f).toNat ∧ M j (fv σ f).toNat ≤ i.2 := by
  unfold bfind at hk
  rw [Option.map_eq_some_iff] at hk
  obtain ⟨q, hq, rfl⟩ := hk
  have h1 := List.find?_some hq
  have h2 := List.mem_of_find?_eq_some hq
  simp only [Bool.and_eq_true] at h1
  obtain ⟨-, -, g4⟩ := h.2.2.2 q h2
  rw [Nat.eq_of_beq_eq_true h1.1, eqF_ok h1.2] at g4
  exact g4
def ldI (cs : CS) (j : Nat) (f : Fm) : Iv := match bfind cs j f with
  | some i => i
  | none => (tif cs j f).getD I64
def ckLd (cs : CS) (j : Nat) (f : Fm) : CS := match kfind cs j f with
  | some g => newF cs g
  | none => setK (newB cs (ldI cs j f).1 (ldI cs j f).2 1) ((j, f, (cn cs + 1, 0)) :: ckn cs)
theorem newB_kn {cs : CS} {lo hi : Int} {m : Nat} : ckn (newB cs lo hi m) = ckn cs := by
  unfold newB
  rw [fI_eq, fI_eq]
  rfl
theorem ckLd_ok {cs : CS} {σ : Nat → Int} {M : Mm} {j : Nat} {f : Fm} (h : Ok cs σ M) (hT : okTT M) (h64 : in64 (M j (fv σ f).toNat)) (hf : f.1 ≤ cn cs) (h0 : 0 ≤ fv σ f) : Nx cs (ckLd cs j f) σ (M j (fv σ f).toNat) M := by
  unfold ckLd
  split
  next g hg =>
    obtain ⟨g1, g2⟩ := kfind_ok h hg
    exact Nx_F h g1 g2.symm
  next =>
    have hb : (ldI cs j f).1 ≤ M j (fv σ f).toNat ∧ M j (fv σ f).toNat ≤ (ldI cs j f).2 := by
      unfold ldI
      split
      next i hi => exact bfind_ok h hi
      next =>
        cases e : tif cs j f with
        | none => exact h64
        | some q =>
          have := hT j (fv σ f).toNat
          rw [tif_ok h hf h0 e] at this
          exact this
    have a := newB1 h hb
    refine ⟨newB_n, a.1, fun q hq => ?_, a.2.2⟩
    rcases List.mem_cons.mp hq with rfl | hq
    · show f.1 ≤ cn (newB _ _ _ _) ∧ cn cs + 1 ≤ cn (newB _ _ _ _) ∧ 0 ≤ fv (us σ (cn cs) _) f ∧ M j (fv (us σ (cn cs) _) f).toNat = us σ (cn cs) _ (cn cs) + 0
      rw [newB_n, us_at, fv_agree (us_agree σ (cn cs) _) hf]
      exact ⟨by omega, Nat.le_refl _, h0, by omega⟩
    · rw [← newB_kn (cs := cs) (lo := (ldI cs j f).1) (hi := (ldI cs j f).2) (m := 1)] at hq
      exact a.2.1 q hq
def dfF (f g : Fm) : Bool := Nat.beq f.1 g.1 && !(decide (f.2 = g.2))
def kpS (j : Nat) (f : Fm) (j' : Nat) (f' : Fm) : Bool := !(Nat.beq j' j) || dfF f' f
def ckSt (cs : CS) (j : Nat) (f g : Fm) : CS := (cn cs, cfm cs, civ cs, cmo cs, (j, f, g) :: (ckn cs).filter (fun q => kpS j f q.1 q.2.1), cdf cs, (cbd cs).filter (fun q => kpS j f q.1 q.2.1))
theorem kpS_ok {σ : Nat → Int} {M : Mm} {j j' : Nat} {f f' : Fm} {z : Int} (h0 : 0 ≤ fv σ f) (h0' : 0 ≤ fv σ f') (h : kpS j f j' f' = true) : up M j (fv σ f).toNat z j' (fv σ f').toNat = M j' (fv σ f').toNat := by
  unfold up
  rw [if_neg]
  rintro ⟨e1, e2⟩
  unfold kpS at h
  simp only [Bool.or_eq_true] at h
  rcases h with h2 | h2
  · rw [e1, show Nat.beq j j = true from Nat.beq_refl j] at h2
    cases h2
  · unfold dfF at h2
    simp only [Bool.and_eq_true, Bool.not_eq_true', decide_eq_false_iff_not] at h2
    have e3 := Nat.eq_of_beq_eq_true h2.1
    have e4 : fv σ f' = fv σ f := by omega
    apply h2.2
    obtain ⟨b1, c1⟩ := f'
    obtain ⟨b2, c2⟩ := f
    obtain rfl : b1 = b2 := e3
    cases b1 with
    | zero => exact e4
    | succ b => have e4 : σ b + c1 = σ b + c2 := e4; show c1 = c2; omega
theorem ckSt_ok {cs : CS} {σ : Nat → Int} {M : Mm} {j : Nat} {f g : Fm} (h : Ok cs σ M) (hf : f.1 ≤ cn cs) (hg : g.1 ≤ cn cs) (h0 : 0 ≤ fv σ f) : Ok (ckSt cs j f g) σ (up M j (fv σ f).toNat (fv σ g)) := by
  refine ⟨h.1, fun q hq => ?_, h.2.2.1, fun q hq => ?_⟩
  · rcases List.mem_cons.mp hq with rfl | hq
    · exact ⟨hf, hg, h0, by unfold up; rw [if_pos ⟨rfl, rfl⟩]⟩
    · obtain ⟨h1, h2⟩ := List.mem_filter.mp hq
      obtain ⟨g1, g2, g3, g4⟩ := h.2.1 q h1
      exact ⟨g1, g2, g3, by rw [kpS_ok h0 g3 h2]; exact g4⟩
  · obtain ⟨h1, h2⟩ := List.mem_filter.mp hq
    obtain ⟨g1, g3, g4⟩ := h.2.2.2 q h1
    exact ⟨g1, g3, by rw [kpS_ok h0 g3 h2]; exact g4⟩
/-! branches -/
def setI (cs : CS) (f : Fm) (lo hi : Int) : Option CS := match f.1 with
  | 0 => bif decide (lo ≤ f.2) && decide (f.2 ≤ hi) then some cs else none
  | b + 1 => fI (imax (civ cs b).1 (lo - f.2)) fun l => fI (imin (civ cs b).2 (hi - f.2)) fun h => bif decide (l ≤ h) then some (cn cs, cfm cs, fu (civ cs) b (l, h), cmo cs, ckn cs, cdf cs, cbd cs) else none
def OkO (r : Option CS) (n : Nat) (σ : Nat → Int) (M : Mm) : Prop := ∃ c1, r = some c1 ∧ Ok c1 σ M ∧ cn c1 = n ∧ True
theorem setI_ok {cs : CS} {σ : Nat → Int} {M : Mm} {f : Fm} {lo hi : Int} (h : Ok cs σ M) (hf : f.1 ≤ cn cs) (hv : lo ≤ fv σ f ∧ fv σ f ≤ hi) : OkO (setI cs f lo hi) (cn cs) σ M := by
  obtain ⟨b, c⟩ := f
  cases b with
  | zero =>
    have hv : lo ≤ c ∧ c ≤ hi := hv
    refine ⟨cs, ?_, h, rfl, trivial⟩
    show (bif decide (lo ≤ c) && decide (c ≤ hi) then some cs else none) = _
    rw [decide_eq_true hv.1, decide_eq_true hv.2]
    rfl
  | succ b =>
    have hv : lo ≤ σ b + c ∧ σ b + c ≤ hi := hv
    obtain ⟨k1, k2, k3, k4⟩ := h.1 b hf
    have e1 : imax (civ cs b).1 (lo - c) ≤ σ b := imax_le k3.1 (by omega)
    have e2 : σ b ≤ imin (civ cs b).2 (hi - c) := le_imin k3.2 (by omega)
    refine ⟨(cn cs, cfm cs, fu (civ cs) b (imax (civ cs b).1 (lo - c), imin (civ cs b).2 (hi - c)), cmo cs, ckn cs, cdf cs, cbd cs), ?_, ⟨fun j hj => ?_, h.2.1, h.2.2⟩, rfl, trivial⟩
    · show fI (imax (civ cs b).1 (lo - c)) (fun l => fI (imin (civ cs b).2 (hi - c)) fun h => bif decide (l ≤ h) then some (cn cs, cfm cs, fu (civ cs) b (l, h), cmo cs, ckn cs, cdf cs, cbd cs) else none) = _
      rw [fI_eq, fI_eq, decide_eq_true (Int.le_trans e1 e2)]
      rfl
    · obtain ⟨a1, a2, a3, a4⟩ := h.1 j hj
      refine ⟨a1, a2, ?_, a4⟩
      show (fu (civ cs) b (_, _) j).1 ≤ σ j ∧ σ j ≤ (fu (civ cs) b (_, _) j).2
      by_cases e : j = b
      · subst e
        rw [fu_at]
        exact ⟨e1, e2⟩
      · rw [fu_ne e]
        exact a3
theorem OkO.bind {r : Option CS} {n : Nat} {σ : Nat → Int} {M : Mm} {k : CS → Option CS} (h : OkO r n σ M) (hk : ∀ c1, Ok c1 σ M → cn c1 = n → OkO (k c1) n σ M) : OkO (r.bind k) n σ M := by
  obtain ⟨c1, rfl, h1, h2, -⟩ := h
  exact hk c1 h1 h2
def neI (i : Iv) (v : Int) : Iv := (bif decide (i.1 = v) then i.1 + 1 else i.1, bif decide (i.2 = v) then i.2 - 1 else i.2)
theorem neI_ok {i : Iv} {v z : Int} (h : i.1 ≤ z ∧ z ≤ i.2) (hn : z ≠ v) : (neI i v).1 ≤ z ∧ z ≤ (neI i v).2 := by
  unfold neI
  refine ⟨?_, ?_⟩
  · cases e : decide (i.1 = v) with
    | true => have := of_decide_eq_true e; show i.1 + 1 ≤ z; omega
    | false => exact h.1
  · cases e : decide (i.2 = v) with
    | true => have := of_decide_eq_true e; show z ≤ i.2 - 1; omega
    | false => exact h.2
def rfI (c : Nat) (x y : Iv) : Iv × Iv := match c with
  | 0 => (y, x)
  | 1 => (bif decide (y.1 = y.2) then neI x y.1 else x, bif decide (x.1 = x.2) then neI y x.1 else y)
  | 2 => ((x.1, y.2 - 1), (x.1 + 1, y.2))
  | 3 => ((y.1, x.2), (y.1, x.2))
  | 4 => ((y.1 + 1, x.2), (y.1, x.2 - 1))
  | _ => ((x.1, y.2), (x.1, y.2))
theorem rfI_ok {c : Nat} {x y : Iv} {u v : Int} (hx : x.1 ≤ u ∧ u ≤ x.2) (hy : y.1 ≤ v ∧ v ≤ y.2) (h : icP c u v) : ((rfI c x y).1.1 ≤ u ∧ u ≤ (rfI c x y).1.2) ∧ ((rfI c x y).2.1 ≤ v ∧ v ≤ (rfI c x y).2.2) := by
  match c, h with
  | 0, h => have h : u = v := h; subst h; exact ⟨hy, hx⟩
  | 1, h =>
    have h : u ≠ v := h
    refine ⟨?_, ?_⟩
    · show (bif decide (y.1 = y.2) then neI x y.1 else x).1 ≤ u ∧ u ≤ (bif decide (y.1 = y.2) then neI x y.1 else x).2
      cases e : decide (y.1 = y.2) with
      | true => have := of_decide_eq_true e; exact neI_ok hx (by omega)
      | false => exact hx
    · show (bif decide (x.1 = x.2) then neI y x.1 else y).1 ≤ v ∧ v ≤ (bif decide (x.1 = x.2) then neI y x.1 else y).2
      cases e : decide (x.1 = x.2) with
      | true => have := of_decide_eq_true e; exact neI_ok hy (by omega)
      | false => exact hy
  | 2, h => have h : u < v := h; show (x.1 ≤ u ∧ u ≤ y.2 - 1) ∧ (x.1 + 1 ≤ v ∧ v ≤ y.2); omega
  | 3, h => have h : v ≤ u := h; show (y.1 ≤ u ∧ u ≤ x.2) ∧ (y.1 ≤ v ∧ v ≤ x.2); omega
  | 4, h => have h : v < u := h; show (y.1 + 1 ≤ u ∧ u ≤ x.2) ∧ (y.1 ≤ v ∧ v ≤ x.2 - 1); omega
  | n + 5, h => have h : u ≤ v := h; show (x.1 ≤ u ∧ u ≤ y.2) ∧ (x.1 ≤ v ∧ v ≤ y.2); omega
def prop1 (cs : CS) (q : Nat × Fm × Fm × Nat) : Option CS :=
  let s := cfm cs q.2.2.2
  let iS := ivf cs s
  let ix := ivf cs q.2.1
  let iy := ivf cs q.2.2.1
  match q.1 with
  | 0 => (setI cs s (ix.1 + iy.1) (ix.2 + iy.2)).bind fun c1 => (setI c1 q.2.1 (iS.1 - iy.2) (iS.2 - iy.1)).bind fun c2 => setI c2 q.2.2.1 (iS.1 - ix.2) (iS.2 - ix.1)
  | _ => (setI cs s (ix.1 - iy.2) (ix.2 - iy.1)).bind fun c1 => (setI c1 q.2.1 (iS.1 + iy.1) (iS.2 + iy.2)).bind fun c2 => setI c2 q.2.2.1 (ix.1 - iS.2) (ix.2 - iS.1)
def dfOk (n : Nat) (σ : Nat → Int) (q : Nat × Fm × Fm × Nat) : Prop := q.2.1.1 ≤ n ∧ q.2.2.1.1 ≤ n ∧ q.2.2.2 < n ∧ σ q.2.2.2 = zs q.1 (fv σ q.2.1) (fv σ q.2.2.1)
theorem prop1_ok {cs : CS} {σ : Nat → Int} {M : Mm} {q : Nat × Fm × Fm × Nat} (h : Ok cs σ M) (hq : dfOk (cn cs) σ q) : OkO (prop1 cs q) (cn cs) σ M := by
  obtain ⟨b, fx, fy, t⟩ := q
  obtain ⟨hx, hy, ht, hs⟩ := hq
  have hx : fx.1 ≤ cn cs := hx
  have hy : fy.1 ≤ cn cs := hy
  have hs : σ t = zs b (fv σ fx) (fv σ fy) := hs
  obtain ⟨k1, k2, -, -⟩ := h.1 t ht
  rw [← k2] at hs
  have iS := ivf_ok h k1
  have ix := ivf_ok h hx
  have iy := ivf_ok h hy
  cases b with
  | zero =>
    have hs : fv σ (cfm cs t) = fv σ fx + fv σ fy := hs
    show OkO ((setI cs (cfm cs t) ((ivf cs fx).1 + (ivf cs fy).1) ((ivf cs fx).2 + (ivf cs fy).2)).bind fun c1 => (setI c1 fx ((ivf cs (cfm cs t)).1 - (ivf cs fy).2) ((ivf cs (cfm cs t)).2 - (ivf cs fy).1)).bind fun c2 => setI c2 fy ((ivf cs (cfm cs t)).1 - (ivf cs fx).2) ((ivf cs (cfm cs t)).2 - (ivf cs fx).1)) _ _ _
    refine (setI_ok h k1 (by omega)).bind fun c1 h1 e1 => ?_
    rw [← e1] at hx hy ⊢
    refine (setI_ok (f := fx) h1 hx (by omega)).bind fun c2 h2 e2 => ?_
    rw [← e2] at hy ⊢
    exact setI_ok (f := fy) h2 hy (by omega)
  | succ b =>
    have hs : fv σ (cfm cs t) = fv σ fx - fv σ fy := hs
    show OkO ((setI cs (cfm cs t) ((ivf cs fx).1 - (ivf cs fy).2) ((ivf cs fx).2 - (ivf cs fy).1)).bind fun c1 => (setI c1 fx ((ivf cs (cfm cs t)).1 + (ivf cs fy).1) ((ivf cs (cfm cs t)).2 + (ivf cs fy).2)).bind fun c2 => setI c2 fy ((ivf cs fx).1 - (ivf cs (cfm cs t)).2) ((ivf cs fx).2 - (ivf cs (cfm cs t)).1)) _ _ _
    refine (setI_ok h k1 (by omega)).bind fun c1 h1 e1 => ?_
    rw [← e1] at hx hy ⊢
    refine (setI_ok (f := fx) h1 hx (by omega)).bind fun c2 h2 e2 => ?_
    rw [← e2] at hy ⊢
    exact setI_ok (f := fy) h2 hy (by omega)
def propAll : List (Nat × Fm × Fm × Nat) → CS → Option CS
  | [], cs => some cs
  | q :: l, cs => (prop1 cs q).bind (propAll l)
theorem propAll_ok {σ : Nat → Int} {M : Mm} : ∀ {l : List (Nat × Fm × Fm × Nat)} {cs : CS}, Ok cs σ M → (∀ q ∈ l, dfOk (cn cs) σ q) → OkO (propAll l cs) (cn cs) σ M := by
  intro l
  induction l with
  | nil => intro cs h _; exact ⟨cs, rfl, h, rfl, trivial⟩
  | cons q l ih =>
    intro cs h hl
    refine (prop1_ok h (hl q List.mem_cons_self)).bind fun c1 h1 e1 => ?_
    rw [← e1] at hl ⊢
    exact ih h1 (fun u hu => hl u (List.mem_cons_of_mem _ hu))
def refine1 (cs : CS) (c : Nat) (fx fy : Fm) : Option CS :=
  bif Nat.beq fx.1 fy.1 then (bif icB c fx.2 fy.2 then some cs else none)
  else
    let q := rfI c (ivf cs fx) (ivf cs fy)
    (setI cs fx q.1.1 q.1.2).bind fun c1 => (setI c1 fy q.2.1 q.2.2).bind fun c2 => propAll (cdf c2) c2
theorem icP_add {c : Nat} {z x y : Int} (h : icP c (z + x) (z + y)) : icP c x y := by
  match c, h with
  | 0, h => have h : z + x = z + y := h; show x = y; omega
  | 1, h => have h : z + x ≠ z + y := h; show x ≠ y; omega
  | 2, h => have h : z + x < z + y := h; show x < y; omega
  | 3, h => have h : z + y ≤ z + x := h; show y ≤ x; omega
  | 4, h => have h : z + y < z + x := h; show y < x; omega
  | n + 5, h => have h : z + x ≤ z + y := h; show x ≤ y; omega
theorem refine1_ok {cs : CS} {σ : Nat → Int} {M : Mm} {c : Nat} {fx fy : Fm} (h : Ok cs σ M) (hx : fx.1 ≤ cn cs) (hy : fy.1 ≤ cn cs) (hc : icP c (fv σ fx) (fv σ fy)) : OkO (refine1 cs c fx fy) (cn cs) σ M := by
  unfold refine1
  cases e : Nat.beq fx.1 fy.1 with
  | true =>
    have e1 := Nat.eq_of_beq_eq_true e
    have hc2 : icP c fx.2 fy.2 := by
      obtain ⟨b, x⟩ := fx
      obtain ⟨b2, y⟩ := fy
      obtain rfl : b = b2 := e1
      cases b with
      | zero => exact hc
      | succ b => exact icP_add (z := σ b) hc
    refine ⟨cs, ?_, h, rfl, trivial⟩
    show (bif icB c fx.2 fy.2 then some cs else none) = some cs
    rw [icB_iff.mpr hc2]
    rfl
  | false =>
    obtain ⟨r1, r2⟩ := rfI_ok (ivf_ok h hx) (ivf_ok h hy) hc
    refine (setI_ok h hx r1).bind fun c1 h1 e1 => ?_
    rw [← e1] at hy ⊢
    refine (setI_ok h1 hy r2).bind fun c2 h2 e2 => ?_
    rw [← e2]
    exact propAll_ok h2 h2.2.2.1
def negC (c : Nat) : Nat := match c with
  | 0 => 1
  | 1 => 0
  | 2 => 3
  | 3 => 2
  | 4 => 5
  | _ => 4
theorem negC_ok {c : Nat} {x y : Int} (h : ¬ icP c x y) : icP (negC c) x y := by
  match c, h with
  | 0, h => exact h
  | 1, h => have h : ¬ ¬ (x = y) := h; exact Classical.not_not.mp h
  | 2, h => exact Int.not_lt.mp h
  | 3, h => exact Int.not_le.mp h
  | 4, h => exact Int.not_lt.mp h
  | n + 5, h => exact Int.not_le.mp h
/-! what may be written -/
abbrev Wl : Type := List (Nat × Nat)
def wOf (W : Wl) (j s : Nat) : Bool := W.any (fun q => Nat.beq q.1 j && (Nat.beq q.2 0 || Nat.beq q.2 (s + 1)))
/-- may be written, at an index that is a form -/
def wf (W : Wl) (j : Nat) (f : Fm) : Bool := W.any (fun q => Nat.beq q.1 j && (Nat.beq q.2 0 || (Nat.beq f.1 0 && Nat.beq q.2 (f.2.toNat + 1))))
theorem wf_ok {W : Wl} {j : Nat} {f : Fm} {σ : Nat → Int} (h : wf W j f = true) : wOf W j (fv σ f).toNat = true := by
  unfold wf at h
  unfold wOf
  rw [List.any_eq_true] at h ⊢
  obtain ⟨q, hq, h1⟩ := h
  refine ⟨q, hq, ?_⟩
  simp only [Bool.and_eq_true, Bool.or_eq_true] at h1 ⊢
  refine ⟨h1.1, ?_⟩
  rcases h1.2 with h2 | h2
  · exact Or.inl h2
  · right
    rw [fv_0 (Nat.eq_of_beq_eq_true h2.1)]
    exact h2.2
def FrM (W : Wl) (M0 M : Mm) : Prop := ∀ j s, wOf W j s = false → M j s = M0 j s
theorem FrM_up {W : Wl} {M0 M : Mm} {j s : Nat} {z : Int} (h : FrM W M0 M) (hw : wOf W j s = true) : FrM W M0 (up M j s z) := by
  intro a b hab
  unfold up
  split
  next q => obtain ⟨rfl, rfl⟩ := q; rw [hw] at hab; cases hab
  next => exact h a b hab
def wSub (W V : Wl) : Bool := W.all (fun q => V.any (fun u => Nat.beq u.1 q.1 && (Nat.beq u.2 0 || Nat.beq u.2 q.2)))
theorem wSub_ok {W V : Wl} (h : wSub W V = true) {j s : Nat} (hw : wOf W j s = true) : wOf V j s = true := by
  unfold wSub at h
  unfold wOf at hw ⊢
  rw [List.any_eq_true] at hw ⊢
  obtain ⟨q, hq, h1⟩ := hw
  obtain ⟨u, hu, h2⟩ := List.any_eq_true.mp (List.all_eq_true.mp h q hq)
  refine ⟨u, hu, ?_⟩
  simp only [Bool.and_eq_true, Bool.or_eq_true] at h1 h2 ⊢
  rw [Nat.eq_of_beq_eq_true h2.1]
  refine ⟨h1.1, ?_⟩
  rcases h2.2 with e | e
  · exact Or.inl e
  · rw [Nat.eq_of_beq_eq_true e]
    exact h1.2
theorem FrM_sub {W V : Wl} {M0 M M' : Mm} (h0 : FrM V M0 M) (hs : wSub W V = true) (h : FrM W M M') : FrM V M0 M' := by
  intro j s hw
  rw [h j s, h0 j s hw]
  cases e : wOf W j s with
  | false => rfl
  | true => rw [wSub_ok hs e] at hw; cases hw
def kpW (W : Wl) (j : Nat) (f : Fm) : Bool := !(W.any (fun u => Nat.beq u.1 j && (Nat.beq u.2 0 || (!(Nat.beq f.1 0) || Nat.beq u.2 (f.2.toNat + 1)))))
def keepW (W : Wl) (cs : CS) : CS := (cn cs, cfm cs, civ cs, cmo cs, (ckn cs).filter (fun q => kpW W q.1 q.2.1), cdf cs, (cbd cs).filter (fun q => kpW W q.1 q.2.1))
theorem kpW_ok {W : Wl} {σ : Nat → Int} {M M' : Mm} {j : Nat} {f : Fm} (hF : FrM W M M') (h2 : kpW W j f = true) : M' j (fv σ f).toNat = M j (fv σ f).toNat := by
  apply hF
  cases e : wOf W j (fv σ f).toNat with
  | false => rfl
  | true =>
    unfold wOf at e
    rw [List.any_eq_true] at e
    obtain ⟨u, hu, h3⟩ := e
    unfold kpW at h2
    simp only [Bool.and_eq_true, Bool.or_eq_true] at h3
    simp only [Bool.not_eq_true', List.any_eq_false] at h2
    refine absurd ?_ (h2 u hu)
    simp only [Bool.and_eq_true, Bool.or_eq_true, Bool.not_eq_true']
    refine ⟨h3.1, ?_⟩
    rcases h3.2 with h4 | h4
    · exact Or.inl h4
    · right
      cases e5 : Nat.beq f.1 0 with
      | false => exact Or.inl rfl
      | true =>
        right
        rw [fv_0 (Nat.eq_of_beq_eq_true e5)] at h4
        exact h4
theorem keepW_ok {W : Wl} {cs : CS} {σ : Nat → Int} {M M' : Mm} (h : Ok cs σ M) (hF : FrM W M M') : Ok (keepW W cs) σ M' := by
  refine ⟨h.1, fun q hq => ?_, h.2.2.1, fun q hq => ?_⟩
  · obtain ⟨h1, h2⟩ := List.mem_filter.mp hq
    obtain ⟨g1, g2, g3, g4⟩ := h.2.1 q h1
    exact ⟨g1, g2, g3, by rw [kpW_ok hF h2]; exact g4⟩
  · obtain ⟨h1, h2⟩ := List.mem_filter.mp hq
    obtain ⟨g1, g3, g4⟩ := h.2.2.2 q h1
    exact ⟨g1, g3, by rw [kpW_ok hF h2]; exact g4⟩
theorem okTT_up {M : Mm} {j s : Nat} {z : Int} (h : okTT M) (hz : (tiv j s).1 ≤ z ∧ z ≤ (tiv j s).2) : okTT (up M j s z) := by
  intro a b
  unfold up
  split
  next q => obtain ⟨rfl, rfl⟩ := q; exact hz
  next => exact h a b
end
section
/-! what is known of methods: arguments, the answer's bounds, what may be written, depth -/
abbrev Pat : Type := Nat × Int × Int
/-- a field with bounds, and one way to come back: the answer's bounds, fields with theirs -/
abbrev Fl : Type := Nat × Nat × Int × Int
abbrev Out : Type := Iv × List Fl
abbrev Spec : Type := Nat × List Pat × List Out × Wl × Nat
def patV (p : Pat) (v : V) : Prop := match p.1 with
  | 0 => ∃ z, v = vI z ∧ p.2.1 ≤ z ∧ z ≤ p.2.2
  | 1 => ∃ z, v = vL z ∧ p.2.1 ≤ z ∧ z ≤ p.2.2
  | t + 2 => v = vR t p.2.1.toNat
def patsV : List Pat → List V → Prop
  | [], [] => True
  | p :: ps, v :: vs => patV p v ∧ patsV ps vs
  | _, _ => False
def patA (cs : CS) (p : Pat) (a : AV) : Bool := match p.1 with
  | 0 => isI a && (wAb (cn cs) a && inI (ivf cs (af cs a)) (p.2.1, p.2.2))
  | 1 => isL a && (wAb (cn cs) a && inI (ivf cs (af cs a)) (p.2.1, p.2.2))
  | t + 2 => Nat.beq a.1 (t + 4) && decide (a.2 = p.2.1)
def patsA (cs : CS) : List Pat → List AV → Bool
  | [], [] => true
  | p :: ps, a :: as => patA cs p a && patsA cs ps as
  | _, _ => false
theorem patA_ok {cs : CS} {σ : Nat → Int} {M : Mm} {p : Pat} {a : AV} (h : Ok cs σ M) (hp : patA cs p a = true) : patV p (ev σ a) := by
  obtain ⟨t, lo, hi⟩ := p
  match t, hp with
  | 0, hp =>
    have hp : (isI a && (wAb (cn cs) a && inI (ivf cs (af cs a)) (lo, hi))) = true := hp
    simp only [Bool.and_eq_true] at hp
    obtain ⟨a1, a2⟩ := af_ok h hp.2.1
    have b := inI_ok hp.2.2 (ivf_ok h a1)
    rw [a2] at b
    exact ⟨nm σ a, ev_I hp.1, b.1, b.2⟩
  | 1, hp =>
    have hp : (isL a && (wAb (cn cs) a && inI (ivf cs (af cs a)) (lo, hi))) = true := hp
    simp only [Bool.and_eq_true] at hp
    obtain ⟨a1, a2⟩ := af_ok h hp.2.1
    have b := inI_ok hp.2.2 (ivf_ok h a1)
    rw [a2] at b
    exact ⟨nm σ a, ev_L hp.1, b.1, b.2⟩
  | t + 2, hp =>
    have hp : (Nat.beq a.1 (t + 4) && decide (a.2 = lo)) = true := hp
    simp only [Bool.and_eq_true, decide_eq_true_eq] at hp
    obtain ⟨u, c⟩ := a
    obtain rfl : u = t + 4 := Nat.eq_of_beq_eq_true hp.1
    obtain rfl : c = lo := hp.2
    rfl
theorem patsA_ok {cs : CS} {σ : Nat → Int} {M : Mm} (h : Ok cs σ M) : ∀ {ps : List Pat} {as : List AV}, patsA cs ps as = true → patsV ps (as.map (ev σ)) := by
  intro ps
  induction ps with
  | nil => intro as hp; cases as with
    | nil => trivial
    | cons a as => cases hp
  | cons p ps ih => intro as hp; cases as with
    | nil => cases hp
    | cons a as =>
      have hp : (patA cs p a && patsA cs ps as) = true := hp
      simp only [Bool.and_eq_true] at hp
      exact ⟨patA_ok h hp.1, ih hp.2⟩
/-! a measure that falls -/
abbrev Lin : Type := Int × Fm × Int
def linV (σ : Nat → Int) (e : Lin) : Int := e.1 * fv σ e.2.1 + e.2.2
def linI (cs : CS) (e : Lin) : Iv := let q := nmul e.1 (ivf cs e.2.1); (q.1 + e.2.2, q.2 + e.2.2)
def linS (e : Lin) : Lin := (e.1, (e.2.1.1, 0), e.2.2 + e.1 * e.2.1.2)
def ltL (cs : CS) (a b : Lin) : Bool :=
  let x := linS a
  let y := linS b
  (decide (x.1 = y.1) && ((decide (x.1 = 0) || Nat.beq x.2.1.1 y.2.1.1) && decide (x.2.2 < y.2.2))) || decide ((linI cs a).2 < (linI cs b).1)
def eqL (a b : Lin) : Bool :=
  let x := linS a
  let y := linS b
  decide (x.1 = y.1) && ((decide (x.1 = 0) || Nat.beq x.2.1.1 y.2.1.1) && decide (x.2.2 = y.2.2))
def lexL (cs : CS) : List Lin → List Lin → Bool
  | a :: as, b :: bs => ltL cs a b || (eqL a b && lexL cs as bs)
  | _, _ => false
def bdL (cs : CS) (e : Lin) : Bool := inI (linI cs e) (0, 1099511627775)
theorem linI_ok {cs : CS} {σ : Nat → Int} {M : Mm} {e : Lin} (h : Ok cs σ M) (he : e.2.1.1 ≤ cn cs) : (linI cs e).1 ≤ linV σ e ∧ linV σ e ≤ (linI cs e).2 := by
  have := nmul_ok (c := e.1) (ivf_ok h he)
  unfold linI linV
  dsimp only
  omega
theorem fv_split {σ : Nat → Int} {f : Fm} : fv σ f = fv σ (f.1, 0) + f.2 := by
  obtain ⟨b, c⟩ := f
  cases b with
  | zero => show c = 0 + c; omega
  | succ b => show σ b + c = σ b + 0 + c; omega
theorem linS_ok {σ : Nat → Int} {e : Lin} : linV σ (linS e) = linV σ e := by
  show e.1 * fv σ (e.2.1.1, 0) + (e.2.2 + e.1 * e.2.1.2) = e.1 * fv σ e.2.1 + e.2.2
  rw [fv_split (f := e.2.1), Int.mul_add]
  omega
theorem linN {σ : Nat → Int} {x y : Lin} (h1 : x.1 = y.1) (h2 : x.1 = 0 ∨ x.2.1.1 = y.2.1.1) (hx : x.2.1.2 = 0) (hy : y.2.1.2 = 0) : linV σ x - x.2.2 = linV σ y - y.2.2 := by
  obtain ⟨a, ⟨b, c⟩, d⟩ := x
  obtain ⟨a2, ⟨b2, c2⟩, d2⟩ := y
  obtain rfl : a = a2 := h1
  obtain rfl : c = 0 := hx
  obtain rfl : c2 = 0 := hy
  show a * fv σ (b, 0) + d - d = a * fv σ (b2, 0) + d2 - d2
  rcases h2 with h2 | h2
  · obtain rfl : a = 0 := h2
    rw [Int.zero_mul, Int.zero_mul]
    omega
  · obtain rfl : b = b2 := h2
    omega
theorem ltL_ok {cs : CS} {σ : Nat → Int} {M : Mm} {a b : Lin} (h : Ok cs σ M) (ha : a.2.1.1 ≤ cn cs) (hb : b.2.1.1 ≤ cn cs) (hl : ltL cs a b = true) : linV σ a < linV σ b := by
  unfold ltL at hl
  simp only [Bool.and_eq_true, Bool.or_eq_true, decide_eq_true_eq] at hl
  rcases hl with ⟨h1, h2, h3⟩ | h1
  · have := linN (σ := σ) h1 (h2.imp id Nat.eq_of_beq_eq_true) rfl rfl
    rw [linS_ok, linS_ok] at this
    omega
  · have e1 := linI_ok h ha
    have e2 := linI_ok h hb
    omega
theorem eqL_ok {σ : Nat → Int} {a b : Lin} (hl : eqL a b = true) : linV σ a = linV σ b := by
  unfold eqL at hl
  simp only [Bool.and_eq_true, Bool.or_eq_true, decide_eq_true_eq] at hl
  obtain ⟨h1, h2, h3⟩ := hl
  have := linN (σ := σ) h1 (h2.imp id Nat.eq_of_beq_eq_true) rfl rfl
  rw [linS_ok, linS_ok] at this
  omega
def tot : List Int → Nat
  | [] => 0
  | z :: l => z.toNat * 1099511627776 ^ l.length + tot l
theorem tot_lt : ∀ {l : List Int}, (∀ z ∈ l, 0 ≤ z ∧ z ≤ 1099511627775) → tot l < 1099511627776 ^ l.length := by
  intro l
  induction l with
  | nil => intro _; exact Nat.one_pos
  | cons z l ih =>
    intro h
    have h1 := ih (fun y hy => h y (List.mem_cons_of_mem _ hy))
    have h2 := h z List.mem_cons_self
    show z.toNat * 1099511627776 ^ l.length + tot l < 1099511627776 ^ (l.length + 1)
    rw [Nat.pow_succ, Nat.mul_comm (1099511627776 ^ l.length)]
    have h3 : (z.toNat + 1) * 1099511627776 ^ l.length ≤ 1099511627776 * 1099511627776 ^ l.length := Nat.mul_le_mul_right _ (by omega)
    rw [Nat.add_mul, Nat.one_mul] at h3
    omega
theorem lexL_ok {cs : CS} {σ : Nat → Int} {M : Mm} (h : Ok cs σ M) : ∀ {as bs : List Lin}, (∀ e ∈ as, e.2.1.1 ≤ cn cs ∧ bdL cs e = true) → (∀ e ∈ bs, e.2.1.1 ≤ cn cs ∧ bdL cs e = true) → as.length = bs.length → lexL cs as bs = true → tot (as.map (linV σ)) < tot (bs.map (linV σ)) := by
  intro as
  have bd : ∀ {e : Lin}, e.2.1.1 ≤ cn cs → bdL cs e = true → 0 ≤ linV σ e ∧ linV σ e ≤ 1099511627775 := fun h1 h2 => inI_ok h2 (linI_ok h h1)
  induction as with
  | nil => intro bs _ _ _ hl; cases bs <;> cases hl
  | cons a as ih =>
    intro bs ha hb hlen hl
    cases bs with
    | nil => cases hl
    | cons b bs =>
      have hlen2 : as.length = bs.length := by simpa using hlen
      have ha1 := ha a List.mem_cons_self
      have hb1 := hb b List.mem_cons_self
      have hl : (ltL cs a b || (eqL a b && lexL cs as bs)) = true := hl
      show (linV σ a).toNat * 1099511627776 ^ (as.map (linV σ)).length + tot (as.map (linV σ)) < (linV σ b).toNat * 1099511627776 ^ (bs.map (linV σ)).length + tot (bs.map (linV σ))
      rw [List.length_map, List.length_map, hlen2]
      simp only [Bool.or_eq_true, Bool.and_eq_true] at hl
      rcases hl with h1 | h1
      · have q := ltL_ok h ha1.1 hb1.1 h1
        have ra := bd ha1.1 ha1.2
        have t := tot_lt (l := as.map (linV σ)) (fun z hz => by
          obtain ⟨e, he, rfl⟩ := List.mem_map.mp hz
          have := ha e (List.mem_cons_of_mem _ he)
          exact bd this.1 this.2)
        rw [List.length_map, hlen2] at t
        have h3 : ((linV σ a).toNat + 1) * 1099511627776 ^ bs.length ≤ (linV σ b).toNat * 1099511627776 ^ bs.length := Nat.mul_le_mul_right _ (by omega)
        rw [Nat.add_mul, Nat.one_mul] at h3
        omega
      · rw [eqL_ok (σ := σ) h1.1]
        have := ih (fun e he => ha e (List.mem_cons_of_mem _ he)) (fun e he => hb e (List.mem_cons_of_mem _ he)) hlen2 h1.2
        omega
/-! a marked place: locals, their patterns, fields that are followed with their bounds, what falls, sums and differences with their bounds -/
abbrev Df : Type := Nat × Nat × Nat × Int × Int
abbrev Cut : Type := Nat × List Nat × List Pat × List Fl × List (Int × Nat × Int) × List Df
def avF (cs : CS) (a : AV) : Fm := bif isI a || isL a then af cs a else (0, 0)
def fldF (cs : CS) : List Fl → Option (List Fm)
  | [] => some []
  | q :: l => match kfind cs q.1 (0, (q.2.1 : Int)), fldF cs l with
    | some f, some fs => bif inI (ivf cs f) (q.2.2.1, q.2.2.2) then some (f :: fs) else none
    | _, _ => none
def meas (fs : List Fm) (ms : List (Int × Nat × Int)) : List Lin := ms.map (fun q => (q.1, fs.getD q.2.1 (0, 0), q.2.2))
def frF (cs : CS) (c : Cut) (as : List AV) : Option (List Fm) := match fldF cs c.2.2.2.1 with
  | some fs => some (as.map (avF cs) ++ fs)
  | none => none
/-- the same in numbers -/
def flV (c : Cut) (M : Mm) : Prop := ∀ q ∈ c.2.2.2.1, q.2.2.1 ≤ M q.1 q.2.1 ∧ M q.1 q.2.1 ≤ q.2.2.2
def vsV (c : Cut) (vs : List V) (M : Mm) : List Int := vs.map (fun v => oz (some v)) ++ c.2.2.2.1.map (fun q => M q.1 q.2.1)
def msV (c : Cut) (vs : List V) (M : Mm) : Nat := tot (c.2.2.2.2.1.map (fun q => q.1 * (vsV c vs M).getD q.2.1 0 + q.2.2))
def dfV (c : Cut) (vs : List V) (M : Mm) : Prop := ∀ d ∈ c.2.2.2.2.2, d.2.2.2.1 ≤ zs d.1 ((vsV c vs M).getD d.2.1 0) ((vsV c vs M).getD d.2.2.1 0) ∧ zs d.1 ((vsV c vs M).getD d.2.1 0) ((vsV c vs M).getD d.2.2.1 0) ≤ d.2.2.2.2
theorem avF_ok {cs : CS} {σ : Nat → Int} {M : Mm} {a : AV} (h : Ok cs σ M) (hw : wAb (cn cs) a = true) : (avF cs a).1 ≤ cn cs ∧ fv σ (avF cs a) = oz (some (ev σ a)) := by
  obtain ⟨a1, a2⟩ := af_ok h hw
  unfold avF
  cases e : isI a with
  | true =>
    rw [ev_I e]
    exact ⟨a1, a2⟩
  | false =>
    cases e2 : isL a with
    | true =>
      rw [ev_L e2]
      exact ⟨a1, a2⟩
    | false =>
      refine ⟨Nat.zero_le _, ?_⟩
      obtain ⟨t, c⟩ := a
      match t, e, e2 with
      | n + 4, _, _ => rfl
theorem fldF_ok {cs : CS} {σ : Nat → Int} {M : Mm} (h : Ok cs σ M) : ∀ {l : List Fl} {fs : List Fm}, fldF cs l = some fs → (∀ f ∈ fs, f.1 ≤ cn cs) ∧ fs.map (fv σ) = l.map (fun q => M q.1 q.2.1) ∧ ∀ q ∈ l, q.2.2.1 ≤ M q.1 q.2.1 ∧ M q.1 q.2.1 ≤ q.2.2.2 := by
  intro l
  induction l with
  | nil => intro fs hf; obtain rfl := Option.some.inj hf; exact ⟨fun f hf => (by cases hf), rfl, fun q hq => (by cases hq)⟩
  | cons q l ih =>
    intro fs hf
    unfold fldF at hf
    split at hf
    next f fs' hk hl =>
      obtain ⟨k1, k2⟩ := kfind_ok h hk
      have k2 : M q.1 ((q.2.1 : Int)).toNat = fv σ f := k2
      rw [Int.toNat_natCast] at k2
      obtain ⟨i1, i2, i3⟩ := ih hl
      cases e : inI (ivf cs f) (q.2.2.1, q.2.2.2) with
      | false => rw [e] at hf; cases hf
      | true =>
        rw [e] at hf
        obtain rfl := Option.some.inj hf
        have b := inI_ok e (ivf_ok h k1)
        rw [← k2] at b
        refine ⟨List.forall_mem_cons.mpr ⟨k1, i1⟩, ?_, List.forall_mem_cons.mpr ⟨b, i3⟩⟩
        rw [List.map_cons, List.map_cons, i2, k2]
    next => cases hf
theorem frF_ok {cs : CS} {σ : Nat → Int} {M : Mm} {c : Cut} {as : List AV} {fs : List Fm} (h : Ok cs σ M) (hw : ∀ a ∈ as, wAb (cn cs) a = true) (hm : frF cs c as = some fs) : (∀ f ∈ fs, f.1 ≤ cn cs) ∧ (∀ n : Nat, (fs.getD n (0, 0)).1 ≤ cn cs ∧ fv σ (fs.getD n (0, 0)) = (vsV c (as.map (ev σ)) M).getD n 0) ∧ flV c M := by
  unfold frF at hm
  split at hm
  next gs hf =>
    obtain ⟨f1, f2, f3⟩ := fldF_ok h hf
    obtain rfl := Option.some.inj hm
    have hall : ∀ f ∈ as.map (avF cs) ++ gs, f.1 ≤ cn cs := by
      intro f hf
      rcases List.mem_append.mp hf with hf | hf
      · obtain ⟨a, ha, rfl⟩ := List.mem_map.mp hf
        exact (avF_ok h (hw a ha)).1
      · exact f1 f hf
    have hmap : (as.map (avF cs) ++ gs).map (fv σ) = vsV c (as.map (ev σ)) M := by
      unfold vsV
      rw [List.map_append, f2, List.map_map, List.map_map]
      congr 1
      exact List.map_congr_left fun a ha => (avF_ok h (hw a ha)).2
    refine ⟨hall, fun n => ⟨?_, ?_⟩, f3⟩
    · rw [List.getD_eq_getElem?_getD]
      cases e3 : (as.map (avF cs) ++ gs)[n]? with
      | none => exact Nat.zero_le _
      | some f => exact hall f (List.mem_of_getElem? e3)
    · rw [← hmap, List.getD_eq_getElem?_getD, List.getD_eq_getElem?_getD, List.getElem?_map]
      cases (as.map (avF cs) ++ gs)[n]? <;> rfl
  next => cases hm
theorem meas_ok {cs : CS} {σ : Nat → Int} {M : Mm} {c : Cut} {as : List AV} {fs : List Fm} (h : Ok cs σ M) (hw : ∀ a ∈ as, wAb (cn cs) a = true) (hm : frF cs c as = some fs) (hb : (meas fs c.2.2.2.2.1).all (bdL cs) = true) : (∀ e ∈ meas fs c.2.2.2.2.1, e.2.1.1 ≤ cn cs ∧ bdL cs e = true) ∧ tot ((meas fs c.2.2.2.2.1).map (linV σ)) = msV c (as.map (ev σ)) M := by
  obtain ⟨-, g, -⟩ := frF_ok h hw hm
  rw [List.all_eq_true] at hb
  refine ⟨fun u hu => ⟨?_, hb u hu⟩, ?_⟩
  · obtain ⟨q, hq, rfl⟩ := List.mem_map.mp hu
    exact (g q.2.1).1
  · unfold msV meas
    rw [List.map_map]
    congr 1
    refine List.map_congr_left fun q hq => ?_
    show q.1 * fv σ _ + q.2.2 = _
    rw [(g q.2.1).2]
/-! sums and differences at a marked place -/
def dfI (cs : CS) (b : Nat) (f g : Fm) : Iv := match (cdf cs).find? (fun q => Nat.beq q.1 b && (Nat.beq q.2.1.1 f.1 && Nat.beq q.2.2.1.1 g.1)) with
  | some q => let i := ivf cs (cfm cs q.2.2.2); let c := zs b (f.2 - q.2.1.2) (g.2 - q.2.2.1.2); (i.1 + c, i.2 + c)
  | none => bif Nat.beq b 1 && Nat.beq f.1 g.1 then (f.2 - g.2, f.2 - g.2) else arI b (ivf cs f) (ivf cs g)
def dfB (cs : CS) (fs : List Fm) (d : Df) : Bool := inI (dfI cs d.1 (fs.getD d.2.1 (0, 0)) (fs.getD d.2.2.1 (0, 0))) (d.2.2.2.1, d.2.2.2.2)
theorem fv_base {σ : Nat → Int} {f g : Fm} (h : f.1 = g.1) : fv σ g = fv σ f + (g.2 - f.2) := by
  have a := fv_split (σ := σ) (f := f)
  have b := fv_split (σ := σ) (f := g)
  rw [h] at a
  omega
theorem dfI_ok {cs : CS} {σ : Nat → Int} {M : Mm} {b : Nat} {f g : Fm} (h : Ok cs σ M) (hf : f.1 ≤ cn cs) (hg : g.1 ≤ cn cs) : (dfI cs b f g).1 ≤ zs b (fv σ f) (fv σ g) ∧ zs b (fv σ f) (fv σ g) ≤ (dfI cs b f g).2 := by
  unfold dfI
  split
  next q hq =>
    have h1 := List.find?_some hq
    have h2 := List.mem_of_find?_eq_some hq
    simp only [Bool.and_eq_true] at h1
    obtain ⟨g1, g2, g3, g4⟩ := h.2.2.1 q h2
    obtain ⟨k1, k2, -, -⟩ := h.1 _ g3
    have i := ivf_ok h k1
    rw [k2, g4, Nat.eq_of_beq_eq_true h1.1] at i
    have e1 := fv_base (σ := σ) (Nat.eq_of_beq_eq_true h1.2.1)
    have e2 := fv_base (σ := σ) (Nat.eq_of_beq_eq_true h1.2.2)
    dsimp only
    cases b with
    | zero =>
      have i : (ivf cs (cfm cs q.2.2.2)).1 ≤ fv σ q.2.1 + fv σ q.2.2.1 ∧ fv σ q.2.1 + fv σ q.2.2.1 ≤ (ivf cs (cfm cs q.2.2.2)).2 := i
      show (ivf cs (cfm cs q.2.2.2)).1 + ((f.2 - q.2.1.2) + (g.2 - q.2.2.1.2)) ≤ fv σ f + fv σ g ∧ fv σ f + fv σ g ≤ (ivf cs (cfm cs q.2.2.2)).2 + ((f.2 - q.2.1.2) + (g.2 - q.2.2.1.2))
      omega
    | succ b =>
      have i : (ivf cs (cfm cs q.2.2.2)).1 ≤ fv σ q.2.1 - fv σ q.2.2.1 ∧ fv σ q.2.1 - fv σ q.2.2.1 ≤ (ivf cs (cfm cs q.2.2.2)).2 := i
      show (ivf cs (cfm cs q.2.2.2)).1 + ((f.2 - q.2.1.2) - (g.2 - q.2.2.1.2)) ≤ fv σ f - fv σ g ∧ fv σ f - fv σ g ≤ (ivf cs (cfm cs q.2.2.2)).2 + ((f.2 - q.2.1.2) - (g.2 - q.2.2.1.2))
      omega
  next =>
    cases e : Nat.beq b 1 && Nat.beq f.1 g.1 with
    | true =>
      rw [Bool.and_eq_true] at e
      obtain rfl : b = 1 := Nat.eq_of_beq_eq_true e.1
      have := fv_base (σ := σ) (Nat.eq_of_beq_eq_true e.2)
      show f.2 - g.2 ≤ fv σ f - fv σ g ∧ fv σ f - fv σ g ≤ f.2 - g.2
      omega
    | false => exact arI_ok (ivf_ok h hf) (ivf_ok h hg)
def stD (fs : List Fm) : List Df → CS → CS
  | [], cs => cs
  | d :: l, cs => stD fs l (addDf (newB cs d.2.2.2.1 d.2.2.2.2 1) (d.1, fs.getD d.2.1 (0, 0), fs.getD d.2.2.1 (0, 0), cn cs))
theorem stD_ok {M : Mm} {fs : List Fm} : ∀ {l : List Df} {cs : CS} {σ : Nat → Int}, (∀ n : Nat, (fs.getD n (0, 0)).1 ≤ cn cs) → (∀ d ∈ l, d.2.2.2.1 ≤ zs d.1 (fv σ (fs.getD d.2.1 (0, 0))) (fv σ (fs.getD d.2.2.1 (0, 0))) ∧ zs d.1 (fv σ (fs.getD d.2.1 (0, 0))) (fv σ (fs.getD d.2.2.1 (0, 0))) ≤ d.2.2.2.2) → Ok cs σ M → ∃ τ, (∀ j, j < cn cs → τ j = σ j) ∧ Ok (stD fs l cs) τ M ∧ cn cs ≤ cn (stD fs l cs) := by
  intro l
  induction l with
  | nil => intro cs σ _ _ h; exact ⟨σ, fun _ _ => rfl, h, Nat.le_refl _⟩
  | cons d l ih =>
    intro cs σ hn hl h
    have hd := hl d List.mem_cons_self
    generalize hv : zs d.1 (fv σ (fs.getD d.2.1 (0, 0))) (fv σ (fs.getD d.2.2.1 (0, 0))) = v at hd
    have a := newB1 h hd
    have ag := fun n => fv_agree (us_agree σ (cn cs) v) (hn n)
    have b : Ok (addDf (newB cs d.2.2.2.1 d.2.2.2.2 1) (d.1, fs.getD d.2.1 (0, 0), fs.getD d.2.2.1 (0, 0), cn cs)) (us σ (cn cs) v) M := by
      refine ⟨a.1, a.2.1, fun q hq => ?_, a.2.2.2⟩
      rcases List.mem_cons.mp hq with rfl | hq
      · show (fs.getD d.2.1 (0, 0)).1 ≤ cn (newB _ _ _ _) ∧ (fs.getD d.2.2.1 (0, 0)).1 ≤ cn (newB _ _ _ _) ∧ cn cs < cn (newB _ _ _ _) ∧ us σ (cn cs) v (cn cs) = zs d.1 (fv (us σ (cn cs) v) (fs.getD d.2.1 (0, 0))) (fv (us σ (cn cs) v) (fs.getD d.2.2.1 (0, 0)))
        rw [newB_n, us_at, ag, ag, hv]
        exact ⟨Nat.le_succ_of_le (hn _), Nat.le_succ_of_le (hn _), Nat.lt_succ_self _, rfl⟩
      · exact a.2.2.1 q hq
    have e2 : cn (addDf (newB cs d.2.2.2.1 d.2.2.2.2 1) (d.1, fs.getD d.2.1 (0, 0), fs.getD d.2.2.1 (0, 0), cn cs)) = cn cs + 1 := newB_n
    obtain ⟨τ, t1, t2, t3⟩ := ih (by rw [e2]; exact fun n => Nat.le_succ_of_le (hn n)) (fun u hu => by rw [ag, ag]; exact hl u (List.mem_cons_of_mem _ hu)) b
    rw [e2] at t1 t3
    exact ⟨τ, fun j hj => by rw [t1 j (by omega), us_ne hj], t2, by show cn cs ≤ cn (stD fs l _); omega⟩
/-! ways to come back -/
def fldI (cs : CS) (j s : Nat) : Iv := match kfind cs j (0, (s : Int)) with
  | some f => ivf cs f
  | none => ldI cs j (0, (s : Int))
def fldB (cs : CS) (q : Fl) : Bool := inI (fldI cs q.1 q.2.1) (q.2.2.1, q.2.2.2)
theorem ldI_ok {cs : CS} {σ : Nat → Int} {M : Mm} {j : Nat} {f : Fm} (h : Ok cs σ M) (hT : okTT M) (h64 : in64 (M j (fv σ f).toNat)) (hf : f.1 ≤ cn cs) (h0 : 0 ≤ fv σ f) : (ldI cs j f).1 ≤ M j (fv σ f).toNat ∧ M j (fv σ f).toNat ≤ (ldI cs j f).2 := by
  unfold ldI
  split
  next i hi => exact bfind_ok h hi
  next =>
    cases e : tif cs j f with
    | none => exact h64
    | some q =>
      have := hT j (fv σ f).toNat
      rw [tif_ok h hf h0 e] at this
      exact this
theorem fldB_ok {cs : CS} {σ : Nat → Int} {M : Mm} {q : Fl} (h : Ok cs σ M) (hT : okTT M) (h64 : in64 (M q.1 q.2.1)) (hb : fldB cs q = true) : q.2.2.1 ≤ M q.1 q.2.1 ∧ M q.1 q.2.1 ≤ q.2.2.2 := by
  have : (fldI cs q.1 q.2.1).1 ≤ M q.1 q.2.1 ∧ M q.1 q.2.1 ≤ (fldI cs q.1 q.2.1).2 := by
    unfold fldI
    split
    next f hk =>
      obtain ⟨k1, k2⟩ := kfind_ok h hk
      have k2 : M q.1 ((q.2.1 : Int)).toNat = fv σ f := k2
      rw [Int.toNat_natCast] at k2
      rw [k2]
      exact ivf_ok h k1
    next =>
      have := ldI_ok (f := (0, (q.2.1 : Int))) (j := q.1) h hT (by show in64 (M q.1 ((q.2.1 : Int)).toNat); rw [Int.toNat_natCast]; exact h64) (Nat.zero_le _) (Int.natCast_nonneg _)
      have e : (fv σ (0, (q.2.1 : Int))).toNat = q.2.1 := Int.toNat_natCast _
      rw [e] at this
      exact this
  exact inI_ok hb this
def setB (cs : CS) (l : List Fl) : CS := (cn cs, cfm cs, civ cs, cmo cs, ckn cs, cdf cs, l.map (fun q => (q.1, (0, (q.2.1 : Int)), (q.2.2.1, q.2.2.2))) ++ cbd cs)
theorem setB_ok {cs : CS} {σ : Nat → Int} {M : Mm} {l : List Fl} (h : Ok cs σ M) (hl : ∀ q ∈ l, q.2.2.1 ≤ M q.1 q.2.1 ∧ M q.1 q.2.1 ≤ q.2.2.2) : Ok (setB cs l) σ M := by
  refine ⟨h.1, h.2.1, h.2.2.1, fun q hq => ?_⟩
  rcases List.mem_append.mp hq with hq | hq
  · obtain ⟨u, hu, rfl⟩ := List.mem_map.mp hq
    show 0 ≤ cn _ ∧ 0 ≤ (u.2.1 : Int) ∧ u.2.2.1 ≤ M u.1 ((u.2.1 : Int)).toNat ∧ M u.1 ((u.2.1 : Int)).toNat ≤ u.2.2.2
    rw [Int.toNat_natCast]
    exact ⟨Nat.zero_le _, Int.natCast_nonneg _, hl u hu⟩
  · exact h.2.2.2 q hq
/-! a number within bounds is one of them -/
def splitA (P : CS → Bool) (f : Fm) (cs : CS) : Nat → Int → Bool
  | 0, _ => true
  | n + 1, v => (match (setI cs f v v).bind (fun c => propAll (cdf c) c) with
    | some c1 => P c1
    | none => true) && fI (v + 1) (splitA P f cs n)
theorem splitA_ok {P : CS → Bool} {f : Fm} {cs : CS} {σ : Nat → Int} {M : Mm} (h : Ok cs σ M) (hf : f.1 ≤ cn cs) : ∀ (n : Nat) (v : Int), splitA P f cs n v = true → v ≤ fv σ f → fv σ f < v + n → ∃ c1, Ok c1 σ M ∧ cn c1 = cn cs ∧ P c1 = true := by
  intro n
  induction n with
  | zero => intro v _ h1 h2; omega
  | succ n ih =>
    intro v hs h1 h2
    unfold splitA at hs
    rw [Bool.and_eq_true, fI_eq] at hs
    by_cases e : fv σ f = v
    · obtain ⟨c1, e1, e2, e3, -⟩ : OkO ((setI cs f v v).bind (fun c => propAll (cdf c) c)) (cn cs) σ M := (setI_ok h hf (by omega)).bind fun c h3 e3 => by
        rw [← e3]
        exact propAll_ok h3 h3.2.2.1
      have h4 := hs.1
      rw [e1] at h4
      exact ⟨c1, e2, e3, h4⟩
    · exact ih (v + 1) hs.2 (by omega) (by omega)
end
section
/-! THE CHECKER -/
def ckCut1 (c : Cut) (m0 : Option (List Lin)) (as : List AV) (cs : CS) : Bool := patsA cs c.2.2.1 as && (match frF cs c as with
    | some fs => (meas fs c.2.2.2.2.1).all (bdL cs) && (c.2.2.2.2.2.all (dfB cs fs) && (match m0 with
      | some m => Nat.beq (meas fs c.2.2.2.2.1).length m.length && (lexL cs (meas fs c.2.2.2.2.1) m && m.all (bdL cs))
      | none => true))
    | none => false)
def ckCut (cuts : List Cut) (m0 : Option (List Lin)) (i : Nat) (as : List AV) (cs : CS) : Bool := cuts.any (fun c => Nat.beq c.1 i && ckCut1 c m0 as cs)
def ckCutS (spl : List (Nat × Nat)) (cuts : List Cut) (m0 : Option (List Lin)) (i : Nat) (as : List AV) (cs : CS) : Bool := match spl.find? (fun q => Nat.beq q.1 i) with
  | some q => let f := avF cs (as.getD q.2 (0, 0)); splitA (ckCut cuts m0 i as) f cs ((ivf cs f).2 - (ivf cs f).1 + 1).toNat (ivf cs f).1
  | none => ckCut cuts m0 i as cs
/-- what else is to be held at a store, a marked place, a copy, a way back -/
abbrev Hk : Type := (CS → Nat → Fm → Fm → Bool) × (Nat → List AV → CS → Bool) × (Nat → Bool) × (Option AV → CS → Bool)
def H0 : Hk := (fun _ _ _ _ => true, fun _ _ _ => true, fun _ => true, fun _ _ => true)
def chk (H : Hk) (sps : List Spec) (W : Wl) (outs : List Out) (D : Nat) (spl : List (Nat × Nat)) (cuts : List Cut) (m0 : Option (List Lin)) : Nat → List Node → CS → Bool
  | 0, _, _ => false
  | _ + 1, [], _ => false
  | f + 1, x :: r, cs => x.2.2.all (wAb (cn cs)) && (match x with
    | (0, b, [a, c]) => chk H sps W outs D spl cuts m0 f r (ckIb cs b (af cs a) (af cs c))
    | (1, b, [a, c]) => chk H sps W outs D spl cuts m0 f r (ckLb cs b (af cs a) (af cs c))
    | (2, _, [_, _]) => chk H sps W outs D spl cuts m0 f r (newB cs I64.1 I64.2 1)
    | (3, 0, [a]) => chk H sps W outs D spl cuts m0 f r (bif inI (ivf cs (af cs a)) I32 then newF cs (af cs a) else newB cs I32.1 I32.2 1)
    | (3, _ + 1, [_]) => chk H sps W outs D spl cuts m0 f r (newB cs 0 65535 1)
    | (4, j, [s]) => chk H sps W outs D spl cuts m0 f r (ckLd cs j (0, ((s.2.toNat : Nat) : Int)))
    | (5, j, [a]) => inI (ivf cs (af cs a)) (0, (alen j : Int) - 1) && chk H sps W outs D spl cuts m0 f r (ckLd cs j (af cs a))
    | (8, _, [a]) => inI (ivf cs (af cs a)) (0, 10) && chk H sps W outs D spl cuts m0 f r (newB cs 0 19 1)
    | (9, t, [a]) => inI (ivf cs (af cs a)) (0, ((strLen.getD t 0 : Nat) : Int) - 1) && chk H sps W outs D spl cuts m0 f r (newB cs I32.1 I32.2 1)
    | (10, j, [s, v]) => H.1 cs j (0, ((s.2.toNat : Nat) : Int)) (af cs v) && (wOf W j s.2.toNat && (inI (ivf cs (af cs v)) (tiv j s.2.toNat) && chk H sps W outs D spl cuts m0 f r (ckSt cs j (0, ((s.2.toNat : Nat) : Int)) (af cs v))))
    | (11, j, [a, v]) => H.1 cs j (af cs a) (af cs v) && (inI (ivf cs (af cs a)) (0, (alen j : Int) - 1) && (wf W j (af cs a) && ((match tif cs j (af cs a) with
        | some q => inI (ivf cs (af cs v)) q
        | none => false) && chk H sps W outs D spl cuts m0 f r (ckSt cs j (af cs a) (af cs v)))))
    | (12, _, [v]) => inI (ivf cs (af cs v)) (0, 1) && chk H sps W outs D spl cuts m0 f r cs
    | (13, _, [v]) => inI (ivf cs (af cs v)) (0, 65535) && chk H sps W outs D spl cuts m0 f r cs
    | (14, j1, [j2, sp, dp, q]) =>
      (decide (0 ≤ (ivf cs (af cs sp)).1) && (decide (0 ≤ (ivf cs (af cs dp)).1) && (decide (0 ≤ (ivf cs (af cs q)).1) && (decide ((ivf cs (af cs sp)).2 + (ivf cs (af cs q)).2 ≤ alen j1) && decide ((ivf cs (af cs dp)).2 + (ivf cs (af cs q)).2 ≤ alen j2.2.toNat)))))
      && (H.2.2.1 j2.2.toNat && ((match TT[j1]?, TT[j2.2.toNat]? with
        | some (1, [a]), some (1, [b]) => inI a b
        | _, _ => false) && (W.any (fun u => Nat.beq u.1 j2.2.toNat && Nat.beq u.2 0) && chk H sps W outs D spl cuts m0 f r (keepW [(j2.2.toNat, 0)] cs))))
    | (15, c, [a, b, z]) => (match refine1 cs c (af cs a) (af cs b) with
        | some c1 => chk H sps W outs D spl cuts m0 f (r.take z.2.toNat) c1
        | none => true) && (match refine1 cs (negC c) (af cs a) (af cs b) with
        | some c1 => chk H sps W outs D spl cuts m0 f (r.drop z.2.toNat) c1
        | none => true)
    | (16, k', as) => (match sps.find? (fun sp => Nat.beq sp.1 k' && patsA cs sp.2.1 as) with
      | some sp => Nat.ble (sp.2.2.2.2 + 10) D && (wSub sp.2.2.2.1 W && sp.2.2.1.all (fun o => bif Nat.beq (rb k') 0 then chk H sps W outs D spl cuts m0 f r (setB (keepW sp.2.2.2.1 cs) o.2) else chk H sps W outs D spl cuts m0 f r (newB (setB (keepW sp.2.2.2.1 cs) o.2) o.1.1 o.1.2 1)))
      | none => false)
    | (17, i, as) => H.2.1 i as cs && ckCutS spl cuts m0 i as cs
    | (18, _, []) => H.2.2.2 none cs && outs.any (fun o => o.2.all (fldB cs))
    | (19, _, [a]) => H.2.2.2 (some a) cs && outs.any (fun o => inI (ivf cs (avF cs a)) o.1 && o.2.all (fldB cs))
    | _ => false)
/-! what it says -/
def ansIn (outs : List Out) (v : Option V) (M : Mm) : Prop := ∃ o ∈ outs, (∀ x, v = some x → o.1.1 ≤ oz v ∧ oz v ≤ o.1.2) ∧ ∀ q ∈ o.2, q.2.2.1 ≤ M q.1 q.2.1 ∧ M q.1 q.2.1 ≤ q.2.2.2
def SpecP (X : Xs) (P : Mm → Prop) (sp : Spec) : Prop := ∀ (as : List V) (M : Mm), patsV sp.2.1 as → okTT M → P M → Wp X sp.2.2.2.2 sp.1 0 (eL 0 as) [] M (fun v M' => okTT M' ∧ FrM sp.2.2.2.1 M M' ∧ ansIn sp.2.2.1 v M' ∧ P M')
abbrev SpecOK (X : Xs) (sp : Spec) : Prop := SpecP X (fun _ => True) sp
def HkOK (H : Hk) (P : Mm → Prop) (E : Nat → List V → Mm → Prop) (R : Option V → Mm → Prop) : Prop :=
  (∀ (cs : CS) (σ : Nat → Int) (M : Mm) (j : Nat) (f g : Fm), Ok cs σ M → okTT M → f.1 ≤ cn cs → g.1 ≤ cn cs → 0 ≤ fv σ f → H.1 cs j f g = true → P M → P (up M j (fv σ f).toNat (fv σ g))) ∧
  (∀ (cs : CS) (σ : Nat → Int) (M : Mm) (i : Nat) (as : List AV), Ok cs σ M → okTT M → (∀ a ∈ as, wAb (cn cs) a = true) → H.2.1 i as cs = true → P M → E i (as.map (ev σ)) M) ∧
  (∀ (M : Mm) (j1 j2 sp dp q : Nat), okTT M → H.2.2.1 j2 = true → P M → P (cpM M j1 j2 sp dp q)) ∧
  ∀ (cs : CS) (σ : Nat → Int) (M : Mm) (v : Option AV), Ok cs σ M → okTT M → (∀ a, v = some a → wAb (cn cs) a = true) → H.2.2.2 v cs = true → P M → R (v.map (ev σ)) M
/-- the same, where the first names are known numbers -/
def HkZ (H : Hk) (n0 : Nat) (σ0 : Nat → Int) (P : Mm → Prop) (E : Nat → List V → Mm → Prop) (R : Option V → Mm → Prop) : Prop :=
  (∀ (cs : CS) (σ : Nat → Int) (M : Mm) (j : Nat) (f g : Fm), (n0 ≤ cn cs ∧ ∀ j, j < n0 → σ j = σ0 j) → Ok cs σ M → okTT M → f.1 ≤ cn cs → g.1 ≤ cn cs → 0 ≤ fv σ f → H.1 cs j f g = true → P M → P (up M j (fv σ f).toNat (fv σ g))) ∧
  (∀ (cs : CS) (σ : Nat → Int) (M : Mm) (i : Nat) (as : List AV), (n0 ≤ cn cs ∧ ∀ j, j < n0 → σ j = σ0 j) → Ok cs σ M → okTT M → (∀ a ∈ as, wAb (cn cs) a = true) → H.2.1 i as cs = true → P M → E i (as.map (ev σ)) M) ∧
  (∀ (M : Mm) (j1 j2 sp dp q : Nat), okTT M → H.2.2.1 j2 = true → P M → P (cpM M j1 j2 sp dp q)) ∧
  ∀ (cs : CS) (σ : Nat → Int) (M : Mm) (v : Option AV), (n0 ≤ cn cs ∧ ∀ j, j < n0 → σ j = σ0 j) → Ok cs σ M → okTT M → (∀ a, v = some a → wAb (cn cs) a = true) → H.2.2.2 v cs = true → P M → R (v.map (ev σ)) M
theorem HkOK.z {H : Hk} {P : Mm → Prop} {E : Nat → List V → Mm → Prop} {R : Option V → Mm → Prop} (h : HkOK H P E R) : HkZ H 0 (fun _ => 0) P E R := ⟨fun cs σ M j f g _ => h.1 cs σ M j f g, fun cs σ M i as _ => h.2.1 cs σ M i as, h.2.2.1, fun cs σ M v _ => h.2.2.2 cs σ M v⟩
theorem H0_ok : HkOK H0 (fun _ => True) (fun _ _ _ => True) (fun _ _ => True) := ⟨fun _ _ _ _ _ _ _ _ _ _ _ _ _ => trivial, fun _ _ _ _ _ _ _ _ _ _ => trivial, fun _ _ _ _ _ _ _ _ _ => trivial, fun _ _ _ _ _ _ _ _ _ => trivial⟩
def CPd (X : Xs) (D : Nat) (k' : Nat) (as : List V) (M : Mm) (Q' : Option V → Mm → Prop) : Prop := ∃ d', d' + 10 ≤ D ∧ Wp X d' k' 0 (eL 0 as) [] M Q'
def CTd (cuts : List Cut) (W : Wl) (M0 : Mm) (T : Option Nat) (i : Nat) (as : List V) (M : Mm) : Prop := ∃ c ∈ cuts, c.1 = i ∧ patsV c.2.2.1 as ∧ flV c M ∧ dfV c as M ∧ okTT M ∧ FrM W M0 M ∧ ∀ t, T = some t → msV c as M < t
def Qd (W : Wl) (outs : List Out) (M0 : Mm) (v : Option V) (M : Mm) : Prop := okTT M ∧ FrM W M0 M ∧ ansIn outs v M
def HM (m0 : Option (List Lin)) (T : Option Nat) (n : Nat) (σ : Nat → Int) : Prop := match m0 with
  | none => T = none
  | some m => (∀ e ∈ m, e.2.1.1 ≤ n) ∧ T = some (tot (m.map (linV σ)))
theorem HM.agree {m0 : Option (List Lin)} {T : Option Nat} {n n' : Nat} {σ τ : Nat → Int} (h : HM m0 T n σ) (ht : ∀ j, j < n → τ j = σ j) (hn : n ≤ n') : HM m0 T n' τ := by
  cases m0 with
  | none => exact h
  | some m =>
    refine ⟨fun e he => Nat.le_trans (h.1 e he) hn, h.2.trans ?_⟩
    congr 2
    refine (List.map_congr_left fun e he => ?_).symm
    show e.1 * fv τ e.2.1 + e.2.2 = e.1 * fv σ e.2.1 + e.2.2
    rw [fv_agree ht (h.1 e he)]
theorem TT_in : TT.all (fun q => q.2.all (fun i => inI i I64)) = true := by decide +kernel
theorem tiv_64 {M : Mm} (h : okTT M) (j s : Nat) : in64 (M j s) := by
  have hj := h j s
  unfold tiv at hj
  split at hj
  next q e =>
    rw [List.getD_eq_getElem?_getD] at hj
    cases e2 : q.2[s % q.1]? with
    | none => rw [e2] at hj; exact hj
    | some i =>
      rw [e2] at hj
      exact inI_ok (List.all_eq_true.mp (List.all_eq_true.mp TT_in q (List.mem_of_getElem? e)) i (List.mem_of_getElem? e2)) hj
  next => exact hj
theorem den_lt {X : Xs} {CP : Nat → List V → Mm → (Option V → Mm → Prop) → Prop} {CT : Nat → List V → Mm → Prop} {Q : Option V → Mm → Prop} {f n : Nat} {x : Node} {r : List Node} {σ : Nat → Int} {M : Mm} (hx : x.1 < 15) (h : nd X x n σ M (fun τ M' => den X CP CT Q f r (n + bn x) τ M')) : den X CP CT Q (f + 1) (x :: r) n σ M := by
  show (if x.1 < 15 then _ else _)
  rw [if_pos hx]
  exact h
theorem okTT_cp {M : Mm} {j1 j2 sp dp q : Nat} {a b : Iv} (h : okTT M) (h1 : TT[j1]? = some (1, [a])) (h2 : TT[j2]? = some (1, [b])) (hab : inI a b = true) : okTT (cpM M j1 j2 sp dp q) := by
  have t1 : ∀ s, tiv j1 s = a := by intro s; unfold tiv; rw [h1]; show [a].getD (s % 1) I64 = a; rw [Nat.mod_one]; rfl
  have t2 : ∀ s, tiv j2 s = b := by intro s; unfold tiv; rw [h2]; show [b].getD (s % 1) I64 = b; rw [Nat.mod_one]; rfl
  intro u s
  unfold cpM
  split
  next e =>
    obtain ⟨rfl, -, -⟩ := e
    rw [t2 s]
    have := h j1 (sp + (s - dp))
    rw [t1] at this
    exact inI_ok hab this
  next => exact h u s
def CTp (cuts : List Cut) (W : Wl) (M0 : Mm) (T : Option Nat) (P : Mm → Prop) (E : Nat → List V → Mm → Prop) (i : Nat) (as : List V) (M : Mm) : Prop := CTd cuts W M0 T i as M ∧ P M ∧ E i as M
def Qp (W : Wl) (outs : List Out) (M0 : Mm) (P : Mm → Prop) (R : Option V → Mm → Prop) (v : Option V) (M : Mm) : Prop := Qd W outs M0 v M ∧ P M ∧ R v M
theorem chk_soundz {X : Xs} {H : Hk} {n0 : Nat} {σ0 : Nat → Int} {P : Mm → Prop} {E : Nat → List V → Mm → Prop} {R : Option V → Mm → Prop} (hH : HkZ H n0 σ0 P E R) {sps : List Spec} {W : Wl} {outs : List Out} {D : Nat} {spl : List (Nat × Nat)} {cuts : List Cut} {m0 : Option (List Lin)} (hS : ∀ sp ∈ sps, SpecP X P sp) {M0 : Mm} {T : Option Nat} :
    ∀ (f : Nat) (r : List Node) (cs : CS) (σ : Nat → Int) (M : Mm), chk H sps W outs D spl cuts m0 f r cs = true → Ok cs σ M → okTT M → FrM W M0 M → HM m0 T (cn cs) σ → P M → (n0 ≤ cn cs ∧ ∀ j, j < n0 → σ j = σ0 j) → den X (CPd X D) (CTp cuts W M0 T P E) (Qp W outs M0 P R) f r (cn cs) σ M := by
  intro f
  induction f with
  | zero => intro r cs σ M hc; cases hc
  | succ f ih =>
    intro r cs σ M hc h hT hF hm hP hz
    cases r with
    | nil => cases hc
    | cons x r =>
      rw [chk.eq_def] at hc
      dsimp only at hc
      rw [Bool.and_eq_true] at hc
      obtain ⟨hw, hc⟩ := hc
      rw [List.all_eq_true] at hw
      have nx : ∀ {c2 : CS} {v : Int}, Nx cs c2 σ v M → chk H sps W outs D spl cuts m0 f r c2 = true → den X (CPd X D) (CTp cuts W M0 T P E) (Qp W outs M0 P R) f r (cn cs + 1) (us σ (cn cs) v) M := by
        intro c2 v h1 h2
        have := ih r c2 _ M h2 h1.2 hT hF (by rw [h1.1]; exact hm.agree (us_agree σ (cn cs) v) (Nat.le_succ _)) hP ⟨by rw [h1.1]; exact Nat.le_succ_of_le hz.1, fun j hj => by rw [us_ne (Nat.lt_of_lt_of_le hj hz.1)]; exact hz.2 j hj⟩
        rw [h1.1] at this
        exact this
      have c0 : ∀ s : Nat, fv σ (0, ((s : Nat) : Int)) = (s : Int) := fun s => rfl
      split at hc
      · rename_i b a c
        obtain ⟨a1, a2⟩ := af_ok h (hw a (by simp))
        obtain ⟨b1, b2⟩ := af_ok h (hw c (by simp))
        refine den_lt (by show (0 : Nat) < 15; decide) ?_
        show den X _ _ _ f r (cn cs + 1) (us σ (cn cs) (ib b (nm σ a) (nm σ c))) M
        rw [← a2, ← b2]
        exact nx (ckIb_ok h a1 b1) hc
      · rename_i b a c
        obtain ⟨a1, a2⟩ := af_ok h (hw a (by simp))
        obtain ⟨b1, b2⟩ := af_ok h (hw c (by simp))
        refine den_lt (by show (1 : Nat) < 15; decide) ?_
        show den X _ _ _ f r (cn cs + 1) (us σ (cn cs) (lb b (nm σ a) (nm σ c))) M
        rw [← a2, ← b2]
        exact nx (ckLb_ok h a1 b1) hc
      · rename_i b a c
        refine den_lt (by show (2 : Nat) < 15; decide) ?_
        show den X _ _ _ f r (cn cs + 1) (us σ (cn cs) (sb b (nm σ a) (nm σ c))) M
        exact nx (Nx_1 h (sb_in _ _ _)) hc
      · rename_i a
        obtain ⟨a1, a2⟩ := af_ok h (hw a (by simp))
        refine den_lt (by show (3 : Nat) < 15; decide) ?_
        show den X _ _ _ f r (cn cs + 1) (us σ (cn cs) (lo32 (nm σ a))) M
        rw [← a2]
        refine nx (Nx_bif (fun q => Nx_F h a1 (lo_in (show in32 (fv σ (af cs a)) from inI_ok (b := I32) q (ivf_ok h a1))).symm) (Nx_1 h (i32_r _))) hc
      · rename_i t a
        refine den_lt (by show (3 : Nat) < 15; decide) ?_
        show den X _ _ _ f r (cn cs + 1) (us σ (cn cs) (cb (nm σ a))) M
        exact nx (Nx_1 h (cb_in _)) hc
      · rename_i j s
        refine den_lt (by show (4 : Nat) < 15; decide) ?_
        show rK _ _ → den X _ _ _ f r (cn cs + 1) (us σ (cn cs) (M j s.2.toNat)) M
        intro _
        have := ckLd_ok (f := (0, ((s.2.toNat : Nat) : Int))) (j := j) h hT (tiv_64 hT _ _) (Nat.zero_le _) (Int.natCast_nonneg _)
        rw [c0, Int.toNat_natCast] at this
        exact nx this hc
      · rename_i j a
        rw [Bool.and_eq_true] at hc
        obtain ⟨a1, a2⟩ := af_ok h (hw a (by simp))
        have bi := inI_ok hc.1 (ivf_ok h a1)
        have bi : 0 ≤ fv σ (af cs a) ∧ fv σ (af cs a) ≤ (alen j : Int) - 1 := bi
        refine den_lt (by show (5 : Nat) < 15; decide) ?_
        show 0 ≤ nm σ a ∧ nm σ a < alen j ∧ (rK _ _ → den X _ _ _ f r (cn cs + 1) (us σ (cn cs) (M j (nm σ a).toNat)) M)
        rw [← a2]
        exact ⟨bi.1, by omega, fun _ => nx (ckLd_ok h hT (tiv_64 hT _ _) a1 bi.1) hc.2⟩
      · rename_i j a
        rw [Bool.and_eq_true] at hc
        obtain ⟨a1, a2⟩ := af_ok h (hw a (by simp))
        have bi := inI_ok hc.1 (ivf_ok h a1)
        have bi : 0 ≤ fv σ (af cs a) ∧ fv σ (af cs a) ≤ 10 := bi
        refine den_lt (by show (8 : Nat) < 15; decide) ?_
        show 0 ≤ nm σ a ∧ nm σ a < 11 ∧ den X _ _ _ f r (cn cs + 1) (us σ (cn cs) (FSL.getD (nm σ a).toNat 0).toInt) M
        rw [← a2]
        refine ⟨bi.1, by omega, nx (Nx_1 h ?_) hc.2⟩
        have hF : ∀ n : Nat, n < 11 → (0 : Int) ≤ (FSL.getD n 0).toInt ∧ (FSL.getD n 0).toInt ≤ 19 := by decide
        exact hF _ (by omega)
      · rename_i t a
        rw [Bool.and_eq_true] at hc
        obtain ⟨a1, a2⟩ := af_ok h (hw a (by simp))
        have bi := inI_ok hc.1 (ivf_ok h a1)
        have bi : 0 ≤ fv σ (af cs a) ∧ fv σ (af cs a) ≤ ((strLen.getD t 0 : Nat) : Int) - 1 := bi
        refine den_lt (by show (9 : Nat) < 15; decide) ?_
        show 0 ≤ nm σ a ∧ nm σ a < strLen.getD t 0 ∧ den X _ _ _ f r (cn cs + 1) (us σ (cn cs) ((strB.getD t []).getD (nm σ a).toNat 0).toInt) M
        rw [← a2]
        exact ⟨bi.1, by omega, nx (Nx_1 h ⟨by have := ((strB.getD t []).getD (fv σ (af cs a)).toNat 0).le_toInt; show (-2147483648 : Int) ≤ _; omega, by have := ((strB.getD t []).getD (fv σ (af cs a)).toNat 0).toInt_lt; show _ ≤ (2147483647 : Int); omega⟩) hc.2⟩
      · rename_i j s v
        rw [Bool.and_eq_true, Bool.and_eq_true, Bool.and_eq_true] at hc
        obtain ⟨hs, hc⟩ := hc
        obtain ⟨a1, a2⟩ := af_ok h (hw v (by simp))
        have bi := inI_ok hc.2.1 (ivf_ok h a1)
        have hP2 := hH.1 cs σ M j _ _ hz h hT (Nat.zero_le _) a1 (Int.natCast_nonneg _) hs hP
        rw [c0, Int.toNat_natCast] at hP2
        refine den_lt (by show (10 : Nat) < 15; decide) ?_
        show den X _ _ _ f r (cn cs) σ (up M j s.2.toNat (nm σ v))
        rw [← a2]
        have := ckSt_ok (f := (0, ((s.2.toNat : Nat) : Int))) (g := af cs v) (j := j) h (Nat.zero_le _) a1 (Int.natCast_nonneg _)
        rw [c0, Int.toNat_natCast] at this
        exact ih r (ckSt cs j (0, ((s.2.toNat : Nat) : Int)) (af cs v)) σ _ hc.2.2 this (okTT_up hT bi) (FrM_up hF hc.1) hm hP2 hz
      · rename_i j a v
        rw [Bool.and_eq_true, Bool.and_eq_true, Bool.and_eq_true, Bool.and_eq_true] at hc
        obtain ⟨hs, hc⟩ := hc
        obtain ⟨a1, a2⟩ := af_ok h (hw a (by simp))
        obtain ⟨b1, b2⟩ := af_ok h (hw v (by simp))
        have bi := inI_ok hc.1 (ivf_ok h a1)
        have bi : 0 ≤ fv σ (af cs a) ∧ fv σ (af cs a) ≤ (alen j : Int) - 1 := bi
        refine den_lt (by show (11 : Nat) < 15; decide) ?_
        show 0 ≤ nm σ a ∧ nm σ a < alen j ∧ den X _ _ _ f r (cn cs) σ (up M j (nm σ a).toNat (nm σ v))
        rw [← a2, ← b2]
        refine ⟨bi.1, by omega, ih r (ckSt cs j (af cs a) (af cs v)) σ _ hc.2.2.2 (ckSt_ok h a1 b1 bi.1) (okTT_up hT ?_) (FrM_up hF (wf_ok hc.2.1)) hm (hH.1 cs σ M j _ _ hz h hT a1 b1 bi.1 hs hP) hz⟩
        have h3 := hc.2.2.1
        split at h3
        next q hq =>
          rw [tif_ok h a1 bi.1 hq]
          exact inI_ok h3 (ivf_ok h b1)
        next => cases h3
      · rename_i b v
        rw [Bool.and_eq_true] at hc
        obtain ⟨a1, a2⟩ := af_ok h (hw v (by simp))
        have bi := inI_ok hc.1 (ivf_ok h a1)
        have bi : 0 ≤ fv σ (af cs v) ∧ fv σ (af cs v) ≤ 1 := bi
        refine den_lt (by show (12 : Nat) < 15; decide) ?_
        show (nm σ v = 0 ∨ nm σ v = 1) ∧ den X _ _ _ f r (cn cs) σ M
        rw [← a2]
        exact ⟨by omega, ih r _ σ _ hc.2 h hT hF hm hP hz⟩
      · rename_i b v
        rw [Bool.and_eq_true] at hc
        obtain ⟨a1, a2⟩ := af_ok h (hw v (by simp))
        have bi := inI_ok hc.1 (ivf_ok h a1)
        have bi : 0 ≤ fv σ (af cs v) ∧ fv σ (af cs v) ≤ 65535 := bi
        refine den_lt (by show (13 : Nat) < 15; decide) ?_
        show (0 ≤ nm σ v ∧ nm σ v < 65536) ∧ den X _ _ _ f r (cn cs) σ M
        rw [← a2]
        exact ⟨by omega, ih r _ σ _ hc.2 h hT hF hm hP hz⟩
      · rename_i j1 j2 sp dp q
        simp only [Bool.and_eq_true, decide_eq_true_eq] at hc
        obtain ⟨⟨k1, k2, k3, k4, k5⟩, hs, k6, k7, k8⟩ := hc
        obtain ⟨a1, a2⟩ := af_ok h (hw sp (by simp))
        obtain ⟨b1, b2⟩ := af_ok h (hw dp (by simp))
        obtain ⟨c1, c2⟩ := af_ok h (hw q (by simp))
        have ia := ivf_ok h a1
        have ib := ivf_ok h b1
        have ic := ivf_ok h c1
        refine den_lt (by show (14 : Nat) < 15; decide) ?_
        show (0 ≤ nm σ sp ∧ 0 ≤ nm σ dp ∧ 0 ≤ nm σ q) ∧ nm σ sp + nm σ q ≤ alen j1 ∧ nm σ dp + nm σ q ≤ alen j2.2.toNat ∧ den X _ _ _ f r (cn cs) σ (cpM M j1 j2.2.toNat (nm σ sp).toNat (nm σ dp).toNat (nm σ q).toNat)
        rw [← a2, ← b2, ← c2]
        have hfr : FrM [(j2.2.toNat, 0)] M (cpM M j1 j2.2.toNat (fv σ (af cs sp)).toNat (fv σ (af cs dp)).toNat (fv σ (af cs q)).toNat) := by
          intro u s hu
          unfold cpM
          rw [if_neg]
          rintro ⟨rfl, -, -⟩
          unfold wOf at hu
          simp at hu
        refine ⟨⟨by omega, by omega, by omega⟩, by omega, by omega, ih r (keepW [(j2.2.toNat, 0)] cs) σ _ k8 (keepW_ok h hfr) ?_ (FrM_sub hF ?_ hfr) hm (hH.2.2.1 _ _ _ _ _ _ hT hs hP) hz⟩
        · split at k6
          next a b h1 h2 => exact okTT_cp hT h1 h2 k6
          next => cases k6
        · unfold wSub
          rw [List.all_eq_true]
          intro u hu
          obtain rfl := List.mem_singleton.mp hu
          rw [List.any_eq_true] at k7 ⊢
          obtain ⟨y, hy, h2⟩ := k7
          refine ⟨y, hy, ?_⟩
          simp only [Bool.and_eq_true, Bool.or_eq_true] at h2 ⊢
          exact ⟨h2.1, Or.inl h2.2⟩
      · rename_i c a b z
        rw [Bool.and_eq_true] at hc
        obtain ⟨a1, a2⟩ := af_ok h (hw a (by simp))
        obtain ⟨b1, b2⟩ := af_ok h (hw b (by simp))
        show (icP c (nm σ a) (nm σ b) → den X _ _ _ f (r.take z.2.toNat) (cn cs) σ M) ∧ (¬ icP c (nm σ a) (nm σ b) → den X _ _ _ f (r.drop z.2.toNat) (cn cs) σ M)
        rw [← a2, ← b2]
        refine ⟨fun hq => ?_, fun hq => ?_⟩
        · obtain ⟨c1, e1, e2, e3, -⟩ := refine1_ok h a1 b1 hq
          have h3 := hc.1
          rw [e1] at h3
          rw [← e3] at hm hz ⊢
          exact ih _ c1 σ M h3 e2 hT hF hm hP hz
        · obtain ⟨c1, e1, e2, e3, -⟩ := refine1_ok h a1 b1 (negC_ok hq)
          have h3 := hc.2
          rw [e1] at h3
          rw [← e3] at hm hz ⊢
          exact ih _ c1 σ M h3 e2 hT hF hm hP hz
      · rename_i k' as
        split at hc
        next sp hsp =>
          simp only [Bool.and_eq_true] at hc
          obtain ⟨k1, k2, k3⟩ := hc
          have h1 := List.find?_some hsp
          simp only [Bool.and_eq_true] at h1
          have hk := Nat.eq_of_beq_eq_true h1.1
          have hsw := hS sp (List.mem_of_find?_eq_some hsp) (as.map (ev σ)) M (patsA_ok h h1.2) hT hP
          rw [hk] at hsw
          refine ⟨sp.2.2.2.2, Nat.le_of_ble_eq_true k1, hsw.mono fun v M' hq hro hrv hM => ?_⟩
          obtain ⟨q1, q2, q3, q4⟩ := hq
          have hag := us_agree σ (cn cs) (oz v)
          obtain ⟨o, ho1, ho2, ho3⟩ := q3
          have k3 := List.all_eq_true.mp k3 o ho1
          have ho := setB_ok (keepW_ok h q2) ho3
          cases e : Nat.beq (rb k') 0 with
          | true =>
            rw [e] at k3
            rw [Nat.eq_of_beq_eq_true e]
            exact ih r (setB (keepW sp.2.2.2.1 cs) o.2) _ M' k3 (ho.agree hag) q1 (FrM_sub hF k2 q2) (hm.agree hag (Nat.le_refl _)) q4 ⟨hz.1, fun j hj => by rw [us_ne (Nat.lt_of_lt_of_le hj hz.1)]; exact hz.2 j hj⟩
          | false =>
            rw [e] at k3
            have hrb : rb k' = 1 := by
              unfold rb at e ⊢
              split
              next e2 => rw [e2] at e; cases e
              next => rfl
            have hv : ∃ x, v = some x := by
              cases v with
              | some x => exact ⟨x, rfl⟩
              | none =>
                exfalso
                unfold rb at hrb
                unfold retOK at hro
                split at hrb
                next => cases hrb
                next e3 =>
                  split at hro
                  · exact e3 (by assumption)
                  all_goals first | exact hro | contradiction
            obtain ⟨x, hx⟩ := hv
            have hn : Ok (newB (setB (keepW sp.2.2.2.1 cs) o.2) o.1.1 o.1.2 1) (us σ (cn cs) (oz v)) M' := newB1 ho (ho2 x hx)
            rw [hrb]
            have h9 := ih r _ _ M' k3 hn q1 (FrM_sub hF k2 q2) (by rw [newB_n]; exact hm.agree hag (Nat.le_succ _)) q4 ⟨by rw [newB_n]; exact Nat.le_succ_of_le hz.1, fun j hj => by rw [us_ne (Nat.lt_of_lt_of_le hj hz.1)]; exact hz.2 j hj⟩
            rw [newB_n] at h9
            exact h9
        next => cases hc
      · rename_i i as
        have key : ∀ c1 : CS, Ok c1 σ M → cn c1 = cn cs → ckCut cuts m0 i as c1 = true → CTd cuts W M0 T i (as.map (ev σ)) M := by
          intro c1 h hn hc
          rw [← hn] at hw hm
          obtain ⟨c, hcut, hc⟩ := List.any_eq_true.mp hc
          unfold ckCut1 at hc
          rw [Bool.and_eq_true, Bool.and_eq_true] at hc
          obtain ⟨k0, k1, k2⟩ := hc
          split at k2
          next fs hl =>
            rw [Bool.and_eq_true, Bool.and_eq_true] at k2
            obtain ⟨k2, kd, k3⟩ := k2
            obtain ⟨l1, l2⟩ := meas_ok h hw hl k2
            obtain ⟨-, l3, l4⟩ := frF_ok h hw hl
            refine ⟨c, hcut, Nat.eq_of_beq_eq_true k0, patsA_ok h k1, l4, fun d hd => ?_, hT, hF, fun t ht => ?_⟩
            · rw [List.all_eq_true] at kd
              have := inI_ok (kd d hd) (dfI_ok h (l3 d.2.1).1 (l3 d.2.2.1).1)
              rw [(l3 d.2.1).2, (l3 d.2.2.1).2] at this
              exact this
            · cases m0 with
              | none => have e : T = none := hm; rw [e] at ht; cases ht
              | some m =>
                have k3 : (Nat.beq (meas fs c.2.2.2.2.1).length m.length && (lexL c1 (meas fs c.2.2.2.2.1) m && m.all (bdL c1))) = true := k3
                simp only [Bool.and_eq_true] at k3
                obtain ⟨n1, n2, n3⟩ := k3
                rw [List.all_eq_true] at n3
                rw [hm.2] at ht
                rw [← Option.some.inj ht, ← l2]
                exact lexL_ok h l1 (fun e he => ⟨hm.1 e he, n3 e he⟩) (Nat.eq_of_beq_eq_true n1) n2
          next => cases k2
        rw [Bool.and_eq_true] at hc
        obtain ⟨hs, hc⟩ := hc
        show CTp cuts W M0 T P E i (as.map (ev σ)) M
        refine ⟨?_, hP, hH.2.1 cs σ M i as hz h hT hw hs hP⟩
        unfold ckCutS at hc
        split at hc
        next q hq =>
          have hfw : (avF cs (as.getD q.2 (0, 0))).1 ≤ cn cs := by
            rw [List.getD_eq_getElem?_getD]
            cases e : as[q.2]? with
            | none => exact Nat.zero_le _
            | some a => exact (avF_ok h (hw a (List.mem_of_getElem? e))).1
          have b := ivf_ok h hfw
          obtain ⟨c1, e1, e2, e3⟩ := splitA_ok h hfw _ _ hc b.1 (by omega)
          exact key c1 e1 e2 e3
        next => exact key cs h rfl hc
      · rw [Bool.and_eq_true] at hc
        obtain ⟨hs, hc⟩ := hc
        obtain ⟨o, ho, hc⟩ := List.any_eq_true.mp hc
        rw [List.all_eq_true] at hc
        exact ⟨⟨hT, hF, o, ho, fun x hx => (by cases hx), fun q hq => fldB_ok h hT (tiv_64 hT _ _) (hc q hq)⟩, hP, hH.2.2.2 cs σ M none hz h hT (fun a ha => (by cases ha)) hs hP⟩
      · rename_i b a
        rw [Bool.and_eq_true] at hc
        obtain ⟨hs, hc⟩ := hc
        obtain ⟨o, ho, hc⟩ := List.any_eq_true.mp hc
        rw [Bool.and_eq_true, List.all_eq_true] at hc
        have hwa := hw a (by simp)
        obtain ⟨a1, a2⟩ := avF_ok h hwa
        refine ⟨⟨hT, hF, o, ho, fun x hx => ?_, fun q hq => fldB_ok h hT (tiv_64 hT _ _) (hc.2 q hq)⟩, hP, hH.2.2.2 cs σ M (some a) hz h hT (fun x hx => by rw [← Option.some.inj hx]; exact hwa) hs hP⟩
        have := inI_ok hc.1 (ivf_ok h a1)
        rw [a2] at this
        exact this
      · cases hc
theorem chk_sound {X : Xs} {H : Hk} {P : Mm → Prop} {E : Nat → List V → Mm → Prop} {R : Option V → Mm → Prop} (hH : HkOK H P E R) {sps : List Spec} {W : Wl} {outs : List Out} {D : Nat} {spl : List (Nat × Nat)} {cuts : List Cut} {m0 : Option (List Lin)} (hS : ∀ sp ∈ sps, SpecP X P sp) {M0 : Mm} {T : Option Nat} (f : Nat) (r : List Node) (cs : CS) (σ : Nat → Int) (M : Mm) (hc : chk H sps W outs D spl cuts m0 f r cs = true) (h : Ok cs σ M) (hT : okTT M) (hF : FrM W M0 M) (hm : HM m0 T (cn cs) σ) (hP : P M) : den X (CPd X D) (CTp cuts W M0 T P E) (Qp W outs M0 P R) f r (cn cs) σ M :=
  chk_soundz hH.z hS f r cs σ M hc h hT hF hm hP ⟨Nat.zero_le _, fun j hj => absurd hj (Nat.not_lt_zero j)⟩
end
section
/-! a method by the checker: from its start, and from each marked place -/
def iniC : CS := (0, fun _ => (0, 0), fun _ => (0, 0), fun _ => 1, [], [], [])
def eqP (p : Pat) : Bool := decide (p.2.1 = p.2.2)
def st1 (p : Pat) (cs : CS) : CS := match p.1 with
  | 0 => bif eqP p then cs else newB cs p.2.1 p.2.2 1
  | 1 => bif eqP p then cs else newB cs p.2.1 p.2.2 1
  | _ => cs
def nv1 (p : Pat) : Nat := match p.1 with
  | 0 => bif eqP p then 0 else 1
  | 1 => bif eqP p then 0 else 1
  | _ => 0
def av1 (p : Pat) (n : Nat) : AV := match p.1 with
  | 0 => bif eqP p then (0, p.2.1) else (1, (n : Int))
  | 1 => bif eqP p then (2, p.2.1) else (3, (n : Int))
  | t + 2 => (t + 4, p.2.1)
def stA : List Pat → CS → CS
  | [], cs => cs
  | p :: ps, cs => stA ps (st1 p cs)
def avA : List Pat → Nat → List AV
  | [], _ => []
  | p :: ps, n => av1 p n :: avA ps (n + nv1 p)
def stF : List Fl → CS → CS
  | [], cs => cs
  | q :: l, cs => stF l (setK (newB cs q.2.2.1 q.2.2.2 1) ((q.1, (0, (q.2.1 : Int)), (cn cs + 1, 0)) :: ckn cs))
theorem iniC_ok {σ : Nat → Int} {M : Mm} : Ok iniC σ M := ⟨fun j hj => absurd hj (Nat.not_lt_zero j), fun q hq => (by cases hq), fun q hq => (by cases hq), fun q hq => (by cases hq)⟩
theorem st1_ok {p : Pat} {v : V} {cs : CS} {σ : Nat → Int} {M : Mm} (hp : patV p v) (h : Ok cs σ M) : ∃ z, cn (st1 p cs) = cn cs + nv1 p ∧ Ok (st1 p cs) (us σ (cn cs) z) M ∧ ev (us σ (cn cs) z) (av1 p (cn cs)) = v ∧ wA (cn cs + nv1 p) (av1 p (cn cs)) := by
  obtain ⟨t, lo, hi⟩ := p
  have hag := fun z => us_agree σ (cn cs) z
  match t, hp with
  | 0, hp =>
    obtain ⟨z, rfl, h1, h2⟩ := hp
    have h1 : lo ≤ z := h1
    have h2 : z ≤ hi := h2
    refine ⟨z, ?_⟩
    show cn (bif eqP (0, lo, hi) then cs else newB cs lo hi 1) = cn cs + (bif eqP (0, lo, hi) then 0 else 1) ∧ Ok (bif eqP (0, lo, hi) then cs else newB cs lo hi 1) _ M ∧ ev _ (bif eqP (0, lo, hi) then (0, lo) else (1, (cn cs : Int))) = vI z ∧ wA (cn cs + (bif eqP (0, lo, hi) then 0 else 1)) (bif eqP (0, lo, hi) then (0, lo) else (1, (cn cs : Int)))
    cases e : eqP (0, lo, hi) with
    | true =>
      have e : lo = hi := of_decide_eq_true e
      exact ⟨rfl, h.agree (hag z), by show vI lo = vI z; congr 1; omega, wA_k (by decide)⟩
    | false => exact ⟨newB_n, newB1 h ⟨h1, h2⟩, by show vI (us σ (cn cs) z ((cn cs : Int)).toNat) = vI z; rw [Int.toNat_natCast, us_at], wA_n⟩
  | 1, hp =>
    obtain ⟨z, rfl, h1, h2⟩ := hp
    have h1 : lo ≤ z := h1
    have h2 : z ≤ hi := h2
    refine ⟨z, ?_⟩
    show cn (bif eqP (1, lo, hi) then cs else newB cs lo hi 1) = cn cs + (bif eqP (1, lo, hi) then 0 else 1) ∧ Ok (bif eqP (1, lo, hi) then cs else newB cs lo hi 1) _ M ∧ ev _ (bif eqP (1, lo, hi) then (2, lo) else (3, (cn cs : Int))) = vL z ∧ wA (cn cs + (bif eqP (1, lo, hi) then 0 else 1)) (bif eqP (1, lo, hi) then (2, lo) else (3, (cn cs : Int)))
    cases e : eqP (1, lo, hi) with
    | true =>
      have e : lo = hi := of_decide_eq_true e
      exact ⟨rfl, h.agree (hag z), by show vL lo = vL z; congr 1; omega, wA_k (by decide)⟩
    | false => exact ⟨newB_n, newB1 h ⟨h1, h2⟩, by show vL (us σ (cn cs) z ((cn cs : Int)).toNat) = vL z; rw [Int.toNat_natCast, us_at], wA_n⟩
  | t + 2, hp =>
    have hp : v = vR t lo.toNat := hp
    subst hp
    exact ⟨0, rfl, h.agree (hag 0), rfl, wA_k (by show ¬ (t + 4 = 1 ∨ t + 4 = 3); omega)⟩
theorem stA_ok {M : Mm} : ∀ {ps : List Pat} {as : List V} {cs : CS} {σ : Nat → Int}, patsV ps as → Ok cs σ M → ∃ τ, (∀ j, j < cn cs → τ j = σ j) ∧ Ok (stA ps cs) τ M ∧ (avA ps (cn cs)).map (ev τ) = as ∧ wS (cn (stA ps cs)) (avA ps (cn cs)) ∧ cn cs ≤ cn (stA ps cs) := by
  intro ps
  induction ps with
  | nil =>
    intro as cs σ hp h
    cases as with
    | nil => exact ⟨σ, fun _ _ => rfl, h, rfl, fun a ha => (by cases ha), Nat.le_refl _⟩
    | cons a as => exact hp.elim
  | cons p ps ih =>
    intro as cs σ hp h
    cases as with
    | nil => exact hp.elim
    | cons v as =>
      obtain ⟨z, h1, h2, h3, h4⟩ := st1_ok hp.1 h
      obtain ⟨τ, t1, t2, t3, t4, t5⟩ := ih hp.2 h2
      rw [h1] at t1 t3 t4 t5
      have hag : ∀ j, j < cn cs + nv1 p → τ j = us σ (cn cs) z j := t1
      refine ⟨τ, fun j hj => ?_, t2, ?_, ?_, Nat.le_trans (Nat.le_add_right _ _) t5⟩
      · rw [t1 j (by omega), us_ne hj]
      · show ev τ (av1 p (cn cs)) :: (avA ps (cn cs + nv1 p)).map (ev τ) = v :: as
        rw [t3, ev_agree hag h4, h3]
      · exact wS_c (h4.mono t5) t4
theorem stF_ok {M : Mm} : ∀ {l : List Fl} {cs : CS} {σ : Nat → Int}, (∀ q ∈ l, q.2.2.1 ≤ M q.1 q.2.1 ∧ M q.1 q.2.1 ≤ q.2.2.2) → Ok cs σ M → ∃ τ, (∀ j, j < cn cs → τ j = σ j) ∧ Ok (stF l cs) τ M ∧ cn cs ≤ cn (stF l cs) := by
  intro l
  induction l with
  | nil => intro cs σ _ h; exact ⟨σ, fun _ _ => rfl, h, Nat.le_refl _⟩
  | cons q l ih =>
    intro cs σ hl h
    have a := newB1 h (hl q List.mem_cons_self)
    have e : ckn (newB cs q.2.2.1 q.2.2.2 1) = ckn cs := newB_kn
    have b : Ok (setK (newB cs q.2.2.1 q.2.2.2 1) ((q.1, (0, (q.2.1 : Int)), (cn cs + 1, 0)) :: ckn cs)) (us σ (cn cs) (M q.1 q.2.1)) M := by
      refine ⟨a.1, fun u hu => ?_, a.2.2⟩
      rcases List.mem_cons.mp hu with rfl | hu
      · show 0 ≤ cn (newB _ _ _ _) ∧ cn cs + 1 ≤ cn (newB _ _ _ _) ∧ 0 ≤ (q.2.1 : Int) ∧ M q.1 ((q.2.1 : Int)).toNat = us σ (cn cs) _ (cn cs) + 0
        rw [newB_n, us_at, Int.toNat_natCast]
        exact ⟨Nat.zero_le _, Nat.le_refl _, Int.natCast_nonneg _, by omega⟩
      · rw [← e] at hu
        exact a.2.1 u hu
    obtain ⟨τ, t1, t2, t3⟩ := ih (fun u hu => hl u (List.mem_cons_of_mem _ hu)) b
    have e2 : cn (setK (newB cs q.2.2.1 q.2.2.2 1) ((q.1, (0, (q.2.1 : Int)), (cn cs + 1, 0)) :: ckn cs)) = cn cs + 1 := newB_n
    rw [e2] at t1 t3
    exact ⟨τ, fun j hj => by rw [t1 j (by omega), us_ne hj], t2, by show cn cs ≤ cn (stF l _); omega⟩
def cutF (cuts : List Cut) (i : Nat) : Option (List Nat) := (cuts.find? (fun c => Nat.beq c.1 i)).map (fun c => c.2.1)
def okStart (H : Hk) (sps : List Spec) (inl : Nat → Bool) (spl : List (Nat × Nat)) (fl : List Fl) (cuts : List Cut) (F : Nat) (sp : Spec) : Bool :=
  fl.all (fun q => inI (tiv q.1 q.2.1) (q.2.2.1, q.2.2.2)) && chk H sps sp.2.2.2.1 sp.2.2.1 sp.2.2.2.2 spl cuts none F (cmp inl (cutF cuts) F false (cn (stF fl (stA sp.2.1 iniC))) sp.1 0 (eLA 0 (avA sp.2.1 0)) [] []) (stF fl (stA sp.2.1 iniC))
def okCut (H : Hk) (sps : List Spec) (inl : Nat → Bool) (spl : List (Nat × Nat)) (cuts : List Cut) (F : Nat) (sp : Spec) (c : Cut) : Bool :=
  decide (cutF cuts c.1 = some c.2.1) && (match frF (stF c.2.2.2.1 (stA c.2.2.1 iniC)) c (avA c.2.2.1 0) with
    | some fs => (meas fs c.2.2.2.2.1).all (bdL (stF c.2.2.2.1 (stA c.2.2.1 iniC))) && chk H sps sp.2.2.2.1 sp.2.2.1 sp.2.2.2.2 spl cuts (some (meas fs c.2.2.2.2.1)) F (cmp inl (cutF cuts) F false (cn (stD fs c.2.2.2.2.2 (stF c.2.2.2.1 (stA c.2.2.1 iniC)))) sp.1 c.1 (c.2.1.zip (avA c.2.2.1 0)) [] []) (stD fs c.2.2.2.2.2 (stF c.2.2.2.1 (stA c.2.2.1 iniC)))
    | none => false)
theorem avA_len : ∀ (ps : List Pat) (n : Nat), (avA ps n).length = ps.length := by
  intro ps
  induction ps with
  | nil => intro n; rfl
  | cons p ps ih => intro n; show (avA ps _).length + 1 = ps.length + 1; rw [ih]
theorem wL_zip {n : Nat} {dl : List Nat} {as : List AV} (h : wS n as) : wL n (dl.zip as) := fun q hq => h q.2 (List.of_mem_zip hq).2
theorem evL_zip {σ : Nat → Int} : ∀ {dl : List Nat} {as : List AV}, evL σ (dl.zip as) = dl.zip (as.map (ev σ)) := by
  intro dl
  induction dl with
  | nil => intro as; rfl
  | cons b dl ih => intro as; cases as with
    | nil => rfl
    | cons a as =>
      show (b, ev σ a) :: evL σ (dl.zip as) = (b, ev σ a) :: dl.zip (as.map (ev σ))
      rw [ih]
theorem wAb_of {n : Nat} {a : AV} (h : wA n a) : wAb n a = true := by
  obtain ⟨t, c⟩ := a
  have lt : ∀ {x y : Nat}, x < y → Nat.blt x y = true := fun h => Nat.ble_eq_true_of_le h
  match t, h with
  | 0, _ => rfl
  | 1, h => exact lt (h (Or.inl rfl))
  | 2, _ => rfl
  | 3, h => exact lt (h (Or.inr rfl))
  | n + 4, _ => rfl
/-- a marked place that is shown otherwise -/
def Giv (X : Xs) (P : Mm → Prop) (R : Option V → Mm → Prop) (cuts : List Cut) (sp : Spec) (M0 : Mm) (c : Cut) : Prop := cutF cuts c.1 = some c.2.1 ∧ ∀ (as : List V) (M : Mm), patsV c.2.2.1 as → flV c M → dfV c as M → okTT M → FrM sp.2.2.2.1 M0 M → P M → Wp X sp.2.2.2.2 sp.1 c.1 (c.2.1.zip as) [] M (Qp sp.2.2.2.1 sp.2.2.1 M0 P R)
theorem cut_locs {X : Xs} {P : Mm → Prop} {R : Option V → Mm → Prop} {M0 : Mm} {H : Hk} {sps : List Spec} {inl : Nat → Bool} {spl : List (Nat × Nat)} {cuts : List Cut} {F : Nat} {sp : Spec} {c : Cut} (h : okCut H sps inl spl cuts F sp c = true ∨ Giv X P R cuts sp M0 c) : cutF cuts c.1 = some c.2.1 := by
  rcases h with h | h
  · unfold okCut at h
    rw [Bool.and_eq_true] at h
    exact of_decide_eq_true h.1
  · exact h.1
theorem cuts_sound {X : Xs} {H : Hk} {P : Mm → Prop} {R : Option V → Mm → Prop} (hH : HkOK H P (fun _ _ _ => True) R) {sps : List Spec} {inl : Nat → Bool} {spl : List (Nat × Nat)} {cuts : List Cut} {F : Nat} {sp : Spec} (hS : ∀ s ∈ sps, SpecP X P s) (hd : 10 ≤ sp.2.2.2.2) {M0 : Mm} (hc : ∀ c ∈ cuts, okCut H sps inl spl cuts F sp c = true ∨ Giv X P R cuts sp M0 c) :
    ∀ (t : Nat) (c : Cut) (as : List V) (M : Mm), c ∈ cuts → patsV c.2.2.1 as → flV c M → dfV c as M → okTT M → FrM sp.2.2.2.1 M0 M → msV c as M = t → P M → Wp X sp.2.2.2.2 sp.1 c.1 (c.2.1.zip as) [] M (Qp sp.2.2.2.1 sp.2.2.1 M0 P R) := by
  intro t
  induction t using Nat.strongRecOn with
  | _ t ih =>
    intro c as M hcm hp hfl hdf hT hF hms hP
    rcases hc c hcm with h | h
    rotate_left
    · exact h.2 as M hp hfl hdf hT hF hP
    unfold okCut at h
    rw [Bool.and_eq_true] at h
    obtain ⟨-, h⟩ := h
    obtain ⟨τ0, -, a2, a3, a4, -⟩ := stA_ok (σ := fun _ => 0) hp (iniC_ok (M := M))
    obtain ⟨τ, b1, b2, b3⟩ := stF_ok hfl a2
    have a3 : (avA c.2.2.1 0).map (ev τ0) = as := a3
    have a4 : wS (cn (stA c.2.2.1 iniC)) (avA c.2.2.1 0) := a4
    have e3 : (avA c.2.2.1 0).map (ev τ) = as := by rw [← a3]; exact evS_agree b1 a4
    have w3 := a4.mono b3
    split at h
    next fs hm =>
      rw [Bool.and_eq_true] at h
      obtain ⟨h0, h⟩ := h
      have hwb := fun a ha => wAb_of (w3 a ha)
      obtain ⟨m1, m2⟩ := meas_ok b2 hwb hm h0
      obtain ⟨-, l3, -⟩ := frF_ok b2 hwb hm
      rw [e3] at l3
      rw [e3, hms] at m2
      obtain ⟨υ, d1, d2, d3⟩ := stD_ok (l := c.2.2.2.2.2) (fun n => (l3 n).1) (fun d hd => by rw [(l3 d.2.1).2, (l3 d.2.2.1).2]; exact hdf d hd) b2
      have e3 : (avA c.2.2.1 0).map (ev υ) = as := by rw [← e3]; exact evS_agree d1 w3
      have w3 := w3.mono d3
      have hHM : HM (some (meas fs c.2.2.2.2.1)) (some t) (cn (stF c.2.2.2.1 (stA c.2.2.1 iniC))) τ := ⟨fun e he => (m1 e he).1, by rw [m2]⟩
      have hden := chk_sound hH hS (M0 := M0) (T := some t) F _ _ υ M h d2 hT hF (hHM.agree d1 d3) hP
      have := cmp_sound (d := sp.2.2.2.2) (k0 := sp.1) (cut := cutF cuts) (CT := CTp cuts sp.2.2.2.1 M0 (some t) P (fun _ _ _ => True)) (CP := CPd X sp.2.2.2.2) (fun k' as M Q' hq => hq) (fun i dl as' M' hi _ hct => ?_) hd F false _ sp.1 c.1 _ [] [] F υ M rfl (Nat.zero_le _) (wL_zip w3) (fun a ha => (by cases ha)) (fun a ha => (by cases ha)) hden
      · rw [evL_zip, e3] at this
        exact this
      · obtain ⟨⟨c', f0, e1, f2, f3, fd, f4, f5, f6⟩, hP', -⟩ := hct
        have e2 := cut_locs (hc c' f0)
        rw [e1, hi] at e2
        have e2 := Option.some.inj e2
        rw [← e1, e2]
        exact ih _ (f6 t rfl) c' as' M' f0 f2 f3 fd f4 f5 rfl hP'
    next => cases h
theorem sp_soundR {X : Xs} {H : Hk} {P : Mm → Prop} {R : Option V → Mm → Prop} (hH : HkOK H P (fun _ _ _ => True) R) {sps : List Spec} {inl : Nat → Bool} {spl : List (Nat × Nat)} {fl : List Fl} {cuts : List Cut} {F : Nat} {sp : Spec} (hS : ∀ s ∈ sps, SpecP X P s) (hd : Nat.ble 10 sp.2.2.2.2 = true) (h0 : okStart H sps inl spl fl cuts F sp = true) {as : List V} {M : Mm} (hc : ∀ c ∈ cuts, okCut H sps inl spl cuts F sp c = true ∨ Giv X P R cuts sp M c) (hp : patsV sp.2.1 as) (hT : okTT M) (hP : P M) : Wp X sp.2.2.2.2 sp.1 0 (eL 0 as) [] M (Qp sp.2.2.2.1 sp.2.2.1 M P R) := by
  have hd := Nat.le_of_ble_eq_true hd
  unfold okStart at h0
  rw [Bool.and_eq_true, List.all_eq_true] at h0
  obtain ⟨h00, h0⟩ := h0
  obtain ⟨τ0, -, a2, a3, a4, -⟩ := stA_ok (σ := fun _ => 0) hp (iniC_ok (M := M))
  have a3 : (avA sp.2.1 0).map (ev τ0) = as := a3
  have a4 : wS (cn (stA sp.2.1 iniC)) (avA sp.2.1 0) := a4
  obtain ⟨τ, b1, b2, b3⟩ := stF_ok (l := fl) (fun q hq => inI_ok (h00 q hq) (hT q.1 q.2.1)) a2
  have a3 : (avA sp.2.1 0).map (ev τ) = as := by rw [← a3]; exact evS_agree b1 a4
  have a4 := a4.mono b3
  have hden := chk_sound hH hS (M0 := M) (T := none) F _ _ τ M h0 b2 hT (fun _ _ _ => rfl) rfl hP
  have := cmp_sound (d := sp.2.2.2.2) (k0 := sp.1) (cut := cutF cuts) (CT := CTp cuts sp.2.2.2.1 M none P (fun _ _ _ => True)) (CP := CPd X sp.2.2.2.2) (fun k' as M Q' hq => hq) (fun i dl as' M' hi _ hct => ?_) hd F false _ sp.1 0 _ [] [] F τ M rfl (Nat.zero_le _) (wL_eLA a4) (fun a ha => (by cases ha)) (fun a ha => (by cases ha)) hden
  · rw [eLA_ev, a3] at this
    exact this
  · obtain ⟨⟨c', f0, e1, f2, f3, fd, f4, f5, -⟩, hP', -⟩ := hct
    have e2 := cut_locs (hc c' f0)
    rw [e1, hi] at e2
    have e2 := Option.some.inj e2
    rw [← e1, e2]
    exact cuts_sound hH hS hd hc _ c' as' M' f0 f2 f3 fd f4 f5 rfl hP'
theorem sp_soundP {X : Xs} {H : Hk} {P : Mm → Prop} (hH : HkOK H P (fun _ _ _ => True) (fun _ _ => True)) {sps : List Spec} {inl : Nat → Bool} {spl : List (Nat × Nat)} {fl : List Fl} {cuts : List Cut} {F : Nat} {sp : Spec} (hS : ∀ s ∈ sps, SpecP X P s) (hd : Nat.ble 10 sp.2.2.2.2 = true) (h0 : okStart H sps inl spl fl cuts F sp = true) (hc : ∀ c ∈ cuts, okCut H sps inl spl cuts F sp c = true) : SpecP X P sp := fun _ _ hp hT hP => (sp_soundR hH hS hd h0 (fun c h => Or.inl (hc c h)) hp hT hP).mono fun v M' q => ⟨q.1.1, q.1.2.1, q.1.2.2, q.2.1⟩
theorem sp_sound {X : Xs} {sps : List Spec} {inl : Nat → Bool} {spl : List (Nat × Nat)} {fl : List Fl} {cuts : List Cut} {F : Nat} {sp : Spec} (hS : ∀ s ∈ sps, SpecOK X s) (hd : Nat.ble 10 sp.2.2.2.2 = true) (h0 : okStart H0 sps inl spl fl cuts F sp = true) (hc : ∀ c ∈ cuts, okCut H0 sps inl spl cuts F sp c = true) : SpecOK X sp := sp_soundP H0_ok hS hd h0 hc
/-- what lies beside the cells that are written stays -/
theorem SpecOK.frame {X : Xs} {P : Mm → Prop} {sp : Spec} (h : SpecOK X sp) (hP : ∀ M M', FrM sp.2.2.2.1 M M' → P M → P M') : SpecP X P sp := fun as M h1 h2 h3 => (h as M h1 h2 trivial).mono fun v M' q => ⟨q.1, q.2.1, q.2.2.1, hP M M' q.2.1 h3⟩
theorem sps_nil {X : Xs} : ∀ s ∈ ([] : List Spec), SpecOK X s := fun s hs => (by cases hs)
theorem sps_cons {X : Xs} {sp : Spec} {sps : List Spec} (h : SpecOK X sp) (hS : ∀ s ∈ sps, SpecOK X s) : ∀ s ∈ sp :: sps, SpecOK X s := List.forall_mem_cons.mpr ⟨h, hS⟩
end
section
/-! the methods whose steps the checker goes through -/
def inlM : Nat := 6201776514562868420632995368886936971961477603619986873647120
def inlF (k : Nat) : Bool := Nat.beq (Nat.mod (Nat.shiftRight inlM k) 2) 1
def sp48_0 : Spec := (48, [(2, 17, 0), (0, -1, 29), (0, 0, 29)], [((-2147483648, 2147483647), [])], [], 10)
def cu48_0 : List Cut := []
theorem os48_0 : okStart H0 [] inlF [] [] cu48_0 4000 sp48_0 = true := by decide +kernel
theorem oc48_0 : cu48_0.all (okCut H0 [] inlF [] cu48_0 4000 sp48_0) = true := by decide +kernel
theorem ok48_0 (X : Xs) : SpecOK X sp48_0 := sp_sound (sps_nil) rfl os48_0 (List.all_eq_true.mp oc48_0)
def sp47_0 : Spec := (47, [(2, 17, 0), (0, 0, 29), (0, -1, 29), (0, -1, 29)], [((0, 0), [])], [(18, 0)], 20)
def cu47_0 : List Cut := [(8, [0, 1, 2, 3, 4], [(2, 17, 0), (0, 0, 29), (0, -1, 29), (0, -1, 29), (0, 0, 30)], [], [(0, 0, 0), (-1, 4, 30)], [])]
theorem os47_0 : okStart H0 [sp48_0] inlF [] [] cu47_0 4000 sp47_0 = true := by decide +kernel
theorem oc47_0 : cu47_0.all (okCut H0 [sp48_0] inlF [] cu47_0 4000 sp47_0) = true := by decide +kernel
theorem ok47_0 (X : Xs) : SpecOK X sp47_0 := sp_sound (sps_cons (ok48_0 X) sps_nil) rfl os47_0 (List.all_eq_true.mp oc47_0)
def sp82_0 : Spec := (82, [(2, 0, 0), (0, -2147483648, 2147483647), (0, -2147483648, 2147483647), (0, -2147483648, 2147483647), (0, -2147483648, 2147483647), (0, -2147483648, 2147483647), (0, -2147483648, 2147483647)], [((-100004, 29), [])], [(1, 11), (2, 0), (3, 0), (4, 0), (5, 0), (6, 0), (7, 0), (8, 0), (18, 0)], 30)
def cu82_0 : List Cut := []
theorem os82_0 : okStart H0 [sp47_0] inlF [] [] cu82_0 4000 sp82_0 = true := by decide +kernel
theorem oc82_0 : cu82_0.all (okCut H0 [sp47_0] inlF [] cu82_0 4000 sp82_0) = true := by decide +kernel
theorem ok82_0 (X : Xs) : SpecOK X sp82_0 := sp_sound (sps_cons (ok47_0 X) sps_nil) rfl os82_0 (List.all_eq_true.mp oc82_0)
def sp74_0 : Spec := (74, [(2, 1, 0), (0, 0, 29), (0, 0, 9000)], [((0, 3), [])], [], 10)
def cu74_0 : List Cut := [(5, [0, 1, 2, 3], [(2, 1, 0), (0, 0, 29), (0, 0, 9000), (0, -1, 59)], [], [(0, 0, 0), (1, 3, 1)], [])]
theorem os74_0 : okStart H0 [] inlF [] [] cu74_0 4000 sp74_0 = true := by decide +kernel
theorem oc74_0 : cu74_0.all (okCut H0 [] inlF [] cu74_0 4000 sp74_0) = true := by decide +kernel
theorem ok74_0 (X : Xs) : SpecOK X sp74_0 := sp_sound (sps_nil) rfl os74_0 (List.all_eq_true.mp oc74_0)
def sp83_0 : Spec := (83, [(2, 0, 0), (0, -2147483648, 2147483647), (0, -2147483648, 2147483647)], [((-100004, 3), [])], [(1, 12), (9, 0), (10, 0), (11, 0)], 20)
def cu83_0 : List Cut := []
theorem os83_0 : okStart H0 [sp74_0] inlF [] [] cu83_0 4000 sp83_0 = true := by decide +kernel
theorem oc83_0 : cu83_0.all (okCut H0 [sp74_0] inlF [] cu83_0 4000 sp83_0) = true := by decide +kernel
theorem ok83_0 (X : Xs) : SpecOK X sp83_0 := sp_sound (sps_cons (ok74_0 X) sps_nil) rfl os83_0 (List.all_eq_true.mp oc83_0)
def sp84_0 : Spec := (84, [(2, 0, 0), (0, -2147483648, 2147483647)], [((-100003, 1), [])], [(8, 0)], 10)
def cu84_0 : List Cut := []
theorem os84_0 : okStart H0 [] inlF [] [] cu84_0 4000 sp84_0 = true := by decide +kernel
theorem oc84_0 : cu84_0.all (okCut H0 [] inlF [] cu84_0 4000 sp84_0) = true := by decide +kernel
theorem ok84_0 (X : Xs) : SpecOK X sp84_0 := sp_sound (sps_nil) rfl os84_0 (List.all_eq_true.mp oc84_0)
def sp33_0 : Spec := (33, [(2, 12, 0), (0, 0, 19), (0, 0, 7), (0, 0, 7)], [((0, 1), [])], [], 10)
def cu33_0 : List Cut := []
theorem os33_0 : okStart H0 [] inlF [] [] cu33_0 4000 sp33_0 = true := by decide +kernel
theorem oc33_0 : cu33_0.all (okCut H0 [] inlF [] cu33_0 4000 sp33_0) = true := by decide +kernel
theorem ok33_0 (X : Xs) : SpecOK X sp33_0 := sp_sound (sps_nil) rfl os33_0 (List.all_eq_true.mp oc33_0)
def sp34_0 : Spec := (34, [(2, 12, 0), (0, 0, 7), (0, 0, 7)], [((-1, 19), [])], [], 20)
def cu34_0 : List Cut := [(2, [0, 1, 2, 3], [(2, 12, 0), (0, 0, 7), (0, 0, 7), (0, 0, 20)], [], [(0, 0, 0), (-1, 3, 20)], [])]
theorem os34_0 : okStart H0 [sp33_0] inlF [] [] cu34_0 4000 sp34_0 = true := by decide +kernel
theorem oc34_0 : cu34_0.all (okCut H0 [sp33_0] inlF [] cu34_0 4000 sp34_0) = true := by decide +kernel
theorem ok34_0 (X : Xs) : SpecOK X sp34_0 := sp_sound (sps_cons (ok33_0 X) sps_nil) rfl os34_0 (List.all_eq_true.mp oc34_0)
def sp85_0 : Spec := (85, [(2, 0, 0), (0, -2147483648, 2147483647), (0, -2147483648, 2147483647)], [((-100004, 20), [])], [(12, 5), (13, 0), (14, 0), (15, 0), (16, 0)], 30)
def cu85_0 : List Cut := []
theorem os85_0 : okStart H0 [sp34_0] inlF [] [] cu85_0 4000 sp85_0 = true := by decide +kernel
theorem oc85_0 : cu85_0.all (okCut H0 [sp34_0] inlF [] cu85_0 4000 sp85_0) = true := by decide +kernel
theorem ok85_0 (X : Xs) : SpecOK X sp85_0 := sp_sound (sps_cons (ok34_0 X) sps_nil) rfl os85_0 (List.all_eq_true.mp oc85_0)
def sp86_0 : Spec := (86, [(2, 0, 0), (0, -2147483648, 2147483647), (0, -2147483648, 2147483647)], [((-100003, 1), [])], [(16, 0)], 30)
def cu86_0 : List Cut := []
theorem os86_0 : okStart H0 [sp34_0] inlF [] [] cu86_0 4000 sp86_0 = true := by decide +kernel
theorem oc86_0 : cu86_0.all (okCut H0 [sp34_0] inlF [] cu86_0 4000 sp86_0) = true := by decide +kernel
theorem ok86_0 (X : Xs) : SpecOK X sp86_0 := sp_sound (sps_cons (ok34_0 X) sps_nil) rfl os86_0 (List.all_eq_true.mp oc86_0)
def sp87_0 : Spec := (87, [(2, 0, 0), (0, -2147483648, 2147483647)], [((-100003, 9000), [])], [(0, 11)], 10)
def cu87_0 : List Cut := []
theorem os87_0 : okStart H0 [] inlF [] [] cu87_0 4000 sp87_0 = true := by decide +kernel
theorem oc87_0 : cu87_0.all (okCut H0 [] inlF [] cu87_0 4000 sp87_0) = true := by decide +kernel
theorem ok87_0 (X : Xs) : SpecOK X sp87_0 := sp_sound (sps_nil) rfl os87_0 (List.all_eq_true.mp oc87_0)
def sp88_0 : Spec := (88, [(2, 0, 0), (0, -2147483648, 2147483647), (0, -2147483648, 2147483647), (0, -2147483648, 2147483647)], [((-100002, 9000), [])], [], 20)
def cu88_0 : List Cut := []
theorem os88_0 : okStart H0 [sp74_0] inlF [] [] cu88_0 4000 sp88_0 = true := by decide +kernel
theorem oc88_0 : cu88_0.all (okCut H0 [sp74_0] inlF [] cu88_0 4000 sp88_0) = true := by decide +kernel
theorem ok88_0 (X : Xs) : SpecOK X sp88_0 := sp_sound (sps_cons (ok74_0 X) sps_nil) rfl os88_0 (List.all_eq_true.mp oc88_0)
def sp49_0 : Spec := (49, [(2, 17, 0), (0, 0, 29), (0, 0, 29)], [((0, 0), [])], [(17, 2), (17, 3), (17, 4)], 10)
def cu49_0 : List Cut := [(10, [0, 1, 2, 3, 4], [(2, 17, 0), (0, 0, 29), (0, 0, 29), (0, -2147483648, 2147483647), (0, 0, 30)], [], [(0, 0, 0), (-1, 4, 30)], [])]
theorem os49_0 : okStart H0 [] inlF [] [] cu49_0 4000 sp49_0 = true := by decide +kernel
theorem oc49_0 : cu49_0.all (okCut H0 [] inlF [] cu49_0 4000 sp49_0) = true := by decide +kernel
theorem ok49_0 (X : Xs) : SpecOK X sp49_0 := sp_sound (sps_nil) rfl os49_0 (List.all_eq_true.mp oc49_0)
def sp89_0 : Spec := (89, [(2, 0, 0), (0, -2147483648, 2147483647), (0, -2147483648, 2147483647), (0, -2147483648, 2147483647)], [((-2147483648, 2147483647), [])], [(17, 2), (17, 3), (17, 4)], 20)
def cu89_0 : List Cut := []
theorem os89_0 : okStart H0 [sp49_0] inlF [] [] cu89_0 4000 sp89_0 = true := by decide +kernel
theorem oc89_0 : cu89_0.all (okCut H0 [sp49_0] inlF [] cu89_0 4000 sp89_0) = true := by decide +kernel
theorem ok89_0 (X : Xs) : SpecOK X sp89_0 := sp_sound (sps_cons (ok49_0 X) sps_nil) rfl os89_0 (List.all_eq_true.mp oc89_0)
def sp50_0 : Spec := (50, [(2, 22, 0), (0, 1, 8), (1, -9223372036854775808, 9223372036854775807)], [((0, 0), [])], [(22, 3), (23, 0)], 10)
def cu50_0 : List Cut := [(4, [0, 2, 4], [(2, 22, 0), (1, -9223372036854775808, 9223372036854775807), (0, -1, 7)], [], [(0, 0, 0), (1, 2, 1)], [])]
theorem os50_0 : okStart H0 [] inlF [] [] cu50_0 4000 sp50_0 = true := by decide +kernel
theorem oc50_0 : cu50_0.all (okCut H0 [] inlF [] cu50_0 4000 sp50_0) = true := by decide +kernel
theorem ok50_0 (X : Xs) : SpecOK X sp50_0 := sp_sound (sps_nil) rfl os50_0 (List.all_eq_true.mp oc50_0)
def sp90_0 : Spec := (90, [(2, 0, 0), (0, -2147483648, 2147483647), (1, -9223372036854775808, 9223372036854775807)], [((-100004, 240), [])], [(22, 3), (23, 0)], 20)
def cu90_0 : List Cut := []
theorem os90_0 : okStart H0 [sp50_0] inlF [] [] cu90_0 4000 sp90_0 = true := by decide +kernel
theorem oc90_0 : cu90_0.all (okCut H0 [sp50_0] inlF [] cu90_0 4000 sp90_0) = true := by decide +kernel
theorem ok90_0 (X : Xs) : SpecOK X sp90_0 := sp_sound (sps_cons (ok50_0 X) sps_nil) rfl os90_0 (List.all_eq_true.mp oc90_0)
def sp57_0 : Spec := (57, [(2, 22, 0)], [((0, 0), [])], [(22, 4)], 10)
def cu57_0 : List Cut := [(0, [0], [(2, 22, 0)], [(22, 3, 1, 240)], [(0, 0, 0), (-1, 1, 240)], [])]
theorem os57_0 : okStart H0 [] inlF [] [] cu57_0 4000 sp57_0 = true := by decide +kernel
theorem oc57_0 : cu57_0.all (okCut H0 [] inlF [] cu57_0 4000 sp57_0) = true := by decide +kernel
theorem ok57_0 (X : Xs) : SpecOK X sp57_0 := sp_sound (sps_nil) rfl os57_0 (List.all_eq_true.mp oc57_0)
def sp58_0 : Spec := (58, [(2, 22, 0), (0, 0, 240)], [((0, 240), [])], [], 10)
def cu58_0 : List Cut := [(2, [0, 2], [(2, 22, 0), (0, 0, 240)], [], [(0, 0, 0), (-1, 1, 240)], [])]
theorem os58_0 : okStart H0 [] inlF [] [] cu58_0 4000 sp58_0 = true := by decide +kernel
theorem oc58_0 : cu58_0.all (okCut H0 [] inlF [] cu58_0 4000 sp58_0) = true := by decide +kernel
theorem ok58_0 (X : Xs) : SpecOK X sp58_0 := sp_sound (sps_nil) rfl os58_0 (List.all_eq_true.mp oc58_0)
def sp197_0 : Spec := (197, [(4, 0, 0), (0, 0, 3)], [((0, 65535), [])], [], 10)
def cu197_0 : List Cut := []
theorem os197_0 : okStart H0 [] inlF [] [] cu197_0 4000 sp197_0 = true := by decide +kernel
theorem oc197_0 : cu197_0.all (okCut H0 [] inlF [] cu197_0 4000 sp197_0) = true := by decide +kernel
theorem ok197_0 (X : Xs) : SpecOK X sp197_0 := sp_sound (sps_nil) rfl os197_0 (List.all_eq_true.mp oc197_0)
def sp59_0 : Spec := (59, [(2, 22, 0), (0, 0, 240), (0, 0, 240), (4, 0, 0)], [((0, 1), [])], [], 20)
def cu59_0 : List Cut := [(16, [0, 1, 3, 4], [(2, 22, 0), (0, 0, 236), (4, 0, 0), (0, 0, 4)], [], [(0, 0, 0), (-1, 3, 4)], [])]
theorem os59_0 : okStart H0 [sp197_0] inlF [] [] cu59_0 4000 sp59_0 = true := by decide +kernel
theorem oc59_0 : cu59_0.all (okCut H0 [sp197_0] inlF [] cu59_0 4000 sp59_0) = true := by decide +kernel
theorem ok59_0 (X : Xs) : SpecOK X sp59_0 := sp_sound (sps_cons (ok197_0 X) sps_nil) rfl os59_0 (List.all_eq_true.mp oc59_0)
def sp55_0 : Spec := (55, [(2, 22, 0), (0, 1, 9999)], [((-2147483648, 9999), [])], [(22, 4), (22, 5), (22, 6)], 20)
def cu55_0 : List Cut := [(7, [0, 1, 2, 3], [(2, 22, 0), (0, 1, 9999), (0, 0, 240), (0, -2147483648, 2147483647)], [], [(0, 0, 0), (-1, 2, 240)], [])]
theorem os55_0 : okStart H0 [sp57_0] inlF [] [] cu55_0 4000 sp55_0 = true := by decide +kernel
theorem oc55_0 : cu55_0.all (okCut H0 [sp57_0] inlF [] cu55_0 4000 sp55_0) = true := by decide +kernel
theorem ok55_0 (X : Xs) : SpecOK X sp55_0 := sp_sound (sps_cons (ok57_0 X) sps_nil) rfl os55_0 (List.all_eq_true.mp oc55_0)
def sp52_0 : Spec := (52, [(2, 22, 0)], [((0, 1), [])], [(22, 4), (22, 5), (22, 6), (24, 3), (25, 0), (26, 0)], 30)
def cu52_0 : List Cut := []
theorem os52_0 : okStart H0 [sp55_0, sp57_0, sp58_0, sp59_0] inlF [] [] cu52_0 4000 sp52_0 = true := by decide +kernel
theorem oc52_0 : cu52_0.all (okCut H0 [sp55_0, sp57_0, sp58_0, sp59_0] inlF [] cu52_0 4000 sp52_0) = true := by decide +kernel
theorem ok52_0 (X : Xs) : SpecOK X sp52_0 := sp_sound (sps_cons (ok55_0 X) (sps_cons (ok57_0 X) (sps_cons (ok58_0 X) (sps_cons (ok59_0 X) sps_nil)))) rfl os52_0 (List.all_eq_true.mp oc52_0)
def sp197_1 : Spec := (197, [(4, 1, 0), (0, 0, 3)], [((0, 65535), [])], [], 10)
def cu197_1 : List Cut := []
theorem os197_1 : okStart H0 [] inlF [] [] cu197_1 4000 sp197_1 = true := by decide +kernel
theorem oc197_1 : cu197_1.all (okCut H0 [] inlF [] cu197_1 4000 sp197_1) = true := by decide +kernel
theorem ok197_1 (X : Xs) : SpecOK X sp197_1 := sp_sound (sps_nil) rfl os197_1 (List.all_eq_true.mp oc197_1)
def sp59_1 : Spec := (59, [(2, 22, 0), (0, 0, 240), (0, 0, 240), (4, 1, 0)], [((0, 1), [])], [], 20)
def cu59_1 : List Cut := [(16, [0, 1, 3, 4], [(2, 22, 0), (0, 0, 236), (4, 1, 0), (0, 0, 4)], [], [(0, 0, 0), (-1, 3, 4)], [])]
theorem os59_1 : okStart H0 [sp197_1] inlF [] [] cu59_1 4000 sp59_1 = true := by decide +kernel
theorem oc59_1 : cu59_1.all (okCut H0 [sp197_1] inlF [] cu59_1 4000 sp59_1) = true := by decide +kernel
theorem ok59_1 (X : Xs) : SpecOK X sp59_1 := sp_sound (sps_cons (ok197_1 X) sps_nil) rfl os59_1 (List.all_eq_true.mp oc59_1)
def sp197_2 : Spec := (197, [(4, 2, 0), (0, 0, 4)], [((0, 65535), [])], [], 10)
def cu197_2 : List Cut := []
theorem os197_2 : okStart H0 [] inlF [] [] cu197_2 4000 sp197_2 = true := by decide +kernel
theorem oc197_2 : cu197_2.all (okCut H0 [] inlF [] cu197_2 4000 sp197_2) = true := by decide +kernel
theorem ok197_2 (X : Xs) : SpecOK X sp197_2 := sp_sound (sps_nil) rfl os197_2 (List.all_eq_true.mp oc197_2)
def sp59_2 : Spec := (59, [(2, 22, 0), (0, 0, 240), (0, 0, 240), (4, 2, 0)], [((0, 1), [])], [], 20)
def cu59_2 : List Cut := [(16, [0, 1, 3, 4], [(2, 22, 0), (0, 0, 235), (4, 2, 0), (0, 0, 5)], [], [(0, 0, 0), (-1, 3, 5)], [])]
theorem os59_2 : okStart H0 [sp197_2] inlF [] [] cu59_2 4000 sp59_2 = true := by decide +kernel
theorem oc59_2 : cu59_2.all (okCut H0 [sp197_2] inlF [] cu59_2 4000 sp59_2) = true := by decide +kernel
theorem ok59_2 (X : Xs) : SpecOK X sp59_2 := sp_sound (sps_cons (ok197_2 X) sps_nil) rfl os59_2 (List.all_eq_true.mp oc59_2)
def sp197_3 : Spec := (197, [(4, 3, 0), (0, 0, 2)], [((0, 65535), [])], [], 10)
def cu197_3 : List Cut := []
theorem os197_3 : okStart H0 [] inlF [] [] cu197_3 4000 sp197_3 = true := by decide +kernel
theorem oc197_3 : cu197_3.all (okCut H0 [] inlF [] cu197_3 4000 sp197_3) = true := by decide +kernel
theorem ok197_3 (X : Xs) : SpecOK X sp197_3 := sp_sound (sps_nil) rfl os197_3 (List.all_eq_true.mp oc197_3)
def sp59_3 : Spec := (59, [(2, 22, 0), (0, 0, 240), (0, 0, 240), (4, 3, 0)], [((0, 1), [])], [], 20)
def cu59_3 : List Cut := [(16, [0, 1, 3, 4], [(2, 22, 0), (0, 0, 237), (4, 3, 0), (0, 0, 3)], [], [(0, 0, 0), (-1, 3, 3)], [])]
theorem os59_3 : okStart H0 [sp197_3] inlF [] [] cu59_3 4000 sp59_3 = true := by decide +kernel
theorem oc59_3 : cu59_3.all (okCut H0 [sp197_3] inlF [] cu59_3 4000 sp59_3) = true := by decide +kernel
theorem ok59_3 (X : Xs) : SpecOK X sp59_3 := sp_sound (sps_cons (ok197_3 X) sps_nil) rfl os59_3 (List.all_eq_true.mp oc59_3)
def sp197_4 : Spec := (197, [(4, 4, 0), (0, 0, 3)], [((0, 65535), [])], [], 10)
def cu197_4 : List Cut := []
theorem os197_4 : okStart H0 [] inlF [] [] cu197_4 4000 sp197_4 = true := by decide +kernel
theorem oc197_4 : cu197_4.all (okCut H0 [] inlF [] cu197_4 4000 sp197_4) = true := by decide +kernel
theorem ok197_4 (X : Xs) : SpecOK X sp197_4 := sp_sound (sps_nil) rfl os197_4 (List.all_eq_true.mp oc197_4)
def sp59_4 : Spec := (59, [(2, 22, 0), (0, 0, 240), (0, 0, 240), (4, 4, 0)], [((0, 1), [])], [], 20)
def cu59_4 : List Cut := [(16, [0, 1, 3, 4], [(2, 22, 0), (0, 0, 236), (4, 4, 0), (0, 0, 4)], [], [(0, 0, 0), (-1, 3, 4)], [])]
theorem os59_4 : okStart H0 [sp197_4] inlF [] [] cu59_4 4000 sp59_4 = true := by decide +kernel
theorem oc59_4 : cu59_4.all (okCut H0 [sp197_4] inlF [] cu59_4 4000 sp59_4) = true := by decide +kernel
theorem ok59_4 (X : Xs) : SpecOK X sp59_4 := sp_sound (sps_cons (ok197_4 X) sps_nil) rfl os59_4 (List.all_eq_true.mp oc59_4)
def sp197_5 : Spec := (197, [(4, 5, 0), (0, 0, 3)], [((0, 65535), [])], [], 10)
def cu197_5 : List Cut := []
theorem os197_5 : okStart H0 [] inlF [] [] cu197_5 4000 sp197_5 = true := by decide +kernel
theorem oc197_5 : cu197_5.all (okCut H0 [] inlF [] cu197_5 4000 sp197_5) = true := by decide +kernel
theorem ok197_5 (X : Xs) : SpecOK X sp197_5 := sp_sound (sps_nil) rfl os197_5 (List.all_eq_true.mp oc197_5)
def sp59_5 : Spec := (59, [(2, 22, 0), (0, 0, 240), (0, 0, 240), (4, 5, 0)], [((0, 1), [])], [], 20)
def cu59_5 : List Cut := [(16, [0, 1, 3, 4], [(2, 22, 0), (0, 0, 236), (4, 5, 0), (0, 0, 4)], [], [(0, 0, 0), (-1, 3, 4)], [])]
theorem os59_5 : okStart H0 [sp197_5] inlF [] [] cu59_5 4000 sp59_5 = true := by decide +kernel
theorem oc59_5 : cu59_5.all (okCut H0 [sp197_5] inlF [] cu59_5 4000 sp59_5) = true := by decide +kernel
theorem ok59_5 (X : Xs) : SpecOK X sp59_5 := sp_sound (sps_cons (ok197_5 X) sps_nil) rfl os59_5 (List.all_eq_true.mp oc59_5)
def sp197_6 : Spec := (197, [(4, 6, 0), (0, 0, 4)], [((0, 65535), [])], [], 10)
def cu197_6 : List Cut := []
theorem os197_6 : okStart H0 [] inlF [] [] cu197_6 4000 sp197_6 = true := by decide +kernel
theorem oc197_6 : cu197_6.all (okCut H0 [] inlF [] cu197_6 4000 sp197_6) = true := by decide +kernel
theorem ok197_6 (X : Xs) : SpecOK X sp197_6 := sp_sound (sps_nil) rfl os197_6 (List.all_eq_true.mp oc197_6)
def sp59_6 : Spec := (59, [(2, 22, 0), (0, 0, 240), (0, 0, 240), (4, 6, 0)], [((0, 1), [])], [], 20)
def cu59_6 : List Cut := [(16, [0, 1, 3, 4], [(2, 22, 0), (0, 0, 235), (4, 6, 0), (0, 0, 5)], [], [(0, 0, 0), (-1, 3, 5)], [])]
theorem os59_6 : okStart H0 [sp197_6] inlF [] [] cu59_6 4000 sp59_6 = true := by decide +kernel
theorem oc59_6 : cu59_6.all (okCut H0 [sp197_6] inlF [] cu59_6 4000 sp59_6) = true := by decide +kernel
theorem ok59_6 (X : Xs) : SpecOK X sp59_6 := sp_sound (sps_cons (ok197_6 X) sps_nil) rfl os59_6 (List.all_eq_true.mp oc59_6)
def sp197_7 : Spec := (197, [(4, 7, 0), (0, 0, 3)], [((0, 65535), [])], [], 10)
def cu197_7 : List Cut := []
theorem os197_7 : okStart H0 [] inlF [] [] cu197_7 4000 sp197_7 = true := by decide +kernel
theorem oc197_7 : cu197_7.all (okCut H0 [] inlF [] cu197_7 4000 sp197_7) = true := by decide +kernel
theorem ok197_7 (X : Xs) : SpecOK X sp197_7 := sp_sound (sps_nil) rfl os197_7 (List.all_eq_true.mp oc197_7)
def sp59_7 : Spec := (59, [(2, 22, 0), (0, 0, 240), (0, 0, 240), (4, 7, 0)], [((0, 1), [])], [], 20)
def cu59_7 : List Cut := [(16, [0, 1, 3, 4], [(2, 22, 0), (0, 0, 236), (4, 7, 0), (0, 0, 4)], [], [(0, 0, 0), (-1, 3, 4)], [])]
theorem os59_7 : okStart H0 [sp197_7] inlF [] [] cu59_7 4000 sp59_7 = true := by decide +kernel
theorem oc59_7 : cu59_7.all (okCut H0 [sp197_7] inlF [] cu59_7 4000 sp59_7) = true := by decide +kernel
theorem ok59_7 (X : Xs) : SpecOK X sp59_7 := sp_sound (sps_cons (ok197_7 X) sps_nil) rfl os59_7 (List.all_eq_true.mp oc59_7)
def sp197_8 : Spec := (197, [(4, 8, 0), (0, 0, 2)], [((0, 65535), [])], [], 10)
def cu197_8 : List Cut := []
theorem os197_8 : okStart H0 [] inlF [] [] cu197_8 4000 sp197_8 = true := by decide +kernel
theorem oc197_8 : cu197_8.all (okCut H0 [] inlF [] cu197_8 4000 sp197_8) = true := by decide +kernel
theorem ok197_8 (X : Xs) : SpecOK X sp197_8 := sp_sound (sps_nil) rfl os197_8 (List.all_eq_true.mp oc197_8)
def sp59_8 : Spec := (59, [(2, 22, 0), (0, 0, 240), (0, 0, 240), (4, 8, 0)], [((0, 1), [])], [], 20)
def cu59_8 : List Cut := [(16, [0, 1, 3, 4], [(2, 22, 0), (0, 0, 237), (4, 8, 0), (0, 0, 3)], [], [(0, 0, 0), (-1, 3, 3)], [])]
theorem os59_8 : okStart H0 [sp197_8] inlF [] [] cu59_8 4000 sp59_8 = true := by decide +kernel
theorem oc59_8 : cu59_8.all (okCut H0 [sp197_8] inlF [] cu59_8 4000 sp59_8) = true := by decide +kernel
theorem ok59_8 (X : Xs) : SpecOK X sp59_8 := sp_sound (sps_cons (ok197_8 X) sps_nil) rfl os59_8 (List.all_eq_true.mp oc59_8)
def sp197_9 : Spec := (197, [(4, 9, 0), (0, 0, 3)], [((0, 65535), [])], [], 10)
def cu197_9 : List Cut := []
theorem os197_9 : okStart H0 [] inlF [] [] cu197_9 4000 sp197_9 = true := by decide +kernel
theorem oc197_9 : cu197_9.all (okCut H0 [] inlF [] cu197_9 4000 sp197_9) = true := by decide +kernel
theorem ok197_9 (X : Xs) : SpecOK X sp197_9 := sp_sound (sps_nil) rfl os197_9 (List.all_eq_true.mp oc197_9)
def sp59_9 : Spec := (59, [(2, 22, 0), (0, 0, 240), (0, 0, 240), (4, 9, 0)], [((0, 1), [])], [], 20)
def cu59_9 : List Cut := [(16, [0, 1, 3, 4], [(2, 22, 0), (0, 0, 236), (4, 9, 0), (0, 0, 4)], [], [(0, 0, 0), (-1, 3, 4)], [])]
theorem os59_9 : okStart H0 [sp197_9] inlF [] [] cu59_9 4000 sp59_9 = true := by decide +kernel
theorem oc59_9 : cu59_9.all (okCut H0 [sp197_9] inlF [] cu59_9 4000 sp59_9) = true := by decide +kernel
theorem ok59_9 (X : Xs) : SpecOK X sp59_9 := sp_sound (sps_cons (ok197_9 X) sps_nil) rfl os59_9 (List.all_eq_true.mp oc59_9)
def sp197_10 : Spec := (197, [(4, 10, 0), (0, 0, 4)], [((0, 65535), [])], [], 10)
def cu197_10 : List Cut := []
theorem os197_10 : okStart H0 [] inlF [] [] cu197_10 4000 sp197_10 = true := by decide +kernel
theorem oc197_10 : cu197_10.all (okCut H0 [] inlF [] cu197_10 4000 sp197_10) = true := by decide +kernel
theorem ok197_10 (X : Xs) : SpecOK X sp197_10 := sp_sound (sps_nil) rfl os197_10 (List.all_eq_true.mp oc197_10)
def sp59_10 : Spec := (59, [(2, 22, 0), (0, 0, 240), (0, 0, 240), (4, 10, 0)], [((0, 1), [])], [], 20)
def cu59_10 : List Cut := [(16, [0, 1, 3, 4], [(2, 22, 0), (0, 0, 235), (4, 10, 0), (0, 0, 5)], [], [(0, 0, 0), (-1, 3, 5)], [])]
theorem os59_10 : okStart H0 [sp197_10] inlF [] [] cu59_10 4000 sp59_10 = true := by decide +kernel
theorem oc59_10 : cu59_10.all (okCut H0 [sp197_10] inlF [] cu59_10 4000 sp59_10) = true := by decide +kernel
theorem ok59_10 (X : Xs) : SpecOK X sp59_10 := sp_sound (sps_cons (ok197_10 X) sps_nil) rfl os59_10 (List.all_eq_true.mp oc59_10)
def sp197_11 : Spec := (197, [(4, 11, 0), (0, 0, 3)], [((0, 65535), [])], [], 10)
def cu197_11 : List Cut := []
theorem os197_11 : okStart H0 [] inlF [] [] cu197_11 4000 sp197_11 = true := by decide +kernel
theorem oc197_11 : cu197_11.all (okCut H0 [] inlF [] cu197_11 4000 sp197_11) = true := by decide +kernel
theorem ok197_11 (X : Xs) : SpecOK X sp197_11 := sp_sound (sps_nil) rfl os197_11 (List.all_eq_true.mp oc197_11)
def sp59_11 : Spec := (59, [(2, 22, 0), (0, 0, 240), (0, 0, 240), (4, 11, 0)], [((0, 1), [])], [], 20)
def cu59_11 : List Cut := [(16, [0, 1, 3, 4], [(2, 22, 0), (0, 0, 236), (4, 11, 0), (0, 0, 4)], [], [(0, 0, 0), (-1, 3, 4)], [])]
theorem os59_11 : okStart H0 [sp197_11] inlF [] [] cu59_11 4000 sp59_11 = true := by decide +kernel
theorem oc59_11 : cu59_11.all (okCut H0 [sp197_11] inlF [] cu59_11 4000 sp59_11) = true := by decide +kernel
theorem ok59_11 (X : Xs) : SpecOK X sp59_11 := sp_sound (sps_cons (ok197_11 X) sps_nil) rfl os59_11 (List.all_eq_true.mp oc59_11)
def sp60_0 : Spec := (60, [(2, 22, 0), (0, 0, 240), (0, 0, 240)], [((-1, 10), [])], [], 30)
def cu60_0 : List Cut := [(2, [0, 1, 2, 3], [(2, 22, 0), (0, 0, 240), (0, 0, 240), (0, 0, 11)], [], [(0, 0, 0), (-1, 3, 11)], [])]
theorem os60_0 : okStart H0 [sp59_1, sp59_10, sp59_11, sp59_2, sp59_3, sp59_4, sp59_5, sp59_6, sp59_7, sp59_8, sp59_9] inlF [] [] cu60_0 4000 sp60_0 = true := by decide +kernel
theorem oc60_0 : cu60_0.all (okCut H0 [sp59_1, sp59_10, sp59_11, sp59_2, sp59_3, sp59_4, sp59_5, sp59_6, sp59_7, sp59_8, sp59_9] inlF [] cu60_0 4000 sp60_0) = true := by decide +kernel
theorem ok60_0 (X : Xs) : SpecOK X sp60_0 := sp_sound (sps_cons (ok59_1 X) (sps_cons (ok59_10 X) (sps_cons (ok59_11 X) (sps_cons (ok59_2 X) (sps_cons (ok59_3 X) (sps_cons (ok59_4 X) (sps_cons (ok59_5 X) (sps_cons (ok59_6 X) (sps_cons (ok59_7 X) (sps_cons (ok59_8 X) (sps_cons (ok59_9 X) sps_nil))))))))))) rfl os60_0 (List.all_eq_true.mp oc60_0)
def sp63_0 : Spec := (63, [(0, 0, 10)], [((0, 1), [])], [], 10)
def cu63_0 : List Cut := []
theorem os63_0 : okStart H0 [] inlF [] [] cu63_0 4000 sp63_0 = true := by decide +kernel
theorem oc63_0 : cu63_0.all (okCut H0 [] inlF [] cu63_0 4000 sp63_0) = true := by decide +kernel
theorem ok63_0 (X : Xs) : SpecOK X sp63_0 := sp_sound (sps_nil) rfl os63_0 (List.all_eq_true.mp oc63_0)
def sp62_0 : Spec := (62, [(0, 0, 10)], [((1, 9999), [])], [], 10)
def cu62_0 : List Cut := []
theorem os62_0 : okStart H0 [] inlF [] [] cu62_0 4000 sp62_0 = true := by decide +kernel
theorem oc62_0 : cu62_0.all (okCut H0 [] inlF [] cu62_0 4000 sp62_0) = true := by decide +kernel
theorem ok62_0 (X : Xs) : SpecOK X sp62_0 := sp_sound (sps_nil) rfl os62_0 (List.all_eq_true.mp oc62_0)
def sp54_0 : Spec := (54, [(2, 22, 0)], [((0, 1), [])], [(22, 4), (22, 5), (22, 6), (26, 0)], 40)
def cu54_0 : List Cut := []
theorem os54_0 : okStart H0 [sp55_0, sp58_0, sp60_0, sp62_0, sp63_0] inlF [] [] cu54_0 4000 sp54_0 = true := by decide +kernel
theorem oc54_0 : cu54_0.all (okCut H0 [sp55_0, sp58_0, sp60_0, sp62_0, sp63_0] inlF [] cu54_0 4000 sp54_0) = true := by decide +kernel
theorem ok54_0 (X : Xs) : SpecOK X sp54_0 := sp_sound (sps_cons (ok55_0 X) (sps_cons (ok58_0 X) (sps_cons (ok60_0 X) (sps_cons (ok62_0 X) (sps_cons (ok63_0 X) sps_nil))))) rfl os54_0 (List.all_eq_true.mp oc54_0)
def sp53_0 : Spec := (53, [(2, 22, 0)], [((0, 1), [])], [(22, 4), (22, 5), (22, 6), (26, 0)], 50)
def cu53_0 : List Cut := [(2, [0, 1], [(2, 22, 0), (0, 0, 241)], [], [(0, 0, 0), (-1, 1, 241)], [])]
theorem os53_0 : okStart H0 [sp54_0, sp57_0] inlF [] [] cu53_0 4000 sp53_0 = true := by decide +kernel
theorem oc53_0 : cu53_0.all (okCut H0 [sp54_0, sp57_0] inlF [] cu53_0 4000 sp53_0) = true := by decide +kernel
theorem ok53_0 (X : Xs) : SpecOK X sp53_0 := sp_sound (sps_cons (ok54_0 X) (sps_cons (ok57_0 X) sps_nil)) rfl os53_0 (List.all_eq_true.mp oc53_0)
def sp51_0 : Spec := (51, [(2, 22, 0)], [((0, 1), [])], [(22, 4), (22, 5), (22, 6), (24, 3), (25, 0), (26, 0)], 60)
def cu51_0 : List Cut := [(15, [0, 1], [(2, 22, 0), (0, 0, 9)], [], [(0, 0, 0), (-1, 1, 9)], [])]
theorem os51_0 : okStart H0 [sp52_0, sp53_0, sp57_0] inlF [] [] cu51_0 4000 sp51_0 = true := by decide +kernel
theorem oc51_0 : cu51_0.all (okCut H0 [sp52_0, sp53_0, sp57_0] inlF [] cu51_0 4000 sp51_0) = true := by decide +kernel
theorem ok51_0 (X : Xs) : SpecOK X sp51_0 := sp_sound (sps_cons (ok52_0 X) (sps_cons (ok53_0 X) (sps_cons (ok57_0 X) sps_nil))) rfl os51_0 (List.all_eq_true.mp oc51_0)
def sp91_0 : Spec := (91, [(2, 0, 0)], [((-2147483648, 2147483647), [])], [(19, 3), (20, 0), (21, 0), (22, 3), (22, 4), (22, 5), (22, 6), (24, 3), (25, 0), (26, 0)], 70)
def cu91_0 : List Cut := []
theorem os91_0 : okStart H0 [sp51_0] inlF [] [] cu91_0 4000 sp91_0 = true := by decide +kernel
theorem oc91_0 : cu91_0.all (okCut H0 [sp51_0] inlF [] cu91_0 4000 sp91_0) = true := by decide +kernel
theorem ok91_0 (X : Xs) : SpecOK X sp91_0 := sp_sound (sps_cons (ok51_0 X) sps_nil) rfl os91_0 (List.all_eq_true.mp oc91_0)
def sp92_0 : Spec := (92, [(2, 0, 0)], [((-2147483648, 2147483647), [])], [], 10)
def cu92_0 : List Cut := []
theorem os92_0 : okStart H0 [] inlF [] [] cu92_0 4000 sp92_0 = true := by decide +kernel
theorem oc92_0 : cu92_0.all (okCut H0 [] inlF [] cu92_0 4000 sp92_0) = true := by decide +kernel
theorem ok92_0 (X : Xs) : SpecOK X sp92_0 := sp_sound (sps_nil) rfl os92_0 (List.all_eq_true.mp oc92_0)
def sp67_0 : Spec := (67, [(2, 19, 0), (0, 0, 9999)], [((0, 8), [])], [], 10)
def cu67_0 : List Cut := [(2, [0, 1, 2], [(2, 19, 0), (0, 0, 9999), (0, 0, 8)], [], [(0, 0, 0), (-1, 2, 8)], [])]
theorem os67_0 : okStart H0 [] inlF [] [] cu67_0 4000 sp67_0 = true := by decide +kernel
theorem oc67_0 : cu67_0.all (okCut H0 [] inlF [] cu67_0 4000 sp67_0) = true := by decide +kernel
theorem ok67_0 (X : Xs) : SpecOK X sp67_0 := sp_sound (sps_nil) rfl os67_0 (List.all_eq_true.mp oc67_0)
def sp68_0 : Spec := (68, [(2, 19, 0), (0, 0, 8), (0, 0, 29)], [((-2147483648, 2147483647), [])], [], 10)
def cu68_0 : List Cut := []
theorem os68_0 : okStart H0 [] inlF [] [] cu68_0 4000 sp68_0 = true := by decide +kernel
theorem oc68_0 : cu68_0.all (okCut H0 [] inlF [] cu68_0 4000 sp68_0) = true := by decide +kernel
theorem ok68_0 (X : Xs) : SpecOK X sp68_0 := sp_sound (sps_nil) rfl os68_0 (List.all_eq_true.mp oc68_0)
def sp93_0 : Spec := (93, [(2, 0, 0), (0, -2147483648, 2147483647), (0, -2147483648, 2147483647), (0, -2147483648, 2147483647)], [((-2147483648, 2147483647), [])], [], 20)
def cu93_0 : List Cut := []
theorem os93_0 : okStart H0 [sp63_0, sp67_0, sp68_0] inlF [] [] cu93_0 4000 sp93_0 = true := by decide +kernel
theorem oc93_0 : cu93_0.all (okCut H0 [sp63_0, sp67_0, sp68_0] inlF [] cu93_0 4000 sp93_0) = true := by decide +kernel
theorem ok93_0 (X : Xs) : SpecOK X sp93_0 := sp_sound (sps_cons (ok63_0 X) (sps_cons (ok67_0 X) (sps_cons (ok68_0 X) sps_nil))) rfl os93_0 (List.all_eq_true.mp oc93_0)
def sp94_0 : Spec := (94, [(2, 0, 0), (0, -2147483648, 2147483647), (0, -2147483648, 2147483647), (0, -2147483648, 2147483647), (0, -2147483648, 2147483647)], [((-100004, 19), [])], [(27, 15), (28, 0), (29, 0), (30, 0), (31, 0), (32, 0), (33, 0), (34, 0), (35, 0)], 20)
def cu94_0 : List Cut := []
theorem os94_0 : okStart H0 [sp67_0] inlF [] [] cu94_0 4000 sp94_0 = true := by decide +kernel
theorem oc94_0 : cu94_0.all (okCut H0 [sp67_0] inlF [] cu94_0 4000 sp94_0) = true := by decide +kernel
theorem ok94_0 (X : Xs) : SpecOK X sp94_0 := sp_sound (sps_cons (ok67_0 X) sps_nil) rfl os94_0 (List.all_eq_true.mp oc94_0)
def sp3_0 : Spec := (3, [(2, 42, 0), (0, 0, 19), (0, 1, 2), (0, 0, 9000)], [((0, 0), [])], [(43, 0), (44, 0)], 10)
def cu3_0 : List Cut := []
theorem os3_0 : okStart H0 [] inlF [] [] cu3_0 4000 sp3_0 = true := by decide +kernel
theorem oc3_0 : cu3_0.all (okCut H0 [] inlF [] cu3_0 4000 sp3_0) = true := by decide +kernel
theorem ok3_0 (X : Xs) : SpecOK X sp3_0 := sp_sound (sps_nil) rfl os3_0 (List.all_eq_true.mp oc3_0)
def sp13_0 : Spec := (13, [(2, 42, 0), (0, 0, 29), (0, 0, 8), (0, 0, 9000)], [((0, 1), [])], [], 20)
def cu13_0 : List Cut := []
theorem os13_0 : okStart H0 [sp68_0] inlF [] [] cu13_0 4000 sp13_0 = true := by decide +kernel
theorem oc13_0 : cu13_0.all (okCut H0 [sp68_0] inlF [] cu13_0 4000 sp13_0) = true := by decide +kernel
theorem ok13_0 (X : Xs) : SpecOK X sp13_0 := sp_sound (sps_cons (ok68_0 X) sps_nil) rfl os13_0 (List.all_eq_true.mp oc13_0)
def sp14_0 : Spec := (14, [(2, 42, 0), (0, 0, 29), (0, 0, 29), (0, 0, 8)], [((0, 1), [])], [(17, 2), (17, 3), (17, 4)], 20)
def cu14_0 : List Cut := []
theorem os14_0 : okStart H0 [sp49_0, sp68_0] inlF [] [] cu14_0 4000 sp14_0 = true := by decide +kernel
theorem oc14_0 : cu14_0.all (okCut H0 [sp49_0, sp68_0] inlF [] cu14_0 4000 sp14_0) = true := by decide +kernel
theorem ok14_0 (X : Xs) : SpecOK X sp14_0 := sp_sound (sps_cons (ok49_0 X) (sps_cons (ok68_0 X) sps_nil)) rfl os14_0 (List.all_eq_true.mp oc14_0)
def sp15_0 : Spec := (15, [(2, 42, 0), (0, 0, 29), (0, -1, 19), (0, 0, 8), (0, 0, 9000)], [((0, 1), [])], [], 20)
def cu15_0 : List Cut := [(8, [0, 1, 2, 4, 5, 6], [(2, 42, 0), (0, 0, 29), (0, -1, 19), (0, 0, 9000), (0, -2147483648, 2147483647), (0, 0, 100)], [], [(0, 0, 0), (-1, 5, 100)], [])]
theorem os15_0 : okStart H0 [sp68_0] inlF [] [] cu15_0 4000 sp15_0 = true := by decide +kernel
theorem oc15_0 : cu15_0.all (okCut H0 [sp68_0] inlF [] cu15_0 4000 sp15_0) = true := by decide +kernel
theorem ok15_0 (X : Xs) : SpecOK X sp15_0 := sp_sound (sps_cons (ok68_0 X) sps_nil) rfl os15_0 (List.all_eq_true.mp oc15_0)
def sp16_0 : Spec := (16, [(2, 42, 0), (0, 0, 29), (0, 0, 8), (0, 0, 9000)], [((0, 1), [])], [], 20)
def cu16_0 : List Cut := [(8, [0, 1, 3, 4, 5], [(2, 42, 0), (0, 0, 29), (0, 0, 9000), (0, -2147483648, 2147483647), (0, 0, 20)], [], [(0, 0, 0), (-1, 4, 20)], [])]
theorem os16_0 : okStart H0 [sp68_0] inlF [] [] cu16_0 4000 sp16_0 = true := by decide +kernel
theorem oc16_0 : cu16_0.all (okCut H0 [sp68_0] inlF [] cu16_0 4000 sp16_0) = true := by decide +kernel
theorem ok16_0 (X : Xs) : SpecOK X sp16_0 := sp_sound (sps_cons (ok68_0 X) sps_nil) rfl os16_0 (List.all_eq_true.mp oc16_0)
def sp36_0 : Spec := (36, [(2, 12, 0), (0, 0, 7), (0, 0, 7), (0, 0, 9000)], [((0, 1), [])], [], 20)
def cu36_0 : List Cut := [(2, [0, 1, 2, 3, 4], [(2, 12, 0), (0, 0, 7), (0, 0, 7), (0, 0, 9000), (0, 0, 20)], [], [(0, 0, 0), (-1, 4, 20)], [])]
theorem os36_0 : okStart H0 [sp33_0] inlF [] [] cu36_0 4000 sp36_0 = true := by decide +kernel
theorem oc36_0 : cu36_0.all (okCut H0 [sp33_0] inlF [] cu36_0 4000 sp36_0) = true := by decide +kernel
theorem ok36_0 (X : Xs) : SpecOK X sp36_0 := sp_sound (sps_cons (ok33_0 X) sps_nil) rfl os36_0 (List.all_eq_true.mp oc36_0)
def sp12_0 : Spec := (12, [(2, 42, 0), (0, 0, 29), (0, 0, 29), (0, -1, 29), (0, -1, 19), (0, 0, 8), (0, 0, 9000)], [((0, 6), [])], [(17, 2), (17, 3), (17, 4)], 30)
def cu12_0 : List Cut := []
theorem os12_0 : okStart H0 [sp13_0, sp14_0, sp15_0, sp16_0, sp36_0, sp68_0] inlF [] [] cu12_0 4000 sp12_0 = true := by decide +kernel
theorem oc12_0 : cu12_0.all (okCut H0 [sp13_0, sp14_0, sp15_0, sp16_0, sp36_0, sp68_0] inlF [] cu12_0 4000 sp12_0) = true := by decide +kernel
theorem ok12_0 (X : Xs) : SpecOK X sp12_0 := sp_sound (sps_cons (ok13_0 X) (sps_cons (ok14_0 X) (sps_cons (ok15_0 X) (sps_cons (ok16_0 X) (sps_cons (ok36_0 X) (sps_cons (ok68_0 X) sps_nil)))))) rfl os12_0 (List.all_eq_true.mp oc12_0)
def sp11_0 : Spec := (11, [(2, 42, 0), (0, 0, 29), (0, 0, 19), (0, 0, 9000)], [((0, 6), [])], [(17, 2), (17, 3), (17, 4)], 40)
def cu11_0 : List Cut := []
theorem os11_0 : okStart H0 [sp12_0] inlF [] [] cu11_0 4000 sp11_0 = true := by decide +kernel
theorem oc11_0 : cu11_0.all (okCut H0 [sp12_0] inlF [] cu11_0 4000 sp11_0) = true := by decide +kernel
theorem ok11_0 (X : Xs) : SpecOK X sp11_0 := sp_sound (sps_cons (ok12_0 X) sps_nil) rfl os11_0 (List.all_eq_true.mp oc11_0)
def sp6_0 : Spec := (6, [(2, 42, 0), (0, 0, 19)], [((-2147483648, 2147483647), [])], [], 20)
def cu6_0 : List Cut := []
theorem os6_0 : okStart H0 [sp68_0] inlF [] [] cu6_0 4000 sp6_0 = true := by decide +kernel
theorem oc6_0 : cu6_0.all (okCut H0 [sp68_0] inlF [] cu6_0 4000 sp6_0) = true := by decide +kernel
theorem ok6_0 (X : Xs) : SpecOK X sp6_0 := sp_sound (sps_cons (ok68_0 X) sps_nil) rfl os6_0 (List.all_eq_true.mp oc6_0)
def sp7_0 : Spec := (7, [(2, 42, 0), (0, 0, 19)], [((0, 2147483647), [])], [], 30)
def cu7_0 : List Cut := []
theorem os7_0 : okStart H0 [sp6_0] inlF [] [] cu7_0 4000 sp7_0 = true := by decide +kernel
theorem oc7_0 : cu7_0.all (okCut H0 [sp6_0] inlF [] cu7_0 4000 sp7_0) = true := by decide +kernel
theorem ok7_0 (X : Xs) : SpecOK X sp7_0 := sp_sound (sps_cons (ok6_0 X) sps_nil) rfl os7_0 (List.all_eq_true.mp oc7_0)
def sp2_0 : Spec := (2, [(2, 42, 0), (0, 0, 99)], [((0, 0), [])], [(17, 2), (17, 3), (17, 4), (42, 11), (43, 0), (44, 0), (45, 0), (46, 0)], 50)
def cu2_0 : List Cut := []
theorem os2_0 : okStart H0 [sp11_0, sp3_0, sp7_0] inlF [] [] cu2_0 4000 sp2_0 = true := by decide +kernel
theorem oc2_0 : cu2_0.all (okCut H0 [sp11_0, sp3_0, sp7_0] inlF [] cu2_0 4000 sp2_0) = true := by decide +kernel
theorem ok2_0 (X : Xs) : SpecOK X sp2_0 := sp_sound (sps_cons (ok11_0 X) (sps_cons (ok3_0 X) (sps_cons (ok7_0 X) sps_nil))) rfl os2_0 (List.all_eq_true.mp oc2_0)
def sp1_0 : Spec := (1, [(2, 42, 0), (0, 0, 9000)], [((0, 0), [])], [(17, 2), (17, 3), (17, 4), (42, 11), (42, 12), (43, 0), (44, 0), (45, 0), (46, 0)], 60)
def cu1_0 : List Cut := [(2, [0, 1, 2], [(2, 42, 0), (0, 0, 9000), (0, 0, 20)], [], [(0, 0, 1), (-1, 2, 20)], []),
  (32, [0, 1, 2], [(2, 42, 0), (0, 0, 9000), (0, 0, 120)], [], [(0, 0, 0), (-1, 2, 120)], [])]
theorem os1_0 : okStart H0 [sp2_0, sp3_0] inlF [] [] cu1_0 4000 sp1_0 = true := by decide +kernel
theorem oc1_0 : cu1_0.all (okCut H0 [sp2_0, sp3_0] inlF [] cu1_0 4000 sp1_0) = true := by decide +kernel
theorem ok1_0 (X : Xs) : SpecOK X sp1_0 := sp_sound (sps_cons (ok2_0 X) (sps_cons (ok3_0 X) sps_nil)) rfl os1_0 (List.all_eq_true.mp oc1_0)
def sp95_0 : Spec := (95, [(2, 0, 0), (0, -2147483648, 2147483647), (0, -2147483648, 2147483647), (0, -2147483648, 2147483647), (0, -2147483648, 2147483647)], [((-100002, 6), [])], [(17, 2), (17, 3), (17, 4), (42, 11), (42, 12), (43, 0), (44, 0), (45, 0), (46, 0)], 70)
def cu95_0 : List Cut := []
theorem os95_0 : okStart H0 [sp1_0, sp11_0] inlF [] [] cu95_0 4000 sp95_0 = true := by decide +kernel
theorem oc95_0 : cu95_0.all (okCut H0 [sp1_0, sp11_0] inlF [] cu95_0 4000 sp95_0) = true := by decide +kernel
theorem ok95_0 (X : Xs) : SpecOK X sp95_0 := sp_sound (sps_cons (ok1_0 X) (sps_cons (ok11_0 X) sps_nil)) rfl os95_0 (List.all_eq_true.mp oc95_0)
def sp27_0 : Spec := (27, [(2, 27, 0), (0, 0, 29), (0, 0, 19)], [((0, 1), [])], [], 10)
def cu27_0 : List Cut := [(2, [0, 1, 2, 3], [(2, 27, 0), (0, 0, 29), (0, 0, 19), (0, 0, 100)], [], [(0, 0, 0), (-1, 3, 100)], [])]
theorem os27_0 : okStart H0 [] inlF [] [] cu27_0 4000 sp27_0 = true := by decide +kernel
theorem oc27_0 : cu27_0.all (okCut H0 [] inlF [] cu27_0 4000 sp27_0) = true := by decide +kernel
theorem ok27_0 (X : Xs) : SpecOK X sp27_0 := sp_sound (sps_nil) rfl os27_0 (List.all_eq_true.mp oc27_0)
def sp30_0 : Spec := (30, [(2, 27, 0), (0, 0, 29), (0, 0, 9000)], [((-2147483648, 2147483647), [])], [], 10)
def cu30_0 : List Cut := [(4, [0, 1, 2, 3, 4], [(2, 27, 0), (0, 0, 29), (0, 0, 9000), (0, -2147483648, 2147483647), (0, 0, 100)], [], [(0, 0, 0), (-1, 4, 100)], [])]
theorem os30_0 : okStart H0 [] inlF [] [] cu30_0 4000 sp30_0 = true := by decide +kernel
theorem oc30_0 : cu30_0.all (okCut H0 [] inlF [] cu30_0 4000 sp30_0) = true := by decide +kernel
theorem ok30_0 (X : Xs) : SpecOK X sp30_0 := sp_sound (sps_nil) rfl os30_0 (List.all_eq_true.mp oc30_0)
def sp118_0 : Spec := (118, [(2, 0, 0), (0, 0, 29), (0, 0, 19)], [((0, 1), [])], [(17, 2), (17, 3), (17, 4)], 50)
def cu118_0 : List Cut := []
theorem os118_0 : okStart H0 [sp11_0, sp27_0, sp30_0] inlF [] [] cu118_0 4000 sp118_0 = true := by decide +kernel
theorem oc118_0 : cu118_0.all (okCut H0 [sp11_0, sp27_0, sp30_0] inlF [] cu118_0 4000 sp118_0) = true := by decide +kernel
theorem ok118_0 (X : Xs) : SpecOK X sp118_0 := sp_sound (sps_cons (ok11_0 X) (sps_cons (ok27_0 X) (sps_cons (ok30_0 X) sps_nil))) rfl os118_0 (List.all_eq_true.mp oc118_0)
def sp10_0 : Spec := (10, [(2, 42, 0), (0, 0, 29), (0, 0, 8), (0, 0, 9000)], [((-2147483648, 2147483647), [])], [], 20)
def cu10_0 : List Cut := []
theorem os10_0 : okStart H0 [sp68_0, sp74_0] inlF [] [] cu10_0 4000 sp10_0 = true := by decide +kernel
theorem oc10_0 : cu10_0.all (okCut H0 [sp68_0, sp74_0] inlF [] cu10_0 4000 sp10_0) = true := by decide +kernel
theorem ok10_0 (X : Xs) : SpecOK X sp10_0 := sp_sound (sps_cons (ok68_0 X) (sps_cons (ok74_0 X) sps_nil)) rfl os10_0 (List.all_eq_true.mp oc10_0)
def sp96_0 : Spec := (96, [(2, 0, 0), (0, -2147483648, 2147483647), (0, -2147483648, 2147483647)], [((-2147483648, 2147483647), [])], [(17, 2), (17, 3), (17, 4), (27, 16), (27, 17), (35, 0), (36, 0), (37, 0), (38, 0), (39, 0), (40, 0), (41, 0), (42, 11), (42, 12), (43, 0), (44, 0), (45, 0), (46, 0)], 70)
def cu96_0 : List Cut := []
theorem os96_0 : okStart H0 [sp1_0, sp10_0, sp118_0, sp7_0] inlF [] [] cu96_0 4000 sp96_0 = true := by decide +kernel
theorem oc96_0 : cu96_0.all (okCut H0 [sp1_0, sp10_0, sp118_0, sp7_0] inlF [] cu96_0 4000 sp96_0) = true := by decide +kernel
theorem ok96_0 (X : Xs) : SpecOK X sp96_0 := sp_sound (sps_cons (ok1_0 X) (sps_cons (ok10_0 X) (sps_cons (ok118_0 X) (sps_cons (ok7_0 X) sps_nil)))) rfl os96_0 (List.all_eq_true.mp oc96_0)
def sp97_0 : Spec := (97, [(2, 0, 0), (0, -2147483648, 2147483647)], [((-100003, 2147483647), [])], [(17, 2), (17, 3), (17, 4), (27, 17), (40, 0), (41, 0), (42, 11), (42, 12), (43, 0), (44, 0), (45, 0), (46, 0)], 70)
def cu97_0 : List Cut := []
theorem os97_0 : okStart H0 [sp1_0, sp7_0] inlF [] [] cu97_0 4000 sp97_0 = true := by decide +kernel
theorem oc97_0 : cu97_0.all (okCut H0 [sp1_0, sp7_0] inlF [] cu97_0 4000 sp97_0) = true := by decide +kernel
theorem ok97_0 (X : Xs) : SpecOK X sp97_0 := sp_sound (sps_cons (ok1_0 X) (sps_cons (ok7_0 X) sps_nil)) rfl os97_0 (List.all_eq_true.mp oc97_0)
def sp29_0 : Spec := (29, [(2, 27, 0), (0, 0, 19)], [((-2147483648, 2147483647), [])], [], 10)
def cu29_0 : List Cut := [(4, [0, 1, 2, 3], [(2, 27, 0), (0, 0, 19), (0, -2147483648, 2147483647), (0, 0, 100)], [], [(0, 0, 0), (-1, 3, 100)], [])]
theorem os29_0 : okStart H0 [] inlF [] [] cu29_0 4000 sp29_0 = true := by decide +kernel
theorem oc29_0 : cu29_0.all (okCut H0 [] inlF [] cu29_0 4000 sp29_0) = true := by decide +kernel
theorem ok29_0 (X : Xs) : SpecOK X sp29_0 := sp_sound (sps_nil) rfl os29_0 (List.all_eq_true.mp oc29_0)
def sp98_0 : Spec := (98, [(2, 0, 0), (0, -2147483648, 2147483647)], [((-2147483648, 2147483647), [])], [(17, 2), (17, 3), (17, 4), (34, 0), (42, 11), (42, 12), (43, 0), (44, 0), (45, 0), (46, 0)], 70)
def cu98_0 : List Cut := []
theorem os98_0 : okStart H0 [sp1_0, sp29_0] inlF [] [] cu98_0 4000 sp98_0 = true := by decide +kernel
theorem oc98_0 : cu98_0.all (okCut H0 [sp1_0, sp29_0] inlF [] cu98_0 4000 sp98_0) = true := by decide +kernel
theorem ok98_0 (X : Xs) : SpecOK X sp98_0 := sp_sound (sps_cons (ok1_0 X) (sps_cons (ok29_0 X) sps_nil)) rfl os98_0 (List.all_eq_true.mp oc98_0)
def sp99_0 : Spec := (99, [(2, 0, 0), (0, -2147483648, 2147483647), (0, -2147483648, 2147483647)], [((-2147483648, 2147483647), [])], [(17, 2), (17, 3), (17, 4), (42, 11), (42, 12), (43, 0), (44, 0), (45, 0), (46, 0)], 70)
def cu99_0 : List Cut := []
theorem os99_0 : okStart H0 [sp1_0] inlF [] [] cu99_0 4000 sp99_0 = true := by decide +kernel
theorem oc99_0 : cu99_0.all (okCut H0 [sp1_0] inlF [] cu99_0 4000 sp99_0) = true := by decide +kernel
theorem ok99_0 (X : Xs) : SpecOK X sp99_0 := sp_sound (sps_cons (ok1_0 X) sps_nil) rfl os99_0 (List.all_eq_true.mp oc99_0)
def sp100_0 : Spec := (100, [(2, 0, 0), (0, -2147483648, 2147483647), (0, -2147483648, 2147483647), (0, -2147483648, 2147483647)], [((-2147483648, 2147483647), [])], [(17, 2), (17, 3), (17, 4), (42, 11), (42, 12), (43, 0), (44, 0), (45, 0), (46, 0)], 70)
def cu100_0 : List Cut := []
theorem os100_0 : okStart H0 [sp1_0, sp6_0, sp7_0] inlF [] [] cu100_0 4000 sp100_0 = true := by decide +kernel
theorem oc100_0 : cu100_0.all (okCut H0 [sp1_0, sp6_0, sp7_0] inlF [] cu100_0 4000 sp100_0) = true := by decide +kernel
theorem ok100_0 (X : Xs) : SpecOK X sp100_0 := sp_sound (sps_cons (ok1_0 X) (sps_cons (ok6_0 X) (sps_cons (ok7_0 X) sps_nil))) rfl os100_0 (List.all_eq_true.mp oc100_0)
def sp5_0 : Spec := (5, [(2, 42, 0), (0, 0, 9000)], [((-2147483648, 2147483647), [])], [], 10)
def cu5_0 : List Cut := [(4, [0, 1, 2, 3], [(2, 42, 0), (0, 0, 9000), (0, -2147483648, 2147483647), (0, 0, 20)], [], [(0, 0, 0), (-1, 3, 20)], [])]
theorem os5_0 : okStart H0 [] inlF [] [] cu5_0 4000 sp5_0 = true := by decide +kernel
theorem oc5_0 : cu5_0.all (okCut H0 [] inlF [] cu5_0 4000 sp5_0) = true := by decide +kernel
theorem ok5_0 (X : Xs) : SpecOK X sp5_0 := sp_sound (sps_nil) rfl os5_0 (List.all_eq_true.mp oc5_0)
def sp101_0 : Spec := (101, [(2, 0, 0), (0, -2147483648, 2147483647), (0, -2147483648, 2147483647)], [((-2147483648, 2147483647), [])], [(17, 2), (17, 3), (17, 4), (42, 11), (42, 12), (43, 0), (44, 0), (45, 0), (46, 0), (47, 0)], 70)
def cu101_0 : List Cut := []
theorem os101_0 : okStart H0 [sp1_0, sp5_0] inlF [] [] cu101_0 4000 sp101_0 = true := by decide +kernel
theorem oc101_0 : cu101_0.all (okCut H0 [sp1_0, sp5_0] inlF [] cu101_0 4000 sp101_0) = true := by decide +kernel
theorem ok101_0 (X : Xs) : SpecOK X sp101_0 := sp_sound (sps_cons (ok1_0 X) (sps_cons (ok5_0 X) sps_nil)) rfl os101_0 (List.all_eq_true.mp oc101_0)
def sp20_0 : Spec := (20, [(2, 42, 0), (0, 0, 29)], [((-2147483648, 2147483647), [])], [], 40)
def cu20_0 : List Cut := [(4, [0, 1, 2, 3], [(2, 42, 0), (0, 0, 29), (0, -2147483648, 2147483647), (0, 0, 20)], [], [(0, 0, 1), (-1, 3, 20)], []),
  (57, [0, 1, 2, 3], [(2, 42, 0), (0, 0, 29), (0, -2147483648, 2147483647), (0, 0, 100)], [], [(0, 0, 0), (-1, 3, 100)], [])]
theorem os20_0 : okStart H0 [sp68_0, sp7_0] inlF [] [] cu20_0 4000 sp20_0 = true := by decide +kernel
theorem oc20_0 : cu20_0.all (okCut H0 [sp68_0, sp7_0] inlF [] cu20_0 4000 sp20_0) = true := by decide +kernel
theorem ok20_0 (X : Xs) : SpecOK X sp20_0 := sp_sound (sps_cons (ok68_0 X) (sps_cons (ok7_0 X) sps_nil)) rfl os20_0 (List.all_eq_true.mp oc20_0)
def sp77_0 : Spec := (77, [(2, 48, 0), (0, 0, 29), (0, -2147483648, 2147483647)], [((-2147483648, 2147483647), [])], [], 10)
def cu77_0 : List Cut := [(4, [0, 1, 2, 3, 4], [(2, 48, 0), (0, 0, 29), (0, -2147483648, 2147483647), (0, -2147483648, 2147483647), (0, 0, 60)], [], [(0, 0, 0), (-1, 4, 60)], [])]
theorem os77_0 : okStart H0 [] inlF [] [] cu77_0 4000 sp77_0 = true := by decide +kernel
theorem oc77_0 : cu77_0.all (okCut H0 [] inlF [] cu77_0 4000 sp77_0) = true := by decide +kernel
theorem ok77_0 (X : Xs) : SpecOK X sp77_0 := sp_sound (sps_nil) rfl os77_0 (List.all_eq_true.mp oc77_0)
def sp119_0 : Spec := (119, [(2, 0, 0), (0, 0, 29)], [((-2147483648, 2147483647), [])], [], 50)
def cu119_0 : List Cut := []
theorem os119_0 : okStart H0 [sp20_0, sp77_0] inlF [] [] cu119_0 4000 sp119_0 = true := by decide +kernel
theorem oc119_0 : cu119_0.all (okCut H0 [sp20_0, sp77_0] inlF [] cu119_0 4000 sp119_0) = true := by decide +kernel
theorem ok119_0 (X : Xs) : SpecOK X sp119_0 := sp_sound (sps_cons (ok20_0 X) (sps_cons (ok77_0 X) sps_nil)) rfl os119_0 (List.all_eq_true.mp oc119_0)
def sp102_0 : Spec := (102, [(2, 0, 0), (0, -2147483648, 2147483647), (0, -2147483648, 2147483647)], [((-2147483648, 2147483647), [])], [(17, 2), (17, 3), (17, 4), (42, 11), (42, 12), (43, 0), (44, 0), (45, 0), (46, 0), (48, 4), (49, 0), (50, 0), (51, 0)], 70)
def cu102_0 : List Cut := []
theorem os102_0 : okStart H0 [sp1_0, sp119_0] inlF [] [] cu102_0 4000 sp102_0 = true := by decide +kernel
theorem oc102_0 : cu102_0.all (okCut H0 [sp1_0, sp119_0] inlF [] cu102_0 4000 sp102_0) = true := by decide +kernel
theorem ok102_0 (X : Xs) : SpecOK X sp102_0 := sp_sound (sps_cons (ok1_0 X) (sps_cons (ok119_0 X) sps_nil)) rfl os102_0 (List.all_eq_true.mp oc102_0)
def sp103_0 : Spec := (103, [(2, 0, 0), (0, -2147483648, 2147483647), (0, -2147483648, 2147483647), (0, -2147483648, 2147483647)], [((-2147483648, 2147483647), [])], [(17, 2), (17, 3), (17, 4), (42, 11), (42, 12), (43, 0), (44, 0), (45, 0), (46, 0)], 70)
def cu103_0 : List Cut := []
theorem os103_0 : okStart H0 [sp1_0, sp119_0, sp20_0, sp77_0] inlF [] [] cu103_0 4000 sp103_0 = true := by decide +kernel
theorem oc103_0 : cu103_0.all (okCut H0 [sp1_0, sp119_0, sp20_0, sp77_0] inlF [] cu103_0 4000 sp103_0) = true := by decide +kernel
theorem ok103_0 (X : Xs) : SpecOK X sp103_0 := sp_sound (sps_cons (ok1_0 X) (sps_cons (ok119_0 X) (sps_cons (ok20_0 X) (sps_cons (ok77_0 X) sps_nil)))) rfl os103_0 (List.all_eq_true.mp oc103_0)
def sp104_0 : Spec := (104, [(2, 0, 0), (0, -2147483648, 2147483647)], [((-2147483648, 2147483647), [])], [(52, 14)], 10)
def cu104_0 : List Cut := []
theorem os104_0 : okStart H0 [] inlF [] [] cu104_0 4000 sp104_0 = true := by decide +kernel
theorem oc104_0 : cu104_0.all (okCut H0 [] inlF [] cu104_0 4000 sp104_0) = true := by decide +kernel
theorem ok104_0 (X : Xs) : SpecOK X sp104_0 := sp_sound (sps_nil) rfl os104_0 (List.all_eq_true.mp oc104_0)
def sp9_0 : Spec := (9, [(2, 42, 0), (0, -2147483648, 2147483647)], [((0, 1), [])], [], 10)
def cu9_0 : List Cut := [(2, [0, 1, 2], [(2, 42, 0), (0, -2147483648, 2147483647), (0, 0, 20)], [], [(0, 0, 0), (-1, 2, 20)], [])]
theorem os9_0 : okStart H0 [] inlF [] [] cu9_0 4000 sp9_0 = true := by decide +kernel
theorem oc9_0 : cu9_0.all (okCut H0 [] inlF [] cu9_0 4000 sp9_0) = true := by decide +kernel
theorem ok9_0 (X : Xs) : SpecOK X sp9_0 := sp_sound (sps_nil) rfl os9_0 (List.all_eq_true.mp oc9_0)
def sp39_0 : Spec := (39, [(2, 52, 0), (0, 0, 9000)], [((0, 0), [])], [(52, 13), (58, 0)], 20)
def cu39_0 : List Cut := [(5, [0, 1, 2], [(2, 52, 0), (0, 0, 9000), (0, 0, 30)], [], [(0, 0, 0), (-1, 2, 30)], [])]
theorem os39_0 : okStart H0 [sp30_0] inlF [] [] cu39_0 4000 sp39_0 = true := by decide +kernel
theorem oc39_0 : cu39_0.all (okCut H0 [sp30_0] inlF [] cu39_0 4000 sp39_0) = true := by decide +kernel
theorem ok39_0 (X : Xs) : SpecOK X sp39_0 := sp_sound (sps_cons (ok30_0 X) sps_nil) rfl os39_0 (List.all_eq_true.mp oc39_0)
def sp46_0 : Spec := (46, [(2, 52, 0)], [((0, 0), [])], [(52, 17), (52, 18), (60, 0)], 10)
def cu46_0 : List Cut := [(6, [0, 1, 2, 3], [(2, 52, 0), (0, -2147483648, 2147483647), (0, -2147483648, 2147483647), (0, 0, 5)], [], [(0, 0, 0), (-1, 3, 5)], [])]
theorem os46_0 : okStart H0 [] inlF [] [] cu46_0 4000 sp46_0 = true := by decide +kernel
theorem oc46_0 : cu46_0.all (okCut H0 [] inlF [] cu46_0 4000 sp46_0) = true := by decide +kernel
theorem ok46_0 (X : Xs) : SpecOK X sp46_0 := sp_sound (sps_nil) rfl os46_0 (List.all_eq_true.mp oc46_0)
def sp43_5 : Spec := (43, [(2, 52, 0), (0, 5, 5)], [((0, 0), [])], [(52, 17), (52, 18), (60, 0)], 20)
def cu43_5 : List Cut := []
theorem os43_5 : okStart H0 [sp46_0] inlF [] [] cu43_5 4000 sp43_5 = true := by decide +kernel
theorem oc43_5 : cu43_5.all (okCut H0 [sp46_0] inlF [] cu43_5 4000 sp43_5) = true := by decide +kernel
theorem ok43_5 (X : Xs) : SpecOK X sp43_5 := sp_sound (sps_cons (ok46_0 X) sps_nil) rfl os43_5 (List.all_eq_true.mp oc43_5)
def sp44_0 : Spec := (44, [(2, 52, 0), (0, 0, 4), (0, -2147483648, 2147483647)], [((0, 0), [])], [(52, 13), (58, 0), (59, 0)], 10)
def cu44_0 : List Cut := [(7, [0, 2, 3], [(2, 52, 0), (0, -2147483648, 2147483647), (0, 0, 30)], [], [(0, 0, 0), (-1, 2, 30)], [])]
theorem os44_0 : okStart H0 [] inlF [] [] cu44_0 4000 sp44_0 = true := by decide +kernel
theorem oc44_0 : cu44_0.all (okCut H0 [] inlF [] cu44_0 4000 sp44_0) = true := by decide +kernel
theorem ok44_0 (X : Xs) : SpecOK X sp44_0 := sp_sound (sps_nil) rfl os44_0 (List.all_eq_true.mp oc44_0)
def sp45_0 : Spec := (45, [(2, 52, 0), (0, 0, 4), (0, -2147483648, 2147483647)], [((0, 0), [])], [(52, 13), (58, 0), (59, 0)], 10)
def cu45_0 : List Cut := [(7, [0, 2, 3], [(2, 52, 0), (0, -2147483648, 2147483647), (0, 0, 30)], [], [(0, 0, 0), (-1, 2, 30)], [])]
theorem os45_0 : okStart H0 [] inlF [] [] cu45_0 4000 sp45_0 = true := by decide +kernel
theorem oc45_0 : cu45_0.all (okCut H0 [] inlF [] cu45_0 4000 sp45_0) = true := by decide +kernel
theorem ok45_0 (X : Xs) : SpecOK X sp45_0 := sp_sound (sps_nil) rfl os45_0 (List.all_eq_true.mp oc45_0)
def sp43_4 : Spec := (43, [(2, 52, 0), (0, 4, 4)], [((0, 0), [])], [(52, 13), (52, 15), (52, 16), (52, 17), (52, 18), (58, 0), (59, 0), (60, 0)], 30)
def cu43_4 : List Cut := [(12, [0, 1, 2], [(2, 52, 0), (0, 4, 4), (0, 0, 252)], [], [(0, 0, 0), (-1, 2, 252)], [])]
theorem os43_4 : okStart H0 [sp43_5, sp44_0, sp45_0, sp46_0] inlF [] [] cu43_4 4000 sp43_4 = true := by decide +kernel
theorem oc43_4 : cu43_4.all (okCut H0 [sp43_5, sp44_0, sp45_0, sp46_0] inlF [] cu43_4 4000 sp43_4) = true := by decide +kernel
theorem ok43_4 (X : Xs) : SpecOK X sp43_4 := sp_sound (sps_cons (ok43_5 X) (sps_cons (ok44_0 X) (sps_cons (ok45_0 X) (sps_cons (ok46_0 X) sps_nil)))) rfl os43_4 (List.all_eq_true.mp oc43_4)
def sp43_3 : Spec := (43, [(2, 52, 0), (0, 3, 3)], [((0, 0), [])], [(52, 13), (52, 15), (52, 16), (52, 17), (52, 18), (58, 0), (59, 0), (60, 0)], 40)
def cu43_3 : List Cut := [(12, [0, 1, 2], [(2, 52, 0), (0, 3, 3), (0, 0, 252)], [], [(0, 0, 0), (-1, 2, 252)], [])]
theorem os43_3 : okStart H0 [sp43_4, sp44_0, sp45_0, sp46_0] inlF [] [] cu43_3 4000 sp43_3 = true := by decide +kernel
theorem oc43_3 : cu43_3.all (okCut H0 [sp43_4, sp44_0, sp45_0, sp46_0] inlF [] cu43_3 4000 sp43_3) = true := by decide +kernel
theorem ok43_3 (X : Xs) : SpecOK X sp43_3 := sp_sound (sps_cons (ok43_4 X) (sps_cons (ok44_0 X) (sps_cons (ok45_0 X) (sps_cons (ok46_0 X) sps_nil)))) rfl os43_3 (List.all_eq_true.mp oc43_3)
def sp43_2 : Spec := (43, [(2, 52, 0), (0, 2, 2)], [((0, 0), [])], [(52, 13), (52, 15), (52, 16), (52, 17), (52, 18), (58, 0), (59, 0), (60, 0)], 50)
def cu43_2 : List Cut := [(12, [0, 1, 2], [(2, 52, 0), (0, 2, 2), (0, 0, 252)], [], [(0, 0, 0), (-1, 2, 252)], [])]
theorem os43_2 : okStart H0 [sp43_3, sp44_0, sp45_0, sp46_0] inlF [] [] cu43_2 4000 sp43_2 = true := by decide +kernel
theorem oc43_2 : cu43_2.all (okCut H0 [sp43_3, sp44_0, sp45_0, sp46_0] inlF [] cu43_2 4000 sp43_2) = true := by decide +kernel
theorem ok43_2 (X : Xs) : SpecOK X sp43_2 := sp_sound (sps_cons (ok43_3 X) (sps_cons (ok44_0 X) (sps_cons (ok45_0 X) (sps_cons (ok46_0 X) sps_nil)))) rfl os43_2 (List.all_eq_true.mp oc43_2)
def sp43_1 : Spec := (43, [(2, 52, 0), (0, 1, 1)], [((0, 0), [])], [(52, 13), (52, 15), (52, 16), (52, 17), (52, 18), (58, 0), (59, 0), (60, 0)], 60)
def cu43_1 : List Cut := [(12, [0, 1, 2], [(2, 52, 0), (0, 1, 1), (0, 0, 252)], [], [(0, 0, 0), (-1, 2, 252)], [])]
theorem os43_1 : okStart H0 [sp43_2, sp44_0, sp45_0, sp46_0] inlF [] [] cu43_1 4000 sp43_1 = true := by decide +kernel
theorem oc43_1 : cu43_1.all (okCut H0 [sp43_2, sp44_0, sp45_0, sp46_0] inlF [] cu43_1 4000 sp43_1) = true := by decide +kernel
theorem ok43_1 (X : Xs) : SpecOK X sp43_1 := sp_sound (sps_cons (ok43_2 X) (sps_cons (ok44_0 X) (sps_cons (ok45_0 X) (sps_cons (ok46_0 X) sps_nil)))) rfl os43_1 (List.all_eq_true.mp oc43_1)
def sp43_0 : Spec := (43, [(2, 52, 0), (0, 0, 0)], [((0, 0), [])], [(52, 13), (52, 15), (52, 16), (52, 17), (52, 18), (58, 0), (59, 0), (60, 0)], 70)
def cu43_0 : List Cut := [(12, [0, 1, 2], [(2, 52, 0), (0, 0, 0), (0, 0, 252)], [], [(0, 0, 0), (-1, 2, 252)], [])]
theorem os43_0 : okStart H0 [sp43_1, sp44_0, sp45_0, sp46_0] inlF [] [] cu43_0 4000 sp43_0 = true := by decide +kernel
theorem oc43_0 : cu43_0.all (okCut H0 [sp43_1, sp44_0, sp45_0, sp46_0] inlF [] cu43_0 4000 sp43_0) = true := by decide +kernel
theorem ok43_0 (X : Xs) : SpecOK X sp43_0 := sp_sound (sps_cons (ok43_1 X) (sps_cons (ok44_0 X) (sps_cons (ok45_0 X) (sps_cons (ok46_0 X) sps_nil)))) rfl os43_0 (List.all_eq_true.mp oc43_0)
def sp41_0 : Spec := (41, [(2, 52, 0), (0, 0, 19), (0, 0, 9000)], [((0, 10), [])], [(17, 2), (17, 3), (17, 4), (56, 0), (57, 0)], 50)
def cu41_0 : List Cut := [(4, [0, 1, 2, 3, 4], [(2, 52, 0), (0, 0, 19), (0, 0, 9000), (0, 0, 10), (0, 0, 30)], [], [(0, 0, 0), (-1, 4, 30)], [])]
theorem os41_0 : okStart H0 [sp10_0, sp11_0, sp27_0] inlF [] [] cu41_0 4000 sp41_0 = true := by decide +kernel
theorem oc41_0 : cu41_0.all (okCut H0 [sp10_0, sp11_0, sp27_0] inlF [] cu41_0 4000 sp41_0) = true := by decide +kernel
theorem ok41_0 (X : Xs) : SpecOK X sp41_0 := sp_sound (sps_cons (ok10_0 X) (sps_cons (ok11_0 X) (sps_cons (ok27_0 X) sps_nil))) rfl os41_0 (List.all_eq_true.mp oc41_0)
def sp40_0 : Spec := (40, [(2, 52, 0), (0, 0, 4), (0, 0, 10), (0, 0, 2147483647)], [((0, 0), [])], [(54, 0), (55, 0)], 10)
def cu40_0 : List Cut := [(7, [0, 1, 2, 3, 4], [(2, 52, 0), (0, 0, 4), (0, 0, 10), (0, 0, 2147483647), (0, 0, 2147483647)], [], [(0, 0, 1), (-1, 4, 2147483647), (0, 0, 1000), (0, 0, 0)], []),
  (20, [0, 1, 2, 3, 4, 5, 6, 7, 8], [(2, 52, 0), (0, 0, 4), (0, 0, 10), (0, 0, 2147483647), (0, 0, 2147483646), (0, -2147483648, 2147483647), (0, -2147483648, 2147483647), (0, -2147483648, 2147483647), (0, 0, 10)], [], [(0, 0, 1), (-1, 4, 2147483647), (0, 0, 0), (-1, 8, 10)], [])]
theorem os40_0 : okStart H0 [] inlF [] [] cu40_0 4000 sp40_0 = true := by decide +kernel
theorem oc40_0 : cu40_0.all (okCut H0 [] inlF [] cu40_0 4000 sp40_0) = true := by decide +kernel
theorem ok40_0 (X : Xs) : SpecOK X sp40_0 := sp_sound (sps_nil) rfl os40_0 (List.all_eq_true.mp oc40_0)
def sp37_0 : Spec := (37, [(2, 52, 0), (0, -2147483648, 2147483647), (0, 0, 9000)], [((0, 0), [])], [(17, 2), (17, 3), (17, 4), (52, 12), (52, 13), (52, 15), (52, 16), (52, 17), (52, 18), (53, 0), (54, 0), (55, 0), (56, 0), (57, 0), (58, 0), (59, 0), (60, 0)], 80)
def cu37_0 : List Cut := [(5, [0, 1, 2, 3], [(2, 52, 0), (0, -2147483648, 2147483647), (0, 0, 9000), (0, 0, 20)], [], [(0, 0, 0), (-1, 3, 20)], [])]
theorem os37_0 : okStart H0 [sp39_0, sp40_0, sp41_0, sp43_0, sp7_0] inlF [] [] cu37_0 4000 sp37_0 = true := by decide +kernel
theorem oc37_0 : cu37_0.all (okCut H0 [sp39_0, sp40_0, sp41_0, sp43_0, sp7_0] inlF [] cu37_0 4000 sp37_0) = true := by decide +kernel
theorem ok37_0 (X : Xs) : SpecOK X sp37_0 := sp_sound (sps_cons (ok39_0 X) (sps_cons (ok40_0 X) (sps_cons (ok41_0 X) (sps_cons (ok43_0 X) (sps_cons (ok7_0 X) sps_nil))))) rfl os37_0 (List.all_eq_true.mp oc37_0)
def sp105_0 : Spec := (105, [(2, 0, 0), (0, -2147483648, 2147483647), (0, -2147483648, 2147483647)], [((-2147483648, 2147483647), [])], [(17, 2), (17, 3), (17, 4), (42, 11), (42, 12), (43, 0), (44, 0), (45, 0), (46, 0), (52, 12), (52, 13), (52, 15), (52, 16), (52, 17), (52, 18), (53, 0), (54, 0), (55, 0), (56, 0), (57, 0), (58, 0), (59, 0), (60, 0)], 90)
def cu105_0 : List Cut := []
theorem os105_0 : okStart H0 [sp1_0, sp37_0, sp9_0] inlF [] [] cu105_0 4000 sp105_0 = true := by decide +kernel
theorem oc105_0 : cu105_0.all (okCut H0 [sp1_0, sp37_0, sp9_0] inlF [] cu105_0 4000 sp105_0) = true := by decide +kernel
theorem ok105_0 (X : Xs) : SpecOK X sp105_0 := sp_sound (sps_cons (ok1_0 X) (sps_cons (ok37_0 X) (sps_cons (ok9_0 X) sps_nil))) rfl os105_0 (List.all_eq_true.mp oc105_0)
def sp38_0 : Spec := (38, [(2, 52, 0), (0, 0, 19)], [((-2147483648, 2147483647), [])], [], 10)
def cu38_0 : List Cut := [(2, [0, 1, 2], [(2, 52, 0), (0, 0, 19), (0, 0, 5)], [], [(0, 0, 0), (-1, 2, 5)], [])]
theorem os38_0 : okStart H0 [] inlF [] [] cu38_0 4000 sp38_0 = true := by decide +kernel
theorem oc38_0 : cu38_0.all (okCut H0 [] inlF [] cu38_0 4000 sp38_0) = true := by decide +kernel
theorem ok38_0 (X : Xs) : SpecOK X sp38_0 := sp_sound (sps_nil) rfl os38_0 (List.all_eq_true.mp oc38_0)
def sp106_0 : Spec := (106, [(2, 0, 0), (0, -2147483648, 2147483647), (0, -2147483648, 2147483647)], [((-2147483648, 2147483647), [])], [(17, 2), (17, 3), (17, 4), (42, 11), (42, 12), (43, 0), (44, 0), (45, 0), (46, 0), (52, 12), (52, 13), (52, 15), (52, 16), (52, 17), (52, 18), (53, 0), (54, 0), (55, 0), (56, 0), (57, 0), (58, 0), (59, 0), (60, 0)], 90)
def cu106_0 : List Cut := []
theorem os106_0 : okStart H0 [sp1_0, sp37_0, sp38_0, sp9_0] inlF [] [] cu106_0 4000 sp106_0 = true := by decide +kernel
theorem oc106_0 : cu106_0.all (okCut H0 [sp1_0, sp37_0, sp38_0, sp9_0] inlF [] cu106_0 4000 sp106_0) = true := by decide +kernel
theorem ok106_0 (X : Xs) : SpecOK X sp106_0 := sp_sound (sps_cons (ok1_0 X) (sps_cons (ok37_0 X) (sps_cons (ok38_0 X) (sps_cons (ok9_0 X) sps_nil)))) rfl os106_0 (List.all_eq_true.mp oc106_0)
def sp18_0 : Spec := (18, [(2, 42, 0), (0, 0, 19), (0, 0, 9000)], [((-2147483648, 2147483647), [])], [(17, 2), (17, 3), (17, 4)], 50)
def cu18_0 : List Cut := [(4, [0, 1, 2, 3, 4], [(2, 42, 0), (0, 0, 19), (0, 0, 9000), (0, -2147483648, 2147483647), (0, 0, 30)], [], [(0, 0, 0), (-1, 4, 30)], [])]
theorem os18_0 : okStart H0 [sp10_0, sp11_0, sp27_0] inlF [] [] cu18_0 4000 sp18_0 = true := by decide +kernel
theorem oc18_0 : cu18_0.all (okCut H0 [sp10_0, sp11_0, sp27_0] inlF [] cu18_0 4000 sp18_0) = true := by decide +kernel
theorem ok18_0 (X : Xs) : SpecOK X sp18_0 := sp_sound (sps_cons (ok10_0 X) (sps_cons (ok11_0 X) (sps_cons (ok27_0 X) sps_nil))) rfl os18_0 (List.all_eq_true.mp oc18_0)
def sp107_0 : Spec := (107, [(2, 0, 0), (0, -2147483648, 2147483647)], [((-100003, 2147483647), [])], [(17, 2), (17, 3), (17, 4), (42, 11), (42, 12), (43, 0), (44, 0), (45, 0), (46, 0)], 70)
def cu107_0 : List Cut := []
theorem os107_0 : okStart H0 [sp1_0, sp18_0, sp7_0] inlF [] [] cu107_0 4000 sp107_0 = true := by decide +kernel
theorem oc107_0 : cu107_0.all (okCut H0 [sp1_0, sp18_0, sp7_0] inlF [] cu107_0 4000 sp107_0) = true := by decide +kernel
theorem ok107_0 (X : Xs) : SpecOK X sp107_0 := sp_sound (sps_cons (ok1_0 X) (sps_cons (ok18_0 X) (sps_cons (ok7_0 X) sps_nil))) rfl os107_0 (List.all_eq_true.mp oc107_0)
def sp31_0 : Spec := (31, [(2, 27, 0), (0, 0, 29), (0, 0, 29)], [((-2147483648, 2147483647), [])], [], 10)
def cu31_0 : List Cut := [(4, [0, 1, 2, 3, 4], [(2, 27, 0), (0, 0, 29), (0, 0, 29), (0, -2147483648, 2147483647), (0, 0, 100)], [], [(0, 0, 0), (-1, 4, 100)], [])]
theorem os31_0 : okStart H0 [] inlF [] [] cu31_0 4000 sp31_0 = true := by decide +kernel
theorem oc31_0 : cu31_0.all (okCut H0 [] inlF [] cu31_0 4000 sp31_0) = true := by decide +kernel
theorem ok31_0 (X : Xs) : SpecOK X sp31_0 := sp_sound (sps_nil) rfl os31_0 (List.all_eq_true.mp oc31_0)
def sp108_0 : Spec := (108, [(2, 0, 0), (0, -2147483648, 2147483647), (0, -2147483648, 2147483647), (0, -2147483648, 2147483647)], [((-2147483648, 2147483647), [])], [], 20)
def cu108_0 : List Cut := []
theorem os108_0 : okStart H0 [sp31_0] inlF [] [] cu108_0 4000 sp108_0 = true := by decide +kernel
theorem oc108_0 : cu108_0.all (okCut H0 [sp31_0] inlF [] cu108_0 4000 sp108_0) = true := by decide +kernel
theorem ok108_0 (X : Xs) : SpecOK X sp108_0 := sp_sound (sps_cons (ok31_0 X) sps_nil) rfl os108_0 (List.all_eq_true.mp oc108_0)
def sp79_0 : Spec := (79, [(2, 61, 0), (2, 27, 0), (0, 1, 30)], [((0, 0), [])], [(62, 0)], 10)
def cu79_0 : List Cut := [(2, [0, 1, 2, 3], [(2, 61, 0), (2, 27, 0), (0, 1, 30), (0, 0, 30)], [], [(0, 0, 1), (-1, 3, 30)], []),
  (14, [0, 1, 3], [(2, 61, 0), (2, 27, 0), (0, 0, 100)], [], [(0, 0, 0), (-1, 2, 100)], [])]
theorem os79_0 : okStart H0 [] inlF [] [] cu79_0 4000 sp79_0 = true := by decide +kernel
theorem oc79_0 : cu79_0.all (okCut H0 [] inlF [] cu79_0 4000 sp79_0) = true := by decide +kernel
theorem ok79_0 (X : Xs) : SpecOK X sp79_0 := sp_sound (sps_nil) rfl os79_0 (List.all_eq_true.mp oc79_0)
def sp80_0 : Spec := (80, [(2, 61, 0), (0, 0, 29), (0, 1, 30)], [((0, 0), [])], [(63, 0)], 10)
def cu80_0 : List Cut := [(2, [0, 1, 2, 3], [(2, 61, 0), (0, 0, 29), (0, 1, 30), (0, 0, 30)], [], [(0, 0, 3), (-1, 3, 30), (0, 0, 1000), (0, 0, 0)], []),
  (19, [0, 2, 3], [(2, 61, 0), (0, 1, 30), (0, 1, 30)], [], [(0, 0, 2), (-1, 2, 30), (0, 0, 1000), (0, 0, 0)], []),
  (26, [0, 2, 3, 4, 5], [(2, 61, 0), (0, 2, 30), (0, 1, 29), (0, -2147483648, 2147483647), (0, 0, 30)], [], [(0, 0, 2), (-1, 2, 30), (0, 0, 1), (-1, 4, 30)], []),
  (47, [0, 2, 3, 4, 5], [(2, 61, 0), (0, 2, 30), (0, 1, 29), (0, -2147483648, 2147483647), (0, 0, 30)], [], [(0, 0, 2), (-1, 2, 30), (0, 0, 0), (-1, 4, 30)], [])]
theorem os80_0 : okStart H0 [] inlF [] [] cu80_0 4000 sp80_0 = true := by decide +kernel
theorem oc80_0 : cu80_0.all (okCut H0 [] inlF [] cu80_0 4000 sp80_0) = true := by decide +kernel
theorem ok80_0 (X : Xs) : SpecOK X sp80_0 := sp_sound (sps_nil) rfl os80_0 (List.all_eq_true.mp oc80_0)
def sp81_0 : Spec := (81, [(2, 61, 0), (0, 0, 29), (0, 0, 29), (0, 1, 30)], [((-1, 29), [])], [], 10)
def cu81_0 : List Cut := [(4, [0, 1, 2, 3, 4, 5], [(2, 61, 0), (0, 0, 29), (0, 0, 29), (0, 1, 30), (0, -1, 29), (0, 0, 30)], [], [(0, 0, 0), (-1, 5, 30)], [])]
theorem os81_0 : okStart H0 [] inlF [] [] cu81_0 4000 sp81_0 = true := by decide +kernel
theorem oc81_0 : cu81_0.all (okCut H0 [] inlF [] cu81_0 4000 sp81_0) = true := by decide +kernel
theorem ok81_0 (X : Xs) : SpecOK X sp81_0 := sp_sound (sps_nil) rfl os81_0 (List.all_eq_true.mp oc81_0)
def sp78_0 : Spec := (78, [(2, 61, 0), (0, 0, 29), (2, 27, 0), (0, 1, 30)], [((0, 0), [])], [(61, 4), (62, 0), (63, 0), (64, 0)], 20)
def cu78_0 : List Cut := [(29, [0, 1, 3, 4], [(2, 61, 0), (0, 0, 29), (0, 1, 30), (0, 0, 29)], [(61, 3, 1, 30)], [(0, 0, 0), (-1, 4, 30)], [])]
theorem os78_0 : okStart H0 [sp79_0, sp80_0, sp81_0] inlF [] [] cu78_0 4000 sp78_0 = true := by decide +kernel
theorem oc78_0 : cu78_0.all (okCut H0 [sp79_0, sp80_0, sp81_0] inlF [] cu78_0 4000 sp78_0) = true := by decide +kernel
theorem ok78_0 (X : Xs) : SpecOK X sp78_0 := sp_sound (sps_cons (ok79_0 X) (sps_cons (ok80_0 X) (sps_cons (ok81_0 X) sps_nil))) rfl os78_0 (List.all_eq_true.mp oc78_0)
def sp109_0 : Spec := (109, [(2, 0, 0), (0, -2147483648, 2147483647), (0, -2147483648, 2147483647)], [((-100001, 30), [])], [(61, 4), (62, 0), (63, 0), (64, 0)], 30)
def cu109_0 : List Cut := []
theorem os109_0 : okStart H0 [sp78_0] inlF [] [] cu109_0 4000 sp109_0 = true := by decide +kernel
theorem oc109_0 : cu109_0.all (okCut H0 [sp78_0] inlF [] cu109_0 4000 sp109_0) = true := by decide +kernel
theorem ok109_0 (X : Xs) : SpecOK X sp109_0 := sp_sound (sps_cons (ok78_0 X) sps_nil) rfl os109_0 (List.all_eq_true.mp oc109_0)
def sp19_0 : Spec := (19, [(2, 42, 0), (0, 0, 29), (0, 0, 8), (0, 0, 9000)], [((-2147483648, 2147483647), [])], [(17, 2), (17, 3), (17, 4)], 40)
def cu19_0 : List Cut := [(4, [0, 1, 2, 3, 4, 5], [(2, 42, 0), (0, 0, 29), (0, 0, 8), (0, 0, 9000), (0, -2147483648, 2147483647), (0, 0, 30)], [], [(0, 0, 0), (-1, 5, 30)], [])]
theorem os19_0 : okStart H0 [sp10_0, sp12_0] inlF [] [] cu19_0 4000 sp19_0 = true := by decide +kernel
theorem oc19_0 : cu19_0.all (okCut H0 [sp10_0, sp12_0] inlF [] cu19_0 4000 sp19_0) = true := by decide +kernel
theorem ok19_0 (X : Xs) : SpecOK X sp19_0 := sp_sound (sps_cons (ok10_0 X) (sps_cons (ok12_0 X) sps_nil)) rfl os19_0 (List.all_eq_true.mp oc19_0)
def sp110_0 : Spec := (110, [(2, 0, 0), (0, -2147483648, 2147483647), (0, -2147483648, 2147483647), (0, -2147483648, 2147483647)], [((-2147483648, 2147483647), [])], [(17, 2), (17, 3), (17, 4), (42, 11), (42, 12), (43, 0), (44, 0), (45, 0), (46, 0)], 70)
def cu110_0 : List Cut := []
theorem os110_0 : okStart H0 [sp1_0, sp19_0, sp67_0] inlF [] [] cu110_0 4000 sp110_0 = true := by decide +kernel
theorem oc110_0 : cu110_0.all (okCut H0 [sp1_0, sp19_0, sp67_0] inlF [] cu110_0 4000 sp110_0) = true := by decide +kernel
theorem ok110_0 (X : Xs) : SpecOK X sp110_0 := sp_sound (sps_cons (ok1_0 X) (sps_cons (ok19_0 X) (sps_cons (ok67_0 X) sps_nil))) rfl os110_0 (List.all_eq_true.mp oc110_0)
def sp111_0 : Spec := (111, [(2, 0, 0), (0, -2147483648, 2147483647), (0, -2147483648, 2147483647), (0, -2147483648, 2147483647)], [((-2147483648, 2147483647), [])], [(17, 2), (17, 3), (17, 4), (42, 11), (42, 12), (43, 0), (44, 0), (45, 0), (46, 0)], 70)
def cu111_0 : List Cut := [(34, [0, 1, 3, 4, 5, 6, 7], [(2, 0, 0), (0, 0, 7), (0, 0, 9000), (0, 0, 8), (0, -2147483648, 2147483647), (0, -2147483648, 2147483647), (0, 0, 30)], [], [(0, 0, 0), (-1, 6, 30)], [])]
theorem os111_0 : okStart H0 [sp1_0, sp19_0, sp67_0, sp68_0] inlF [] [] cu111_0 4000 sp111_0 = true := by decide +kernel
theorem oc111_0 : cu111_0.all (okCut H0 [sp1_0, sp19_0, sp67_0, sp68_0] inlF [] cu111_0 4000 sp111_0) = true := by decide +kernel
theorem ok111_0 (X : Xs) : SpecOK X sp111_0 := sp_sound (sps_cons (ok1_0 X) (sps_cons (ok19_0 X) (sps_cons (ok67_0 X) (sps_cons (ok68_0 X) sps_nil)))) rfl os111_0 (List.all_eq_true.mp oc111_0)
def sp35_0 : Spec := (35, [(2, 12, 0)], [((-2147483648, 2147483647), [])], [], 10)
def cu35_0 : List Cut := [(4, [0, 1, 2], [(2, 12, 0), (0, -2147483648, 2147483647), (0, 0, 20)], [], [(0, 0, 0), (-1, 2, 20)], [])]
theorem os35_0 : okStart H0 [] inlF [] [] cu35_0 4000 sp35_0 = true := by decide +kernel
theorem oc35_0 : cu35_0.all (okCut H0 [] inlF [] cu35_0 4000 sp35_0) = true := by decide +kernel
theorem ok35_0 (X : Xs) : SpecOK X sp35_0 := sp_sound (sps_nil) rfl os35_0 (List.all_eq_true.mp oc35_0)
def sp8_0 : Spec := (8, [(2, 42, 0), (0, 0, 3)], [((-2147483648, 2147483647), [])], [], 10)
def cu8_0 : List Cut := [(4, [0, 1, 2, 3], [(2, 42, 0), (0, 0, 3), (0, -2147483648, 2147483647), (0, 0, 20)], [], [(0, 0, 0), (-1, 3, 20)], [])]
theorem os8_0 : okStart H0 [] inlF [] [] cu8_0 4000 sp8_0 = true := by decide +kernel
theorem oc8_0 : cu8_0.all (okCut H0 [] inlF [] cu8_0 4000 sp8_0) = true := by decide +kernel
theorem ok8_0 (X : Xs) : SpecOK X sp8_0 := sp_sound (sps_nil) rfl os8_0 (List.all_eq_true.mp oc8_0)
def sp120_0 : Spec := (120, [(2, 0, 0)], [((-2147483648, 2147483647), [])], [], 60)
def cu120_0 : List Cut := [(4, [0, 1, 2], [(2, 0, 0), (0, -2147483648, 2147483647), (0, 0, 30)], [], [(0, 0, 0), (-1, 2, 30)], [])]
theorem os120_0 : okStart H0 [sp119_0] inlF [] [] cu120_0 4000 sp120_0 = true := by decide +kernel
theorem oc120_0 : cu120_0.all (okCut H0 [sp119_0] inlF [] cu120_0 4000 sp120_0) = true := by decide +kernel
theorem ok120_0 (X : Xs) : SpecOK X sp120_0 := sp_sound (sps_cons (ok119_0 X) sps_nil) rfl os120_0 (List.all_eq_true.mp oc120_0)
def sp112_0 : Spec := (112, [(2, 0, 0), (0, -2147483648, 2147483647)], [((-2147483648, 2147483647), [])], [(17, 2), (17, 3), (17, 4), (42, 11), (42, 12), (43, 0), (44, 0), (45, 0), (46, 0)], 70)
def cu112_0 : List Cut := []
theorem os112_0 : okStart H0 [sp1_0, sp120_0, sp35_0, sp8_0] inlF [] [] cu112_0 4000 sp112_0 = true := by decide +kernel
theorem oc112_0 : cu112_0.all (okCut H0 [sp1_0, sp120_0, sp35_0, sp8_0] inlF [] cu112_0 4000 sp112_0) = true := by decide +kernel
theorem ok112_0 (X : Xs) : SpecOK X sp112_0 := sp_sound (sps_cons (ok1_0 X) (sps_cons (ok120_0 X) (sps_cons (ok35_0 X) (sps_cons (ok8_0 X) sps_nil)))) rfl os112_0 (List.all_eq_true.mp oc112_0)
def sp125_0 : Spec := (125, [(2, 65, 0), (0, -2147483648, 2147483647), (0, -2147483648, 2147483647), (0, -2147483648, 2147483647), (0, -2147483648, 2147483647), (0, -2147483648, 2147483647), (0, -2147483648, 2147483647)], [((-100004, 29), [])], [(65, 2), (66, 0), (67, 0), (68, 0), (69, 0), (70, 0), (71, 0), (72, 0)], 10)
def cu125_0 : List Cut := []
theorem os125_0 : okStart H0 [] inlF [] [] cu125_0 4000 sp125_0 = true := by decide +kernel
theorem oc125_0 : cu125_0.all (okCut H0 [] inlF [] cu125_0 4000 sp125_0) = true := by decide +kernel
theorem ok125_0 (X : Xs) : SpecOK X sp125_0 := sp_sound (sps_nil) rfl os125_0 (List.all_eq_true.mp oc125_0)
def sp126_0 : Spec := (126, [(2, 65, 0), (0, 0, 29), (0, 0, 9000)], [((0, 3), [])], [], 10)
def cu126_0 : List Cut := [(4, [0, 1, 2, 3, 4], [(2, 65, 0), (0, 0, 29), (0, 0, 9000), (0, -1, 59), (0, 0, 60)], [], [(0, 0, 0), (-1, 4, 60)], [])]
theorem os126_0 : okStart H0 [] inlF [] [] cu126_0 4000 sp126_0 = true := by decide +kernel
theorem oc126_0 : cu126_0.all (okCut H0 [] inlF [] cu126_0 4000 sp126_0) = true := by decide +kernel
theorem ok126_0 (X : Xs) : SpecOK X sp126_0 := sp_sound (sps_nil) rfl os126_0 (List.all_eq_true.mp oc126_0)
def sp127_0 : Spec := (127, [(2, 65, 0), (0, -2147483648, 2147483647), (0, -2147483648, 2147483647)], [((-100004, 3), [])], [(65, 10), (73, 0)], 20)
def cu127_0 : List Cut := []
theorem os127_0 : okStart H0 [sp126_0] inlF [] [] cu127_0 4000 sp127_0 = true := by decide +kernel
theorem oc127_0 : cu127_0.all (okCut H0 [sp126_0] inlF [] cu127_0 4000 sp127_0) = true := by decide +kernel
theorem ok127_0 (X : Xs) : SpecOK X sp127_0 := sp_sound (sps_cons (ok126_0 X) sps_nil) rfl os127_0 (List.all_eq_true.mp oc127_0)
def sp128_0 : Spec := (128, [(2, 65, 0), (0, -2147483648, 2147483647)], [((-100003, 1), [])], [(72, 0)], 10)
def cu128_0 : List Cut := []
theorem os128_0 : okStart H0 [] inlF [] [] cu128_0 4000 sp128_0 = true := by decide +kernel
theorem oc128_0 : cu128_0.all (okCut H0 [] inlF [] cu128_0 4000 sp128_0) = true := by decide +kernel
theorem ok128_0 (X : Xs) : SpecOK X sp128_0 := sp_sound (sps_nil) rfl os128_0 (List.all_eq_true.mp oc128_0)
def sp130_0 : Spec := (130, [(2, 65, 0), (0, 0, 7), (0, 0, 7), (0, 0, 9000)], [((-1, 19), [])], [], 10)
def cu130_0 : List Cut := [(4, [0, 1, 2, 3, 4, 5], [(2, 65, 0), (0, 0, 7), (0, 0, 7), (0, 0, 9000), (0, -1, 19), (0, 0, 20)], [], [(0, 0, 0), (-1, 5, 20)], [])]
theorem os130_0 : okStart H0 [] inlF [] [] cu130_0 4000 sp130_0 = true := by decide +kernel
theorem oc130_0 : cu130_0.all (okCut H0 [] inlF [] cu130_0 4000 sp130_0) = true := by decide +kernel
theorem ok130_0 (X : Xs) : SpecOK X sp130_0 := sp_sound (sps_nil) rfl os130_0 (List.all_eq_true.mp oc130_0)
def sp131_0 : Spec := (131, [(2, 65, 0), (0, -2147483648, 2147483647), (0, -2147483648, 2147483647)], [((-100004, 20), [])], [(65, 12), (74, 0)], 20)
def cu131_0 : List Cut := []
theorem os131_0 : okStart H0 [sp130_0] inlF [] [] cu131_0 4000 sp131_0 = true := by decide +kernel
theorem oc131_0 : cu131_0.all (okCut H0 [sp130_0] inlF [] cu131_0 4000 sp131_0) = true := by decide +kernel
theorem ok131_0 (X : Xs) : SpecOK X sp131_0 := sp_sound (sps_cons (ok130_0 X) sps_nil) rfl os131_0 (List.all_eq_true.mp oc131_0)
def sp132_0 : Spec := (132, [(2, 65, 0), (0, -2147483648, 2147483647), (0, -2147483648, 2147483647)], [((-100003, 1), [])], [(74, 0)], 20)
def cu132_0 : List Cut := []
theorem os132_0 : okStart H0 [sp130_0] inlF [] [] cu132_0 4000 sp132_0 = true := by decide +kernel
theorem oc132_0 : cu132_0.all (okCut H0 [sp130_0] inlF [] cu132_0 4000 sp132_0) = true := by decide +kernel
theorem ok132_0 (X : Xs) : SpecOK X sp132_0 := sp_sound (sps_cons (ok130_0 X) sps_nil) rfl os132_0 (List.all_eq_true.mp oc132_0)
def sp133_0 : Spec := (133, [(2, 65, 0), (0, -2147483648, 2147483647)], [((-100003, 9000), [])], [(65, 1)], 10)
def cu133_0 : List Cut := []
theorem os133_0 : okStart H0 [] inlF [] [] cu133_0 4000 sp133_0 = true := by decide +kernel
theorem oc133_0 : cu133_0.all (okCut H0 [] inlF [] cu133_0 4000 sp133_0) = true := by decide +kernel
theorem ok133_0 (X : Xs) : SpecOK X sp133_0 := sp_sound (sps_nil) rfl os133_0 (List.all_eq_true.mp oc133_0)
def sp134_0 : Spec := (134, [(2, 65, 0), (0, -2147483648, 2147483647), (0, -2147483648, 2147483647), (0, -2147483648, 2147483647)], [((-2147483648, 2147483647), [])], [], 20)
def cu134_0 : List Cut := []
theorem os134_0 : okStart H0 [sp126_0] inlF [] [] cu134_0 4000 sp134_0 = true := by decide +kernel
theorem oc134_0 : cu134_0.all (okCut H0 [sp126_0] inlF [] cu134_0 4000 sp134_0) = true := by decide +kernel
theorem ok134_0 (X : Xs) : SpecOK X sp134_0 := sp_sound (sps_cons (ok126_0 X) sps_nil) rfl os134_0 (List.all_eq_true.mp oc134_0)
def sp135_0 : Spec := (135, [(2, 65, 0), (0, 0, 29), (2, 92, 0)], [((0, 0), [])], [(92, 0)], 10)
def cu135_0 : List Cut := [(2, [0, 1, 2, 3], [(2, 65, 0), (0, 0, 29), (2, 92, 0), (0, 0, 30)], [], [(0, 0, 1), (-1, 3, 30)], []),
  (18, [0, 2, 3], [(2, 65, 0), (2, 92, 0), (0, -1, 29)], [], [(0, 0, 0), (1, 2, 1)], [])]
theorem os135_0 : okStart H0 [] inlF [] [] cu135_0 4000 sp135_0 = true := by decide +kernel
theorem oc135_0 : cu135_0.all (okCut H0 [] inlF [] cu135_0 4000 sp135_0) = true := by decide +kernel
theorem ok135_0 (X : Xs) : SpecOK X sp135_0 := sp_sound (sps_nil) rfl os135_0 (List.all_eq_true.mp oc135_0)
def sp135_1 : Spec := (135, [(2, 65, 0), (0, 0, 29), (2, 93, 0)], [((0, 0), [])], [(93, 0)], 10)
def cu135_1 : List Cut := [(2, [0, 1, 2, 3], [(2, 65, 0), (0, 0, 29), (2, 93, 0), (0, 0, 30)], [], [(0, 0, 1), (-1, 3, 30)], []),
  (18, [0, 2, 3], [(2, 65, 0), (2, 93, 0), (0, -1, 29)], [], [(0, 0, 0), (1, 2, 1)], [])]
theorem os135_1 : okStart H0 [] inlF [] [] cu135_1 4000 sp135_1 = true := by decide +kernel
theorem oc135_1 : cu135_1.all (okCut H0 [] inlF [] cu135_1 4000 sp135_1) = true := by decide +kernel
theorem ok135_1 (X : Xs) : SpecOK X sp135_1 := sp_sound (sps_nil) rfl os135_1 (List.all_eq_true.mp oc135_1)
def sp136_0 : Spec := (136, [(2, 65, 0), (0, 0, 29), (0, 0, 29)], [((0, 0), [])], [(65, 41), (65, 42), (65, 43), (92, 0), (93, 0)], 20)
def cu136_0 : List Cut := [(20, [0, 1, 2, 3, 4], [(2, 65, 0), (0, 0, 29), (0, 0, 29), (0, -2147483648, 2147483647), (0, 0, 30)], [], [(0, 0, 0), (-1, 4, 30)], [])]
theorem os136_0 : okStart H0 [sp135_0, sp135_1] inlF [] [] cu136_0 4000 sp136_0 = true := by decide +kernel
theorem oc136_0 : cu136_0.all (okCut H0 [sp135_0, sp135_1] inlF [] cu136_0 4000 sp136_0) = true := by decide +kernel
theorem ok136_0 (X : Xs) : SpecOK X sp136_0 := sp_sound (sps_cons (ok135_0 X) (sps_cons (ok135_1 X) sps_nil)) rfl os136_0 (List.all_eq_true.mp oc136_0)
def sp137_0 : Spec := (137, [(2, 65, 0), (0, -2147483648, 2147483647), (0, -2147483648, 2147483647), (0, -2147483648, 2147483647)], [((-2147483648, 2147483647), [])], [(65, 41), (65, 42), (65, 43), (92, 0), (93, 0)], 30)
def cu137_0 : List Cut := []
theorem os137_0 : okStart H0 [sp136_0] inlF [] [] cu137_0 4000 sp137_0 = true := by decide +kernel
theorem oc137_0 : cu137_0.all (okCut H0 [sp136_0] inlF [] cu137_0 4000 sp137_0) = true := by decide +kernel
theorem ok137_0 (X : Xs) : SpecOK X sp137_0 := sp_sound (sps_cons (ok136_0 X) sps_nil) rfl os137_0 (List.all_eq_true.mp oc137_0)
def sp138_0 : Spec := (138, [(2, 65, 0), (0, -2147483648, 2147483647), (1, -9223372036854775808, 9223372036854775807)], [((-100004, 240), [])], [(65, 15), (75, 0)], 10)
def cu138_0 : List Cut := [(20, [0, 2, 4], [(2, 65, 0), (1, -9223372036854775808, 9223372036854775807), (0, -1, 7)], [(65, 14, 0, 240)], [(0, 0, 0), (1, 2, 1)], [(0, 3, 2, 0, 239)])]
theorem os138_0 : okStart H0 [] inlF [] [] cu138_0 4000 sp138_0 = true := by decide +kernel
theorem oc138_0 : cu138_0.all (okCut H0 [] inlF [] cu138_0 4000 sp138_0) = true := by decide +kernel
theorem ok138_0 (X : Xs) : SpecOK X sp138_0 := sp_sound (sps_nil) rfl os138_0 (List.all_eq_true.mp oc138_0)
def sp143_0 : Spec := (143, [(2, 65, 0)], [((-1, -1), []), ((0, 255), [(65, 43, 0, 239)])], [(65, 44)], 10)
def cu143_0 : List Cut := [(0, [0], [(2, 65, 0)], [(65, 43, 1, 240)], [(0, 0, 0), (-1, 1, 240)], [])]
theorem os143_0 : okStart H0 [] inlF [] [] cu143_0 4000 sp143_0 = true := by decide +kernel
theorem oc143_0 : cu143_0.all (okCut H0 [] inlF [] cu143_0 4000 sp143_0) = true := by decide +kernel
theorem ok143_0 (X : Xs) : SpecOK X sp143_0 := sp_sound (sps_nil) rfl os143_0 (List.all_eq_true.mp oc143_0)
def sp145_0 : Spec := (145, [(2, 65, 0)], [((0, 0), [])], [(65, 44), (65, 45), (65, 46)], 20)
def cu145_0 : List Cut := [(10, [0], [(2, 65, 0)], [(65, 45, 0, 240)], [(0, 0, 0), (-1, 1, 240)], [])]
theorem os145_0 : okStart H0 [sp143_0] inlF [] [] cu145_0 4000 sp145_0 = true := by decide +kernel
theorem oc145_0 : cu145_0.all (okCut H0 [sp143_0] inlF [] cu145_0 4000 sp145_0) = true := by decide +kernel
theorem ok145_0 (X : Xs) : SpecOK X sp145_0 := sp_sound (sps_cons (ok143_0 X) sps_nil) rfl os145_0 (List.all_eq_true.mp oc145_0)
def sp146_0 : Spec := (146, [(0, 80, 119), (0, 80, 119), (0, 101, 119), (0, 0, 119), (0, 0, 119)], [((-8816999, 12693263), [])], [], 10)
def cu146_0 : List Cut := []
theorem os146_0 : okStart H0 [] inlF [] [] cu146_0 4000 sp146_0 = true := by decide +kernel
theorem oc146_0 : cu146_0.all (okCut H0 [] inlF [] cu146_0 4000 sp146_0) = true := by decide +kernel
theorem ok146_0 (X : Xs) : SpecOK X sp146_0 := sp_sound (sps_nil) rfl os146_0 (List.all_eq_true.mp oc146_0)
def sp148_0 : Spec := (148, [(2, 65, 0), (0, 9999, 9999)], [((1, 2), []), ((0, 0), [(65, 47, 0, 9999)])], [(65, 16), (65, 44), (65, 47), (65, 48)], 20)
def cu148_0 : List Cut := [(22, [0, 1], [(2, 65, 0), (0, 9999, 9999)], [(65, 43, 0, 239), (65, 46, 0, 239), (65, 47, 0, 0)], [(0, 0, 0), (-1, 2, 240)], [(1, 2, 3, 0, 0)]),
  (22, [0, 1], [(2, 65, 0), (0, 9999, 9999)], [(65, 43, 1, 240), (65, 46, 0, 239), (65, 47, 0, 9)], [(0, 0, 0), (-1, 2, 240)], [(1, 2, 3, 1, 1)]),
  (22, [0, 1], [(2, 65, 0), (0, 9999, 9999)], [(65, 43, 2, 240), (65, 46, 0, 238), (65, 47, 0, 99)], [(0, 0, 0), (-1, 2, 240)], [(1, 2, 3, 2, 2)]),
  (22, [0, 1], [(2, 65, 0), (0, 9999, 9999)], [(65, 43, 3, 240), (65, 46, 0, 237), (65, 47, 0, 999)], [(0, 0, 0), (-1, 2, 240)], [(1, 2, 3, 3, 3)]),
  (22, [0, 1], [(2, 65, 0), (0, 9999, 9999)], [(65, 43, 4, 240), (65, 46, 0, 236), (65, 47, 0, 9999)], [(0, 0, 0), (-1, 2, 240)], [(1, 2, 3, 4, 240)])]
theorem os148_0 : okStart H0 [sp143_0] inlF [] [] cu148_0 4000 sp148_0 = true := by decide +kernel
theorem oc148_0 : cu148_0.all (okCut H0 [sp143_0] inlF [] cu148_0 4000 sp148_0) = true := by decide +kernel
theorem ok148_0 (X : Xs) : SpecOK X sp148_0 := sp_sound (sps_cons (ok143_0 X) sps_nil) rfl os148_0 (List.all_eq_true.mp oc148_0)
def sp147_0 : Spec := (147, [(2, 65, 0)], [((-1, 10), [])], [], 20)
def cu147_0 : List Cut := []
theorem os147_0 : okStart H0 [sp146_0] inlF [] [] cu147_0 4000 sp147_0 = true := by decide +kernel
theorem oc147_0 : cu147_0.all (okCut H0 [sp146_0] inlF [] cu147_0 4000 sp147_0) = true := by decide +kernel
theorem ok147_0 (X : Xs) : SpecOK X sp147_0 := sp_sound (sps_cons (ok146_0 X) sps_nil) rfl os147_0 (List.all_eq_true.mp oc147_0)
def sp139_0 : Spec := (139, [(0, 0, 10)], [((0, 1), [])], [], 10)
def cu139_0 : List Cut := []
theorem os139_0 : okStart H0 [] inlF [] [] cu139_0 4000 sp139_0 = true := by decide +kernel
theorem oc139_0 : cu139_0.all (okCut H0 [] inlF [] cu139_0 4000 sp139_0) = true := by decide +kernel
theorem ok139_0 (X : Xs) : SpecOK X sp139_0 := sp_sound (sps_nil) rfl os139_0 (List.all_eq_true.mp oc139_0)
def sp148_1 : Spec := (148, [(2, 65, 0), (0, 99, 99)], [((1, 2), []), ((0, 0), [(65, 47, 0, 99)])], [(65, 16), (65, 44), (65, 47), (65, 48)], 20)
def cu148_1 : List Cut := [(22, [0, 1], [(2, 65, 0), (0, 99, 99)], [(65, 43, 0, 239), (65, 46, 0, 239), (65, 47, 0, 0)], [(0, 0, 0), (-1, 2, 240)], [(1, 2, 3, 0, 0)]),
  (22, [0, 1], [(2, 65, 0), (0, 99, 99)], [(65, 43, 1, 240), (65, 46, 0, 239), (65, 47, 0, 9)], [(0, 0, 0), (-1, 2, 240)], [(1, 2, 3, 1, 1)]),
  (22, [0, 1], [(2, 65, 0), (0, 99, 99)], [(65, 43, 2, 240), (65, 46, 0, 238), (65, 47, 0, 99)], [(0, 0, 0), (-1, 2, 240)], [(1, 2, 3, 2, 2)]),
  (22, [0, 1], [(2, 65, 0), (0, 99, 99)], [(65, 43, 3, 240), (65, 46, 0, 237), (65, 47, 0, 999)], [(0, 0, 0), (-1, 2, 240)], [(1, 2, 3, 3, 3)]),
  (22, [0, 1], [(2, 65, 0), (0, 99, 99)], [(65, 43, 4, 240), (65, 46, 0, 236), (65, 47, 0, 9999)], [(0, 0, 0), (-1, 2, 240)], [(1, 2, 3, 4, 240)])]
theorem os148_1 : okStart H0 [sp143_0] inlF [] [] cu148_1 4000 sp148_1 = true := by decide +kernel
theorem oc148_1 : cu148_1.all (okCut H0 [sp143_0] inlF [] cu148_1 4000 sp148_1) = true := by decide +kernel
theorem ok148_1 (X : Xs) : SpecOK X sp148_1 := sp_sound (sps_cons (ok143_0 X) sps_nil) rfl os148_1 (List.all_eq_true.mp oc148_1)
def sp140_0 : Spec := (140, [(0, 0, 10), (0, 0, 3)], [((0, 19), [])], [], 10)
def cu140_0 : List Cut := []
theorem os140_0 : okStart H0 [] inlF [] [] cu140_0 4000 sp140_0 = true := by decide +kernel
theorem oc140_0 : cu140_0.all (okCut H0 [] inlF [] cu140_0 4000 sp140_0) = true := by decide +kernel
theorem ok140_0 (X : Xs) : SpecOK X sp140_0 := sp_sound (sps_nil) rfl os140_0 (List.all_eq_true.mp oc140_0)
def sp148_2 : Spec := (148, [(2, 65, 0), (0, 1, 1)], [((1, 2), []), ((0, 0), [(65, 47, 0, 1)])], [(65, 16), (65, 44), (65, 47), (65, 48)], 20)
def cu148_2 : List Cut := [(22, [0, 1], [(2, 65, 0), (0, 1, 1)], [(65, 43, 0, 239), (65, 46, 0, 239), (65, 47, 0, 0)], [(0, 0, 0), (-1, 2, 240)], [(1, 2, 3, 0, 0)]),
  (22, [0, 1], [(2, 65, 0), (0, 1, 1)], [(65, 43, 1, 240), (65, 46, 0, 239), (65, 47, 0, 9)], [(0, 0, 0), (-1, 2, 240)], [(1, 2, 3, 1, 1)]),
  (22, [0, 1], [(2, 65, 0), (0, 1, 1)], [(65, 43, 2, 240), (65, 46, 0, 238), (65, 47, 0, 99)], [(0, 0, 0), (-1, 2, 240)], [(1, 2, 3, 2, 2)]),
  (22, [0, 1], [(2, 65, 0), (0, 1, 1)], [(65, 43, 3, 240), (65, 46, 0, 237), (65, 47, 0, 999)], [(0, 0, 0), (-1, 2, 240)], [(1, 2, 3, 3, 3)]),
  (22, [0, 1], [(2, 65, 0), (0, 1, 1)], [(65, 43, 4, 240), (65, 46, 0, 236), (65, 47, 0, 9999)], [(0, 0, 0), (-1, 2, 240)], [(1, 2, 3, 4, 240)])]
theorem os148_2 : okStart H0 [sp143_0] inlF [] [] cu148_2 4000 sp148_2 = true := by decide +kernel
theorem oc148_2 : cu148_2.all (okCut H0 [sp143_0] inlF [] cu148_2 4000 sp148_2) = true := by decide +kernel
theorem ok148_2 (X : Xs) : SpecOK X sp148_2 := sp_sound (sps_cons (ok143_0 X) sps_nil) rfl os148_2 (List.all_eq_true.mp oc148_2)
def sp148_3 : Spec := (148, [(2, 65, 0), (0, 3, 3)], [((1, 2), []), ((0, 0), [(65, 47, 0, 3)])], [(65, 16), (65, 44), (65, 47), (65, 48)], 20)
def cu148_3 : List Cut := [(22, [0, 1], [(2, 65, 0), (0, 3, 3)], [(65, 43, 0, 239), (65, 46, 0, 239), (65, 47, 0, 0)], [(0, 0, 0), (-1, 2, 240)], [(1, 2, 3, 0, 0)]),
  (22, [0, 1], [(2, 65, 0), (0, 3, 3)], [(65, 43, 1, 240), (65, 46, 0, 239), (65, 47, 0, 9)], [(0, 0, 0), (-1, 2, 240)], [(1, 2, 3, 1, 1)]),
  (22, [0, 1], [(2, 65, 0), (0, 3, 3)], [(65, 43, 2, 240), (65, 46, 0, 238), (65, 47, 0, 99)], [(0, 0, 0), (-1, 2, 240)], [(1, 2, 3, 2, 2)]),
  (22, [0, 1], [(2, 65, 0), (0, 3, 3)], [(65, 43, 3, 240), (65, 46, 0, 237), (65, 47, 0, 999)], [(0, 0, 0), (-1, 2, 240)], [(1, 2, 3, 3, 3)]),
  (22, [0, 1], [(2, 65, 0), (0, 3, 3)], [(65, 43, 4, 240), (65, 46, 0, 236), (65, 47, 0, 9999)], [(0, 0, 0), (-1, 2, 240)], [(1, 2, 3, 4, 240)])]
theorem os148_3 : okStart H0 [sp143_0] inlF [] [] cu148_3 4000 sp148_3 = true := by decide +kernel
theorem oc148_3 : cu148_3.all (okCut H0 [sp143_0] inlF [] cu148_3 4000 sp148_3) = true := by decide +kernel
theorem ok148_3 (X : Xs) : SpecOK X sp148_3 := sp_sound (sps_cons (ok143_0 X) sps_nil) rfl os148_3 (List.all_eq_true.mp oc148_3)
def sp149_0 : Spec := (149, [(2, 65, 0), (0, 0, 7)], [((0, 2), [])], [(65, 16), (65, 44), (65, 45), (65, 46), (65, 47), (65, 48), (79, 0)], 30)
def cu149_0 : List Cut := []
theorem os149_0 : okStart H0 [sp139_0, sp140_0, sp145_0, sp147_0, sp148_0, sp148_1, sp148_2, sp148_3] inlF [] [] cu149_0 4000 sp149_0 = true := by decide +kernel
theorem oc149_0 : cu149_0.all (okCut H0 [sp139_0, sp140_0, sp145_0, sp147_0, sp148_0, sp148_1, sp148_2, sp148_3] inlF [] cu149_0 4000 sp149_0) = true := by decide +kernel
theorem ok149_0 (X : Xs) : SpecOK X sp149_0 := sp_sound (sps_cons (ok139_0 X) (sps_cons (ok140_0 X) (sps_cons (ok145_0 X) (sps_cons (ok147_0 X) (sps_cons (ok148_0 X) (sps_cons (ok148_1 X) (sps_cons (ok148_2 X) (sps_cons (ok148_3 X) sps_nil)))))))) rfl os149_0 (List.all_eq_true.mp oc149_0)
def sp150_0 : Spec := (150, [(2, 65, 0), (0, 0, 0)], [((0, 4), [])], [(65, 16), (65, 44), (65, 45), (65, 46), (65, 47), (65, 48), (78, 0), (79, 0)], 60)
def sp150_1 : Spec := (150, [(2, 65, 0), (0, 1, 1)], [((0, 4), [])], [(65, 16), (65, 44), (65, 45), (65, 46), (65, 47), (65, 48), (78, 0), (79, 0)], 60)
def sp150_2 : Spec := (150, [(2, 65, 0), (0, 2, 2)], [((0, 4), [])], [(65, 16), (65, 44), (65, 45), (65, 46), (65, 47), (65, 48), (78, 0), (79, 0)], 60)
def sp150_3 : Spec := (150, [(2, 65, 0), (0, 3, 3)], [((0, 4), [])], [(65, 16), (65, 44), (65, 45), (65, 46), (65, 47), (65, 48), (78, 0), (79, 0)], 60)
def sp150_4 : Spec := (150, [(2, 65, 0), (0, 4, 4)], [((0, 4), [])], [(65, 16), (65, 44), (65, 45), (65, 46), (65, 47), (65, 48), (78, 0), (79, 0)], 60)
def sp150_5 : Spec := (150, [(2, 65, 0), (0, 5, 5)], [((0, 4), [])], [(65, 16), (65, 44), (65, 45), (65, 46), (65, 47), (65, 48), (78, 0), (79, 0)], 60)
def sp150_6 : Spec := (150, [(2, 65, 0), (0, 6, 6)], [((0, 4), [])], [(65, 16), (65, 44), (65, 45), (65, 46), (65, 47), (65, 48), (78, 0), (79, 0)], 60)
def sp150_7 : Spec := (150, [(2, 65, 0), (0, 7, 7)], [((0, 4), [])], [(65, 16), (65, 44), (65, 45), (65, 46), (65, 47), (65, 48), (78, 0), (79, 0)], 60)
def sp150_8 : Spec := (150, [(2, 65, 0), (0, 8, 8)], [((1, 4), [])], [(65, 16), (65, 44), (65, 45), (65, 46)], 30)
def cu150_8 : List Cut := []
theorem os150_8 : okStart H0 [sp145_0, sp146_0] inlF [] [] cu150_8 4000 sp150_8 = true := by decide +kernel
theorem oc150_8 : cu150_8.all (okCut H0 [sp145_0, sp146_0] inlF [] cu150_8 4000 sp150_8) = true := by decide +kernel
theorem ok150_8 (X : Xs) : SpecOK X sp150_8 := sp_sound (sps_cons (ok145_0 X) (sps_cons (ok146_0 X) sps_nil)) rfl os150_8 (List.all_eq_true.mp oc150_8)
def sp152_0 : Spec := (152, [(2, 65, 0)], [((-2147483648, 2147483647), [])], [], 10)
def cu152_0 : List Cut := []
theorem os152_0 : okStart H0 [] inlF [] [] cu152_0 4000 sp152_0 = true := by decide +kernel
theorem oc152_0 : cu152_0.all (okCut H0 [] inlF [] cu152_0 4000 sp152_0) = true := by decide +kernel
theorem ok152_0 (X : Xs) : SpecOK X sp152_0 := sp_sound (sps_nil) rfl os152_0 (List.all_eq_true.mp oc152_0)
def sp141_0 : Spec := (141, [(0, 0, 10)], [((0, 12), [])], [], 10)
def cu141_0 : List Cut := []
theorem os141_0 : okStart H0 [] inlF [] [] cu141_0 4000 sp141_0 = true := by decide +kernel
theorem oc141_0 : cu141_0.all (okCut H0 [] inlF [] cu141_0 4000 sp141_0) = true := by decide +kernel
theorem ok141_0 (X : Xs) : SpecOK X sp141_0 := sp_sound (sps_nil) rfl os141_0 (List.all_eq_true.mp oc141_0)
def sp142_0 : Spec := (142, [(2, 65, 0), (0, 0, 10), (0, 0, 3), (0, -2147483648, 2147483647)], [((0, 2147483647), [])], [], 20)
def cu142_0 : List Cut := [(5, [0, 1, 2, 3, 4, 5], [(2, 65, 0), (0, 0, 10), (0, 0, 3), (0, -2147483648, 2147483647), (0, 0, 2147483647), (0, 0, 8)], [], [(0, 0, 0), (-1, 5, 8)], [])]
theorem os142_0 : okStart H0 [sp140_0, sp141_0] inlF [] [] cu142_0 4000 sp142_0 = true := by decide +kernel
theorem oc142_0 : cu142_0.all (okCut H0 [sp140_0, sp141_0] inlF [] cu142_0 4000 sp142_0) = true := by decide +kernel
theorem ok142_0 (X : Xs) : SpecOK X sp142_0 := sp_sound (sps_cons (ok140_0 X) (sps_cons (ok141_0 X) sps_nil)) rfl os142_0 (List.all_eq_true.mp oc142_0)
def sp153_0 : Spec := (153, [(2, 65, 0), (0, -2147483648, 2147483647), (0, -2147483648, 2147483647), (0, -2147483648, 2147483647)], [((-100002, 2147483647), [])], [], 30)
def cu153_0 : List Cut := []
theorem os153_0 : okStart H0 [sp139_0, sp142_0] inlF [] [] cu153_0 4000 sp153_0 = true := by decide +kernel
theorem oc153_0 : cu153_0.all (okCut H0 [sp139_0, sp142_0] inlF [] cu153_0 4000 sp153_0) = true := by decide +kernel
theorem ok153_0 (X : Xs) : SpecOK X sp153_0 := sp_sound (sps_cons (ok139_0 X) (sps_cons (ok142_0 X) sps_nil)) rfl os153_0 (List.all_eq_true.mp oc153_0)
def sp154_0 : Spec := (154, [(2, 65, 0), (0, -2147483648, 2147483647), (0, -2147483648, 2147483647), (0, -2147483648, 2147483647), (0, -2147483648, 2147483647)], [((-100004, 19), [])], [(65, 22), (80, 0), (81, 0), (82, 0), (83, 0), (84, 0), (85, 0)], 10)
def cu154_0 : List Cut := []
theorem os154_0 : okStart H0 [] inlF [] [] cu154_0 4000 sp154_0 = true := by decide +kernel
theorem oc154_0 : cu154_0.all (okCut H0 [] inlF [] cu154_0 4000 sp154_0) = true := by decide +kernel
theorem ok154_0 (X : Xs) : SpecOK X sp154_0 := sp_sound (sps_nil) rfl os154_0 (List.all_eq_true.mp oc154_0)
def sp157_0 : Spec := (157, [(2, 65, 0), (0, 0, 29), (0, -1, 19), (0, 0, 29), (0, -1, 29), (0, -2147483648, 2147483647), (0, 0, 9000), (0, 0, 9000)], [((0, 6), [])], [(65, 41), (65, 42), (65, 43), (92, 0), (93, 0)], 30)
def cu157_0 : List Cut := [(95, [0, 1, 2, 5, 6, 7, 9, 10], [(2, 65, 0), (0, 0, 29), (0, -1, 19), (0, -2147483648, 2147483647), (0, 0, 9000), (0, 0, 9000), (0, 0, 2147483647), (0, 0, 120)], [], [(0, 0, 1), (-1, 7, 120)], []),
  (157, [0, 1, 6, 10, 11], [(2, 65, 0), (0, 0, 29), (0, 0, 9000), (0, 0, 2147483647), (0, 0, 20)], [], [(0, 0, 0), (-1, 4, 20)], [])]
theorem os157_0 : okStart H0 [sp130_0, sp136_0, sp142_0] inlF [] [] cu157_0 4000 sp157_0 = true := by decide +kernel
theorem oc157_0 : cu157_0.all (okCut H0 [sp130_0, sp136_0, sp142_0] inlF [] cu157_0 4000 sp157_0) = true := by decide +kernel
theorem ok157_0 (X : Xs) : SpecOK X sp157_0 := sp_sound (sps_cons (ok130_0 X) (sps_cons (ok136_0 X) (sps_cons (ok142_0 X) sps_nil))) rfl os157_0 (List.all_eq_true.mp oc157_0)
def sp158_0 : Spec := (158, [(2, 65, 0), (0, 0, 29), (0, 0, 19), (0, 0, 9000), (0, 0, 9000)], [((0, 6), [])], [(65, 41), (65, 42), (65, 43), (92, 0), (93, 0)], 40)
def cu158_0 : List Cut := []
theorem os158_0 : okStart H0 [sp157_0] inlF [] [] cu158_0 4000 sp158_0 = true := by decide +kernel
theorem oc158_0 : cu158_0.all (okCut H0 [sp157_0] inlF [] cu158_0 4000 sp158_0) = true := by decide +kernel
theorem ok158_0 (X : Xs) : SpecOK X sp158_0 := sp_sound (sps_cons (ok157_0 X) sps_nil) rfl os158_0 (List.all_eq_true.mp oc158_0)
def sp155_0 : Spec := (155, [(2, 65, 0), (0, 0, 19), (0, 0, 10)], [((0, 2147483647), [])], [], 30)
def cu155_0 : List Cut := []
theorem os155_0 : okStart H0 [sp139_0, sp142_0] inlF [] [] cu155_0 4000 sp155_0 = true := by decide +kernel
theorem oc155_0 : cu155_0.all (okCut H0 [sp139_0, sp142_0] inlF [] cu155_0 4000 sp155_0) = true := by decide +kernel
theorem ok155_0 (X : Xs) : SpecOK X sp155_0 := sp_sound (sps_cons (ok139_0 X) (sps_cons (ok142_0 X) sps_nil)) rfl os155_0 (List.all_eq_true.mp oc155_0)
def sp160_0 : Spec := (160, [(2, 65, 0), (0, -2147483648, 9000)], [((0, 0), [])], [(65, 41), (65, 42), (65, 43), (92, 0), (93, 0), (94, 0), (95, 0), (96, 0), (97, 0)], 50)
def cu160_0 : List Cut := [(2, [0, 1, 2], [(2, 65, 0), (0, -2147483648, 9000), (0, 0, 20)], [], [(0, 0, 1), (-1, 2, 20)], []),
  (20, [0, 1, 2], [(2, 65, 0), (0, -2147483648, 9000), (0, 0, 120)], [], [(0, 0, 0), (-1, 2, 120)], [])]
theorem os160_0 : okStart H0 [sp142_0, sp155_0, sp158_0] inlF [] [] cu160_0 4000 sp160_0 = true := by decide +kernel
theorem oc160_0 : cu160_0.all (okCut H0 [sp142_0, sp155_0, sp158_0] inlF [] cu160_0 4000 sp160_0) = true := by decide +kernel
theorem ok160_0 (X : Xs) : SpecOK X sp160_0 := sp_sound (sps_cons (ok142_0 X) (sps_cons (ok155_0 X) (sps_cons (ok158_0 X) sps_nil))) rfl os160_0 (List.all_eq_true.mp oc160_0)
def sp162_0 : Spec := (162, [(2, 65, 0), (0, -2147483648, 2147483647), (0, -2147483648, 2147483647), (0, -2147483648, 2147483647), (0, -2147483648, 2147483647)], [((-100002, 6), [])], [(65, 41), (65, 42), (65, 43), (92, 0), (93, 0), (94, 0), (95, 0), (96, 0), (97, 0)], 60)
def cu162_0 : List Cut := []
theorem os162_0 : okStart H0 [sp158_0, sp160_0] inlF [] [] cu162_0 4000 sp162_0 = true := by decide +kernel
theorem oc162_0 : cu162_0.all (okCut H0 [sp158_0, sp160_0] inlF [] cu162_0 4000 sp162_0) = true := by decide +kernel
theorem ok162_0 (X : Xs) : SpecOK X sp162_0 := sp_sound (sps_cons (ok158_0 X) (sps_cons (ok160_0 X) sps_nil)) rfl os162_0 (List.all_eq_true.mp oc162_0)
def sp163_0 : Spec := (163, [(2, 65, 0), (0, 0, 29), (0, 0, 19)], [((0, 1), [])], [], 10)
def cu163_0 : List Cut := [(4, [0, 1, 2, 3, 4], [(2, 65, 0), (0, 0, 29), (0, 0, 19), (0, 0, 1), (0, 0, 120)], [], [(0, 0, 0), (-1, 4, 120)], [])]
theorem os163_0 : okStart H0 [] inlF [] [] cu163_0 4000 sp163_0 = true := by decide +kernel
theorem oc163_0 : cu163_0.all (okCut H0 [] inlF [] cu163_0 4000 sp163_0) = true := by decide +kernel
theorem ok163_0 (X : Xs) : SpecOK X sp163_0 := sp_sound (sps_nil) rfl os163_0 (List.all_eq_true.mp oc163_0)
def sp164_0 : Spec := (164, [(2, 65, 0), (0, 0, 29)], [((-2147483648, 2147483647), [])], [], 10)
def cu164_0 : List Cut := [(4, [0, 1, 2, 3], [(2, 65, 0), (0, 0, 29), (0, -2147483648, 2147483647), (0, 0, 120)], [], [(0, 0, 0), (-1, 3, 120)], [])]
theorem os164_0 : okStart H0 [] inlF [] [] cu164_0 4000 sp164_0 = true := by decide +kernel
theorem oc164_0 : cu164_0.all (okCut H0 [] inlF [] cu164_0 4000 sp164_0) = true := by decide +kernel
theorem ok164_0 (X : Xs) : SpecOK X sp164_0 := sp_sound (sps_nil) rfl os164_0 (List.all_eq_true.mp oc164_0)
def sp161_0 : Spec := (161, [(2, 65, 0), (0, 0, 19)], [((0, 2147483647), [])], [], 40)
def cu161_0 : List Cut := []
theorem os161_0 : okStart H0 [sp155_0] inlF [] [] cu161_0 4000 sp161_0 = true := by decide +kernel
theorem oc161_0 : cu161_0.all (okCut H0 [sp155_0] inlF [] cu161_0 4000 sp161_0) = true := by decide +kernel
theorem ok161_0 (X : Xs) : SpecOK X sp161_0 := sp_sound (sps_cons (ok155_0 X) sps_nil) rfl os161_0 (List.all_eq_true.mp oc161_0)
def sp168_0 : Spec := (168, [(2, 65, 0), (0, -2147483648, 2147483647)], [((-2147483648, 2147483647), [])], [(65, 41), (65, 42), (65, 43), (85, 0), (92, 0), (93, 0), (94, 0), (95, 0), (96, 0), (97, 0)], 60)
def cu168_0 : List Cut := [(33, [0, 1, 2, 3], [(2, 65, 0), (0, 0, 19), (0, -2147483648, 2147483647), (0, 0, 120)], [], [(0, 0, 0), (-1, 3, 120)], [])]
theorem os168_0 : okStart H0 [sp160_0] inlF [] [] cu168_0 4000 sp168_0 = true := by decide +kernel
theorem oc168_0 : cu168_0.all (okCut H0 [sp160_0] inlF [] cu168_0 4000 sp168_0) = true := by decide +kernel
theorem ok168_0 (X : Xs) : SpecOK X sp168_0 := sp_sound (sps_cons (ok160_0 X) sps_nil) rfl os168_0 (List.all_eq_true.mp oc168_0)
def sp169_0 : Spec := (169, [(2, 65, 0), (0, -2147483648, 2147483647), (0, -2147483648, 2147483647)], [((-2147483648, 2147483647), [])], [(65, 41), (65, 42), (65, 43), (92, 0), (93, 0), (94, 0), (95, 0), (96, 0), (97, 0)], 60)
def cu169_0 : List Cut := [(16, [0, 2, 3, 4], [(2, 65, 0), (0, 0, 3), (0, -2147483648, 2147483647), (0, 0, 120)], [], [(0, 0, 0), (-1, 3, 120)], [])]
theorem os169_0 : okStart H0 [sp160_0] inlF [] [] cu169_0 4000 sp169_0 = true := by decide +kernel
theorem oc169_0 : cu169_0.all (okCut H0 [sp160_0] inlF [] cu169_0 4000 sp169_0) = true := by decide +kernel
theorem ok169_0 (X : Xs) : SpecOK X sp169_0 := sp_sound (sps_cons (ok160_0 X) sps_nil) rfl os169_0 (List.all_eq_true.mp oc169_0)
def sp170_0 : Spec := (170, [(2, 65, 0), (0, -2147483648, 2147483647), (0, -2147483648, 2147483647), (0, -2147483648, 2147483647)], [((-2147483648, 2147483647), [])], [(65, 41), (65, 42), (65, 43), (92, 0), (93, 0), (94, 0), (95, 0), (96, 0), (97, 0)], 60)
def cu170_0 : List Cut := []
theorem os170_0 : okStart H0 [sp155_0, sp160_0, sp161_0] inlF [] [] cu170_0 4000 sp170_0 = true := by decide +kernel
theorem oc170_0 : cu170_0.all (okCut H0 [sp155_0, sp160_0, sp161_0] inlF [] cu170_0 4000 sp170_0) = true := by decide +kernel
theorem ok170_0 (X : Xs) : SpecOK X sp170_0 := sp_sound (sps_cons (ok155_0 X) (sps_cons (ok160_0 X) (sps_cons (ok161_0 X) sps_nil))) rfl os170_0 (List.all_eq_true.mp oc170_0)
def sp171_0 : Spec := (171, [(2, 65, 0), (0, -2147483648, 2147483647), (0, -2147483648, 2147483647)], [((-2147483648, 2147483647), [])], [(65, 41), (65, 42), (65, 43), (92, 0), (93, 0), (94, 0), (95, 0), (96, 0), (97, 0), (98, 0)], 60)
def cu171_0 : List Cut := [(15, [0, 1, 2, 3], [(2, 65, 0), (0, 0, 9000), (0, 0, 9000), (0, 0, 20)], [], [(0, 0, 1), (-1, 3, 20)], []),
  (36, [0, 1, 2, 3, 4], [(2, 65, 0), (0, 0, 9000), (0, 0, 9000), (0, -2147483648, 2147483647), (0, 0, 20)], [], [(0, 0, 0), (-1, 4, 20)], [])]
theorem os171_0 : okStart H0 [sp160_0] inlF [] [] cu171_0 4000 sp171_0 = true := by decide +kernel
theorem oc171_0 : cu171_0.all (okCut H0 [sp160_0] inlF [] cu171_0 4000 sp171_0) = true := by decide +kernel
theorem ok171_0 (X : Xs) : SpecOK X sp171_0 := sp_sound (sps_cons (ok160_0 X) sps_nil) rfl os171_0 (List.all_eq_true.mp oc171_0)
def sp172_0 : Spec := (172, [(2, 65, 0), (0, 0, 29), (0, 0, 9000)], [((-2147483648, 2147483647), [])], [], 50)
def cu172_0 : List Cut := [(4, [0, 1, 2, 3, 4], [(2, 65, 0), (0, 0, 29), (0, 0, 9000), (0, -2147483648, 2147483647), (0, 0, 20)], [], [(0, 0, 1), (-1, 4, 20)], []),
  (40, [0, 1, 2, 3, 4], [(2, 65, 0), (0, 0, 29), (0, 0, 9000), (0, -2147483648, 2147483647), (0, 0, 120)], [], [(0, 0, 0), (-1, 4, 120)], [])]
theorem os172_0 : okStart H0 [sp155_0, sp161_0] inlF [] [] cu172_0 4000 sp172_0 = true := by decide +kernel
theorem oc172_0 : cu172_0.all (okCut H0 [sp155_0, sp161_0] inlF [] cu172_0 4000 sp172_0) = true := by decide +kernel
theorem ok172_0 (X : Xs) : SpecOK X sp172_0 := sp_sound (sps_cons (ok155_0 X) (sps_cons (ok161_0 X) sps_nil)) rfl os172_0 (List.all_eq_true.mp oc172_0)
def sp173_0 : Spec := (173, [(2, 65, 0), (0, 0, 29), (0, 0, 9000)], [((-2147483648, 2147483647), [])], [], 10)
def cu173_0 : List Cut := [(4, [0, 1, 2, 3, 4], [(2, 65, 0), (0, 0, 29), (0, 0, 9000), (0, -2147483648, 2147483647), (0, 0, 60)], [], [(0, 0, 0), (-1, 4, 60)], [])]
theorem os173_0 : okStart H0 [] inlF [] [] cu173_0 4000 sp173_0 = true := by decide +kernel
theorem oc173_0 : cu173_0.all (okCut H0 [] inlF [] cu173_0 4000 sp173_0) = true := by decide +kernel
theorem ok173_0 (X : Xs) : SpecOK X sp173_0 := sp_sound (sps_nil) rfl os173_0 (List.all_eq_true.mp oc173_0)
def sp174_0 : Spec := (174, [(2, 65, 0), (0, -2147483648, 2147483647), (0, -2147483648, 2147483647)], [((-2147483648, 2147483647), [])], [(65, 36), (65, 41), (65, 42), (65, 43), (91, 0), (92, 0), (93, 0), (94, 0), (95, 0), (96, 0), (97, 0)], 60)
def cu174_0 : List Cut := []
theorem os174_0 : okStart H0 [sp160_0, sp172_0, sp173_0] inlF [] [] cu174_0 4000 sp174_0 = true := by decide +kernel
theorem oc174_0 : cu174_0.all (okCut H0 [sp160_0, sp172_0, sp173_0] inlF [] cu174_0 4000 sp174_0) = true := by decide +kernel
theorem ok174_0 (X : Xs) : SpecOK X sp174_0 := sp_sound (sps_cons (ok160_0 X) (sps_cons (ok172_0 X) (sps_cons (ok173_0 X) sps_nil))) rfl os174_0 (List.all_eq_true.mp oc174_0)
def sp175_0 : Spec := (175, [(2, 65, 0), (0, -2147483648, 2147483647), (0, -2147483648, 2147483647), (0, -2147483648, 2147483647)], [((-2147483648, 2147483647), [])], [(65, 41), (65, 42), (65, 43), (92, 0), (93, 0), (94, 0), (95, 0), (96, 0), (97, 0)], 60)
def cu175_0 : List Cut := []
theorem os175_0 : okStart H0 [sp160_0, sp172_0, sp173_0] inlF [] [] cu175_0 4000 sp175_0 = true := by decide +kernel
theorem oc175_0 : cu175_0.all (okCut H0 [sp160_0, sp172_0, sp173_0] inlF [] cu175_0 4000 sp175_0) = true := by decide +kernel
theorem ok175_0 (X : Xs) : SpecOK X sp175_0 := sp_sound (sps_cons (ok160_0 X) (sps_cons (ok172_0 X) (sps_cons (ok173_0 X) sps_nil))) rfl os175_0 (List.all_eq_true.mp oc175_0)
def sp176_0 : Spec := (176, [(2, 65, 0), (0, -2147483648, 2147483647)], [((-2147483648, 2147483647), [])], [(65, 38)], 10)
def cu176_0 : List Cut := []
theorem os176_0 : okStart H0 [] inlF [] [] cu176_0 4000 sp176_0 = true := by decide +kernel
theorem oc176_0 : cu176_0.all (okCut H0 [] inlF [] cu176_0 4000 sp176_0) = true := by decide +kernel
theorem ok176_0 (X : Xs) : SpecOK X sp176_0 := sp_sound (sps_nil) rfl os176_0 (List.all_eq_true.mp oc176_0)
def sp177_0 : Spec := (177, [(0, -1, 2147483647)], [((-2147483648, 2147483647), [])], [], 10)
def cu177_0 : List Cut := [(4, [0, 1, 2], [(0, -1, 2147483647), (0, -2147483648, 2147483647), (0, 0, 31)], [], [(0, 0, 0), (-1, 2, 31)], [])]
theorem os177_0 : okStart H0 [] inlF [] [] cu177_0 4000 sp177_0 = true := by decide +kernel
theorem oc177_0 : cu177_0.all (okCut H0 [] inlF [] cu177_0 4000 sp177_0) = true := by decide +kernel
theorem ok177_0 (X : Xs) : SpecOK X sp177_0 := sp_sound (sps_nil) rfl os177_0 (List.all_eq_true.mp oc177_0)
def sp183_0 : Spec := (183, [(2, 65, 0), (0, -2147483648, 2147483647)], [((-100003, 0), [])], [(65, 41), (65, 42), (65, 43), (65, 54), (65, 63), (65, 64), (65, 65), (65, 66), (92, 0), (93, 0), (94, 0), (95, 0), (96, 0), (97, 0), (99, 0), (100, 0), (101, 0), (102, 0), (103, 0), (104, 0), (105, 0), (106, 0)], 90)
def sp186_0 : Spec := (186, [(2, 65, 0), (0, -2147483648, 2147483647)], [((-100003, 2147483647), [])], [(65, 41), (65, 42), (65, 43), (92, 0), (93, 0), (94, 0), (95, 0), (96, 0), (97, 0)], 60)
def cu186_0 : List Cut := [(23, [0, 1, 2, 3], [(2, 65, 0), (0, 0, 19), (0, -2147483648, 2147483647), (0, 0, 30)], [], [(0, 0, 0), (-1, 3, 30)], [])]
theorem os186_0 : okStart H0 [sp126_0, sp142_0, sp158_0, sp160_0, sp161_0, sp163_0] inlF [] [] cu186_0 4000 sp186_0 = true := by decide +kernel
theorem oc186_0 : cu186_0.all (okCut H0 [sp126_0, sp142_0, sp158_0, sp160_0, sp161_0, sp163_0] inlF [] cu186_0 4000 sp186_0) = true := by decide +kernel
theorem ok186_0 (X : Xs) : SpecOK X sp186_0 := sp_sound (sps_cons (ok126_0 X) (sps_cons (ok142_0 X) (sps_cons (ok158_0 X) (sps_cons (ok160_0 X) (sps_cons (ok161_0 X) (sps_cons (ok163_0 X) sps_nil)))))) rfl os186_0 (List.all_eq_true.mp oc186_0)
def sp187_0 : Spec := (187, [(2, 65, 0), (0, -1, 29), (0, 0, 29)], [((-2147483648, 2147483647), [])], [], 10)
def cu187_0 : List Cut := [(4, [0, 1, 2, 3, 4], [(2, 65, 0), (0, -1, 29), (0, 0, 29), (0, -2147483648, 2147483647), (0, 0, 120)], [], [(0, 0, 0), (-1, 4, 120)], [])]
theorem os187_0 : okStart H0 [] inlF [] [] cu187_0 4000 sp187_0 = true := by decide +kernel
theorem oc187_0 : cu187_0.all (okCut H0 [] inlF [] cu187_0 4000 sp187_0) = true := by decide +kernel
theorem ok187_0 (X : Xs) : SpecOK X sp187_0 := sp_sound (sps_nil) rfl os187_0 (List.all_eq_true.mp oc187_0)
def sp188_0 : Spec := (188, [(2, 65, 0), (0, -2147483648, 2147483647), (0, -2147483648, 2147483647), (0, -2147483648, 2147483647)], [((-2147483648, 2147483647), [])], [], 20)
def cu188_0 : List Cut := []
theorem os188_0 : okStart H0 [sp187_0] inlF [] [] cu188_0 4000 sp188_0 = true := by decide +kernel
theorem oc188_0 : cu188_0.all (okCut H0 [sp187_0] inlF [] cu188_0 4000 sp188_0) = true := by decide +kernel
theorem ok188_0 (X : Xs) : SpecOK X sp188_0 := sp_sound (sps_cons (ok187_0 X) sps_nil) rfl os188_0 (List.all_eq_true.mp oc188_0)
def sp189_0 : Spec := (189, [(2, 65, 0), (0, -2147483648, 2147483647), (0, -2147483648, 2147483647)], [((-2147483647, 99), [])], [(107, 0)], 20)
def cu189_0 : List Cut := [(8, [0, 1, 2, 3], [(2, 65, 0), (0, 0, 29), (0, -2147483648, 2147483647), (0, 0, 30)], [], [(0, 0, 6), (-1, 3, 30), (0, 0, 1000), (0, 0, 0), (0, 0, 1000), (0, 0, 0)], []),
  (26, [0, 1, 2, 3], [(2, 65, 0), (0, 0, 29), (0, -2147483648, 2147483647), (0, 0, 30)], [], [(0, 0, 5), (-1, 3, 30), (0, 0, 1000), (0, 0, 0), (0, 0, 1000), (0, 0, 0)], []),
  (32, [0, 1, 2, 3, 4], [(2, 65, 0), (0, 0, 29), (0, -2147483648, 2147483647), (0, 0, 29), (0, 0, 30)], [], [(0, 0, 5), (-1, 3, 30), (0, 0, 4), (-1, 4, 30), (0, 0, 1000), (0, 0, 0)], []),
  (38, [0, 1, 2, 3, 4, 5], [(2, 65, 0), (0, 0, 29), (0, -2147483648, 2147483647), (0, 0, 29), (0, 0, 29), (0, 0, 30)], [], [(0, 0, 5), (-1, 3, 30), (0, 0, 4), (-1, 4, 30), (0, 0, 3), (-1, 5, 30)], []),
  (92, [0, 1, 2, 3, 4], [(2, 65, 0), (0, 0, 29), (0, -2147483648, 2147483647), (0, -2147483648, 99), (0, 0, 30)], [], [(0, 0, 2), (-1, 4, 30), (0, 0, 1000), (0, 0, 0), (0, 0, 1000), (0, 0, 0)], []),
  (149, [0, 1, 2, 3, 4, 5], [(2, 65, 0), (0, 0, 29), (0, 0, 98), (0, 0, 98), (0, -1, 29), (0, 0, 100)], [], [(0, 0, 1), (-1, 5, 100), (0, 0, 1000), (0, 0, 0), (0, 0, 1000), (0, 0, 0)], []),
  (159, [0, 1, 2, 3, 4, 5, 6, 7], [(2, 65, 0), (0, 0, 29), (0, 1, 98), (0, 0, 98), (0, -1, 29), (0, 0, 99), (0, -1, 29), (0, -1, 29)], [], [(0, 0, 1), (-1, 5, 100), (0, 0, 0), (1, 7, 1), (0, 0, 1000), (0, 0, 0)], [])]
theorem os189_0 : okStart H0 [sp187_0] inlF [] [] cu189_0 4000 sp189_0 = true := by decide +kernel
theorem oc189_0 : cu189_0.all (okCut H0 [sp187_0] inlF [] cu189_0 4000 sp189_0) = true := by decide +kernel
theorem ok189_0 (X : Xs) : SpecOK X sp189_0 := sp_sound (sps_cons (ok187_0 X) sps_nil) rfl os189_0 (List.all_eq_true.mp oc189_0)
def sp190_0 : Spec := (190, [(2, 65, 0), (0, 0, 29), (0, 0, 9000)], [((-2147483648, 2147483647), [])], [(65, 41), (65, 42), (65, 43), (92, 0), (93, 0)], 40)
def cu190_0 : List Cut := [(4, [0, 1, 2, 3, 4], [(2, 65, 0), (0, 0, 29), (0, 0, 9000), (0, -2147483648, 2147483647), (0, 0, 30)], [], [(0, 0, 0), (-1, 4, 30)], [])]
theorem os190_0 : okStart H0 [sp126_0, sp142_0, sp157_0] inlF [] [] cu190_0 4000 sp190_0 = true := by decide +kernel
theorem oc190_0 : cu190_0.all (okCut H0 [sp126_0, sp142_0, sp157_0] inlF [] cu190_0 4000 sp190_0) = true := by decide +kernel
theorem ok190_0 (X : Xs) : SpecOK X sp190_0 := sp_sound (sps_cons (ok126_0 X) (sps_cons (ok142_0 X) (sps_cons (ok157_0 X) sps_nil))) rfl os190_0 (List.all_eq_true.mp oc190_0)
def sp191_0 : Spec := (191, [(2, 65, 0), (0, -2147483648, 2147483647), (0, -2147483648, 2147483647), (0, -2147483648, 2147483647)], [((-2147483648, 2147483647), [])], [(65, 41), (65, 42), (65, 43), (92, 0), (93, 0), (94, 0), (95, 0), (96, 0), (97, 0)], 60)
def cu191_0 : List Cut := []
theorem os191_0 : okStart H0 [sp160_0, sp190_0] inlF [] [] cu191_0 4000 sp191_0 = true := by decide +kernel
theorem oc191_0 : cu191_0.all (okCut H0 [sp160_0, sp190_0] inlF [] cu191_0 4000 sp191_0) = true := by decide +kernel
theorem ok191_0 (X : Xs) : SpecOK X sp191_0 := sp_sound (sps_cons (ok160_0 X) (sps_cons (ok190_0 X) sps_nil)) rfl os191_0 (List.all_eq_true.mp oc191_0)
def sp192_0 : Spec := (192, [(2, 65, 0), (0, -2147483648, 2147483647), (0, -2147483648, 2147483647), (0, -2147483648, 2147483647)], [((-2147483648, 2147483647), [])], [(65, 41), (65, 42), (65, 43), (92, 0), (93, 0), (94, 0), (95, 0), (96, 0), (97, 0)], 60)
def cu192_0 : List Cut := [(23, [0, 1, 2, 3, 4, 5], [(2, 65, 0), (0, 0, 7), (0, 0, 3), (0, 0, 9000), (0, -2147483648, 2147483647), (0, 0, 30)], [], [(0, 0, 0), (-1, 5, 30)], [])]
theorem os192_0 : okStart H0 [sp142_0, sp160_0, sp190_0] inlF [] [] cu192_0 4000 sp192_0 = true := by decide +kernel
theorem oc192_0 : cu192_0.all (okCut H0 [sp142_0, sp160_0, sp190_0] inlF [] cu192_0 4000 sp192_0) = true := by decide +kernel
theorem ok192_0 (X : Xs) : SpecOK X sp192_0 := sp_sound (sps_cons (ok142_0 X) (sps_cons (ok160_0 X) (sps_cons (ok190_0 X) sps_nil))) rfl os192_0 (List.all_eq_true.mp oc192_0)
def sp193_0 : Spec := (193, [(2, 65, 0), (0, -2147483648, 2147483647)], [((-2147483648, 2147483647), [])], [(65, 41), (65, 42), (65, 43), (92, 0), (93, 0), (94, 0), (95, 0), (96, 0), (97, 0)], 60)
def cu193_0 : List Cut := [(8, [0, 1, 2, 3], [(2, 65, 0), (0, -2147483648, 2147483647), (0, -2147483648, 2147483647), (0, 0, 20)], [], [(0, 0, 2), (-1, 3, 20)], []),
  (33, [0, 1, 2, 3, 4], [(2, 65, 0), (0, -2147483648, 2147483647), (0, -2147483648, 2147483647), (0, -2147483648, 2147483647), (0, 0, 30)], [], [(0, 0, 1), (-1, 4, 30)], []),
  (63, [0, 1, 2, 3, 4, 5], [(2, 65, 0), (0, -2147483648, 2147483647), (0, -2147483648, 2147483647), (0, -2147483648, 2147483647), (0, -2147483648, 2147483647), (0, 0, 20)], [], [(0, 0, 0), (-1, 5, 20)], [])]
theorem os193_0 : okStart H0 [sp160_0, sp172_0, sp173_0] inlF [] [] cu193_0 4000 sp193_0 = true := by decide +kernel
theorem oc193_0 : cu193_0.all (okCut H0 [sp160_0, sp172_0, sp173_0] inlF [] cu193_0 4000 sp193_0) = true := by decide +kernel
theorem ok193_0 (X : Xs) : SpecOK X sp193_0 := sp_sound (sps_cons (ok160_0 X) (sps_cons (ok172_0 X) (sps_cons (ok173_0 X) sps_nil))) rfl os193_0 (List.all_eq_true.mp oc193_0)
def sp178_0 : Spec := (178, [(2, 65, 0), (0, 0, 4)], [((0, 0), [])], [(65, 41), (65, 42), (65, 43), (92, 0), (93, 0), (100, 0), (101, 0), (102, 0)], 50)
def cu178_0 : List Cut := [(12, [0, 1, 2, 3], [(2, 65, 0), (0, 0, 4), (0, 0, 19), (0, 0, 30)], [], [(0, 0, 2), (-1, 3, 30), (0, 0, 1000), (0, 0, 0)], []),
  (64, [0, 1, 2, 3, 4], [(2, 65, 0), (0, 0, 4), (0, 0, 19), (0, 0, 2147483647), (0, 0, 1024)], [], [(0, 0, 1), (-1, 4, 1024), (0, 0, 1000), (0, 0, 0)], []),
  (73, [0, 1, 2, 3, 4, 5, 6, 7], [(2, 65, 0), (0, 0, 4), (0, 0, 19), (0, 0, 2147483647), (0, 0, 1023), (0, -2147483648, 2147483647), (0, 0, 1000), (0, 0, 10)], [], [(0, 0, 1), (-1, 4, 1024), (0, 0, 0), (-1, 7, 10)], [])]
theorem os178_0 : okStart H0 [sp126_0, sp142_0, sp158_0, sp161_0, sp163_0] inlF [] [] cu178_0 4000 sp178_0 = true := by decide +kernel
theorem oc178_0 : cu178_0.all (okCut H0 [sp126_0, sp142_0, sp158_0, sp161_0, sp163_0] inlF [] cu178_0 4000 sp178_0) = true := by decide +kernel
theorem ok178_0 (X : Xs) : SpecOK X sp178_0 := sp_sound (sps_cons (ok126_0 X) (sps_cons (ok142_0 X) (sps_cons (ok158_0 X) (sps_cons (ok161_0 X) (sps_cons (ok163_0 X) sps_nil))))) rfl os178_0 (List.all_eq_true.mp oc178_0)
def sp180_0 : Spec := (180, [(2, 65, 0), (0, 0, 4), (0, 0, 1023)], [((0, 1), [])], [], 10)
def cu180_0 : List Cut := [(4, [0, 1, 2, 3, 4], [(2, 65, 0), (0, 0, 4), (0, 0, 1023), (0, 0, 1), (0, 0, 10)], [], [(0, 0, 0), (-1, 4, 10)], [])]
theorem os180_0 : okStart H0 [] inlF [] [] cu180_0 4000 sp180_0 = true := by decide +kernel
theorem oc180_0 : cu180_0.all (okCut H0 [] inlF [] cu180_0 4000 sp180_0) = true := by decide +kernel
theorem ok180_0 (X : Xs) : SpecOK X sp180_0 := sp_sound (sps_nil) rfl os180_0 (List.all_eq_true.mp oc180_0)
def sp181_0 : Spec := (181, [(2, 65, 0), (0, 0, 4)], [((0, 0), [])], [(65, 65), (65, 66), (104, 0)], 20)
def cu181_0 : List Cut := [(6, [0, 1, 2, 3, 4], [(2, 65, 0), (0, 0, 4), (0, -2147483648, 2147483647), (0, -2147483648, 2147483647), (0, 0, 5)], [], [(0, 0, 1), (-1, 4, 5)], []),
  (59, [0, 1, 4], [(2, 65, 0), (0, 0, 4), (0, 0, 5)], [], [(0, 0, 0), (-1, 2, 5)], [])]
theorem os181_0 : okStart H0 [sp177_0] inlF [] [] cu181_0 4000 sp181_0 = true := by decide +kernel
theorem oc181_0 : cu181_0.all (okCut H0 [sp177_0] inlF [] cu181_0 4000 sp181_0) = true := by decide +kernel
theorem ok181_0 (X : Xs) : SpecOK X sp181_0 := sp_sound (sps_cons (ok177_0 X) sps_nil) rfl os181_0 (List.all_eq_true.mp oc181_0)
def sp179_0 : Spec := (179, [(2, 65, 0), (0, 0, 4), (0, 0, 1024), (0, -1, 1)], [((0, 0), [])], [(105, 0)], 10)
def cu179_0 : List Cut := [(2, [0, 1, 2, 3, 4], [(2, 65, 0), (0, 0, 4), (0, 0, 1024), (0, -1, 1), (0, 0, 10)], [], [(0, 0, 0), (-1, 4, 10)], [])]
theorem os179_0 : okStart H0 [] inlF [] [] cu179_0 4000 sp179_0 = true := by decide +kernel
theorem oc179_0 : cu179_0.all (okCut H0 [] inlF [] cu179_0 4000 sp179_0) = true := by decide +kernel
theorem ok179_0 (X : Xs) : SpecOK X sp179_0 := sp_sound (sps_nil) rfl os179_0 (List.all_eq_true.mp oc179_0)
def sp182_0 : Spec := (182, [(2, 65, 0)], [((0, 0), [])], [(65, 63), (65, 64), (65, 65), (65, 66), (103, 0), (104, 0), (105, 0), (106, 0)], 30)
def cu182_0 : List Cut := [(14, [0, 1], [(2, 65, 0), (0, 0, 30)], [(103, 0, -1, 1025), (103, 1, -1, 1025), (103, 2, -1, 1025), (103, 3, -1, 1025), (103, 4, -1, 1025)], [(0, 0, 3), (-1, 1, 30), (0, 0, 0), (0, 0, 0), (0, 0, 0), (0, 0, 0)], []),
  (39, [0, 1], [(2, 65, 0), (0, 0, 5)], [(103, 0, -1, 1025), (103, 1, -1, 1025), (103, 2, -1, 1025), (103, 3, -1, 1025), (103, 4, -1, 1025)], [(0, 0, 2), (-1, 1, 30), (0, 0, 0), (0, 0, 0), (0, 0, 0), (0, 0, 0)], []),
  (56, [0, 1], [(2, 65, 0), (0, -1, -1)], [(103, 0, 1025, 1025), (103, 1, -1, 1025), (103, 2, -1, 1025), (103, 3, -1, 1025), (103, 4, -1, 1025)], [(0, 0, 1), (-2, 2, 2050), (-2, 3, 2050), (-2, 4, 2050), (-2, 5, 2050), (-2, 6, 2050)], []),
  (56, [0, 1], [(2, 65, 0), (0, 0, 0)], [(103, 0, -1, 1024), (103, 1, -1, 1025), (103, 2, -1, 1025), (103, 3, -1, 1025), (103, 4, -1, 1025)], [(0, 0, 1), (-2, 2, 2050), (-2, 3, 2050), (-2, 4, 2050), (-2, 5, 2050), (-2, 6, 2050)], []),
  (56, [0, 1], [(2, 65, 0), (0, 1, 1)], [(103, 0, 0, 1024), (103, 1, -1, 1024), (103, 2, -1, 1025), (103, 3, -1, 1025), (103, 4, -1, 1025)], [(0, 0, 1), (-2, 2, 2050), (-2, 3, 2050), (-2, 4, 2050), (-2, 5, 2050), (-2, 6, 2050)], []),
  (56, [0, 1], [(2, 65, 0), (0, 2, 2)], [(103, 0, 0, 1024), (103, 1, 0, 1024), (103, 2, -1, 1024), (103, 3, -1, 1025), (103, 4, -1, 1025)], [(0, 0, 1), (-2, 2, 2050), (-2, 3, 2050), (-2, 4, 2050), (-2, 5, 2050), (-2, 6, 2050)], []),
  (56, [0, 1], [(2, 65, 0), (0, 3, 3)], [(103, 0, 0, 1024), (103, 1, 0, 1024), (103, 2, 0, 1024), (103, 3, -1, 1024), (103, 4, -1, 1025)], [(0, 0, 1), (-2, 2, 2050), (-2, 3, 2050), (-2, 4, 2050), (-2, 5, 2050), (-2, 6, 2050)], []),
  (56, [0, 1], [(2, 65, 0), (0, 4, 4)], [(103, 0, 0, 1024), (103, 1, 0, 1024), (103, 2, 0, 1024), (103, 3, 0, 1024), (103, 4, -1, 1024)], [(0, 0, 1), (-2, 2, 2050), (-2, 3, 2050), (-2, 4, 2050), (-2, 5, 2050), (-2, 6, 2050)], []),
  (81, [0, 1, 2], [(2, 65, 0), (0, 0, 0), (0, 0, 1025)], [(103, 0, -1, 1024), (103, 1, -1, 1025), (103, 2, -1, 1025), (103, 3, -1, 1025), (103, 4, -1, 1025)], [(0, 0, 1), (-2, 2, 2051), (-2, 4, 2050), (-2, 5, 2050), (-2, 6, 2050), (-2, 7, 2050)], []),
  (81, [0, 1, 2], [(2, 65, 0), (0, 1, 1), (0, 0, 1025)], [(103, 0, 0, 1024), (103, 1, -1, 1024), (103, 2, -1, 1025), (103, 3, -1, 1025), (103, 4, -1, 1025)], [(0, 0, 1), (-2, 3, 2050), (-2, 2, 2051), (-2, 5, 2050), (-2, 6, 2050), (-2, 7, 2050)], []),
  (81, [0, 1, 2], [(2, 65, 0), (0, 2, 2), (0, 0, 1025)], [(103, 0, 0, 1024), (103, 1, 0, 1024), (103, 2, -1, 1024), (103, 3, -1, 1025), (103, 4, -1, 1025)], [(0, 0, 1), (-2, 3, 2050), (-2, 4, 2050), (-2, 2, 2051), (-2, 6, 2050), (-2, 7, 2050)], []),
  (81, [0, 1, 2], [(2, 65, 0), (0, 3, 3), (0, 0, 1025)], [(103, 0, 0, 1024), (103, 1, 0, 1024), (103, 2, 0, 1024), (103, 3, -1, 1024), (103, 4, -1, 1025)], [(0, 0, 1), (-2, 3, 2050), (-2, 4, 2050), (-2, 5, 2050), (-2, 2, 2051), (-2, 7, 2050)], []),
  (81, [0, 1, 2], [(2, 65, 0), (0, 4, 4), (0, 0, 1025)], [(103, 0, 0, 1024), (103, 1, 0, 1024), (103, 2, 0, 1024), (103, 3, 0, 1024), (103, 4, -1, 1024)], [(0, 0, 1), (-2, 3, 2050), (-2, 4, 2050), (-2, 5, 2050), (-2, 6, 2050), (-2, 2, 2051)], [])]
theorem os182_0 : okStart H0 [sp164_0, sp179_0, sp180_0, sp181_0] inlF [] [(103, 0, -1, 1025), (103, 1, -1, 1025), (103, 2, -1, 1025), (103, 3, -1, 1025), (103, 4, -1, 1025)] cu182_0 4000 sp182_0 = true := by decide +kernel
theorem oc182_0 : cu182_0.all (okCut H0 [sp164_0, sp179_0, sp180_0, sp181_0] inlF [] cu182_0 4000 sp182_0) = true := by decide +kernel
theorem ok182_0 (X : Xs) : SpecOK X sp182_0 := sp_sound (sps_cons (ok164_0 X) (sps_cons (ok179_0 X) (sps_cons (ok180_0 X) (sps_cons (ok181_0 X) sps_nil)))) rfl os182_0 (List.all_eq_true.mp oc182_0)
end
section
/-! methods by hand, over their steps -/
theorem wS_b {n : Nat} {S : List AV} (h : S.all (wAb n) = true) : wS n S := by
  intro a ha
  have h := List.all_eq_true.mp h a ha
  obtain ⟨t, c⟩ := a
  match t, h with
  | 0, _ => exact wA_k (by decide)
  | 1, h => exact fun _ => blt_lt h
  | 2, _ => exact wA_k (by decide)
  | 3, h => exact fun _ => blt_lt h
  | n + 4, _ => exact wA_k (by omega)
theorem Wp_den {X : Xs} {d k : Nat} {as : List V} {M : Mm} {Q : Option V → Mm → Prop} (n F : Nat) (avs : List AV) (σ : Nat → Int) (t : List Node) (ht : cmp inlF (fun _ => none) 4000 false n k 0 (eLA 0 avs) [] [] = t) (has : avs.map (ev σ) = as) (hw : avs.all (wAb n) = true) (hd : 10 ≤ d) (h : den X (CPd X d) (fun _ _ _ => False) Q F t n σ M) : Wp X d k 0 (eL 0 as) [] M Q := by
  subst ht
  have hw := wS_b hw
  have := cmp_sound (d := d) (k0 := k) (cut := fun _ => none) (CT := fun _ _ _ => False) (CP := CPd X d) (fun k' as M Q' hq => hq) (fun i dl as' M' hi _ hct => hct.elim) hd 4000 false n k 0 _ [] [] F σ M rfl (Nat.zero_le _) (wL_eLA hw) (fun a ha => (by cases ha)) (fun a ha => (by cases ha)) h
  rw [eLA_ev, has] at this
  exact this
section STEPS
variable {X : Xs} {CP : Nat → List V → Mm → (Option V → Mm → Prop) → Prop} {CT : Nat → List V → Mm → Prop} {Q : Option V → Mm → Prop} {F n : Nat} {r : List Node} {σ : Nat → Int} {M : Mm}
theorem d_ib {b : Nat} {x y : AV} (h : den X CP CT Q F r (n + 1) (us σ n (ib b (nm σ x) (nm σ y))) M) : den X CP CT Q (F + 1) ((0, b, [x, y]) :: r) n σ M := den_lt (by show (0 : Nat) < 15; decide) h
theorem d_lb {b : Nat} {x y : AV} (h : den X CP CT Q F r (n + 1) (us σ n (lb b (nm σ x) (nm σ y))) M) : den X CP CT Q (F + 1) ((1, b, [x, y]) :: r) n σ M := den_lt (by show (1 : Nat) < 15; decide) h
theorem d_sb {b : Nat} {x y : AV} (h : den X CP CT Q F r (n + 1) (us σ n (sb b (nm σ x) (nm σ y))) M) : den X CP CT Q (F + 1) ((2, b, [x, y]) :: r) n σ M := den_lt (by show (2 : Nat) < 15; decide) h
theorem d_lo {x : AV} (h : den X CP CT Q F r (n + 1) (us σ n (lo32 (nm σ x))) M) : den X CP CT Q (F + 1) ((3, 0, [x]) :: r) n σ M := den_lt (by show (3 : Nat) < 15; decide) h
theorem d_ld {j : Nat} {s : AV} (h : rK (kd j s.2.toNat) (M j s.2.toNat) → den X CP CT Q F r (n + 1) (us σ n (M j s.2.toNat)) M) : den X CP CT Q (F + 1) ((4, j, [s]) :: r) n σ M := den_lt (by show (4 : Nat) < 15; decide) h
theorem d_la {j : Nat} {x : AV} (h0 : 0 ≤ nm σ x ∧ nm σ x < alen j) (h : rK (kd j (nm σ x).toNat) (M j (nm σ x).toNat) → den X CP CT Q F r (n + 1) (us σ n (M j (nm σ x).toNat)) M) : den X CP CT Q (F + 1) ((5, j, [x]) :: r) n σ M := den_lt (by show (5 : Nat) < 15; decide) ⟨h0.1, h0.2, h⟩
theorem d_sc {b : Nat} {x : AV} (h0 : 0 ≤ nm σ x ∧ nm σ x < X.1) (h : den X CP CT Q F r (n + 1) (us σ n (X.2 (nm σ x).toNat)) M) : den X CP CT Q (F + 1) ((6, b, [x]) :: r) n σ M := den_lt (by show (6 : Nat) < 15; decide) ⟨h0.1, h0.2, h⟩
theorem d_sl {b : Nat} (h : den X CP CT Q F r (n + 1) (us σ n X.1) M) : den X CP CT Q (F + 1) ((7, b, []) :: r) n σ M := den_lt (by show (7 : Nat) < 15; decide) h
theorem d_st {j : Nat} {s v : AV} (h : den X CP CT Q F r n σ (up M j s.2.toNat (nm σ v))) : den X CP CT Q (F + 1) ((10, j, [s, v]) :: r) n σ M := den_lt (by show (10 : Nat) < 15; decide) h
theorem d_sa {j : Nat} {x v : AV} (h0 : 0 ≤ nm σ x ∧ nm σ x < alen j) (h : den X CP CT Q F r n σ (up M j (nm σ x).toNat (nm σ v))) : den X CP CT Q (F + 1) ((11, j, [x, v]) :: r) n σ M := den_lt (by show (11 : Nat) < 15; decide) ⟨h0.1, h0.2, h⟩
theorem d_bo {b : Nat} {v : AV} (h0 : nm σ v = 0 ∨ nm σ v = 1) (h : den X CP CT Q F r n σ M) : den X CP CT Q (F + 1) ((12, b, [v]) :: r) n σ M := den_lt (by show (12 : Nat) < 15; decide) ⟨h0, h⟩
theorem d_br {c : Nat} {a b z : AV} (h1 : icP c (nm σ a) (nm σ b) → den X CP CT Q F (r.take z.2.toNat) n σ M) (h2 : ¬ icP c (nm σ a) (nm σ b) → den X CP CT Q F (r.drop z.2.toNat) n σ M) : den X CP CT Q (F + 1) ((15, c, [a, b, z]) :: r) n σ M := ⟨h1, h2⟩
theorem d_ca {k' : Nat} {as : List AV} (h : CP k' (as.map (ev σ)) M (fun v M' => retOK (mR k') v → (∀ y, v = some y → rV y) → okM M' → den X CP CT Q F r (n + rb k') (us σ n (oz v)) M')) : den X CP CT Q (F + 1) ((16, k', as) :: r) n σ M := h
theorem d_ct {i : Nat} {as : List AV} (h : CT i (as.map (ev σ)) M) : den X CP CT Q (F + 1) ((17, i, as) :: r) n σ M := h
theorem d_r0 {b : Nat} {as : List AV} (h : Q none M) : den X CP CT Q (F + 1) ((18, b, as) :: r) n σ M := h
theorem d_r1 {b : Nat} {a : AV} (h : Q (some (ev σ a)) M) : den X CP CT Q (F + 1) ((19, b, [a]) :: r) n σ M := h
end STEPS
/-! bound -/
theorem bound_x {X : Xs} {z : Int} {M : Mm} : Wp X 10 104 0 (eL 0 [vR 0 0, vI z]) [] M (fun v M' => (z < 100 ∨ 3000 < z) ∧ v = some (vI (-100002)) ∧ M' = M ∨ (100 ≤ z ∧ z ≤ 3000) ∧ v = some (vI (M 52 13)) ∧ M' = up M 52 13 z) := by
  refine Wp_den 1 20 [(4, 0), (1, 0)] (us (fun _ => 0) 0 z) [(15, 2, [(1, 0), (0, 100), (0, 1)]), (19, 0, [(0, -100002)]), (15, 4, [(1, 0), (0, 3000), (0, 1)]), (19, 0, [(0, -100002)]), (4, 52, [(0, 13)]), (10, 52, [(0, 13), (1, 0)]), (19, 0, [(1, 1)])] (by decide +kernel) rfl rfl (by decide) ?_
  refine d_br (fun h => d_r1 ?_) fun h => d_br (fun h2 => d_r1 ?_) fun h2 => d_ld fun _ => d_st (d_r1 ?_)
  · exact Or.inl ⟨Or.inl h, rfl, rfl⟩
  · exact Or.inl ⟨Or.inr h2, rfl, rfl⟩
  · have h : ¬ z < 100 := h
    have h2 : ¬ 3000 < z := h2
    exact Or.inr ⟨by omega, rfl, rfl⟩
theorem bound_m {X : Xs} {z : Int} {M : Mm} : Wp X 10 176 0 (eL 0 [vR 0 65, vI z]) [] M (fun v M' => (z < 100 ∨ 3000 < z) ∧ v = some (vI (-100002)) ∧ M' = M ∨ (100 ≤ z ∧ z ≤ 3000) ∧ v = some (vI (M 65 37)) ∧ M' = up M 65 37 z) := by
  refine Wp_den 1 20 [(4, 65), (1, 0)] (us (fun _ => 0) 0 z) [(15, 2, [(3, 0), (2, 100), (0, 1)]), (19, 0, [(0, -100002)]), (15, 4, [(3, 0), (2, 3000), (0, 1)]), (19, 0, [(0, -100002)]), (4, 65, [(0, 37)]), (10, 65, [(0, 37), (1, 0)]), (19, 0, [(1, 1)])] (by decide +kernel) rfl rfl (by decide) ?_
  refine d_br (fun h => d_r1 ?_) fun h => d_br (fun h2 => d_r1 ?_) fun h2 => d_ld fun _ => d_st (d_r1 ?_)
  · exact Or.inl ⟨Or.inl h, rfl, rfl⟩
  · exact Or.inl ⟨Or.inr h2, rfl, rfl⟩
  · have h : ¬ z < 100 := h
    have h2 : ¬ 3000 < z := h2
    exact Or.inr ⟨by omega, rfl, rfl⟩
end
section
/-! a method by hand that has marked places -/
def cutL (l : List (Nat × List Nat)) (i : Nat) : Option (List Nat) := (l.find? (fun q => Nat.beq q.1 i)).map (fun q => q.2)
theorem Wp_seg {X : Xs} {d k i : Nat} {cut : Nat → Option (List Nat)} {CT : Nat → List V → Mm → Prop} {dl : List Nat} {as : List V} {M : Mm} {Q : Option V → Mm → Prop} (n F : Nat) (avs : List AV) (σ : Nat → Int) (t : List Node) (ht : cmp inlF cut 4000 false n k i (dl.zip avs) [] [] = t) (has : avs.map (ev σ) = as) (hw : avs.all (wAb n) = true) (hd : 10 ≤ d) (hCT : ∀ (i : Nat) (dl : List Nat) (as : List V) (M : Mm), cut i = some dl → as.length = dl.length → CT i as M → Wp X d k i (dl.zip as) [] M Q) (h : den X (CPd X d) CT Q F t n σ M) : Wp X d k i (dl.zip as) [] M Q := by
  subst ht
  have hw := wS_b hw
  have := cmp_sound (d := d) (k0 := k) (cut := cut) (CT := CT) (CP := CPd X d) (fun k' as M Q' hq => hq) hCT hd 4000 false n k i _ [] [] F σ M rfl (Nat.zero_le _) (wL_zip hw) (fun a ha => (by cases ha)) (fun a ha => (by cases ha)) h
  rw [evL_zip, has] at this
  exact this
theorem Wp_ent {X : Xs} {d k : Nat} {cut : Nat → Option (List Nat)} {CT : Nat → List V → Mm → Prop} {as : List V} {M : Mm} {Q : Option V → Mm → Prop} (n F : Nat) (avs : List AV) (σ : Nat → Int) (t : List Node) (ht : cmp inlF cut 4000 false n k 0 (eLA 0 avs) [] [] = t) (has : avs.map (ev σ) = as) (hw : avs.all (wAb n) = true) (hd : 10 ≤ d) (hCT : ∀ (i : Nat) (dl : List Nat) (as : List V) (M : Mm), cut i = some dl → as.length = dl.length → CT i as M → Wp X d k i (dl.zip as) [] M Q) (h : den X (CPd X d) CT Q F t n σ M) : Wp X d k 0 (eL 0 as) [] M Q := by
  subst ht
  have hw := wS_b hw
  have := cmp_sound (d := d) (k0 := k) (cut := cut) (CT := CT) (CP := CPd X d) (fun k' as M Q' hq => hq) hCT hd 4000 false n k 0 _ [] [] F σ M rfl (Nat.zero_le _) (wL_eLA hw) (fun a ha => (by cases ha)) (fun a ha => (by cases ha)) h
  rw [eLA_ev, has] at this
  exact this
theorem ib0 {x y : Int} (h : in32 (x + y)) : ib 0 x y = x + y := by
  show (Int32.ofInt x + Int32.ofInt y).toInt = x + y
  rw [← Int32.ofInt_add]
  exact i32_to h
theorem wOf_a {W : Wl} {j s : Nat} (h : W.any (fun q => Nat.beq q.1 j && Nat.beq q.2 0) = true) : wOf W j s = true := by
  unfold wOf
  rw [List.any_eq_true] at h ⊢
  obtain ⟨q, hq, h⟩ := h
  refine ⟨q, hq, ?_⟩
  simp only [Bool.and_eq_true, Bool.or_eq_true] at h ⊢
  exact ⟨h.1, Or.inl h.2⟩
theorem tiv_a {j s : Nat} {i : Iv} (h : TT[j]? = some (1, [i])) : tiv j s = i := by
  unfold tiv
  rw [h]
  show [i].getD (s % 1) I64 = i
  rw [Nat.mod_one]
  rfl
theorem patsV_c {p : Pat} {ps : List Pat} {as : List V} (h : patsV (p :: ps) as) : ∃ v vs, as = v :: vs ∧ patV p v ∧ patsV ps vs := by
  cases as with
  | nil => exact h.elim
  | cons v vs => exact ⟨v, vs, rfl, h.1, h.2⟩
theorem patsV_n {as : List V} (h : patsV [] as) : as = [] := by
  cases as with
  | nil => rfl
  | cons v vs => exact h.elim
/-! bits of a number -/
def btc (s : Int) (k : Nat) : Int := ib 3 (ib 7 s (k : Int)) 1
def sm (s : Int) : Nat → Int
  | 0 => 0
  | n + 1 => sm s n + btc s n
theorem btc_in (s : Int) (k : Nat) : 0 ≤ btc s k ∧ btc s k ≤ 1 := and32 (by unfold in32; omega) (by decide)
theorem sm_in (s : Int) (n : Nat) : 0 ≤ sm s n ∧ sm s n ≤ n := by
  induction n with
  | zero => exact ⟨Int.le_refl _, Int.le_refl _⟩
  | succ n ih => have := btc_in s n; show 0 ≤ sm s n + btc s n ∧ sm s n + btc s n ≤ ((n + 1 : Nat) : Int); omega
theorem sm_mono (s : Int) {m n : Nat} (h : m ≤ n) : sm s m ≤ sm s n := by
  induction h with
  | refl => exact Int.le_refl _
  | @step n h ih => have := btc_in s n; show sm s m ≤ sm s n + btc s n; omega
theorem bits_loop {X : Xs} {s : Int} {M : Mm} : ∀ (t k : Nat), k + t = 31 → Wp X 10 177 4 ([0, 1, 2].zip [vI s, vI (sm s k), vI (k : Int)]) [] M (fun v M' => M' = M ∧ v = some (vI (sm s 31))) := by
  intro t
  induction t with
  | zero =>
    intro k hk
    refine Wp_seg (cut := cutL [(4, [0, 1, 2])]) (CT := fun _ _ _ => False) 3 20 [(1, 0), (1, 1), (1, 2)] (us (us (us (fun _ => 0) 0 s) 1 (sm s k)) 2 k) [(15, 3, [(1, 2), (0, 31), (0, 1)]), (19, 0, [(1, 1)]), (0, 7, [(1, 0), (1, 2)]), (0, 3, [(1, 3), (0, 1)]), (0, 0, [(1, 1), (1, 4)]), (0, 0, [(1, 2), (0, 1)]), (17, 4, [(1, 0), (1, 5), (1, 6)])] (by decide +kernel) rfl rfl (by decide) (fun _ _ _ _ _ _ h => h.elim) ?_
    refine d_br (fun h => d_r1 ?_) fun h => ?_
    · have : k = 31 := by omega
      subst this
      exact ⟨rfl, rfl⟩
    · have h : ¬ (31 : Int) ≤ (k : Int) := h
      omega
  | succ t ih =>
    intro k hk
    refine Wp_seg (cut := cutL [(4, [0, 1, 2])]) (CT := fun i as M' => i = 4 ∧ as = [vI s, vI (sm s (k + 1)), vI ((k + 1 : Nat) : Int)] ∧ M' = M) 3 20 [(1, 0), (1, 1), (1, 2)] (us (us (us (fun _ => 0) 0 s) 1 (sm s k)) 2 k) [(15, 3, [(1, 2), (0, 31), (0, 1)]), (19, 0, [(1, 1)]), (0, 7, [(1, 0), (1, 2)]), (0, 3, [(1, 3), (0, 1)]), (0, 0, [(1, 1), (1, 4)]), (0, 0, [(1, 2), (0, 1)]), (17, 4, [(1, 0), (1, 5), (1, 6)])] (by decide +kernel) rfl rfl (by decide) (fun i dl as M' hi _ h => ?_) ?_
    · obtain ⟨rfl, rfl, rfl⟩ := h
      obtain rfl : [0, 1, 2] = dl := Option.some.inj hi
      exact ih (k + 1) (by omega)
    · refine d_br (fun h => ?_) fun h => d_ib (d_ib (d_ib (d_ib (d_ct ⟨rfl, ?_, rfl⟩))))
      · have h : (31 : Int) ≤ (k : Int) := h
        omega
      · have e1 : ib 0 (sm s k) (btc s k) = sm s (k + 1) := ib0 (by have := sm_in s (k + 1); have e : sm s (k + 1) = sm s k + btc s k := rfl; unfold in32; omega)
        have e2 : ib 0 (k : Int) 1 = ((k + 1 : Nat) : Int) := by rw [ib0 (by unfold in32; omega)]; omega
        show [vI s, vI (ib 0 (sm s k) (btc s k)), vI (ib 0 (k : Int) 1)] = _
        rw [e1, e2]
theorem bits_m {X : Xs} {s : Int} {M : Mm} : Wp X 10 177 0 (eL 0 [vI s]) [] M (fun v M' => M' = M ∧ v = some (vI (sm s 31))) := by
  refine Wp_ent (cut := cutL [(4, [0, 1, 2])]) (CT := fun i as M' => i = 4 ∧ as = [vI s, vI 0, vI 0] ∧ M' = M) 1 20 [(1, 0)] (us (fun _ => 0) 0 s) [(17, 4, [(1, 0), (0, 0), (0, 0)])] (by decide +kernel) rfl rfl (by decide) (fun i dl as M' hi _ h => ?_) (d_ct ⟨rfl, rfl, rfl⟩)
  obtain ⟨rfl, rfl, rfl⟩ := h
  obtain rfl : [0, 1, 2] = dl := Option.some.inj hi
  exact bits_loop 31 0 rfl
/-! hold -/
def cu183 : List Cut := [(60, [0, 2], [(2, 65, 0), (0, 0, 5)], [], [(-1, 1, 5)], [])]
theorem oc183 : cu183.all (okCut H0 [sp178_0, sp182_0] inlF [] cu183 4000 sp183_0) = true := by decide +kernel
theorem hold_60 {X : Xs} {M M0 : Mm} (hT : okTT M) (hF : FrM sp183_0.2.2.2.1 M0 M) : Wp X 90 183 60 ([0, 2].zip [vR 0 65, vI 0]) [] M (Qp sp183_0.2.2.2.1 sp183_0.2.2.1 M0 (fun _ => True) (fun _ _ => True)) :=
  cuts_sound (sp := sp183_0) H0_ok (sps_cons (ok178_0 X) (sps_cons (ok182_0 X) sps_nil)) (by decide) (fun c h => Or.inl (List.all_eq_true.mp oc183 c h)) _ (60, [0, 2], [(2, 65, 0), (0, 0, 5)], [], [(-1, 1, 5)], []) [vR 0 65, vI 0] M (by simp [cu183]) ⟨rfl, ⟨0, rfl, by decide, by decide⟩, trivial⟩ (fun q hq => (by cases hq)) (fun q hq => (by cases hq)) hT hF rfl trivial
theorem hold_st {X : Xs} {s : Int} {M0 : Mm} (h5 : sm s 31 ≤ 5) {c : Nat} {M : Mm} (hT : okTT M) (hF : FrM sp183_0.2.2.2.1 M0 M) (hm : M 65 53 = sm s c) (nx : c < 20 → ∀ M', okTT M' → FrM sp183_0.2.2.2.1 M0 M' → M' 65 53 = sm s (c + 1) → Wp X 90 183 26 ([0, 1, 2].zip [vR 0 65, vI s, vI ((c + 1 : Nat) : Int)]) [] M' (Qp sp183_0.2.2.2.1 sp183_0.2.2.1 M0 (fun _ => True) (fun _ _ => True))) : Wp X 90 183 26 ([0, 1, 2].zip [vR 0 65, vI s, vI (c : Int)]) [] M (Qp sp183_0.2.2.2.1 sp183_0.2.2.1 M0 (fun _ => True) (fun _ _ => True)) := by
  refine Wp_seg (cut := cutL [(26, [0, 1, 2]), (60, [0, 2])]) (CT := fun i as M' => okTT M' ∧ FrM sp183_0.2.2.2.1 M0 M' ∧ ((i = 60 ∧ as = [vR 0 65, vI 0]) ∨ (i = 26 ∧ c < 20 ∧ as = [vR 0 65, vI s, vI ((c + 1 : Nat) : Int)] ∧ M' 65 53 = sm s (c + 1)))) 2 40 [(4, 65), (1, 0), (1, 1)] (us (us (fun _ => 0) 0 s) 1 c) [(4, 65, [(0, 21)]), (15, 3, [(1, 1), (1, 2), (0, 1)]), (17, 60, [(4, 65), (0, 0)]), (0, 7, [(1, 0), (1, 1)]), (0, 3, [(1, 3), (0, 1)]), (15, 1, [(1, 4), (0, 1), (0, 2)]), (0, 0, [(1, 1), (0, 1)]), (17, 26, [(4, 65), (1, 0), (1, 5)]), (5, 94, [(1, 1)]), (15, 0, [(1, 5), (0, 0), (0, 7)]), (4, 65, [(0, 53)]), (11, 99, [(1, 6), (1, 1)]), (4, 65, [(0, 53)]), (0, 0, [(1, 7), (0, 1)]), (10, 65, [(0, 53), (1, 8)]), (0, 0, [(1, 1), (0, 1)]), (17, 26, [(4, 65), (1, 0), (1, 9)]), (19, 0, [(0, -100003)])] (by decide +kernel) rfl rfl (by decide) (fun i dl as M' hi _ h => ?_) ?_
  · obtain ⟨h1, h2, ⟨rfl, rfl⟩ | ⟨rfl, h3, rfl, h4⟩⟩ := h
    · obtain rfl : [0, 2] = dl := Option.some.inj hi
      exact hold_60 h1 h2
    · obtain rfl : [0, 1, 2] = dl := Option.some.inj hi
      exact nx h3 M' h1 h2 h4
  · have t1 : 0 ≤ M 65 21 ∧ M 65 21 ≤ 20 := hT 65 21
    have b := btc_in s c
    have e1 : sm s (c + 1) = sm s c + btc s c := rfl
    refine d_ld fun _ => d_br (fun h => d_ct ⟨hT, hF, Or.inl ⟨rfl, rfl⟩⟩) fun h => d_ib (d_ib (d_br (fun h2 => d_ib (d_ct ⟨hT, hF, Or.inr ⟨rfl, ?_, ?_, ?_⟩⟩)) fun h2 => d_la ?_ fun _ => d_br (fun h3 => d_ld fun _ => d_sa ?_ (d_ld fun _ => d_ib (d_st (d_ib (d_ct ⟨?_, ?_, Or.inr ⟨rfl, ?_, ?_, ?_⟩⟩))))) fun h3 => d_r1 ?_))
    all_goals have h : ¬ M 65 21 ≤ (c : Int) := h
    all_goals have ec : ib 0 (c : Int) 1 = ((c + 1 : Nat) : Int) := by rw [ib0 (by unfold in32; omega)]; omega
    · omega
    · show [vR 0 65, vI s, vI (ib 0 (c : Int) 1)] = _
      rw [ec]
    · have h2 : btc s c ≠ 1 := h2
      omega
    · show 0 ≤ (c : Int) ∧ (c : Int) < ((20 : Nat) : Int)
      omega
    all_goals have h2 : ¬ btc s c ≠ 1 := h2
    all_goals have m1 := sm_in s c
    all_goals have m2 : sm s (c + 1) ≤ sm s 31 := sm_mono s (by omega)
    · show 0 ≤ M 65 53 ∧ M 65 53 < ((5 : Nat) : Int)
      omega
    all_goals try have u1 : up M 99 (M 65 53).toNat (c : Int) 65 53 = M 65 53 := rfl
    all_goals try have e3 : ib 0 (M 65 53) 1 = M 65 53 + 1 := ib0 (by unfold in32; omega)
    · show okTT (up (up M 99 (M 65 53).toNat (c : Int)) 65 53 (ib 0 (M 65 53) 1))
      rw [e3]
      refine okTT_up (okTT_up hT ?_) ?_
      · rw [tiv_a (i := (0, 19)) rfl]
        show 0 ≤ (c : Int) ∧ (c : Int) ≤ 19
        omega
      · show 0 ≤ M 65 53 + 1 ∧ M 65 53 + 1 ≤ 5
        omega
    · show FrM _ M0 (up (up M 99 (M 65 53).toNat (c : Int)) 65 53 (ib 0 (M 65 53) 1))
      exact FrM_up (FrM_up hF (wOf_a (by decide))) (by decide)
    · omega
    · show [vR 0 65, vI s, vI (ib 0 (c : Int) 1)] = _
      rw [ec]
    · show ib 0 (M 65 53) 1 = sm s (c + 1)
      rw [e3]
      omega
    · exact ⟨⟨hT, hF, _, List.mem_cons_self, fun x hx => (by show (-100003 : Int) ≤ -100003 ∧ (-100003 : Int) ≤ 0; omega), fun q hq => (by cases hq)⟩, trivial, trivial⟩
theorem hold_26 {X : Xs} {s : Int} {M0 : Mm} (h5 : sm s 31 ≤ 5) : ∀ (t c : Nat) (M : Mm), c + t = 20 → okTT M → FrM sp183_0.2.2.2.1 M0 M → M 65 53 = sm s c → Wp X 90 183 26 ([0, 1, 2].zip [vR 0 65, vI s, vI (c : Int)]) [] M (Qp sp183_0.2.2.2.1 sp183_0.2.2.1 M0 (fun _ => True) (fun _ _ => True)) := by
  intro t
  induction t with
  | zero => intro c M hc hT hF hm; exact hold_st h5 hT hF hm fun h => by omega
  | succ t ih => intro c M hc hT hF hm; exact hold_st h5 hT hF hm fun h M' h1 h2 h3 => ih (c + 1) M' (by omega) h1 h2 h3
theorem ok183_0 (X : Xs) : SpecOK X sp183_0 := by
  intro as M hp hT _
  obtain ⟨r, as, rfl, hr, hp⟩ := patsV_c hp
  obtain ⟨a, as, rfl, ha, hp⟩ := patsV_c hp
  obtain rfl := patsV_n hp
  obtain ⟨s, rfl, hs⟩ := ha
  obtain rfl : r = vR 0 65 := hr
  clear hp
  have W1 : ∀ {M' : Mm}, FrM sp160_0.2.2.2.1 M M' → FrM sp183_0.2.2.2.1 M M' := fun h => FrM_sub (fun _ _ _ => rfl) (by decide) h
  have R : ∀ {M' : Mm} {z : Int}, okTT M' → FrM sp183_0.2.2.2.1 M M' → -100003 ≤ z ∧ z ≤ 0 → Qp sp183_0.2.2.2.1 sp183_0.2.2.1 M (fun _ => True) (fun _ _ => True) (some (vI z)) M' := fun h1 h2 h3 => ⟨⟨h1, h2, _, List.mem_cons_self, fun x hx => h3, fun q hq => (by cases hq)⟩, trivial, trivial⟩
  have F0 : FrM sp183_0.2.2.2.1 M M := fun _ _ _ => rfl
  have tail : ∀ (F n : Nat) (σ : Nat → Int), σ 0 = s → 0 < n → den X (CPd X 90) (fun i as M' => okTT M' ∧ FrM sp183_0.2.2.2.1 M M' ∧ sm s 31 ≤ 5 ∧ i = 26 ∧ as = [vR 0 65, vI s, vI 0] ∧ M' 65 53 = 0) (Qp sp183_0.2.2.2.1 sp183_0.2.2.1 M (fun _ => True) (fun _ _ => True)) (F + 7) [(16, 177, [(1, 0)]), (15, 5, [(1, (n : Int)), (0, 5), (0, 4)]), (4, 65, [(0, 0)]), (16, 160, [(4, 65), (1, ((n + 1 : Nat) : Int))]), (10, 65, [(0, 53), (0, 0)]), (17, 26, [(4, 65), (1, 0), (0, 0)]), (19, 0, [(0, -100002)])] n σ M := by
    intro F n σ h0 hn
    refine d_ca ⟨10, by decide, ?_⟩
    show Wp X 10 177 0 (eL 0 [vI (σ 0)]) [] M _
    rw [h0]
    refine bits_m.mono fun v M' hv _ _ _ => ?_
    obtain ⟨rfl, rfl⟩ := hv
    have en : us σ n (oz (some (vI (sm s 31)))) n = sm s 31 := us_at
    refine d_br (fun h => ?_) fun h => d_r1 (R hT F0 (by decide))
    have h : us σ n (oz (some (vI (sm s 31)))) ((n : Int)).toNat ≤ 5 := h
    rw [Int.toNat_natCast, en] at h
    show den X _ _ _ (F + 5) [(4, 65, [(0, 0)]), (16, 160, [(4, 65), (1, ((n + 1 : Nat) : Int))]), (10, 65, [(0, 53), (0, 0)]), (17, 26, [(4, 65), (1, 0), (0, 0)])] (n + 1) _ M'
    refine d_ld fun _ => d_ca ⟨50, by decide, ?_⟩
    have t0 : 0 ≤ M' 65 0 ∧ M' 65 0 ≤ 9000 := hT 65 0
    show Wp X 50 160 0 (eL 0 [vR 0 65, vI (us (us σ n _) (n + 1) (M' 65 0) (((n + 1 : Nat) : Int)).toNat)]) [] M' _
    rw [Int.toNat_natCast, us_at]
    refine (ok160_0 X [vR 0 65, vI (M' 65 0)] M' ⟨rfl, ⟨_, rfl, ?_, t0.2⟩, trivial⟩ hT trivial).mono fun v M2 hq _ _ _ => ?_
    · show (-2147483648 : Int) ≤ M' 65 0
      omega
    obtain ⟨q1, q2, -, -⟩ := hq
    refine d_st (d_ct ⟨okTT_up q1 (by show (0 : Int) ≤ 0 ∧ (0 : Int) ≤ 5; omega), FrM_up (W1 q2) (by decide), h, rfl, ?_, rfl⟩)
    show [vR 0 65, vI (us _ _ _ 0), vI 0] = _
    rw [us_ne (by omega), us_ne (by omega), us_ne hn, h0]
  refine (Wp_ent (cut := cutL [(26, [0, 1, 2]), (60, [0, 2])]) (CT := fun i as M' => okTT M' ∧ FrM sp183_0.2.2.2.1 M M' ∧ sm s 31 ≤ 5 ∧ i = 26 ∧ as = [vR 0 65, vI s, vI 0] ∧ M' 65 53 = 0) (Q := Qp sp183_0.2.2.2.1 sp183_0.2.2.1 M (fun _ => True) (fun _ _ => True)) 1 40 [(4, 65), (1, 0)] (us (fun _ => 0) 0 s) [(15, 5, [(1, 0), (0, 0), (0, 9)]), (15, 5, [(1, 0), (0, 0), (0, 1)]), (19, 0, [(0, -100002)]), (16, 177, [(1, 0)]), (15, 5, [(1, 1), (0, 5), (0, 4)]), (4, 65, [(0, 0)]), (16, 160, [(4, 65), (1, 2)]), (10, 65, [(0, 53), (0, 0)]), (17, 26, [(4, 65), (1, 0), (0, 0)]), (19, 0, [(0, -100002)]), (4, 65, [(0, 21)]), (0, 7, [(1, 0), (1, 1)]), (15, 0, [(1, 2), (0, 0), (0, 9)]), (15, 5, [(1, 0), (0, 0), (0, 1)]), (19, 0, [(0, -100002)]), (16, 177, [(1, 0)]), (15, 5, [(1, 3), (0, 5), (0, 4)]), (4, 65, [(0, 0)]), (16, 160, [(4, 65), (1, 4)]), (10, 65, [(0, 53), (0, 0)]), (17, 26, [(4, 65), (1, 0), (0, 0)]), (19, 0, [(0, -100002)]), (19, 0, [(0, -100001)])] (by decide +kernel) rfl rfl (by decide) (fun i dl as M' hi _ h => ?_) ?_).mono fun v M' q => ⟨q.1.1, q.1.2.1, q.1.2.2, trivial⟩
  · obtain ⟨h1, h2, h3, rfl, rfl, h4⟩ := h
    obtain rfl : [0, 1, 2] = dl := Option.some.inj hi
    exact hold_26 h3 20 0 M' rfl h1 h2 h4
  · refine d_br (fun h => d_br (fun h => d_r1 (R hT F0 (by decide))) fun h => ?_) fun h => d_ld fun _ => d_ib (d_br (fun h2 => d_br (fun h => d_r1 (R hT F0 (by decide))) fun h => ?_) fun h2 => d_r1 (R hT F0 (by decide)))
    · exact tail 31 1 _ rfl (by decide)
    · exact tail 29 3 _ rfl (by decide)
end
section
/-! the model's reader: where it reads never goes back, and a rule brings it on -/
theorem den_mono {X : Xs} {D : Nat} {CT CT' : Nat → List V → Mm → Prop} {Q Q' : Option V → Mm → Prop} (hC : ∀ i as M, CT i as M → CT' i as M) (hQ : ∀ v M, Q v M → Q' v M) : ∀ (F : Nat) (l : List Node) (n : Nat) (σ : Nat → Int) (M : Mm), den X (CPd X D) CT Q F l n σ M → den X (CPd X D) CT' Q' F l n σ M := by
  intro F
  induction F with
  | zero => intro l n σ M h; exact h
  | succ F ih =>
    intro l n σ M h
    cases l with
    | nil => exact h
    | cons x r =>
      by_cases hx : x.1 < 15
      · have h : (if x.1 < 15 then nd X x n σ M (fun τ M' => den X (CPd X D) CT Q F r (n + bn x) τ M') else _) := h
        rw [if_pos hx] at h
        exact den_lt hx (nd_mono (fun τ M' _ q => ih r _ τ M' q) h)
      · have h : (if x.1 < 15 then _ else _) := h
        rw [if_neg hx] at h
        show (if x.1 < 15 then _ else _)
        rw [if_neg hx]
        split at h
        · exact ⟨fun q => ih _ n σ M (h.1 q), fun q => ih _ n σ M (h.2 q)⟩
        · obtain ⟨d', h1, h2⟩ := h
          exact ⟨d', h1, h2.mono fun v M' q a b c => ih r _ _ M' (q a b c)⟩
        · exact hC _ _ _ h
        · exact hQ _ _ h
        · exact hQ _ _ h
        · exact h.elim
def hA : Hk := (fun cs j f g => bif Nat.beq j 65 then (bif Nat.beq f.1 0 then (bif decide (f.2 = 43) then (match kfind cs 65 (0, 43) with
    | some u => Nat.beq u.1 g.1 && decide (u.2 ≤ g.2)
    | none => false) else true) else false) else true, fun _ _ _ => true, fun j => !(Nat.beq j 65), fun _ _ => true)
def hR (v : Option AV) (cs : CS) : Bool := match kfind cs 65 (0, 43), kfind cs 65 (0, 45), kfind cs 65 (0, 44) with
  | some f, some g, some w => decide (0 ≤ (dfI cs 1 g f).1) && (decide (1 ≤ (dfI cs 1 g f).1) || (decide ((ivf cs w).1 = 0) && decide ((ivf cs w).2 = 0)))
  | _, _, _ => false
def hAR : Hk := (hA.1, hA.2.1, hA.2.2.1, hR)
def R145 (_ : Option V) (M : Mm) : Prop := M 65 43 ≤ M 65 45 ∧ (M 65 44 ≠ 0 → M 65 43 + 1 ≤ M 65 45)
theorem hA_st (a : Int) (cs : CS) (σ : Nat → Int) (M : Mm) (j : Nat) (f g : Fm) (h : Ok cs σ M) (h0 : 0 ≤ fv σ f) (hs : hA.1 cs j f g = true) (hP : a ≤ M 65 43) : a ≤ up M j (fv σ f).toNat (fv σ g) 65 43 := by
  unfold up
  split
  next e =>
    obtain ⟨e1, e2⟩ := e
    subst e1
    have hs : (bif Nat.beq f.1 0 then (bif decide (f.2 = 43) then (match kfind cs 65 (0, 43) with
      | some u => Nat.beq u.1 g.1 && decide (u.2 ≤ g.2)
      | none => false) else true) else false) = true := hs
    cases e3 : Nat.beq f.1 0 with
    | false => rw [e3] at hs; cases hs
    | true =>
      rw [e3] at hs
      have hs : (bif decide (f.2 = 43) then (match kfind cs 65 (0, 43) with
        | some u => Nat.beq u.1 g.1 && decide (u.2 ≤ g.2)
        | none => false) else true) = true := hs
      have e4 := fv_0 (σ := σ) (Nat.eq_of_beq_eq_true e3)
      have e5 : f.2 = 43 := by omega
      rw [decide_eq_true e5] at hs
      have hs : (match kfind cs 65 (0, 43) with
        | some u => Nat.beq u.1 g.1 && decide (u.2 ≤ g.2)
        | none => false) = true := hs
      split at hs
      next u hu =>
        rw [Bool.and_eq_true, decide_eq_true_eq] at hs
        obtain ⟨-, k2⟩ := kfind_ok h hu
        have k2 : M 65 43 = fv σ u := k2
        have := fv_base (σ := σ) (Nat.eq_of_beq_eq_true hs.1)
        omega
      next => cases hs
  next => exact hP
theorem hA_cp (a : Int) (M : Mm) (j1 j2 sp dp q : Nat) (hs : hA.2.2.1 j2 = true) (hP : a ≤ M 65 43) : a ≤ cpM M j1 j2 sp dp q 65 43 := by
  unfold cpM
  rw [if_neg]
  · exact hP
  · rintro ⟨e, -, -⟩
    subst e
    cases hs
theorem hA_ok (a : Int) : HkOK hA (fun M => a ≤ M 65 43) (fun _ _ _ => True) (fun _ _ => True) := ⟨fun cs σ M j f g h _ _ _ h0 hs hP => hA_st a cs σ M j f g h h0 hs hP, fun _ _ _ _ _ _ _ _ _ _ => trivial, fun M j1 j2 sp dp q _ hs hP => hA_cp a M j1 j2 sp dp q hs hP, fun _ _ _ _ _ _ _ _ _ => trivial⟩
theorem hAR_ok (a : Int) : HkOK hAR (fun M => a ≤ M 65 43) (fun _ _ _ => True) R145 := by
  refine ⟨fun cs σ M j f g h _ _ _ h0 hs hP => hA_st a cs σ M j f g h h0 hs hP, fun _ _ _ _ _ _ _ _ _ _ => trivial, fun M j1 j2 sp dp q _ hs hP => hA_cp a M j1 j2 sp dp q hs hP, fun cs σ M v h _ _ hs _ => ?_⟩
  have hs : hR v cs = true := hs
  unfold hR at hs
  split at hs
  next f g w hf hg hw =>
    obtain ⟨f1, f2⟩ := kfind_ok h hf
    obtain ⟨g1, g2⟩ := kfind_ok h hg
    obtain ⟨w1, w2⟩ := kfind_ok h hw
    have f2 : M 65 43 = fv σ f := f2
    have g2 : M 65 45 = fv σ g := g2
    have w2 : M 65 44 = fv σ w := w2
    have d : (dfI cs 1 g f).1 ≤ fv σ g - fv σ f ∧ fv σ g - fv σ f ≤ (dfI cs 1 g f).2 := dfI_ok (b := 1) h g1 f1
    have iw := ivf_ok h w1
    simp only [Bool.and_eq_true, Bool.or_eq_true, decide_eq_true_eq] at hs
    obtain ⟨s1, s2⟩ := hs
    show M 65 43 ≤ M 65 45 ∧ (M 65 44 ≠ 0 → M 65 43 + 1 ≤ M 65 45)
    omega
  next => cases hs
theorem sA_c {X : Xs} {P : Mm → Prop} {sp : Spec} {sps : List Spec} (h : SpecP X P sp) (hS : ∀ s ∈ sps, SpecP X P s) : ∀ s ∈ sp :: sps, SpecP X P s := List.forall_mem_cons.mpr ⟨h, hS⟩
theorem sA_n {X : Xs} {P : Mm → Prop} : ∀ s ∈ ([] : List Spec), SpecP X P s := fun s hs => (by cases hs)
theorem os143A : okStart hA [] inlF [] [] cu143_0 4000 sp143_0 = true := by decide +kernel
theorem oc143A : cu143_0.all (okCut hA [] inlF [] cu143_0 4000 sp143_0) = true := by decide +kernel
theorem here_a (X : Xs) (a : Int) : SpecP X (fun M => a ≤ M 65 43) sp143_0 := sp_soundP (hA_ok a) sA_n rfl os143A (List.all_eq_true.mp oc143A)
theorem os148A0 : okStart hA [sp143_0] inlF [] [] cu148_0 4000 sp148_0 = true := by decide +kernel
theorem oc148A0 : cu148_0.all (okCut hA [sp143_0] inlF [] cu148_0 4000 sp148_0) = true := by decide +kernel
theorem number_a0 (X : Xs) (a : Int) : SpecP X (fun M => a ≤ M 65 43) sp148_0 := sp_soundP (hA_ok a) (sA_c (here_a X a) sA_n) rfl os148A0 (List.all_eq_true.mp oc148A0)
theorem os148A1 : okStart hA [sp143_0] inlF [] [] cu148_1 4000 sp148_1 = true := by decide +kernel
theorem oc148A1 : cu148_1.all (okCut hA [sp143_0] inlF [] cu148_1 4000 sp148_1) = true := by decide +kernel
theorem number_a1 (X : Xs) (a : Int) : SpecP X (fun M => a ≤ M 65 43) sp148_1 := sp_soundP (hA_ok a) (sA_c (here_a X a) sA_n) rfl os148A1 (List.all_eq_true.mp oc148A1)
theorem os148A2 : okStart hA [sp143_0] inlF [] [] cu148_2 4000 sp148_2 = true := by decide +kernel
theorem oc148A2 : cu148_2.all (okCut hA [sp143_0] inlF [] cu148_2 4000 sp148_2) = true := by decide +kernel
theorem number_a2 (X : Xs) (a : Int) : SpecP X (fun M => a ≤ M 65 43) sp148_2 := sp_soundP (hA_ok a) (sA_c (here_a X a) sA_n) rfl os148A2 (List.all_eq_true.mp oc148A2)
theorem os148A3 : okStart hA [sp143_0] inlF [] [] cu148_3 4000 sp148_3 = true := by decide +kernel
theorem oc148A3 : cu148_3.all (okCut hA [sp143_0] inlF [] cu148_3 4000 sp148_3) = true := by decide +kernel
theorem number_a3 (X : Xs) (a : Int) : SpecP X (fun M => a ≤ M 65 43) sp148_3 := sp_soundP (hA_ok a) (sA_c (here_a X a) sA_n) rfl os148A3 (List.all_eq_true.mp oc148A3)
def cu145 : List Cut := [(10, [0], [(2, 65, 0)], [(65, 43, 0, 240), (65, 45, 0, 240), (65, 44, 0, 0)], [(0, 0, 0), (-1, 2, 240)], [(1, 2, 1, 0, 0)]),
  (10, [0], [(2, 65, 0)], [(65, 43, 0, 239), (65, 45, 1, 240), (65, 44, 1, 2700000026)], [(0, 0, 0), (-1, 2, 240)], [(1, 2, 1, 1, 240)])]
theorem os145 : okStart hAR [sp143_0] inlF [] [] cu145 4000 sp145_0 = true := by decide +kernel
theorem oc145 : cu145.all (okCut hAR [sp143_0] inlF [] cu145 4000 sp145_0) = true := by decide +kernel
theorem word_r {X : Xs} {a : Int} {M : Mm} (hT : okTT M) (ha : a ≤ M 65 43) : Wp X 20 145 0 (eL 0 [vR 0 65]) [] M (Qp sp145_0.2.2.2.1 sp145_0.2.2.1 M (fun M => a ≤ M 65 43) R145) := sp_soundR (sp := sp145_0) (hAR_ok a) (sA_c (here_a X a) sA_n) rfl os145 (fun c h => Or.inl (List.all_eq_true.mp oc145 c h)) ⟨rfl, trivial⟩ hT ha
/-- ruleOf says none of an empty word -/
def W149 : Wl := sp149_0.2.2.2.1
def csR : CS := newB (newB (newB iniC 0 7 1) 0 10 1) 0 240 1
def spsR : List Spec := [sp139_0, sp140_0, sp148_0, sp148_1, sp148_2, sp148_3]
def lR : List Node := [(16, 139, [(1, 1)]), (15, 0, [(1, 3), (0, 0), (0, 39)]), (15, 0, [(1, 1), (0, 0), (0, 7)]), (16, 148, [(4, 65), (0, 99)]), (0, 2, [(0, 20), (1, 0)]), (16, 140, [(1, 1), (0, 0)]), (0, 0, [(1, 5), (1, 6)]), (4, 65, [(0, 47)]), (11, 79, [(1, 7), (1, 8)]), (19, 0, [(1, 4)]), (15, 1, [(1, 1), (0, 1), (0, 23)]), (15, 0, [(1, 1), (0, 3), (0, 7)]), (16, 148, [(4, 65), (0, 1)]), (0, 2, [(0, 20), (1, 0)]), (16, 140, [(1, 1), (0, 0)]), (0, 0, [(1, 5), (1, 6)]), (4, 65, [(0, 47)]), (11, 79, [(1, 7), (1, 8)]), (19, 0, [(1, 4)]), (15, 1, [(1, 1), (0, 4), (0, 7)]), (16, 148, [(4, 65), (0, 9999)]), (0, 2, [(0, 20), (1, 0)]), (16, 140, [(1, 1), (0, 0)]), (0, 0, [(1, 5), (1, 6)]), (4, 65, [(0, 47)]), (11, 79, [(1, 7), (1, 8)]), (19, 0, [(1, 4)]), (16, 148, [(4, 65), (0, 1)]), (0, 2, [(0, 20), (1, 0)]), (16, 140, [(1, 1), (0, 0)]), (0, 0, [(1, 5), (1, 6)]), (4, 65, [(0, 47)]), (11, 79, [(1, 7), (1, 8)]), (19, 0, [(1, 4)]), (16, 148, [(4, 65), (0, 99)]), (0, 2, [(0, 20), (1, 0)]), (16, 140, [(1, 1), (0, 0)]), (0, 0, [(1, 5), (1, 6)]), (4, 65, [(0, 47)]), (11, 79, [(1, 7), (1, 8)]), (19, 0, [(1, 4)]), (16, 148, [(4, 65), (0, 3)]), (15, 5, [(1, 4), (0, 0), (0, 40)]), (4, 65, [(0, 47)]), (15, 0, [(1, 1), (0, 0), (0, 7)]), (16, 148, [(4, 65), (0, 99)]), (0, 2, [(0, 20), (1, 0)]), (16, 140, [(1, 1), (1, 5)]), (0, 0, [(1, 7), (1, 8)]), (4, 65, [(0, 47)]), (11, 79, [(1, 9), (1, 10)]), (19, 0, [(1, 6)]), (15, 1, [(1, 1), (0, 1), (0, 23)]), (15, 0, [(1, 1), (0, 3), (0, 7)]), (16, 148, [(4, 65), (0, 1)]), (0, 2, [(0, 20), (1, 0)]), (16, 140, [(1, 1), (1, 5)]), (0, 0, [(1, 7), (1, 8)]), (4, 65, [(0, 47)]), (11, 79, [(1, 9), (1, 10)]), (19, 0, [(1, 6)]), (15, 1, [(1, 1), (0, 4), (0, 7)]), (16, 148, [(4, 65), (0, 9999)]), (0, 2, [(0, 20), (1, 0)]), (16, 140, [(1, 1), (1, 5)]), (0, 0, [(1, 7), (1, 8)]), (4, 65, [(0, 47)]), (11, 79, [(1, 9), (1, 10)]), (19, 0, [(1, 6)]), (16, 148, [(4, 65), (0, 1)]), (0, 2, [(0, 20), (1, 0)]), (16, 140, [(1, 1), (1, 5)]), (0, 0, [(1, 7), (1, 8)]), (4, 65, [(0, 47)]), (11, 79, [(1, 9), (1, 10)]), (19, 0, [(1, 6)]), (16, 148, [(4, 65), (0, 99)]), (0, 2, [(0, 20), (1, 0)]), (16, 140, [(1, 1), (1, 5)]), (0, 0, [(1, 7), (1, 8)]), (4, 65, [(0, 47)]), (11, 79, [(1, 9), (1, 10)]), (19, 0, [(1, 6)]), (19, 0, [(1, 4)])]
def tR : List Node := (4, 65, [(0, 45)]) :: (10, 65, [(0, 43), (1, 2)]) :: lR
def eR : List Node := [(4, 65, [(0, 43)]), (10, 65, [(0, 15), (1, 2)]), (19, 0, [(0, 1)])]
theorem d_brA {X : Xs} {CP : Nat → List V → Mm → (Option V → Mm → Prop) → Prop} {CT : Nat → List V → Mm → Prop} {Q : Option V → Mm → Prop} {F n c : Nat} {a b : AV} {t e : List Node} {σ : Nat → Int} {M : Mm} (h1 : icP c (nm σ a) (nm σ b) → den X CP CT Q F t n σ M) (h2 : ¬ icP c (nm σ a) (nm σ b) → den X CP CT Q F e n σ M) : den X CP CT Q (F + 1) ((15, c, [a, b, (0, (t.length : Int))]) :: (t ++ e)) n σ M := by
  refine ⟨fun q => ?_, fun q => ?_⟩
  · rw [Int.toNat_natCast, List.take_left]
    exact h1 q
  · rw [Int.toNat_natCast, List.drop_left]
    exact h2 q
theorem restR : chk hA spsR W149 [((0, 2), [])] 40 [] [] none 195 lR csR = true := by decide +kernel
theorem spsR_ok (X : Xs) (a : Int) : ∀ sp ∈ spsR, SpecP X (fun M => a ≤ M 65 43) sp := by
  have fr : ∀ {sp : Spec}, sp.2.2.2.1 = [] → SpecOK X sp → SpecP X (fun M => a ≤ M 65 43) sp := fun h hs => hs.frame fun M M' hf hp => by
    rw [h] at hf
    rw [hf 65 43 rfl]
    exact hp
  exact sA_c (fr rfl (ok139_0 X)) (sA_c (fr rfl (ok140_0 X)) (sA_c (number_a0 X a) (sA_c (number_a1 X a) (sA_c (number_a2 X a) (sA_c (number_a3 X a) sA_n)))))
def inlG (k : Nat) : Bool := inlF k || Nat.beq k 146
theorem rest0 : chk H0 [] [] [((-1, -1), [])] 30 [] [] none 4000 (cmp inlG (fun _ => none) 4000 false 0 147 0 (eLA 0 [(4, 65)]) [] []) (setB iniC [(65, 44, 0, 0)]) = true := by decide +kernel
theorem ruleOf_0 {X : Xs} {M : Mm} (hT : okTT M) (hw : M 65 44 = 0) : Wp X 30 147 0 (eL 0 [vR 0 65]) [] M (fun v M' => okTT M' ∧ FrM [] M M' ∧ ansIn [((-1, -1), [])] v M') := by
  have h := chk_sound H0_ok (X := X) sA_n (M0 := M) (T := none) 4000 _ (setB iniC [(65, 44, 0, 0)]) (fun _ => 0) M rest0 (setB_ok iniC_ok ?_) hT (fun _ _ _ => rfl) rfl trivial
  have := cmp_sound (d := 30) (k0 := 147) (cut := fun _ => none) (CT := CTp [] [] M none (fun _ => True) (fun _ _ _ => True)) (CP := CPd X 30) (fun k' as M Q' hq => hq) (fun i dl as' M' hi _ hct => (by cases hi)) (by decide) 4000 false 0 147 0 _ [] [] 4000 (fun _ => 0) M rfl (Nat.zero_le _) (wL_eLA (as := [(4, 65)]) (wS_b rfl)) (fun a ha => (by cases ha)) (fun a ha => (by cases ha)) h
  rw [eLA_ev] at this
  · exact this.mono fun v M' q => q.1
  · intro q hq
    obtain rfl := List.mem_singleton.mp hq
    show (0 : Int) ≤ M 65 44 ∧ M 65 44 ≤ 0
    omega
theorem ret_some {r : Option FieldType} {v : Option V} (h : retOK r v) (hr : r ≠ none) : ∃ x, v = some x := by
  cases v with
  | some x => exact ⟨x, rfl⟩
  | none =>
    exfalso
    unfold retOK at h
    split at h
    · exact hr rfl
    all_goals first | exact h | contradiction
theorem rb145 : rb 145 = 0 := by decide +kernel
theorem rb147 : rb 147 = 1 := by decide +kernel
theorem mR147 : mR 147 ≠ none := by decide +kernel
theorem rule_r {X : Xs} {a part : Int} {M : Mm} (hT : okTT M) (ha : a ≤ M 65 43) (hp : 0 ≤ part ∧ part ≤ 7) : Wp X 40 149 0 (eL 0 [vR 0 65, vI part]) [] M (fun v M' => okTT M' ∧ FrM W149 M M' ∧ a ≤ M' 65 43 ∧ ∀ x, v = some x → 0 ≤ oz v ∧ oz v ≤ 2 ∧ (oz v = 0 → a + 1 ≤ M' 65 43)) := by
  refine Wp_den 1 200 [(4, 65), (1, 0)] (us (fun _ => 0) 0 part) ((16, 145, [(4, 65)]) :: (16, 147, [(4, 65)]) :: (15, 3, [(1, 1), (0, 0), (0, (tR.length : Int))]) :: (tR ++ eR)) (by decide +kernel) rfl rfl (by decide) ?_
  refine d_ca ⟨20, by decide, (word_r hT ha).mono fun v1 M1 h1 _ _ _ => ?_⟩
  obtain ⟨⟨t1, f1, -⟩, a1, r1, r2⟩ := h1
  rw [rb145]
  have f1 : FrM W149 M M1 := FrM_sub (fun _ _ _ => rfl) (by decide) f1
  have bad : ∀ (F : Nat) (σ : Nat → Int) (M2 : Mm), okTT M2 → FrM W149 M M2 → a ≤ M2 65 43 → den X (CPd X 40) (fun _ _ _ => False) (fun v M' => okTT M' ∧ FrM W149 M M' ∧ a ≤ M' 65 43 ∧ ∀ x, v = some x → 0 ≤ oz v ∧ oz v ≤ 2 ∧ (oz v = 0 → a + 1 ≤ M' 65 43)) (F + 3) [(4, 65, [(0, 43)]), (10, 65, [(0, 15), (1, 2)]), (19, 0, [(0, 1)])] 2 σ M2 := by
    intro F σ M2 t2 f2 a2
    refine d_ld fun _ => d_st (d_r1 ⟨okTT_up t2 ?_, FrM_up f2 (by decide), a2, fun x hx => ?_⟩)
    · have := t2 65 43
      have : 0 ≤ M2 65 43 ∧ M2 65 43 ≤ 240 := this
      show (-2147483648 : Int) ≤ M2 65 43 ∧ M2 65 43 ≤ 2147483647
      omega
    · show (0 : Int) ≤ 1 ∧ (1 : Int) ≤ 2 ∧ ((1 : Int) = 0 → _)
      omega
  by_cases hw : M1 65 44 = 0
  · refine d_ca ⟨30, by decide, (ruleOf_0 t1 hw).mono fun v2 M2 h2 hro _ _ => ?_⟩
    obtain ⟨t2, f2, o, ho, h3, -⟩ := h2
    obtain ⟨x, hx⟩ := ret_some hro mR147
    obtain rfl := List.mem_singleton.mp ho
    have h3 : -1 ≤ oz v2 ∧ oz v2 ≤ -1 := h3 x hx
    have e2 : M2 65 43 = M1 65 43 := f2 65 43 rfl
    rw [rb147]
    refine d_brA (fun h => ?_) fun h => ?_
    · have h : (0 : Int) ≤ oz v2 := h
      omega
    · exact bad _ _ M2 t2 (FrM_sub f1 (by decide) f2) (by omega)
  · refine d_ca ⟨20, by decide, (ok147_0 X [vR 0 65] M1 ⟨rfl, trivial⟩ t1 trivial).mono fun v2 M2 h2 hro _ _ => ?_⟩
    obtain ⟨t2, f2, ⟨o, ho, h3, -⟩, -⟩ := h2
    obtain ⟨x, hx⟩ := ret_some hro mR147
    obtain rfl := List.mem_singleton.mp ho
    have h3 : -1 ≤ oz v2 ∧ oz v2 ≤ 10 := h3 x hx
    have f2 : FrM [] M1 M2 := f2
    have e2 : M2 65 43 = M1 65 43 := f2 65 43 rfl
    have e3 : M2 65 45 = M1 65 45 := f2 65 45 rfl
    have r3 := r2 hw
    have b3 : 0 ≤ M2 65 45 ∧ M2 65 45 ≤ 240 := t2 65 45
    rw [rb147]
    refine d_brA (fun h => d_ld fun _ => d_st ?_) fun h => ?_
    · have h : (0 : Int) ≤ oz v2 := h
      have e4 : ∀ z : Int, up M2 65 43 z 65 43 = z := fun z => by unfold up; rw [if_pos ⟨rfl, rfl⟩]
      have hok : Ok csR (us (us (us (fun _ => 0) 0 part) 1 (oz v2)) 2 (M2 65 45)) (up M2 65 43 (M2 65 45)) := newB1 (cs := newB (newB iniC 0 7 1) 0 10 1) (newB1 (cs := newB iniC 0 7 1) (newB1 (cs := iniC) iniC_ok hp) ⟨h, h3.2⟩) b3
      refine den_mono (fun i as M' h => ?_) (fun v M' h => ?_) 195 lR _ _ _ (chk_sound (hA_ok (a + 1)) (spsR_ok X (a + 1)) (M0 := M) (T := none) 195 lR csR _ _ restR (hok.agree ?_) (okTT_up t2 b3) (FrM_up (FrM_sub f1 (by decide) f2) (by decide)) rfl (by show a + 1 ≤ up M2 65 43 (M2 65 45) 65 43; rw [e4]; omega))
      · obtain ⟨⟨c, hc, -⟩, -⟩ := h
        cases hc
      · obtain ⟨⟨h1, h2, o, ho, h3, -⟩, h4, -⟩ := h
        obtain rfl := List.mem_singleton.mp ho
        have h4 : a + 1 ≤ M' 65 43 := h4
        refine ⟨h1, h2, by omega, fun x hx => ?_⟩
        have h3 : 0 ≤ oz v ∧ oz v ≤ 2 := h3 x hx
        exact ⟨h3.1, h3.2, fun _ => h4⟩
      · intro j hj
        have hj : j < 3 := hj
        match j, hj with
        | 0, _ => rfl
        | 1, _ => rfl
        | 2, _ => rfl
    · exact bad _ _ M2 t2 (FrM_sub f1 (by decide) f2) (by omega)
/-! readPart -/
def sp150s : Spec := (150, [(2, 65, 0), (0, 0, 7)], [((0, 4), [])], sp150_0.2.2.2.1, 60)
def cu150 : List Cut := [(64, [0, 1, 3], [(2, 65, 0), (0, 0, 7), (0, 0, 20)], [], [(0, 0, 1), (-1, 2, 20)], []), (78, [0, 1], [(2, 65, 0), (0, 0, 7)], [], [(0, 0, 0), (0, 0, 0)], [])]
def sps150 : List Spec := [sp145_0, sp146_0, sp148_0]
theorem os150 : okStart H0 sps150 inlF [] [] cu150 4000 sp150s = true := by decide +kernel
theorem oc150 : okCut H0 sps150 inlF [] cu150 4000 sp150s (64, [0, 1, 3], [(2, 65, 0), (0, 0, 7), (0, 0, 20)], [], [(0, 0, 1), (-1, 2, 20)], []) = true := by decide +kernel
theorem mR143 : mR 143 ≠ none := by decide +kernel
theorem mR149 : mR 149 ≠ none := by decide +kernel
theorem rb143 : rb 143 = 1 := by decide +kernel
theorem rb149 : rb 149 = 1 := by decide +kernel
abbrev Q150 (M0 : Mm) : Option V → Mm → Prop := Qp sp150s.2.2.2.1 sp150s.2.2.1 M0 (fun _ => True) (fun _ _ => True)
theorem part_78 {X : Xs} {part : Int} {M0 : Mm} (hp : 0 ≤ part ∧ part ≤ 7) : ∀ (t : Nat) (a : Int) (M : Mm), a + t = 241 → a ≤ M 65 43 → okTT M → FrM sp150s.2.2.2.1 M0 M → Wp X 60 150 78 ([0, 1].zip [vR 0 65, vI part]) [] M (Q150 M0) := by
  intro t
  induction t with
  | zero =>
    intro a M ha h1 hT hF
    have : 0 ≤ M 65 43 ∧ M 65 43 ≤ 240 := hT 65 43
    omega
  | succ t ih =>
    intro a M ha h1 hT hF
    refine Wp_seg (cut := cutL [(64, [0, 1, 3]), (78, [0, 1])]) (CT := fun i as M' => i = 78 ∧ as = [vR 0 65, vI part] ∧ a + 1 ≤ M' 65 43 ∧ okTT M' ∧ FrM sp150s.2.2.2.1 M0 M') 1 40 [(4, 65), (1, 0)] (us (fun _ => 0) 0 part) [(16, 143, [(4, 65)]), (15, 0, [(1, 1), (0, 59), (0, 4)]), (4, 65, [(0, 43)]), (0, 0, [(1, 2), (0, 1)]), (10, 65, [(0, 43), (1, 3)]), (19, 0, [(0, 0)]), (16, 149, [(4, 65), (1, 0)]), (15, 5, [(1, 2), (0, 0), (0, 1)]), (17, 78, [(4, 65), (1, 0)]), (19, 0, [(1, 2)])] (by decide +kernel) rfl rfl (by decide) (fun i dl as M' hi _ h => ?_) ?_
    · obtain ⟨rfl, rfl, g1, g2, g3⟩ := h
      obtain rfl : [0, 1] = dl := Option.some.inj hi
      exact ih (a + 1) M' (by omega) g1 g2 g3
    · refine d_ca ⟨10, by decide, (here_a X a [vR 0 65] M ⟨rfl, trivial⟩ hT h1).mono fun v1 M1 q1 hro _ _ => ?_⟩
      obtain ⟨t1, f1, ⟨o, ho, h3, h4⟩, a1⟩ := q1
      have a1 : a ≤ M1 65 43 := a1
      have f1 : FrM sp150s.2.2.2.1 M0 M1 := FrM_sub hF (by decide) f1
      obtain ⟨x, hx⟩ := ret_some hro mR143
      have h3 := h3 x hx
      rw [rb143]
      refine d_br (fun h => d_ld fun _ => d_ib (d_st (d_r1 ?_))) fun h => d_ca ⟨40, by decide, (rule_r t1 a1 hp).mono fun v2 M2 q2 hro2 _ _ => ?_⟩
      · have h : oz v1 = 59 := h
        have b : 0 ≤ M1 65 43 ∧ M1 65 43 ≤ 239 := by
          rcases List.mem_cons.mp ho with rfl | ho
          · have h3 : -1 ≤ oz v1 ∧ oz v1 ≤ -1 := h3
            omega
          · obtain rfl := List.mem_singleton.mp ho
            exact h4 (65, 43, 0, 239) List.mem_cons_self
        have e : ib 0 (M1 65 43) 1 = M1 65 43 + 1 := ib0 (by unfold in32; omega)
        show Q150 M0 (some (vI 0)) (up M1 65 43 (ib 0 (M1 65 43) 1))
        rw [e]
        exact ⟨⟨okTT_up t1 (by show 0 ≤ M1 65 43 + 1 ∧ M1 65 43 + 1 ≤ 240; omega), FrM_up f1 (by decide), _, List.mem_cons_self, fun x hx => (by show (0 : Int) ≤ 0 ∧ (0 : Int) ≤ 4; omega), fun q hq => (by cases hq)⟩, trivial, trivial⟩
      · obtain ⟨t2, f2, -, h5⟩ := q2
        obtain ⟨y, hy⟩ := ret_some hro2 mR149
        obtain ⟨h6, h7, h8⟩ := h5 y hy
        have f2 : FrM sp150s.2.2.2.1 M0 M2 := FrM_sub f1 (by decide) f2
        rw [rb149]
        refine d_br (fun h => d_ct ⟨rfl, rfl, ?_, t2, f2⟩) fun h => d_r1 ?_
        · have h : oz v2 ≤ 0 := h
          exact h8 (by omega)
        · show Q150 M0 (some (vI (oz v2))) M2
          exact ⟨⟨t2, f2, _, List.mem_cons_self, fun x hx => (by show 0 ≤ oz v2 ∧ oz v2 ≤ 4; omega), fun q hq => (by cases hq)⟩, trivial, trivial⟩
theorem ok150s (X : Xs) : SpecOK X sp150s := by
  intro as M hp hT _
  refine (sp_soundR (sp := sp150s) (R := fun _ _ => True) H0_ok (sps_cons (ok145_0 X) (sps_cons (ok146_0 X) (sps_cons (ok148_0 X) sps_nil))) rfl os150 (fun c hc => ?_) hp hT trivial).mono fun v M' q => ⟨q.1.1, q.1.2.1, q.1.2.2, trivial⟩
  rcases List.mem_cons.mp hc with rfl | hc
  · exact Or.inl oc150
  · obtain rfl := List.mem_singleton.mp hc
    refine Or.inr ⟨by decide, fun as M1 g1 _ _ g4 g5 _ => ?_⟩
    obtain ⟨r, as, rfl, hr, g1⟩ := patsV_c g1
    obtain ⟨z, as, rfl, hz, g1⟩ := patsV_c g1
    obtain rfl := patsV_n g1
    obtain ⟨part, rfl, hp2⟩ := hz
    obtain rfl : r = vR 0 65 := hr
    have b : 0 ≤ M1 65 43 ∧ M1 65 43 ≤ 240 := g4 65 43
    exact part_78 hp2 241 0 M1 (by omega) b.1 g4 g5
theorem ok150_0 (X : Xs) : SpecOK X sp150_0 := fun as M hp hT h => ok150s X as M (by
  obtain ⟨r, as, rfl, hr, hp⟩ := patsV_c hp
  obtain ⟨z, as, rfl, hz, hp⟩ := patsV_c hp
  obtain rfl := patsV_n hp
  obtain ⟨y, rfl, hz⟩ := hz
  have hz : 0 ≤ y ∧ y ≤ 0 := hz
  exact ⟨hr, ⟨y, rfl, by show (0 : Int) ≤ y; omega, by show y ≤ (7 : Int); omega⟩, trivial⟩) hT h
theorem ok150_1 (X : Xs) : SpecOK X sp150_1 := fun as M hp hT h => ok150s X as M (by
  obtain ⟨r, as, rfl, hr, hp⟩ := patsV_c hp
  obtain ⟨z, as, rfl, hz, hp⟩ := patsV_c hp
  obtain rfl := patsV_n hp
  obtain ⟨y, rfl, hz⟩ := hz
  have hz : 1 ≤ y ∧ y ≤ 1 := hz
  exact ⟨hr, ⟨y, rfl, by show (0 : Int) ≤ y; omega, by show y ≤ (7 : Int); omega⟩, trivial⟩) hT h
theorem ok150_2 (X : Xs) : SpecOK X sp150_2 := fun as M hp hT h => ok150s X as M (by
  obtain ⟨r, as, rfl, hr, hp⟩ := patsV_c hp
  obtain ⟨z, as, rfl, hz, hp⟩ := patsV_c hp
  obtain rfl := patsV_n hp
  obtain ⟨y, rfl, hz⟩ := hz
  have hz : 2 ≤ y ∧ y ≤ 2 := hz
  exact ⟨hr, ⟨y, rfl, by show (0 : Int) ≤ y; omega, by show y ≤ (7 : Int); omega⟩, trivial⟩) hT h
theorem ok150_3 (X : Xs) : SpecOK X sp150_3 := fun as M hp hT h => ok150s X as M (by
  obtain ⟨r, as, rfl, hr, hp⟩ := patsV_c hp
  obtain ⟨z, as, rfl, hz, hp⟩ := patsV_c hp
  obtain rfl := patsV_n hp
  obtain ⟨y, rfl, hz⟩ := hz
  have hz : 3 ≤ y ∧ y ≤ 3 := hz
  exact ⟨hr, ⟨y, rfl, by show (0 : Int) ≤ y; omega, by show y ≤ (7 : Int); omega⟩, trivial⟩) hT h
theorem ok150_4 (X : Xs) : SpecOK X sp150_4 := fun as M hp hT h => ok150s X as M (by
  obtain ⟨r, as, rfl, hr, hp⟩ := patsV_c hp
  obtain ⟨z, as, rfl, hz, hp⟩ := patsV_c hp
  obtain rfl := patsV_n hp
  obtain ⟨y, rfl, hz⟩ := hz
  have hz : 4 ≤ y ∧ y ≤ 4 := hz
  exact ⟨hr, ⟨y, rfl, by show (0 : Int) ≤ y; omega, by show y ≤ (7 : Int); omega⟩, trivial⟩) hT h
theorem ok150_5 (X : Xs) : SpecOK X sp150_5 := fun as M hp hT h => ok150s X as M (by
  obtain ⟨r, as, rfl, hr, hp⟩ := patsV_c hp
  obtain ⟨z, as, rfl, hz, hp⟩ := patsV_c hp
  obtain rfl := patsV_n hp
  obtain ⟨y, rfl, hz⟩ := hz
  have hz : 5 ≤ y ∧ y ≤ 5 := hz
  exact ⟨hr, ⟨y, rfl, by show (0 : Int) ≤ y; omega, by show y ≤ (7 : Int); omega⟩, trivial⟩) hT h
theorem ok150_6 (X : Xs) : SpecOK X sp150_6 := fun as M hp hT h => ok150s X as M (by
  obtain ⟨r, as, rfl, hr, hp⟩ := patsV_c hp
  obtain ⟨z, as, rfl, hz, hp⟩ := patsV_c hp
  obtain rfl := patsV_n hp
  obtain ⟨y, rfl, hz⟩ := hz
  have hz : 6 ≤ y ∧ y ≤ 6 := hz
  exact ⟨hr, ⟨y, rfl, by show (0 : Int) ≤ y; omega, by show y ≤ (7 : Int); omega⟩, trivial⟩) hT h
theorem ok150_7 (X : Xs) : SpecOK X sp150_7 := fun as M hp hT h => ok150s X as M (by
  obtain ⟨r, as, rfl, hr, hp⟩ := patsV_c hp
  obtain ⟨z, as, rfl, hz, hp⟩ := patsV_c hp
  obtain rfl := patsV_n hp
  obtain ⟨y, rfl, hz⟩ := hz
  have hz : 7 ≤ y ∧ y ≤ 7 := hz
  exact ⟨hr, ⟨y, rfl, by show (0 : Int) ≤ y; omega, by show y ≤ (7 : Int); omega⟩, trivial⟩) hT h
end
section
/-! work of the model: behind it the CHARGE of each closing is decided -/
def W160 : Wl := sp160_0.2.2.2.1
def hWc (_ : Nat) (as : List AV) (cs : CS) : Bool := match as with
  | [a0, a1, a2] => decide (a0 = (4, 65)) && (decide (a1 = (1, 0)) && (isI a2 && (eqF (af cs a2) (2, 1) && (match kfind cs 86 (2, 0), kfind cs 87 (2, 0) with
    | some p, some c => decide (0 ≤ (ivf cs p).1) || (match kfind cs 94 c with
      | some s => decide (1 ≤ (ivf cs s).1)
      | none => false)
    | _, _ => false))))
  | _ => false
def hW : Hk := (fun cs j _ g => bif Nat.beq j 94 then decide (1 ≤ (ivf cs g).1) else true, hWc, fun j => !(Nat.beq j 94), fun _ _ => false)
def PW (Mi M : Mm) : Prop := ∀ c : Nat, Mi 94 c ≠ 0 → M 94 c ≠ 0
def EW (known : Int) (i : Nat) (_ : Nat) (as : List V) (M : Mm) : Prop := as = [vR 0 65, vI known, vI ((i + 1 : Nat) : Int)] ∧ (0 ≤ M 86 i ∨ M 94 (M 87 i).toNat ≠ 0)
theorem hW_ok (Mi : Mm) (known : Int) (i : Nat) : HkZ hW 2 (us (us (fun _ => 0) 0 known) 1 i) (PW Mi) (EW known i) (fun _ _ => False) := by
  refine ⟨fun cs σ M j f g _ h _ _ hg _ hs hP => ?_, fun cs σ M i' as hz h _ hw hs _ => ?_, fun M j1 j2 sp dp q _ hs hP => ?_, fun _ _ _ _ _ _ _ _ hs _ => absurd hs (by show ¬ (false = true); decide)⟩
  · intro c hc
    unfold up
    split
    next e =>
      obtain ⟨e1, -⟩ := e
      subst e1
      have hs : decide (1 ≤ (ivf cs g).1) = true := hs
      have := ivf_ok h hg
      have := of_decide_eq_true hs
      omega
    next => exact hP c hc
  · have hs : hWc i' as cs = true := hs
    have z0 : σ 0 = known := hz.2 0 (by decide)
    have z1 : σ 1 = (i : Int) := hz.2 1 (by decide)
    unfold hWc at hs
    split at hs
    next a0 a1 a2 _ =>
      simp only [Bool.and_eq_true, decide_eq_true_eq] at hs
      obtain ⟨e0, e1, e2, e3, hs⟩ := hs
      obtain ⟨-, n2⟩ := af_ok h (hw a2 (by simp))
      rw [eqF_ok e3] at n2
      have n2 : σ 1 + 1 = nm σ a2 := n2
      have ei : fv σ (2, 0) = (i : Int) := by show σ 1 + 0 = (i : Int); omega
      have key : ∀ (j : Nat) (u : Fm), kfind cs j (2, 0) = some u → u.1 ≤ cn cs ∧ M j i = fv σ u := fun j u hu => by
        have := kfind_ok h hu
        rw [ei, Int.toNat_natCast] at this
        exact this
      refine ⟨?_, ?_⟩
      · show [ev σ a0, ev σ a1, ev σ a2] = _
        rw [e0, e1, ev_I e2, ← n2, z1]
        show [vR 0 65, vI (σ 0), _] = _
        rw [z0]
        congr 1
      · split at hs
        next p c hp hc =>
          obtain ⟨p1, p2⟩ := key 86 p hp
          obtain ⟨c1, c2⟩ := key 87 c hc
          have ip := ivf_ok h p1
          rw [Bool.or_eq_true] at hs
          rcases hs with hs | hs
          · have := of_decide_eq_true hs
            left
            omega
          · right
            split at hs
            next s hk =>
              obtain ⟨s1, s2⟩ := kfind_ok h hk
              have is := ivf_ok h s1
              have := of_decide_eq_true hs
              rw [c2, s2]
              omega
            next => cases hs
        next => cases hs
    next => cases hs
  · intro c hc
    unfold cpM
    rw [if_neg]
    · exact hP c hc
    · rintro ⟨e, -, -⟩
      subst e
      cases hs
def lW : List Node := [(5, 87, [(1, 1)]), (11, 97, [(1, 1), (0, 0)]), (5, 86, [(1, 1)]), (15, 2, [(1, 5), (0, 0), (0, 23)]), (5, 94, [(1, 4)]), (15, 1, [(1, 6), (0, 0), (0, 2)]), (0, 0, [(1, 1), (0, 1)]), (17, 20, [(4, 65), (1, 0), (1, 7)]), (5, 85, [(1, 4)]), (15, 2, [(1, 7), (0, 0), (0, 5)]), (5, 88, [(1, 1)]), (11, 94, [(1, 4), (0, 2)]), (11, 95, [(1, 4), (1, 8)]), (0, 0, [(1, 1), (0, 1)]), (17, 20, [(4, 65), (1, 0), (1, 9)]), (5, 85, [(1, 4)]), (15, 4, [(1, 8), (1, 0), (0, 5)]), (5, 88, [(1, 1)]), (11, 94, [(1, 4), (0, 2)]), (11, 95, [(1, 4), (1, 9)]), (0, 0, [(1, 1), (0, 1)]), (17, 20, [(4, 65), (1, 0), (1, 10)]), (5, 88, [(1, 1)]), (11, 94, [(1, 4), (0, 3)]), (11, 95, [(1, 4), (1, 9)]), (0, 0, [(1, 1), (0, 1)]), (17, 20, [(4, 65), (1, 0), (1, 10)]), (5, 86, [(1, 1)]), (5, 88, [(1, 1)]), (16, 158, [(4, 65), (1, 6), (1, 4), (1, 7), (1, 0)]), (15, 5, [(1, 8), (0, 0), (0, 61)]), (5, 90, [(1, 1)]), (5, 83, [(1, 4)]), (16, 142, [(4, 65), (0, 1), (1, 9), (1, 10)]), (11, 97, [(1, 1), (1, 11)]), (5, 96, [(1, 4)]), (5, 97, [(1, 1)]), (0, 0, [(1, 12), (1, 13)]), (11, 96, [(1, 4), (1, 14)]), (5, 96, [(1, 4)]), (16, 155, [(4, 65), (1, 4), (0, 0)]), (15, 2, [(1, 15), (1, 16), (0, 27)]), (5, 94, [(1, 4)]), (15, 1, [(1, 17), (0, 0), (0, 2)]), (0, 0, [(1, 1), (0, 1)]), (17, 20, [(4, 65), (1, 0), (1, 18)]), (5, 89, [(1, 1)]), (15, 0, [(1, 18), (0, 0), (0, 2)]), (0, 0, [(1, 1), (0, 1)]), (17, 20, [(4, 65), (1, 0), (1, 19)]), (5, 85, [(1, 4)]), (15, 2, [(1, 19), (0, 0), (0, 5)]), (5, 88, [(1, 1)]), (11, 94, [(1, 4), (0, 2)]), (11, 95, [(1, 4), (1, 20)]), (0, 0, [(1, 1), (0, 1)]), (17, 20, [(4, 65), (1, 0), (1, 21)]), (5, 85, [(1, 4)]), (15, 4, [(1, 20), (1, 0), (0, 5)]), (5, 88, [(1, 1)]), (11, 94, [(1, 4), (0, 2)]), (11, 95, [(1, 4), (1, 21)]), (0, 0, [(1, 1), (0, 1)]), (17, 20, [(4, 65), (1, 0), (1, 22)]), (5, 88, [(1, 1)]), (11, 94, [(1, 4), (0, 3)]), (11, 95, [(1, 4), (1, 21)]), (0, 0, [(1, 1), (0, 1)]), (17, 20, [(4, 65), (1, 0), (1, 22)]), (5, 94, [(1, 4)]), (15, 1, [(1, 17), (0, 0), (0, 2)]), (0, 0, [(1, 1), (0, 1)]), (17, 20, [(4, 65), (1, 0), (1, 18)]), (5, 85, [(1, 4)]), (15, 2, [(1, 18), (0, 0), (0, 5)]), (5, 88, [(1, 1)]), (11, 94, [(1, 4), (0, 1)]), (11, 95, [(1, 4), (1, 19)]), (0, 0, [(1, 1), (0, 1)]), (17, 20, [(4, 65), (1, 0), (1, 20)]), (5, 85, [(1, 4)]), (15, 4, [(1, 19), (1, 0), (0, 5)]), (5, 88, [(1, 1)]), (11, 94, [(1, 4), (0, 1)]), (11, 95, [(1, 4), (1, 20)]), (0, 0, [(1, 1), (0, 1)]), (17, 20, [(4, 65), (1, 0), (1, 21)]), (5, 88, [(1, 1)]), (11, 94, [(1, 4), (0, 3)]), (11, 95, [(1, 4), (1, 20)]), (0, 0, [(1, 1), (0, 1)]), (17, 20, [(4, 65), (1, 0), (1, 21)]), (11, 97, [(1, 1), (0, 0)]), (5, 96, [(1, 4)]), (5, 97, [(1, 1)]), (0, 0, [(1, 9), (1, 10)]), (11, 96, [(1, 4), (1, 11)]), (5, 96, [(1, 4)]), (16, 155, [(4, 65), (1, 4), (0, 0)]), (15, 2, [(1, 12), (1, 13), (0, 27)]), (5, 94, [(1, 4)]), (15, 1, [(1, 14), (0, 0), (0, 2)]), (0, 0, [(1, 1), (0, 1)]), (17, 20, [(4, 65), (1, 0), (1, 15)]), (5, 89, [(1, 1)]), (15, 0, [(1, 15), (0, 0), (0, 2)]), (0, 0, [(1, 1), (0, 1)]), (17, 20, [(4, 65), (1, 0), (1, 16)]), (5, 85, [(1, 4)]), (15, 2, [(1, 16), (0, 0), (0, 5)]), (5, 88, [(1, 1)]), (11, 94, [(1, 4), (0, 2)]), (11, 95, [(1, 4), (1, 17)]), (0, 0, [(1, 1), (0, 1)]), (17, 20, [(4, 65), (1, 0), (1, 18)]), (5, 85, [(1, 4)]), (15, 4, [(1, 17), (1, 0), (0, 5)]), (5, 88, [(1, 1)]), (11, 94, [(1, 4), (0, 2)]), (11, 95, [(1, 4), (1, 18)]), (0, 0, [(1, 1), (0, 1)]), (17, 20, [(4, 65), (1, 0), (1, 19)]), (5, 88, [(1, 1)]), (11, 94, [(1, 4), (0, 3)]), (11, 95, [(1, 4), (1, 18)]), (0, 0, [(1, 1), (0, 1)]), (17, 20, [(4, 65), (1, 0), (1, 19)]), (5, 94, [(1, 4)]), (15, 1, [(1, 14), (0, 0), (0, 2)]), (0, 0, [(1, 1), (0, 1)]), (17, 20, [(4, 65), (1, 0), (1, 15)]), (5, 85, [(1, 4)]), (15, 2, [(1, 15), (0, 0), (0, 5)]), (5, 88, [(1, 1)]), (11, 94, [(1, 4), (0, 1)]), (11, 95, [(1, 4), (1, 16)]), (0, 0, [(1, 1), (0, 1)]), (17, 20, [(4, 65), (1, 0), (1, 17)]), (5, 85, [(1, 4)]), (15, 4, [(1, 16), (1, 0), (0, 5)]), (5, 88, [(1, 1)]), (11, 94, [(1, 4), (0, 1)]), (11, 95, [(1, 4), (1, 17)]), (0, 0, [(1, 1), (0, 1)]), (17, 20, [(4, 65), (1, 0), (1, 18)]), (5, 88, [(1, 1)]), (11, 94, [(1, 4), (0, 3)]), (11, 95, [(1, 4), (1, 17)]), (0, 0, [(1, 1), (0, 1)]), (17, 20, [(4, 65), (1, 0), (1, 18)])]
def csW : CS := newB (newB (newB (newB iniC 0 9000 1) 0 119 1) 0 120 1) 0 9000 1
def spsW : List Spec := [sp142_0, sp155_0, sp158_0]
def cuW : List Cut := [(20, [0, 1, 2], [(2, 65, 0), (0, -2147483648, 9000), (0, 0, 120)], [], [], [])]
theorem rest160 : chk hW spsW W160 [((0, 0), [])] 50 [] cuW none 396 lW csW = true := by decide +kernel
theorem wOf_no {W : Wl} {j : Nat} (h : W.all (fun q => !(Nat.beq q.1 j)) = true) (s : Nat) : wOf W j s = false := by
  cases e : wOf W j s with
  | false => rfl
  | true =>
    unfold wOf at e
    obtain ⟨q, hq, h2⟩ := List.any_eq_true.mp e
    have := List.all_eq_true.mp h q hq
    rw [Bool.and_eq_true] at h2
    rw [h2.1] at this
    cases this
theorem spsW_ok (X : Xs) (Mi : Mm) : ∀ sp ∈ spsW, SpecP X (PW Mi) sp := by
  have fr : ∀ {sp : Spec}, sp.2.2.2.1.all (fun q => !(Nat.beq q.1 94)) = true → SpecOK X sp → SpecP X (PW Mi) sp := fun h hs => hs.frame fun M M' hf hp c hc => by
    rw [hf 94 c (wOf_no h c)]
    exact hp c hc
  exact sA_c (fr (by decide) (ok142_0 X)) (sA_c (fr (by decide) (ok155_0 X)) (sA_c (fr (by decide) (ok158_0 X)) sA_n))
theorem work_it {X : Xs} {known : Int} {i : Nat} {M0 M : Mm} {Q : Option V → Mm → Prop} (hk : -2147483648 ≤ known ∧ known ≤ 9000) (hT : okTT M) (hF : FrM W160 M0 M) (ret : M 65 28 ≤ (i : Int) ∨ known < M 88 i → Q none M)
    (next : (i : Int) < M 65 28 → ∀ M', okTT M' → FrM W160 M0 M' → PW M M' → (0 ≤ M' 86 i ∨ M' 94 (M' 87 i).toNat ≠ 0) → Wp X 50 160 20 ([0, 1, 2].zip [vR 0 65, vI known, vI ((i + 1 : Nat) : Int)]) [] M' Q) : Wp X 50 160 20 ([0, 1, 2].zip [vR 0 65, vI known, vI (i : Int)]) [] M Q := by
  refine Wp_seg (cut := cutL [(2, [0, 1, 2]), (20, [0, 1, 2])]) (CT := fun i' as M' => i' = 20 ∧ as = [vR 0 65, vI known, vI ((i + 1 : Nat) : Int)] ∧ (i : Int) < M 65 28 ∧ okTT M' ∧ FrM W160 M0 M' ∧ PW M M' ∧ (0 ≤ M' 86 i ∨ M' 94 (M' 87 i).toNat ≠ 0)) 2 400 [(4, 65), (1, 0), (1, 1)] (us (us (fun _ => 0) 0 known) 1 i) ((4, 65, [(0, 28)]) :: (15, 3, [(1, 1), (1, 2), (0, 1)]) :: (18, 0, []) :: (5, 88, [(1, 1)]) :: (15, 4, [(1, 3), (1, 0), (0, 1)]) :: (18, 0, []) :: lW) (by decide +kernel) rfl rfl (by decide) (fun i' dl as M' hi _ h => ?_) ?_
  · obtain ⟨rfl, rfl, g0, g1, g2, g3, g4⟩ := h
    obtain rfl : [0, 1, 2] = dl := Option.some.inj hi
    exact next g0 M' g1 g2 g3 g4
  · have b1 : 0 ≤ M 65 28 ∧ M 65 28 ≤ 120 := hT 65 28
    refine d_ld fun _ => d_br (fun h => d_r0 (ret (Or.inl h))) fun h => d_la ?_ fun _ => d_br (fun h2 => d_r0 (ret (Or.inr h2))) fun h2 => ?_
    all_goals have h : ¬ M 65 28 ≤ (i : Int) := h
    · show 0 ≤ (i : Int) ∧ (i : Int) < ((120 : Nat) : Int)
      omega
    · have b2 : 0 ≤ M 88 i ∧ M 88 i ≤ 9000 := by
        have := hT 88 i
        rw [tiv_a (i := (0, 9000)) rfl] at this
        exact this
      have h2 : ¬ known < M 88 i := h2
      have hok : Ok csW (us (us (us (us (fun _ => 0) 0 known) 1 i) 2 (M 65 28)) 3 (M 88 i)) M := newB1 (cs := newB (newB (newB iniC 0 9000 1) 0 119 1) 0 120 1) (newB1 (cs := newB (newB iniC 0 9000 1) 0 119 1) (newB1 (cs := newB iniC 0 9000 1) (newB1 (cs := iniC) iniC_ok (by omega)) (by omega)) b1) b2
      refine den_mono (fun i' as M' h => ?_) (fun v M' h => h.2.2.elim) 396 lW _ _ _ (chk_soundz (hW_ok M known i) (spsW_ok X M) (M0 := M0) (T := none) 396 lW csW _ _ rest160 hok hT hF rfl (fun c hc => hc) ⟨by decide, fun j hj => ?_⟩)
      · obtain ⟨⟨c, hc, e, -, -, -, g4, g5, -⟩, g6, g7, g8⟩ := h
        obtain rfl := List.mem_singleton.mp hc
        exact ⟨e.symm, g7, by omega, g4, g5, g6, g8⟩
      · match j, hj with
        | 0, _ => rfl
        | 1, _ => rfl
/-- behind all deeds -/
def RW (v : Option V) (M : Mm) : Prop := v = none ∧ ∀ j : Nat, (j : Int) < M 65 28 → 0 ≤ M 86 j ∨ M 94 (M 87 j).toNat ≠ 0
theorem W160_no {M0 M : Mm} (h : FrM W160 M0 M) : M 65 28 = M0 65 28 ∧ (∀ j, M 86 j = M0 86 j) ∧ (∀ j, M 87 j = M0 87 j) ∧ ∀ j, M 88 j = M0 88 j := ⟨h 65 28 rfl, fun j => h 86 j (wOf_no rfl j), fun j => h 87 j (wOf_no rfl j), fun j => h 88 j (wOf_no rfl j)⟩
theorem work_20 {X : Xs} {known : Int} {M0 : Mm} (hk : -2147483648 ≤ known ∧ known ≤ 9000) (hJ : ∀ j : Nat, (j : Int) < M0 65 28 → M0 88 j ≤ known) : ∀ (t i : Nat) (M : Mm), i + t = 121 → okTT M → FrM W160 M0 M → (∀ j : Nat, j < i → 0 ≤ M 86 j ∨ M 94 (M 87 j).toNat ≠ 0) → Wp X 50 160 20 ([0, 1, 2].zip [vR 0 65, vI known, vI (i : Int)]) [] M (Qp W160 [((0, 0), [])] M0 (fun _ => True) RW) := by
  intro t
  have ret : ∀ (i : Nat) (M : Mm), okTT M → FrM W160 M0 M → (∀ j : Nat, j < i → 0 ≤ M 86 j ∨ M 94 (M 87 j).toNat ≠ 0) → (M 65 28 ≤ (i : Int) ∨ known < M 88 i) → Qp W160 [((0, 0), [])] M0 (fun _ => True) RW none M := by
    intro i M hT hF hd h
    obtain ⟨w1, w2, w3, w4⟩ := W160_no hF
    refine ⟨⟨hT, hF, _, List.mem_cons_self, fun x hx => (by cases hx), fun q hq => (by cases hq)⟩, trivial, rfl, fun j hj => hd j ?_⟩
    by_cases c : M 65 28 ≤ (i : Int)
    · omega
    · have h : known < M 88 i := by
        rcases h with h | h
        · exact absurd h c
        · exact h
      have := hJ i (by omega)
      rw [w4] at h
      omega
  induction t with
  | zero =>
    intro i M hi hT hF hd
    have b : 0 ≤ M 65 28 ∧ M 65 28 ≤ 120 := hT 65 28
    refine work_it hk hT hF (ret i M hT hF hd) fun h0 => by omega
  | succ t ih =>
    intro i M hi hT hF hd
    refine work_it hk hT hF (ret i M hT hF hd) fun _ M' h1 h2 h3 h4 => ih (i + 1) M' (by omega) h1 h2 fun j hj => ?_
    obtain ⟨a1, a2, a3, a4⟩ := W160_no hF
    obtain ⟨b1, b2, b3, b4⟩ := W160_no h2
    by_cases e : j = i
    · subst e
      exact h4
    · have := hd j (by omega)
      rw [a2, a3] at this
      rw [b2, b3]
      exact this.imp id (h3 _)
theorem work_2 {X : Xs} {known : Int} {M0 : Mm} (hk : -2147483648 ≤ known ∧ known ≤ 9000) (hJ : ∀ j : Nat, (j : Int) < M0 65 28 → M0 88 j ≤ known) : ∀ (t c : Nat) (M : Mm), c + t = 21 → okTT M → FrM W160 M0 M → Wp X 50 160 2 ([0, 1, 2].zip [vR 0 65, vI known, vI (c : Int)]) [] M (Qp W160 [((0, 0), [])] M0 (fun _ => True) RW) := by
  intro t
  induction t with
  | zero =>
    intro c M hc hT hF
    refine Wp_seg (cut := cutL [(2, [0, 1, 2]), (20, [0, 1, 2])]) (CT := fun i as M' => i = 20 ∧ as = [vR 0 65, vI known, vI 0] ∧ M' = M) 2 40 [(4, 65), (1, 0), (1, 1)] (us (us (fun _ => 0) 0 known) 1 c) [(4, 65, [(0, 21)]), (15, 3, [(1, 1), (1, 2), (0, 1)]), (17, 20, [(4, 65), (1, 0), (0, 0)]), (11, 94, [(1, 1), (0, 0)]), (11, 95, [(1, 1), (0, -1)]), (11, 96, [(1, 1), (0, 0)]), (0, 0, [(1, 1), (0, 1)]), (17, 2, [(4, 65), (1, 0), (1, 3)])] (by decide +kernel) rfl rfl (by decide) (fun i dl as M' hi _ h => ?_) ?_
    · obtain ⟨rfl, rfl, rfl⟩ := h
      obtain rfl : [0, 1, 2] = dl := Option.some.inj hi
      exact work_20 hk hJ 121 0 M' rfl hT hF (fun j hj => absurd hj (Nat.not_lt_zero j))
    · have b : 0 ≤ M 65 21 ∧ M 65 21 ≤ 20 := hT 65 21
      refine d_ld fun _ => d_br (fun h => d_ct ⟨rfl, rfl, rfl⟩) fun h => ?_
      have h : ¬ M 65 21 ≤ (c : Int) := h
      omega
  | succ t ih =>
    intro c M hc hT hF
    refine Wp_seg (cut := cutL [(2, [0, 1, 2]), (20, [0, 1, 2])]) (CT := fun i as M' => okTT M' ∧ FrM W160 M0 M' ∧ ((i = 20 ∧ as = [vR 0 65, vI known, vI 0]) ∨ (i = 2 ∧ as = [vR 0 65, vI known, vI ((c + 1 : Nat) : Int)]))) 2 40 [(4, 65), (1, 0), (1, 1)] (us (us (fun _ => 0) 0 known) 1 c) [(4, 65, [(0, 21)]), (15, 3, [(1, 1), (1, 2), (0, 1)]), (17, 20, [(4, 65), (1, 0), (0, 0)]), (11, 94, [(1, 1), (0, 0)]), (11, 95, [(1, 1), (0, -1)]), (11, 96, [(1, 1), (0, 0)]), (0, 0, [(1, 1), (0, 1)]), (17, 2, [(4, 65), (1, 0), (1, 3)])] (by decide +kernel) rfl rfl (by decide) (fun i dl as M' hi _ h => ?_) ?_
    · obtain ⟨g1, g2, ⟨rfl, rfl⟩ | ⟨rfl, rfl⟩⟩ := h
      · obtain rfl : [0, 1, 2] = dl := Option.some.inj hi
        exact work_20 hk hJ 121 0 M' rfl g1 g2 (fun j hj => absurd hj (Nat.not_lt_zero j))
      · obtain rfl : [0, 1, 2] = dl := Option.some.inj hi
        exact ih (c + 1) M' (by omega) g1 g2
    · have b : 0 ≤ M 65 21 ∧ M 65 21 ≤ 20 := hT 65 21
      refine d_ld fun _ => d_br (fun h => d_ct ⟨hT, hF, Or.inl ⟨rfl, rfl⟩⟩) fun h => d_sa ?_ (d_sa ?_ (d_sa ?_ (d_ib (d_ct ⟨?_, ?_, Or.inr ⟨rfl, ?_⟩⟩))))
      all_goals have h : ¬ M 65 21 ≤ (c : Int) := h
      · show 0 ≤ (c : Int) ∧ (c : Int) < ((20 : Nat) : Int)
        omega
      · show 0 ≤ (c : Int) ∧ (c : Int) < ((20 : Nat) : Int)
        omega
      · show 0 ≤ (c : Int) ∧ (c : Int) < ((20 : Nat) : Int)
        omega
      · refine okTT_up (okTT_up (okTT_up hT ?_) ?_) ?_
        · rw [tiv_a (i := (0, 3)) rfl]
          show (0 : Int) ≤ 0 ∧ (0 : Int) ≤ 3
          omega
        · rw [tiv_a (i := I32) rfl]
          show (-2147483648 : Int) ≤ -1 ∧ (-1 : Int) ≤ 2147483647
          omega
        · rw [tiv_a (i := I32) rfl]
          show (-2147483648 : Int) ≤ 0 ∧ (0 : Int) ≤ 2147483647
          omega
      · exact FrM_up (FrM_up (FrM_up hF (wOf_a (by decide))) (wOf_a (by decide))) (wOf_a (by decide))
      · have ec : ib 0 (c : Int) 1 = ((c + 1 : Nat) : Int) := by rw [ib0 (by unfold in32; omega)]; omega
        show [vR 0 65, vI known, vI (ib 0 (c : Int) 1)] = _
        rw [ec]
theorem work_m {X : Xs} {known : Int} {M : Mm} (hk : -2147483648 ≤ known ∧ known ≤ 9000) (hT : okTT M) (hJ : ∀ j : Nat, (j : Int) < M 65 28 → M 88 j ≤ known) : Wp X 50 160 0 (eL 0 [vR 0 65, vI known]) [] M (fun v M' => okTT M' ∧ FrM W160 M M' ∧ ∀ j : Nat, (j : Int) < M' 65 28 → 0 ≤ M' 86 j ∨ M' 94 (M' 87 j).toNat ≠ 0) := by
  refine (Wp_ent (cut := cutL [(2, [0, 1, 2]), (20, [0, 1, 2])]) (CT := fun i as M' => i = 2 ∧ as = [vR 0 65, vI known, vI 0] ∧ M' = M) (Q := Qp W160 [((0, 0), [])] M (fun _ => True) RW) 1 20 [(4, 65), (1, 0)] (us (fun _ => 0) 0 known) [(17, 2, [(4, 65), (1, 0), (0, 0)])] (by decide +kernel) rfl rfl (by decide) (fun i dl as M' hi _ h => ?_) (d_ct ⟨rfl, rfl, rfl⟩)).mono fun v M' q => ⟨q.1.1, q.1.2.1, q.2.2.2⟩
  obtain ⟨rfl, rfl, rfl⟩ := h
  obtain rfl : [0, 1, 2] = dl := Option.some.inj hi
  exact work_2 hk hJ 21 0 M' rfl hT (fun _ _ _ => rfl)
end
section
/-! what holds of the model's deeds: no day is ahead, closings are of different CHARGES, oaths are counted; so there is room -/
def nOa (M : Mm) : Nat → Int
  | 0 => 0
  | n + 1 => nOa M n + (if 0 ≤ M 86 n then 1 else 0)
def nCl (M : Mm) (c : Nat) : Nat → Int
  | 0 => 0
  | n + 1 => nCl M c n + (if M 86 n < 0 ∧ M 87 n = (c : Int) then 1 else 0)
def sumC (f : Nat → Int) : Nat → Int
  | 0 => 0
  | n + 1 => sumC f n + f n
theorem sumC_one {c : Nat} (g : Nat → Int) : ∀ n : Nat, sumC (fun k => g k + (if c = k then 1 else 0)) n = sumC g n + (if c < n then 1 else 0) := by
  intro n
  induction n with
  | zero => rfl
  | succ n ih =>
    show sumC _ n + (g n + (if c = n then 1 else 0)) = sumC g n + g n + (if c < n + 1 then 1 else 0)
    rw [ih]
    by_cases h1 : c < n
    · rw [if_pos h1, if_neg (by omega), if_pos (by omega)]
      omega
    · by_cases h2 : c = n
      · rw [if_neg h1, if_pos h2, if_pos (by omega)]
        omega
      · rw [if_neg h1, if_neg h2, if_neg (by omega)]
        omega
theorem sumC_congr {f g : Nat → Int} (h : ∀ k, f k = g k) : ∀ n, sumC f n = sumC g n := by
  intro n
  induction n with
  | zero => rfl
  | succ n ih => show sumC f n + f n = sumC g n + g n; rw [ih, h]
theorem sumC_le {f : Nat → Int} {n : Nat} (h : ∀ k, k < n → f k ≤ 1) : sumC f n ≤ n := by
  induction n with
  | zero => exact Int.le_refl _
  | succ n ih =>
    have a := ih (fun k hk => h k (by omega))
    have b := h n (by omega)
    show sumC f n + f n ≤ ((n + 1 : Nat) : Int)
    omega
theorem sumC_lt {f : Nat → Int} {n c : Nat} (h : ∀ k, k < n → f k ≤ 1) (hc : c < n) (h0 : f c = 0) : sumC f n + 1 ≤ n := by
  induction n with
  | zero => omega
  | succ n ih =>
    show sumC f n + f n + 1 ≤ ((n + 1 : Nat) : Int)
    by_cases e : c = n
    · subst e
      have := sumC_le (f := f) (n := c) (fun k hk => h k (by omega))
      omega
    · have a := ih (fun k hk => h k (by omega)) (by omega)
      have b := h n (by omega)
      omega
/-- every deed is an oath or a closing of one CHARGE -/
theorem deeds_sum {M : Mm} (hc : ∀ j : Nat, 0 ≤ M 87 j ∧ M 87 j ≤ 19) : ∀ n : Nat, (n : Int) = nOa M n + sumC (fun c => nCl M c n) 20 := by
  intro n
  induction n with
  | zero => rfl
  | succ n ih =>
    by_cases h : 0 ≤ M 86 n
    · have e : sumC (fun c => nCl M c (n + 1)) 20 = sumC (fun c => nCl M c n) 20 := sumC_congr (fun k => by
        show nCl M k n + (if M 86 n < 0 ∧ M 87 n = (k : Int) then 1 else 0) = nCl M k n
        rw [if_neg (by omega)]
        omega) 20
      show ((n + 1 : Nat) : Int) = nOa M n + (if 0 ≤ M 86 n then 1 else 0) + _
      rw [e, if_pos h]
      omega
    · obtain ⟨c1, c2⟩ := hc n
      have e : sumC (fun c => nCl M c (n + 1)) 20 = sumC (fun c => nCl M c n) 20 + 1 := by
        have e1 := sumC_one (c := (M 87 n).toNat) (fun c => nCl M c n) 20
        rw [if_pos (by omega)] at e1
        rw [← e1]
        refine sumC_congr (fun k => ?_) 20
        show nCl M k n + (if M 86 n < 0 ∧ M 87 n = (k : Int) then 1 else 0) = nCl M k n + (if (M 87 n).toNat = k then 1 else 0)
        congr 1
        by_cases q : (M 87 n).toNat = k
        · rw [if_pos q, if_pos ⟨by omega, by omega⟩]
        · rw [if_neg q, if_neg (by omega)]
      show ((n + 1 : Nat) : Int) = nOa M n + (if 0 ≤ M 86 n then 1 else 0) + _
      rw [e, if_neg h]
      omega
theorem nCl_none {M : Mm} {c : Nat} : ∀ {n : Nat}, (∀ j : Nat, j < n → M 86 j < 0 → M 87 j ≠ (c : Int)) → nCl M c n = 0 := by
  intro n
  induction n with
  | zero => intro _; rfl
  | succ n ih =>
    intro h
    show nCl M c n + (if M 86 n < 0 ∧ M 87 n = (c : Int) then 1 else 0) = 0
    rw [ih (fun j hj => h j (by omega)), if_neg (fun q => h n (by omega) q.1 q.2)]
    rfl
theorem nCl_one {M : Mm} {c : Nat} : ∀ {n : Nat}, (∀ i j : Nat, i < n → j < n → M 86 i < 0 → M 86 j < 0 → M 87 i = M 87 j → i = j) → nCl M c n ≤ 1 := by
  intro n
  induction n with
  | zero => intro _; show (0 : Int) ≤ 1; omega
  | succ n ih =>
    intro h
    show nCl M c n + (if M 86 n < 0 ∧ M 87 n = (c : Int) then 1 else 0) ≤ 1
    by_cases q : M 86 n < 0 ∧ M 87 n = (c : Int)
    · rw [if_pos q, nCl_none (fun j hj h1 h2 => by
        have := h j n (by omega) (by omega) h1 q.1 (by rw [h2, q.2])
        omega)]
      omega
    · rw [if_neg q]
      have := ih (fun i j hi hj => h i j (by omega) (by omega))
      omega
def JM (M : Mm) : Prop := (∀ j : Nat, (j : Int) < M 65 28 → M 88 j ≤ M 65 0) ∧ (∀ i j : Nat, (i : Int) < M 65 28 → (j : Int) < M 65 28 → M 86 i < 0 → M 86 j < 0 → M 87 i = M 87 j → i = j) ∧ nOa M (M 65 28).toNat = M 65 34 ∧ M 65 34 ≤ 100
theorem JM_c {M : Mm} (hT : okTT M) (j : Nat) : 0 ≤ M 87 j ∧ M 87 j ≤ 19 := by
  have := hT 87 j
  rw [tiv_a (i := (0, 19)) rfl] at this
  exact this
/-- room for an oath -/
theorem room_o {M : Mm} (hT : okTT M) (hJ : JM M) (ho : M 65 34 ≤ 99) : M 65 28 ≤ 119 := by
  obtain ⟨-, j2, j3, j4⟩ := hJ
  have b : 0 ≤ M 65 28 ∧ M 65 28 ≤ 120 := hT 65 28
  have s := deeds_sum (JM_c hT) (M 65 28).toNat
  have l := sumC_le (f := fun c => nCl M c (M 65 28).toNat) (n := 20) (fun k _ => nCl_one (fun i j hi hj => j2 i j (by omega) (by omega)))
  have l : sumC (fun c => nCl M c (M 65 28).toNat) 20 ≤ 20 := l
  omega
/-- room for a closing of a CHARGE that was not closed -/
theorem room_c {M : Mm} (hT : okTT M) (hJ : JM M) {c : Nat} (hc : c < 20) (hn : ∀ j : Nat, (j : Int) < M 65 28 → M 86 j < 0 → M 87 j ≠ (c : Int)) : M 65 28 ≤ 119 := by
  obtain ⟨-, j2, j3, j4⟩ := hJ
  have b : 0 ≤ M 65 28 ∧ M 65 28 ≤ 120 := hT 65 28
  have s := deeds_sum (JM_c hT) (M 65 28).toNat
  have l := sumC_lt (f := fun c => nCl M c (M 65 28).toNat) (n := 20) (c := c) (fun k _ => nCl_one (fun i j hi hj => j2 i j (by omega) (by omega))) hc (nCl_none (fun j hj => hn j (by omega)))
  have l : sumC (fun c => nCl M c (M 65 28).toNat) 20 + 1 ≤ 20 := l
  omega
end
section
/-! tell -/
def W165 : Wl := [(65, 29), (86, 0), (87, 0), (88, 0), (89, 0), (90, 0)]
def TE (M : Mm) (p c : Int) (M' : Mm) : Prop := okTT M' ∧ FrM W165 M M' ∧ M' 65 28 = M 65 28 + 1 ∧ (∀ j : Nat, M' 86 j = if (j : Int) = M 65 28 then p else M 86 j) ∧ (∀ j : Nat, M' 87 j = if (j : Int) = M 65 28 then c else M 87 j) ∧ ∀ j : Nat, M' 88 j = if (j : Int) = M 65 28 then M 65 0 else M 88 j
def te4 (M : Mm) (p c : Int) : Mm := up (up (up (up M 86 (M 65 28).toNat p) 87 (M 65 28).toNat c) 88 (M 65 28).toNat (M 65 0)) 89 (M 65 28).toNat 0
theorem te_fin {M M2 : Mm} {p c r : Int} (hT : okTT M) (hD : M 65 28 ≤ 119) (hp : -1 ≤ p ∧ p ≤ 29) (hc : 0 ≤ c ∧ c ≤ 19) (hr : 0 ≤ r ∧ r ≤ 3) (h2 : ∀ a b, M2 a b = te4 M p c a b) : TE M p c (up (up M2 90 (M 65 28).toNat r) 65 28 (M 65 28 + 1)) := by
  have e : M2 = te4 M p c := funext fun a => funext fun b => h2 a b
  subst e
  have b : 0 ≤ M 65 28 ∧ M 65 28 ≤ 120 := hT 65 28
  have n : 0 ≤ M 65 0 ∧ M 65 0 ≤ 9000 := hT 65 0
  refine ⟨okTT_up (okTT_up (okTT_up (okTT_up (okTT_up (okTT_up hT ?_) ?_) ?_) ?_) ?_) ?_, FrM_up (FrM_up (FrM_up (FrM_up (FrM_up (FrM_up (fun _ _ _ => rfl) (wOf_a rfl)) (wOf_a rfl)) (wOf_a rfl)) (wOf_a rfl)) (wOf_a rfl)) rfl, rfl, fun j => ?_, fun j => ?_, fun j => ?_⟩
  · rw [tiv_a (i := (-1, 29)) rfl]; exact hp
  · rw [tiv_a (i := (0, 19)) rfl]; exact hc
  · rw [tiv_a (i := (0, 9000)) rfl]; exact n
  · rw [tiv_a (i := (0, 1)) rfl]; decide
  · rw [tiv_a (i := (0, 3)) rfl]; exact hr
  · show 0 ≤ M 65 28 + 1 ∧ M 65 28 + 1 ≤ 120
    omega
  · show (if 86 = 86 ∧ j = (M 65 28).toNat then p else M 86 j) = _
    by_cases q : (j : Int) = M 65 28
    · rw [if_pos ⟨rfl, by omega⟩, if_pos q]
    · rw [if_neg (by omega), if_neg q]
  · show (if 87 = 87 ∧ j = (M 65 28).toNat then c else M 87 j) = _
    by_cases q : (j : Int) = M 65 28
    · rw [if_pos ⟨rfl, by omega⟩, if_pos q]
    · rw [if_neg (by omega), if_neg q]
  · show (if 88 = 88 ∧ j = (M 65 28).toNat then M 65 0 else M 88 j) = _
    by_cases q : (j : Int) = M 65 28
    · rw [if_pos ⟨rfl, by omega⟩, if_pos q]
    · rw [if_neg (by omega), if_neg q]
theorem te4_T {M : Mm} {p c : Int} (hT : okTT M) (hp : -1 ≤ p ∧ p ≤ 29) (hc : 0 ≤ c ∧ c ≤ 19) : okTT (te4 M p c) := by
  have n : 0 ≤ M 65 0 ∧ M 65 0 ≤ 9000 := hT 65 0
  refine okTT_up (okTT_up (okTT_up (okTT_up hT ?_) ?_) ?_) ?_
  · rw [tiv_a (i := (-1, 29)) rfl]; exact hp
  · rw [tiv_a (i := (0, 19)) rfl]; exact hc
  · rw [tiv_a (i := (0, 9000)) rfl]; exact n
  · rw [tiv_a (i := (0, 1)) rfl]; decide
theorem rb126 : rb 126 = 1 := by decide +kernel
theorem mR126 : mR 126 ≠ none := by decide +kernel
theorem tell_m {X : Xs} {M : Mm} {p c : Int} (hT : okTT M) (hD : M 65 28 ≤ 119) (hp : -1 ≤ p ∧ p ≤ 29) (hc : 0 ≤ c ∧ c ≤ 19) : Wp X 20 165 0 (eL 0 [vR 0 65, vI p, vI c]) [] M (fun v M' => v = none ∧ TE M p c M') := by
  have b : 0 ≤ M 65 28 ∧ M 65 28 ≤ 120 := hT 65 28
  have n : 0 ≤ M 65 0 ∧ M 65 0 ≤ 9000 := hT 65 0
  have e1 : ib 0 (M 65 28) 1 = M 65 28 + 1 := ib0 (by unfold in32; omega)
  refine Wp_den 2 60 [(4, 65), (1, 0), (1, 1)] (us (us (fun _ => 0) 0 p) 1 c) [(4, 65, [(0, 28)]), (11, 86, [(1, 2), (1, 0)]), (4, 65, [(0, 28)]), (11, 87, [(1, 3), (1, 1)]), (4, 65, [(0, 28)]), (4, 65, [(0, 0)]), (11, 88, [(1, 4), (1, 5)]), (4, 65, [(0, 28)]), (12, 0, [(0, 0)]), (11, 89, [(1, 6), (0, 0)]), (4, 65, [(0, 28)]), (15, 3, [(1, 0), (0, 0), (0, 7)]), (4, 65, [(0, 0)]), (16, 126, [(4, 65), (1, 0), (1, 8)]), (11, 90, [(1, 7), (1, 9)]), (4, 65, [(0, 28)]), (0, 0, [(1, 10), (0, 1)]), (10, 65, [(0, 28), (1, 11)]), (18, 0, []), (11, 90, [(1, 7), (0, 0)]), (4, 65, [(0, 28)]), (0, 0, [(1, 8), (0, 1)]), (10, 65, [(0, 28), (1, 9)]), (18, 0, [])] (by decide +kernel) rfl rfl (by decide) ?_
  have ix : 0 ≤ M 65 28 ∧ M 65 28 < ((120 : Nat) : Int) := by omega
  refine d_ld fun _ => d_sa ix (d_ld fun _ => d_sa ix (d_ld fun _ => d_ld fun _ => d_sa ix (d_ld fun _ => d_bo (Or.inl rfl) (d_sa ix (d_ld fun _ => d_br (fun h => d_ld fun _ => ?_) fun h => ?_)))))
  · have h : 0 ≤ p := h
    refine d_ca ⟨10, by decide, (ok126_0 X [vR 0 65, vI p, vI (M 65 0)] (te4 M p c) ⟨rfl, ⟨p, rfl, h, hp.2⟩, ⟨_, rfl, n.1, n.2⟩, trivial⟩ (te4_T hT hp hc) trivial).mono fun v M2 q hro _ _ => ?_⟩
    obtain ⟨q1, q2, ⟨o, ho, h3, -⟩, -⟩ := q
    obtain ⟨x, hx⟩ := ret_some hro mR126
    obtain rfl := List.mem_singleton.mp ho
    have h3 : 0 ≤ oz v ∧ oz v ≤ 3 := h3 x hx
    have q2 : FrM [] (te4 M p c) M2 := q2
    have e2 : ∀ a b, M2 a b = te4 M p c a b := fun a b => q2 a b rfl
    have e3 : M2 65 28 = M 65 28 := e2 65 28
    rw [rb126]
    refine d_sa ix (d_ld fun _ => d_ib (d_st (d_r0 ⟨rfl, ?_⟩)))
    show TE M p c (up (up M2 90 (M 65 28).toNat (oz v)) 65 28 (ib 0 (M2 65 28) 1))
    rw [e3, e1]
    exact te_fin hT hD hp hc h3 e2
  · refine d_sa ix (d_ld fun _ => d_ib (d_st (d_r0 ⟨rfl, ?_⟩)))
    show TE M p c (up (up (te4 M p c) 90 (M 65 28).toNat 0) 65 28 (ib 0 (M 65 28) 1))
    rw [e1]
    exact te_fin hT hD hp hc (by decide) (fun _ _ => rfl)
end
section
/-! close -/
theorem nOa_congr {M M' : Mm} : ∀ {n : Nat}, (∀ j : Nat, j < n → M' 86 j = M 86 j) → nOa M' n = nOa M n := by
  intro n
  induction n with
  | zero => intro _; rfl
  | succ n ih =>
    intro h
    show nOa M' n + (if 0 ≤ M' 86 n then 1 else 0) = nOa M n + (if 0 ≤ M 86 n then 1 else 0)
    rw [ih (fun j hj => h j (by omega)), h n (by omega)]
theorem JM_same {M M' : Mm} (hJ : JM M) (h1 : M' 65 28 = M 65 28) (h2 : ∀ j, M' 86 j = M 86 j) (h3 : ∀ j, M' 87 j = M 87 j) (h4 : ∀ j, M' 88 j = M 88 j) (h5 : M' 65 34 = M 65 34) (h6 : M 65 0 ≤ M' 65 0) : JM M' := by
  obtain ⟨j1, j2, j3, j4⟩ := hJ
  refine ⟨fun j hj => ?_, fun i j hi hj a b c => ?_, ?_, by omega⟩
  · rw [h4]
    have := j1 j (by omega)
    omega
  · rw [h1] at hi hj
    rw [h2] at a b
    rw [h3, h3] at c
    exact j2 i j hi hj a b c
  · rw [h1, h5, nOa_congr (M := M) (fun j _ => h2 j)]
    exact j3
theorem TE_J {M M' : Mm} {p c : Int} (hT : okTT M) (hJ : JM M) (h : TE M p c M') (hn : p < 0 → ∀ j : Nat, (j : Int) < M 65 28 → M 86 j < 0 → M 87 j ≠ c) : (∀ j : Nat, (j : Int) < M' 65 28 → M' 88 j ≤ M' 65 0) ∧ (∀ i j : Nat, (i : Int) < M' 65 28 → (j : Int) < M' 65 28 → M' 86 i < 0 → M' 86 j < 0 → M' 87 i = M' 87 j → i = j) ∧ nOa M' (M' 65 28).toNat = M 65 34 + (if 0 ≤ p then 1 else 0) ∧ M' 65 34 = M 65 34 ∧ M' 65 0 = M 65 0 := by
  obtain ⟨j1, j2, j3, j4⟩ := hJ
  obtain ⟨t1, t2, t3, t4, t5, t6⟩ := h
  have b : 0 ≤ M 65 28 ∧ M 65 28 ≤ 120 := hT 65 28
  have e0 : M' 65 0 = M 65 0 := t2 65 0 rfl
  have e34 : M' 65 34 = M 65 34 := t2 65 34 rfl
  refine ⟨fun j hj => ?_, fun i j hi hj h1 h2 h3 => ?_, ?_, e34, e0⟩
  · rw [t6, e0]
    by_cases q : (j : Int) = M 65 28
    · rw [if_pos q]
      omega
    · rw [if_neg q]
      exact j1 j (by omega)
  · rw [t4] at h1 h2
    rw [t5, t5] at h3
    by_cases qi : (i : Int) = M 65 28
    · by_cases qj : (j : Int) = M 65 28
      · omega
      · rw [if_pos qi] at h1 h3
        rw [if_neg qj] at h2 h3
        exact absurd h3.symm (hn h1 j (by omega) h2)
    · by_cases qj : (j : Int) = M 65 28
      · rw [if_neg qi] at h1 h3
        rw [if_pos qj] at h2 h3
        exact absurd h3 (hn h2 i (by omega) h1)
      · rw [if_neg qi] at h1 h3
        rw [if_neg qj] at h2 h3
        exact j2 i j (by omega) (by omega) h1 h2 h3
  · have eD : (M' 65 28).toNat = (M 65 28).toNat + 1 := by omega
    rw [eD]
    show nOa M' (M 65 28).toNat + (if 0 ≤ M' 86 (M 65 28).toNat then 1 else 0) = _
    have e86 : M' 86 (M 65 28).toNat = p := by rw [t4, if_pos (by omega)]
    rw [nOa_congr (M := M) (fun j hj => by rw [t4, if_neg (by omega)]), j3, e86]
theorem work_J {X : Xs} {M : Mm} (hT : okTT M) (hJ : JM M) : Wp X 50 160 0 (eL 0 [vR 0 65, vI (M 65 0)]) [] M (fun v M' => okTT M' ∧ FrM W160 M M' ∧ JM M' ∧ ∀ j : Nat, (j : Int) < M' 65 28 → 0 ≤ M' 86 j ∨ M' 94 (M' 87 j).toNat ≠ 0) := by
  have n : 0 ≤ M 65 0 ∧ M 65 0 ≤ 9000 := hT 65 0
  refine (work_m (by omega) hT hJ.1).mono fun v M' q => ?_
  obtain ⟨q1, q2, q3⟩ := q
  obtain ⟨w1, w2, w3, w4⟩ := W160_no q2
  exact ⟨q1, q2, JM_same hJ w1 w2 w3 w4 (q2 65 34 rfl) (by rw [q2 65 0 rfl]; exact Int.le_refl _), q3⟩
def W167 : Wl := W160 ++ W165
theorem W167_a {M0 M M' : Mm} (h0 : FrM W167 M0 M) (h : FrM W160 M M') : FrM W167 M0 M' := FrM_sub h0 (by decide) h
theorem W167_b {M0 M M' : Mm} (h0 : FrM W167 M0 M) (h : FrM W165 M M') : FrM W167 M0 M' := FrM_sub h0 (by decide) h
theorem rb160 : rb 160 = 0 := by decide +kernel
theorem rb165 : rb 165 = 0 := by decide +kernel
theorem close_m {X : Xs} {M : Mm} {c : Int} (hT : okTT M) (hJ : JM M) : Wp X 70 167 0 (eL 0 [vR 0 65, vI c]) [] M (fun _ M' => okTT M' ∧ JM M' ∧ FrM W167 M M') := by
  have F0 : FrM W167 M M := fun _ _ _ => rfl
  have b : 0 ≤ M 65 21 ∧ M 65 21 ≤ 20 := hT 65 21
  refine Wp_den 1 60 [(4, 65), (1, 0)] (us (fun _ => 0) 0 c) [(4, 65, [(0, 21)]), (0, 1, [(1, 1), (0, 1)]), (15, 2, [(3, 0), (2, 0), (0, 1)]), (19, 0, [(0, -100001)]), (15, 4, [(3, 0), (3, 2), (0, 1)]), (19, 0, [(0, -100001)]), (4, 65, [(0, 0)]), (16, 160, [(4, 65), (1, 3)]), (5, 94, [(1, 0)]), (15, 0, [(1, 4), (0, 0), (0, 3)]), (16, 165, [(4, 65), (0, -1), (1, 0)]), (16, 161, [(4, 65), (1, 0)]), (19, 0, [(1, 5)]), (19, 0, [(0, -100003)])] (by decide +kernel) rfl rfl (by decide) ?_
  refine d_ld fun _ => d_ib (d_br (fun h => d_r1 ⟨hT, hJ, F0⟩) fun h1 => d_br (fun h => d_r1 ⟨hT, hJ, F0⟩) fun h2 => d_ld fun _ => d_ca ⟨50, by decide, (work_J hT hJ).mono fun v1 M1 q _ _ _ => ?_⟩)
  obtain ⟨t1, f1, g1, d1⟩ := q
  have es : ib 1 (M 65 21) 1 = M 65 21 - 1 := by
    show (Int32.ofInt (M 65 21) - Int32.ofInt 1).toInt = _
    rw [← Int32.ofInt_sub]
    exact i32_to (by unfold in32; omega)
  have h1 : ¬ c < 0 := h1
  have h2 : ¬ ib 1 (M 65 21) 1 < c := h2
  rw [es] at h2
  rw [rb160]
  have F1 := W167_a F0 f1
  refine d_la ?_ fun _ => d_br (fun h3 => d_ca ⟨20, by decide, ?_⟩) fun h3 => d_r1 ⟨t1, g1, F1⟩
  · show 0 ≤ c ∧ c < ((20 : Nat) : Int)
    omega
  · have h3 : M1 94 c.toNat = 0 := h3
    have hn : ∀ j : Nat, (j : Int) < M1 65 28 → M1 86 j < 0 → M1 87 j ≠ c := fun j hj ha hb => by
      rcases d1 j hj with q | q
      · omega
      · rw [hb] at q
        exact q h3
    have hr := room_c t1 g1 (c := c.toNat) (by omega) (fun j hj ha hb => hn j hj ha (by omega))
    refine (tell_m (p := -1) (c := c) t1 hr (by decide) (by omega)).mono fun v2 M2 q _ _ _ => ?_
    obtain ⟨-, q⟩ := q
    obtain ⟨k1, k2, k3, k4, k5⟩ := TE_J t1 g1 q (fun _ => hn)
    have g2 : JM M2 := ⟨k1, k2, by rw [k3, k4, if_neg (by decide), Int.add_zero], by rw [k4]; exact g1.2.2.2⟩
    have F2 := W167_b F1 q.2.1
    rw [rb165]
    refine d_ca ⟨40, by decide, (ok161_0 X [vR 0 65, vI c] M2 ⟨rfl, ⟨c, rfl, by show (0 : Int) ≤ c; omega, by show c ≤ (19 : Int); omega⟩, trivial⟩ q.1 trivial).mono fun v3 M3 r _ _ _ => d_r1 ?_⟩
    obtain ⟨r1, r2, -, -⟩ := r
    have r2 : FrM [] M2 M3 := r2
    refine ⟨r1, JM_same g2 (r2 65 28 rfl) (fun j => r2 86 j rfl) (fun j => r2 87 j rfl) (fun j => r2 88 j rfl) (r2 65 34 rfl) (by rw [r2 65 0 rfl]; exact Int.le_refl _), FrM_sub F2 (by decide) r2⟩
end
section
/-! swear -/
def W166 : Wl := (65, 35) :: W167
theorem W166_a {M0 M M' : Mm} (h0 : FrM W166 M0 M) (h : FrM W160 M M') : FrM W166 M0 M' := FrM_sub h0 (by decide) h
theorem W166_b {M0 M M' : Mm} (h0 : FrM W166 M0 M) (h : FrM W165 M M') : FrM W166 M0 M' := FrM_sub h0 (by decide) h
theorem W166_c {M0 M M' : Mm} (h0 : FrM W166 M0 M) (h : FrM sp158_0.2.2.2.1 M M') : FrM W166 M0 M' := FrM_sub h0 (by decide) h
theorem W158_J {M M' : Mm} (hJ : JM M) (h : FrM sp158_0.2.2.2.1 M M') : JM M' := JM_same hJ (h 65 28 rfl) (fun j => h 86 j (wOf_no rfl j)) (fun j => h 87 j (wOf_no rfl j)) (fun j => h 88 j (wOf_no rfl j)) (h 65 34 rfl) (by rw [h 65 0 rfl]; exact Int.le_refl _)
theorem nil_eq {M M' : Mm} (h : FrM [] M M') : M' = M := funext fun a => funext fun b => h a b rfl
theorem is1 {x : Int} (h : 0 ≤ x ∧ x ≤ 200) : ib 1 x 1 = x - 1 := by
  show (Int32.ofInt x - Int32.ofInt 1).toInt = _
  rw [← Int32.ofInt_sub]
  exact i32_to (by unfold in32; omega)
theorem rb163 : rb 163 = 1 := by decide +kernel
theorem rb164 : rb 164 = 1 := by decide +kernel
theorem rb158 : rb 158 = 1 := by decide +kernel
/-- behind the oath -/
theorem swear_t {X : Xs} {M0 M : Mm} {p c : Int} {F : Nat} {σ : Nat → Int} (hT : okTT M) (hJ : JM M) (hF : FrM W166 M0 M) (hp : 0 ≤ p ∧ p ≤ 29) (hc : 0 ≤ c ∧ c ≤ 19) (ho : M 65 34 ≤ 99) (h0 : σ 0 = p) (h1 : σ 1 = c) : den X (CPd X 70) (fun _ _ _ => False) (fun _ M' => okTT M' ∧ JM M' ∧ FrM W166 M0 M') (F + 20) [(16, 165, [(4, 65), (1, 0), (1, 1)]), (4, 65, [(0, 34)]), (0, 0, [(1, 15), (0, 1)]), (10, 65, [(0, 34), (1, 16)]), (4, 65, [(0, 0)]), (16, 160, [(4, 65), (1, 17)]), (4, 65, [(0, 28)]), (0, 1, [(1, 18), (0, 1)]), (5, 94, [(1, 1)]), (15, 1, [(1, 20), (0, 1), (0, 4)]), (12, 0, [(0, 0)]), (11, 89, [(1, 19), (0, 0)]), (5, 96, [(1, 1)]), (19, 0, [(1, 21)]), (12, 0, [(0, 1)]), (11, 89, [(1, 19), (0, 1)]), (5, 96, [(1, 1)]), (19, 0, [(1, 21)])] 15 σ M := by
  subst h0 h1
  refine d_ca ⟨20, by decide, ?_⟩
  show Wp X 20 165 0 (eL 0 [vR 0 65, vI (σ 0), vI (σ 1)]) [] M _
  refine (tell_m (p := σ 0) (c := σ 1) hT (room_o hT hJ ho) (by omega) hc).mono fun v1 M1 q _ _ _ => ?_
  obtain ⟨rfl, q⟩ := q
  obtain ⟨k1, k2, k3, k4, k5⟩ := TE_J hT hJ q (fun h => by omega)
  rw [if_pos hp.1] at k3
  have F1 := W166_b hF q.2.1
  have no : 0 ≤ nOa M (M 65 28).toNat := by
    generalize (M 65 28).toNat = z
    induction z with
    | zero => exact Int.le_refl _
    | succ z ih => show 0 ≤ nOa M z + (if 0 ≤ M 86 z then 1 else 0); split <;> omega
  have o0 : 0 ≤ M 65 34 := by rw [← hJ.2.2.1]; exact no
  have b0 : 0 ≤ M 65 28 ∧ M 65 28 ≤ 120 := hT 65 28
  have b9 := room_o hT hJ ho
  have b1 : M1 65 28 = M 65 28 + 1 := q.2.2.1
  have e1 : ib 0 (M1 65 34) 1 = M1 65 34 + 1 := ib0 (by unfold in32; omega)
  have t2 : okTT (up M1 65 34 (M1 65 34 + 1)) := okTT_up q.1 (by show (-2147483648 : Int) ≤ M1 65 34 + 1 ∧ M1 65 34 + 1 ≤ 2147483647; omega)
  have J2 : JM (up M1 65 34 (M1 65 34 + 1)) := ⟨k1, k2, by
    show nOa (up M1 65 34 (M1 65 34 + 1)) (M1 65 28).toNat = M1 65 34 + 1
    have e2 : nOa (up M1 65 34 (M1 65 34 + 1)) (M1 65 28).toNat = nOa M1 (M1 65 28).toNat := nOa_congr (fun j _ => rfl)
    rw [e2, k3, k4], by
    show M1 65 34 + 1 ≤ 100
    omega⟩
  have F2 : FrM W166 M0 (up M1 65 34 (M1 65 34 + 1)) := FrM_up F1 (by decide)
  rw [rb165]
  refine d_ld fun _ => d_ib (d_st (d_ld fun _ => d_ca ⟨50, by decide, ?_⟩))
  show Wp X 50 160 0 (eL 0 [vR 0 65, vI (M1 65 0)]) [] (up M1 65 34 (ib 0 (M1 65 34) 1)) _
  rw [e1]
  refine (work_J t2 J2).mono fun v3 M3 r _ _ _ => ?_
  obtain ⟨r1, r2, r3, -⟩ := r
  have F3 := W166_a F2 r2
  have b3 : M3 65 28 = M1 65 28 := r2 65 28 rfl
  have e4 : ib 1 (M3 65 28) 1 = M3 65 28 - 1 := is1 (by omega)
  have ix : 0 ≤ ib 1 (M3 65 28) 1 ∧ ib 1 (M3 65 28) 1 < ((120 : Nat) : Int) := by omega
  have ic : 0 ≤ σ 1 ∧ σ 1 < ((20 : Nat) : Int) := by omega
  have fin : ∀ z : Int, 0 ≤ z ∧ z ≤ 1 → ∀ k : Nat, okTT (up M3 89 k z) ∧ JM (up M3 89 k z) ∧ FrM W166 M0 (up M3 89 k z) := fun z hz k => ⟨okTT_up r1 (by rw [tiv_a (i := (0, 1)) rfl]; exact hz), JM_same r3 rfl (fun _ => rfl) (fun _ => rfl) (fun _ => rfl) rfl (Int.le_refl _), FrM_up F3 (wOf_a (by decide))⟩
  rw [rb160]
  refine d_ld fun _ => d_ib (d_la ic fun _ => d_br (fun h => d_bo (Or.inl rfl) (d_sa ix (d_la ic fun _ => d_r1 (fin 0 (by decide) _)))) fun h => d_bo (Or.inr rfl) (d_sa ix (d_la ic fun _ => d_r1 (fin 1 (by decide) _))))
theorem swear_m {X : Xs} {M : Mm} {p c : Int} (hT : okTT M) (hJ : JM M) : Wp X 70 166 0 (eL 0 [vR 0 65, vI p, vI c]) [] M (fun _ M' => okTT M' ∧ JM M' ∧ FrM W166 M M') := by
  have F0 : FrM W166 M M := fun _ _ _ => rfl
  have bp : 0 ≤ M 65 1 ∧ M 65 1 ≤ 30 := hT 65 1
  have bc : 0 ≤ M 65 21 ∧ M 65 21 ≤ 20 := hT 65 21
  refine Wp_den 2 80 [(4, 65), (1, 0), (1, 1)] (us (us (fun _ => 0) 0 p) 1 c) [(4, 65, [(0, 1)]), (0, 1, [(1, 2), (0, 1)]), (15, 2, [(3, 0), (2, 0), (0, 1)]), (19, 0, [(0, -100001)]), (15, 4, [(3, 0), (3, 3), (0, 1)]), (19, 0, [(0, -100001)]), (4, 65, [(0, 21)]), (0, 1, [(1, 4), (0, 1)]), (15, 2, [(3, 1), (2, 0), (0, 1)]), (19, 0, [(0, -100001)]), (15, 4, [(3, 1), (3, 5), (0, 1)]), (19, 0, [(0, -100001)]), (4, 65, [(0, 0)]), (16, 160, [(4, 65), (1, 6)]), (5, 94, [(1, 1)]), (15, 1, [(1, 7), (0, 0), (0, 1)]), (19, 0, [(0, -100003)]), (16, 163, [(4, 65), (1, 0), (1, 1)]), (15, 1, [(1, 8), (0, 0), (0, 1)]), (19, 0, [(0, -100003)]), (16, 164, [(4, 65), (1, 0)]), (5, 71, [(1, 0)]), (15, 3, [(1, 9), (1, 10), (0, 1)]), (19, 0, [(0, -100003)]), (4, 65, [(0, 0)]), (4, 65, [(0, 0)]), (16, 158, [(4, 65), (1, 0), (1, 1), (1, 11), (1, 12)]), (15, 5, [(1, 13), (0, 0), (0, 21)]), (4, 65, [(0, 34)]), (15, 1, [(1, 14), (0, 100), (0, 18)]), (16, 165, [(4, 65), (1, 0), (1, 1)]), (4, 65, [(0, 34)]), (0, 0, [(1, 15), (0, 1)]), (10, 65, [(0, 34), (1, 16)]), (4, 65, [(0, 0)]), (16, 160, [(4, 65), (1, 17)]), (4, 65, [(0, 28)]), (0, 1, [(1, 18), (0, 1)]), (5, 94, [(1, 1)]), (15, 1, [(1, 20), (0, 1), (0, 4)]), (12, 0, [(0, 0)]), (11, 89, [(1, 19), (0, 0)]), (5, 96, [(1, 1)]), (19, 0, [(1, 21)]), (12, 0, [(0, 1)]), (11, 89, [(1, 19), (0, 1)]), (5, 96, [(1, 1)]), (19, 0, [(1, 21)]), (19, 0, [(0, -100004)]), (19, 0, [(0, -100003)])] (by decide +kernel) rfl rfl (by decide) ?_
  refine d_ld fun _ => d_ib (d_br (fun _ => d_r1 ⟨hT, hJ, F0⟩) fun h1 => d_br (fun _ => d_r1 ⟨hT, hJ, F0⟩) fun h2 => d_ld fun _ => d_ib (d_br (fun _ => d_r1 ⟨hT, hJ, F0⟩) fun h3 => d_br (fun _ => d_r1 ⟨hT, hJ, F0⟩) fun h4 => d_ld fun _ => d_ca ⟨50, by decide, (work_J hT hJ).mono fun v1 M1 q _ _ _ => ?_⟩))
  obtain ⟨t1, f1, g1, -⟩ := q
  have F1 := W166_a F0 f1
  have h1 : ¬ p < 0 := h1
  have h2 : ¬ ib 1 (M 65 1) 1 < p := h2
  have h3 : ¬ c < 0 := h3
  have h4 : ¬ ib 1 (M 65 21) 1 < c := h4
  rw [is1 (by omega)] at h2 h4
  have hp : 0 ≤ p ∧ p ≤ 29 := by omega
  have hc : 0 ≤ c ∧ c ≤ 19 := by omega
  have n1 : 0 ≤ M1 65 0 ∧ M1 65 0 ≤ 9000 := t1 65 0
  rw [rb160]
  refine d_la (by show 0 ≤ c ∧ c < ((20 : Nat) : Int); omega) fun _ => d_br (fun _ => d_r1 ⟨t1, g1, F1⟩) fun _ => d_ca ⟨10, by decide, (ok163_0 X [vR 0 65, vI p, vI c] M1 ⟨rfl, ⟨p, rfl, hp⟩, ⟨c, rfl, hc⟩, trivial⟩ t1 trivial).mono fun v2 M2 q2 _ _ _ => ?_⟩
  obtain ⟨-, f2, -⟩ := q2
  obtain rfl := nil_eq f2
  rw [rb163]
  refine d_br (fun _ => d_r1 ⟨t1, g1, F1⟩) fun _ => d_ca ⟨10, by decide, (ok164_0 X [vR 0 65, vI p] M2 ⟨rfl, ⟨p, rfl, hp⟩, trivial⟩ t1 trivial).mono fun v3 M3 q3 _ _ _ => ?_⟩
  obtain ⟨-, f3, -⟩ := q3
  obtain rfl := nil_eq f3
  rw [rb164]
  refine d_la (by show 0 ≤ p ∧ p < ((30 : Nat) : Int); omega) fun _ => d_br (fun _ => d_r1 ⟨t1, g1, F1⟩) fun _ => d_ld fun _ => d_ld fun _ => d_ca ⟨40, by decide, (ok158_0 X [vR 0 65, vI p, vI c, vI (M3 65 0), vI (M3 65 0)] M3 ⟨rfl, ⟨p, rfl, hp⟩, ⟨c, rfl, hc⟩, ⟨_, rfl, n1⟩, ⟨_, rfl, n1⟩, trivial⟩ t1 trivial).mono fun v4 M4 q4 _ _ _ => ?_⟩
  obtain ⟨t4, f4, -⟩ := q4
  have J4 := W158_J g1 f4
  have F4 := W166_c F1 f4
  rw [rb158]
  refine d_br (fun _ => d_ld fun _ => d_br (fun h => ?_) fun _ => d_r1 ⟨t4, J4, F4⟩) fun _ => d_r1 ⟨t4, J4, F4⟩
  have h : M4 65 34 ≠ 100 := h
  have := J4.2.2.2
  exact swear_t t4 J4 F4 hp hc (by omega) rfl rfl
end
section
/-! go, both sides -/
def goP (j s : Nat) (n : Int) (M : Mm) (v : Option V) (M' : Mm) : Prop := (n < 0 ∨ 1000 < n) ∧ v = some (vI (-100002)) ∧ M' = M ∨ (0 ≤ n ∧ n ≤ 1000) ∧ 9000 < M j s + n ∧ v = some (vI (-100003)) ∧ M' = M ∨ (0 ≤ n ∧ n ≤ 1000) ∧ M j s + n ≤ 9000 ∧ v = some (vI (M j s + n)) ∧ M' = up M j s (M j s + n)
theorem go_m {X : Xs} {n : Int} {M : Mm} (hT : okTT M) : Wp X 10 133 0 (eL 0 [vR 0 65, vI n]) [] M (goP 65 0 n M) := by
  have b : 0 ≤ M 65 0 ∧ M 65 0 ≤ 9000 := hT 65 0
  refine Wp_den 1 30 [(4, 65), (1, 0)] (us (fun _ => 0) 0 n) [(15, 2, [(3, 0), (2, 0), (0, 1)]), (19, 0, [(0, -100002)]), (15, 4, [(3, 0), (2, 1000), (0, 1)]), (19, 0, [(0, -100002)]), (4, 65, [(0, 0)]), (0, 0, [(1, 1), (1, 0)]), (15, 5, [(1, 2), (0, 9000), (0, 5)]), (4, 65, [(0, 0)]), (0, 0, [(1, 3), (1, 0)]), (10, 65, [(0, 0), (1, 4)]), (4, 65, [(0, 0)]), (19, 0, [(1, 5)]), (19, 0, [(0, -100003)])] (by decide +kernel) rfl rfl (by decide) ?_
  refine d_br (fun h => d_r1 (Or.inl ⟨Or.inl h, rfl, rfl⟩)) fun h1 => d_br (fun h => d_r1 (Or.inl ⟨Or.inr h, rfl, rfl⟩)) fun h2 => d_ld fun _ => d_ib (d_br (fun h => d_ld fun _ => d_ib (d_st (d_ld fun _ => d_r1 ?_))) fun h => d_r1 ?_)
  all_goals have h1 : ¬ n < 0 := h1
  all_goals have h2 : ¬ 1000 < n := h2
  all_goals have e : ib 0 (M 65 0) n = M 65 0 + n := ib0 (by unfold in32; omega)
  · have h : ib 0 (M 65 0) n ≤ 9000 := h
    refine Or.inr (Or.inr ⟨by omega, by omega, ?_, ?_⟩)
    · show some (vI (ib 0 (M 65 0) n)) = _
      rw [e]
    · show up M 65 0 (ib 0 (M 65 0) n) = _
      rw [e]
  · have h : ¬ ib 0 (M 65 0) n ≤ 9000 := h
    exact Or.inr (Or.inl ⟨by omega, by omega, rfl, rfl⟩)
theorem go_x {X : Xs} {n : Int} {M : Mm} (hT : okTT M) : Wp X 10 87 0 (eL 0 [vR 0 0, vI n]) [] M (goP 0 10 n M) := by
  have b : 0 ≤ M 0 10 ∧ M 0 10 ≤ 9000 := hT 0 10
  refine Wp_den 1 30 [(4, 0), (1, 0)] (us (fun _ => 0) 0 n) [(15, 2, [(1, 0), (0, 0), (0, 1)]), (19, 0, [(0, -100002)]), (15, 4, [(1, 0), (0, 1000), (0, 1)]), (19, 0, [(0, -100002)]), (4, 0, [(0, 10)]), (0, 0, [(1, 1), (1, 0)]), (15, 5, [(1, 2), (0, 9000), (0, 5)]), (4, 0, [(0, 10)]), (0, 0, [(1, 3), (1, 0)]), (10, 0, [(0, 10), (1, 4)]), (4, 0, [(0, 10)]), (19, 0, [(1, 5)]), (19, 0, [(0, -100003)])] (by decide +kernel) rfl rfl (by decide) ?_
  refine d_br (fun h => d_r1 (Or.inl ⟨Or.inl h, rfl, rfl⟩)) fun h1 => d_br (fun h => d_r1 (Or.inl ⟨Or.inr h, rfl, rfl⟩)) fun h2 => d_ld fun _ => d_ib (d_br (fun h => d_ld fun _ => d_ib (d_st (d_ld fun _ => d_r1 ?_))) fun h => d_r1 ?_)
  all_goals have h1 : ¬ n < 0 := h1
  all_goals have h2 : ¬ 1000 < n := h2
  all_goals have e : ib 0 (M 0 10) n = M 0 10 + n := ib0 (by unfold in32; omega)
  · have h : ib 0 (M 0 10) n ≤ 9000 := h
    refine Or.inr (Or.inr ⟨by omega, by omega, ?_, ?_⟩)
    · show some (vI (ib 0 (M 0 10) n)) = _
      rw [e]
    · show up M 0 10 (ib 0 (M 0 10) n) = _
      rw [e]
  · have h : ¬ ib 0 (M 0 10) n ≤ 9000 := h
    exact Or.inr (Or.inl ⟨by omega, by omega, rfl, rfl⟩)
theorem go_J {X : Xs} {n : Int} {M : Mm} (hT : okTT M) (hJ : JM M) : Wp X 10 133 0 (eL 0 [vR 0 65, vI n]) [] M (fun _ M' => okTT M' ∧ FrM [(65, 1)] M M' ∧ JM M') := by
  have b : 0 ≤ M 65 0 ∧ M 65 0 ≤ 9000 := hT 65 0
  refine (go_m hT).mono fun v M' q => ?_
  rcases q with ⟨-, -, rfl⟩ | ⟨-, -, -, rfl⟩ | ⟨h1, h2, -, rfl⟩
  · exact ⟨hT, fun _ _ _ => rfl, hJ⟩
  · exact ⟨hT, fun _ _ _ => rfl, hJ⟩
  · exact ⟨okTT_up hT (by show 0 ≤ M 65 0 + n ∧ M 65 0 + n ≤ 9000; omega), FrM_up (fun _ _ _ => rfl) rfl, JM_same hJ rfl (fun _ => rfl) (fun _ => rfl) (fun _ => rfl) rfl (by show M 65 0 ≤ M 65 0 + n; omega)⟩
end
section
/-! the methods whose steps the checker goes through -/
def sp151_0 : Spec := (151, [(2, 65, 0)], [((-100003, 8), [])], [(65, 15), (65, 16), (65, 17), (65, 44), (65, 45), (65, 46), (65, 47), (65, 48), (76, 0), (77, 0), (78, 0), (79, 0)], 70)
def cu151_0 : List Cut := [(15, [0, 1], [(2, 65, 0), (0, 0, 0)], [], [(0, 0, 3), (0, 0, 10)], []),
  (15, [0, 1], [(2, 65, 0), (0, 1, 1)], [], [(0, 0, 3), (0, 0, 9)], []),
  (15, [0, 1], [(2, 65, 0), (0, 2, 2)], [], [(0, 0, 3), (0, 0, 8)], []),
  (15, [0, 1], [(2, 65, 0), (0, 3, 3)], [], [(0, 0, 3), (0, 0, 7)], []),
  (15, [0, 1], [(2, 65, 0), (0, 4, 4)], [], [(0, 0, 3), (0, 0, 6)], []),
  (15, [0, 1], [(2, 65, 0), (0, 5, 5)], [], [(0, 0, 3), (0, 0, 5)], []),
  (15, [0, 1], [(2, 65, 0), (0, 6, 6)], [], [(0, 0, 3), (0, 0, 4)], []),
  (15, [0, 1], [(2, 65, 0), (0, 7, 7)], [], [(0, 0, 3), (0, 0, 3)], []),
  (15, [0, 1], [(2, 65, 0), (0, 8, 8)], [], [(0, 0, 3), (0, 0, 2)], []),
  (39, [0, 3], [(2, 65, 0), (0, 0, 8)], [], [(0, 0, 2), (-1, 1, 160)], []),
  (55, [0, 3], [(2, 65, 0), (0, 0, 160)], [], [(0, 0, 1), (-1, 1, 160)], [])]
theorem os151_0 : okStart H0 [sp143_0, sp150_0, sp150_1, sp150_2, sp150_3, sp150_4, sp150_5, sp150_6, sp150_7, sp150_8] inlF [] [] cu151_0 4000 sp151_0 = true := by decide +kernel
theorem oc151_0 : cu151_0.all (okCut H0 [sp143_0, sp150_0, sp150_1, sp150_2, sp150_3, sp150_4, sp150_5, sp150_6, sp150_7, sp150_8] inlF [] cu151_0 4000 sp151_0) = true := by decide +kernel
theorem ok151_0 (X : Xs) : SpecOK X sp151_0 := sp_sound (sps_cons (ok143_0 X) (sps_cons (ok150_0 X) (sps_cons (ok150_1 X) (sps_cons (ok150_2 X) (sps_cons (ok150_3 X) (sps_cons (ok150_4 X) (sps_cons (ok150_5 X) (sps_cons (ok150_6 X) (sps_cons (ok150_7 X) (sps_cons (ok150_8 X) sps_nil)))))))))) rfl os151_0 (List.all_eq_true.mp oc151_0)
def sp184_0 : Spec := (184, [(2, 65, 0), (0, -2147483648, 2147483647), (0, -2147483648, 2147483647)], [((-2147483648, 2147483647), [])], [(65, 41), (65, 42), (65, 43), (65, 54), (65, 63), (65, 64), (65, 65), (65, 66), (92, 0), (93, 0), (94, 0), (95, 0), (96, 0), (97, 0), (99, 0), (100, 0), (101, 0), (102, 0), (103, 0), (104, 0), (105, 0), (106, 0)], 100)
def cu184_0 : List Cut := []
theorem os184_0 : okStart H0 [sp183_0] inlF [] [] cu184_0 4000 sp184_0 = true := by decide +kernel
theorem oc184_0 : cu184_0.all (okCut H0 [sp183_0] inlF [] cu184_0 4000 sp184_0) = true := by decide +kernel
theorem ok184_0 (X : Xs) : SpecOK X sp184_0 := sp_sound (sps_cons (ok183_0 X) sps_nil) rfl os184_0 (List.all_eq_true.mp oc184_0)
def sp185_0 : Spec := (185, [(2, 65, 0), (0, -2147483648, 2147483647), (0, -2147483648, 2147483647)], [((-2147483648, 2147483647), [])], [(65, 41), (65, 42), (65, 43), (65, 54), (65, 63), (65, 64), (65, 65), (65, 66), (92, 0), (93, 0), (94, 0), (95, 0), (96, 0), (97, 0), (99, 0), (100, 0), (101, 0), (102, 0), (103, 0), (104, 0), (105, 0), (106, 0)], 100)
def cu185_0 : List Cut := [(39, [0, 2, 4, 5], [(2, 65, 0), (0, 0, 19), (0, -2147483648, 2147483647), (0, 0, 5)], [], [(0, 0, 1), (-1, 3, 5), (0, 0, 1000), (0, 0, 0)], []),
  (45, [0, 2, 4, 5, 6], [(2, 65, 0), (0, 0, 19), (0, -2147483648, 2147483647), (0, 0, 4), (0, 0, 10)], [], [(0, 0, 1), (-1, 3, 5), (0, 0, 0), (-1, 4, 10)], [])]
theorem os185_0 : okStart H0 [sp177_0, sp183_0] inlF [] [] cu185_0 4000 sp185_0 = true := by decide +kernel
theorem oc185_0 : cu185_0.all (okCut H0 [sp177_0, sp183_0] inlF [] cu185_0 4000 sp185_0) = true := by decide +kernel
theorem ok185_0 (X : Xs) : SpecOK X sp185_0 := sp_sound (sps_cons (ok177_0 X) (sps_cons (ok183_0 X) sps_nil)) rfl os185_0 (List.all_eq_true.mp oc185_0)
end
section
/-! pairs of methods, exactly -/
section EXA
variable {X : Xs} {CP : Nat → List V → Mm → (Option V → Mm → Prop) → Prop} {CT : Nat → List V → Mm → Prop} {Q : Option V → Mm → Prop} {F n : Nat} {r : List Node} {σ : Nat → Int} {M : Mm}
theorem d_ibw {b : Nat} {x y : AV} {w : Int} (e : ib b (nm σ x) (nm σ y) = w) (h : den X CP CT Q F r (n + 1) (us σ n w) M) : den X CP CT Q (F + 1) ((0, b, [x, y]) :: r) n σ M := d_ib (by rw [e]; exact h)
theorem d_ibg {b : Nat} {x y : AV} (h : ∀ w : Int, in32 w → den X CP CT Q F r (n + 1) (us σ n w) M) : den X CP CT Q (F + 1) ((0, b, [x, y]) :: r) n σ M := d_ib (h _ (ib_in _ _ _))
theorem d_sbx {b : Nat} {x y : AV} (h : ∀ w : Int, in64 w → den X CP CT Q F r (n + 1) (us σ n w) M) : den X CP CT Q (F + 1) ((2, b, [x, y]) :: r) n σ M := d_sb (h _ (sb_in _ _ _))
theorem d_l255 {x : AV} (h : ∀ w : Int, 0 ≤ w ∧ w ≤ 255 → den X CP CT Q F r (n + 1) (us σ n w) M) : den X CP CT Q (F + 1) ((1, 3, [x, (2, 255)]) :: r) n σ M := d_lb (h _ (and64 (y := 255) (by unfold in64; omega) (by omega)))
theorem d_log {x : AV} {w : Int} (e : nm σ x = w) (h0 : 0 ≤ w ∧ w ≤ 255) (h : den X CP CT Q F r (n + 1) (us σ n w) M) : den X CP CT Q (F + 1) ((3, 0, [x]) :: r) n σ M := d_lo (by
  rw [e, lo_in (by unfold in32; omega)]
  exact h)
end EXA
theorem ib1 {x y : Int} (h : in32 (x - y)) : ib 1 x y = x - y := by
  show (Int32.ofInt x - Int32.ofInt y).toInt = x - y
  rw [← Int32.ofInt_sub]
  exact i32_to h
theorem okTT_ua {M : Mm} {j s : Nat} {z : Int} {i : Iv} (h : okTT M) (hi : TT[j]? = some (1, [i])) (hz : i.1 ≤ z ∧ z ≤ i.2) : okTT (up M j s z) := okTT_up h (by rw [tiv_a hi]; exact hz)
theorem frm0 {W : Wl} {M : Mm} : FrM W M M := fun _ _ _ => rfl
def qA (S d e : Int) : Prop := (d ≠ -1 ∧ (d < 0 ∨ S ≤ d)) ∨ (e ≠ -1 ∧ (e < 0 ∨ S ≤ e))
def qB (N a b c d e f : Int) : Prop := a < -9000 ∨ N < a ∨ b < 0 ∨ 7 < b ∨ c < 0 ∨ 3 < c ∨ f < 1 ∨ 4 < f ∨ (d = e ∧ d ≠ -1)
def qper (S N a b c d e f : Int) (v : Option V) (same suc : Prop) : Prop := (qA S d e ∧ v = some (vI (-100001)) ∧ same) ∨ (¬ qA S d e ∧ qB N a b c d e f ∧ v = some (vI (-100002)) ∧ same) ∨ (¬ qA S d e ∧ ¬ qB N a b c d e f ∧ 30 ≤ S ∧ v = some (vI (-100004)) ∧ same) ∨ (¬ qA S d e ∧ ¬ qB N a b c d e f ∧ S < 30 ∧ v = some (vI S) ∧ suc)
theorem qper_eq {S N a b c d e f : Int} {v w : Option V} {p1 s1 p2 s2 : Prop} (h : qper S N a b c d e f v p1 s1) (g : qper S N a b c d e f w p2 s2) : v = w ∧ ((p1 ∧ p2) ∨ (s1 ∧ s2)) := by
  unfold qper at h g
  rcases h with ⟨a1, rfl, a3⟩ | ⟨a1, a2, rfl, a3⟩ | ⟨a1, a2, a4, rfl, a3⟩ | ⟨a1, a2, a4, rfl, a3⟩
  all_goals rcases g with ⟨b1, rfl, b3⟩ | ⟨b1, b2, rfl, b3⟩ | ⟨b1, b2, b4, rfl, b3⟩ | ⟨b1, b2, b4, rfl, b3⟩
  all_goals first | exact ⟨rfl, Or.inl ⟨a3, b3⟩⟩ | exact ⟨rfl, Or.inr ⟨a3, b3⟩⟩ | exact absurd a1 b1 | exact absurd b1 a1 | exact absurd a2 b2 | exact absurd b2 a2 | exact absurd a4 (by omega)
set_option maxHeartbeats 4000000 in
theorem px82_c {X : Xs} {M : Mm} {a b c d e f : Int} (hT : okTT M) (hA : ¬ qA (M 1 10) d e) (hB : ¬ qB (M 0 10) a b c d e f) : Wp X 30 82 41 ([0, 1, 2, 3, 4, 5, 6].zip [vR 0 0, vI a, vI b, vI c, vI d, vI e, vI f]) [] M (fun v M' => okTT M' ∧ FrM sp82_0.2.2.2.1 M M' ∧ qper (M 1 10) (M 0 10) a b c d e f v (M' = M) (M' 1 10 = M 1 10 + 1 ∧ (∀ i : Nat, M' 2 i = if i = (M 1 10).toNat then a else M 2 i) ∧ (∀ i : Nat, M' 3 i = if i = (M 1 10).toNat then b else M 3 i) ∧ (∀ i : Nat, M' 4 i = if i = (M 1 10).toNat then c else M 4 i) ∧ (∀ i : Nat, M' 5 i = if i = (M 1 10).toNat then d else M 5 i) ∧ (∀ i : Nat, M' 6 i = if i = (M 1 10).toNat then e else M 6 i) ∧ (∀ i : Nat, M' 7 i = if i = (M 1 10).toNat then f else M 7 i) ∧ (∀ i : Nat, M' 8 i = if i = (M 1 10).toNat then (-1) else M 8 i))) := by
  have bS : 0 ≤ M 1 10 ∧ M 1 10 ≤ 30 := hT 1 10
  have bN : 0 ≤ M 0 10 ∧ M 0 10 ≤ 9000 := hT 0 10
  unfold qper
  have hA1 := hA
  unfold qA at hA1
  have hB1 := hB
  unfold qB at hB1
  refine Wp_seg (cut := cutL [(12, [0, 1, 2, 3, 4, 5, 6]), (41, [0, 1, 2, 3, 4, 5, 6])]) (CT := (fun _ _ _ => False)) 6 23 [(4, 0), (1, 0), (1, 1), (1, 2), (1, 3), (1, 4), (1, 5)] (us (us (us (us (us (us (fun _ => 0) 0 a) 1 b) 2 c) 3 d) 4 e) 5 f) [(4, 1, [(0, 10)]), (15, 2, [(1, 6), (0, 30), (0, 15)]), (4, 1, [(0, 10)]), (15, 2, [(1, 7), (0, 30), (0, 11)]), (11, 2, [(1, 7), (1, 0)]), (11, 3, [(1, 7), (1, 1)]), (11, 4, [(1, 7), (1, 2)]), (11, 5, [(1, 7), (1, 3)]), (11, 6, [(1, 7), (1, 4)]), (11, 7, [(1, 7), (1, 5)]), (11, 8, [(1, 7), (0, -1)]), (0, 0, [(1, 7), (0, 1)]), (10, 1, [(0, 10), (1, 8)]), (16, 47, [(4, 17), (1, 7), (1, 3), (1, 4)]), (19, 0, [(1, 7)]), (16, 47, [(4, 17), (0, -1), (1, 3), (1, 4)]), (19, 0, [(0, -1)]), (19, 0, [(0, -100004)])] (by decide +kernel) rfl rfl (by decide) (fun _ _ _ _ _ _ h => h.elim) ?_
  exact d_ld fun _ => d_br (fun (h1 : (M 1 10) < 30) => d_ld fun _ => d_br (fun _ => d_sa (show 0 ≤ (M 1 10) ∧ (M 1 10) < ((30 : Nat) : Int) by omega) (d_sa (show 0 ≤ (M 1 10) ∧ (M 1 10) < ((30 : Nat) : Int) by omega) (d_sa (show 0 ≤ (M 1 10) ∧ (M 1 10) < ((30 : Nat) : Int) by omega) (d_sa (show 0 ≤ (M 1 10) ∧ (M 1 10) < ((30 : Nat) : Int) by omega) (d_sa (show 0 ≤ (M 1 10) ∧ (M 1 10) < ((30 : Nat) : Int) by omega) (d_sa (show 0 ≤ (M 1 10) ∧ (M 1 10) < ((30 : Nat) : Int) by omega) (d_sa (show 0 ≤ (M 1 10) ∧ (M 1 10) < ((30 : Nat) : Int) by omega) (d_ibw (w := (M 1 10) + 1) (ib0 (x := (M 1 10)) (y := 1) (by unfold in32; omega)) (d_st (d_ca ⟨_, by decide, (ok47_0 X [vR 0 17, vI ((M 1 10)), vI d, vI e] (up (up (up (up (up (up (up (up M 2 ((M 1 10)).toNat (a)) 3 ((M 1 10)).toNat (b)) 4 ((M 1 10)).toNat (c)) 5 ((M 1 10)).toNat (d)) 6 ((M 1 10)).toNat (e)) 7 ((M 1 10)).toNat (f)) 8 ((M 1 10)).toNat ((-1))) 1 10 (((M 1 10) + 1))) ⟨rfl, ⟨_, rfl, (show (0 : Int) ≤ (M 1 10) ∧ (M 1 10) ≤ 29 by omega)⟩, ⟨_, rfl, (show (-1 : Int) ≤ d ∧ d ≤ 29 by omega)⟩, ⟨_, rfl, (show (-1 : Int) ≤ e ∧ e ≤ 29 by omega)⟩, trivial⟩ (okTT_up (okTT_ua (i := (-1, 9000)) (okTT_ua (i := (0, 4)) (okTT_ua (i := (-1, 29)) (okTT_ua (i := (-1, 29)) (okTT_ua (i := (0, 3)) (okTT_ua (i := (0, 7)) (okTT_ua (i := (-9000, 9000)) hT rfl (show (-9000 : Int) ≤ a ∧ a ≤ (9000 : Int) by omega)) rfl (show (0 : Int) ≤ b ∧ b ≤ (7 : Int) by omega)) rfl (show (0 : Int) ≤ c ∧ c ≤ (3 : Int) by omega)) rfl (show (-1 : Int) ≤ d ∧ d ≤ (29 : Int) by omega)) rfl (show (-1 : Int) ≤ e ∧ e ≤ (29 : Int) by omega)) rfl (show (0 : Int) ≤ f ∧ f ≤ (4 : Int) by omega)) rfl (show (-1 : Int) ≤ (-1) ∧ (-1) ≤ (9000 : Int) by omega)) (show (0 : Int) ≤ ((M 1 10) + 1) ∧ ((M 1 10) + 1) ≤ (30 : Int) by omega)) trivial).mono fun v3 M3 q3 _ _ _ => d_r1 (⟨q3.1, FrM_sub (FrM_up (FrM_up (FrM_up (FrM_up (FrM_up (FrM_up (FrM_up (FrM_up frm0 (wOf_a (by decide))) (wOf_a (by decide))) (wOf_a (by decide))) (wOf_a (by decide))) (wOf_a (by decide))) (wOf_a (by decide))) (wOf_a (by decide))) (by decide)) (by decide) q3.2.1, Or.inr (Or.inr (Or.inr ⟨hA, hB, by omega, rfl, q3.2.1 1 10 rfl, fun i => (q3.2.1 2 i (wOf_no rfl i)).trans (show up M 2 (M 1 10).toNat a 2 i = _ from up_eq), fun i => (q3.2.1 3 i (wOf_no rfl i)).trans (show up M 3 (M 1 10).toNat b 3 i = _ from up_eq), fun i => (q3.2.1 4 i (wOf_no rfl i)).trans (show up M 4 (M 1 10).toNat c 4 i = _ from up_eq), fun i => (q3.2.1 5 i (wOf_no rfl i)).trans (show up M 5 (M 1 10).toNat d 5 i = _ from up_eq), fun i => (q3.2.1 6 i (wOf_no rfl i)).trans (show up M 6 (M 1 10).toNat e 6 i = _ from up_eq), fun i => (q3.2.1 7 i (wOf_no rfl i)).trans (show up M 7 (M 1 10).toNat f 7 i = _ from up_eq), fun i => (q3.2.1 8 i (wOf_no rfl i)).trans (show up M 8 (M 1 10).toNat (-1) 8 i = _ from up_eq)⟩))⟩)⟩)))))))))) (fun hh => absurd h1 hh)) (fun (h1 : ¬ ((M 1 10) < 30)) => d_r1 (⟨hT, frm0, Or.inr (Or.inr (Or.inl ⟨hA, hB, by omega, rfl, rfl⟩))⟩))
set_option maxHeartbeats 4000000 in
theorem px82_b {X : Xs} {M : Mm} {a b c d e f : Int} (hT : okTT M) (hA : ¬ qA (M 1 10) d e) : Wp X 30 82 12 ([0, 1, 2, 3, 4, 5, 6].zip [vR 0 0, vI a, vI b, vI c, vI d, vI e, vI f]) [] M (fun v M' => okTT M' ∧ FrM sp82_0.2.2.2.1 M M' ∧ qper (M 1 10) (M 0 10) a b c d e f v (M' = M) (M' 1 10 = M 1 10 + 1 ∧ (∀ i : Nat, M' 2 i = if i = (M 1 10).toNat then a else M 2 i) ∧ (∀ i : Nat, M' 3 i = if i = (M 1 10).toNat then b else M 3 i) ∧ (∀ i : Nat, M' 4 i = if i = (M 1 10).toNat then c else M 4 i) ∧ (∀ i : Nat, M' 5 i = if i = (M 1 10).toNat then d else M 5 i) ∧ (∀ i : Nat, M' 6 i = if i = (M 1 10).toNat then e else M 6 i) ∧ (∀ i : Nat, M' 7 i = if i = (M 1 10).toNat then f else M 7 i) ∧ (∀ i : Nat, M' 8 i = if i = (M 1 10).toNat then (-1) else M 8 i))) := by
  have bS : 0 ≤ M 1 10 ∧ M 1 10 ≤ 30 := hT 1 10
  have bN : 0 ≤ M 0 10 ∧ M 0 10 ≤ 9000 := hT 0 10
  unfold qper
  have hA1 := hA
  unfold qA at hA1
  refine Wp_seg (cut := cutL [(12, [0, 1, 2, 3, 4, 5, 6]), (41, [0, 1, 2, 3, 4, 5, 6])]) (CT := (fun i' as M' => i' = 41 ∧ as = [vR 0 0, vI a, vI b, vI c, vI d, vI e, vI f] ∧ M' = M ∧ ¬ qB (M 0 10) a b c d e f)) 6 27 [(4, 0), (1, 0), (1, 1), (1, 2), (1, 3), (1, 4), (1, 5)] (us (us (us (us (us (us (fun _ => 0) 0 a) 1 b) 2 c) 3 d) 4 e) 5 f) [(4, 0, [(0, 10)]), (15, 2, [(1, 0), (0, -9000), (0, 1)]), (19, 0, [(0, -100002)]), (15, 4, [(1, 0), (1, 6), (0, 1)]), (19, 0, [(0, -100002)]), (15, 2, [(1, 1), (0, 0), (0, 1)]), (19, 0, [(0, -100002)]), (15, 4, [(1, 1), (0, 7), (0, 1)]), (19, 0, [(0, -100002)]), (15, 2, [(1, 2), (0, 0), (0, 1)]), (19, 0, [(0, -100002)]), (15, 4, [(1, 2), (0, 3), (0, 1)]), (19, 0, [(0, -100002)]), (15, 2, [(1, 5), (0, 1), (0, 1)]), (19, 0, [(0, -100002)]), (15, 4, [(1, 5), (0, 4), (0, 1)]), (19, 0, [(0, -100002)]), (15, 1, [(1, 3), (1, 4), (0, 1)]), (17, 41, [(4, 0), (1, 0), (1, 1), (1, 2), (1, 3), (1, 4), (1, 5)]), (15, 0, [(1, 3), (0, -1), (0, 1)]), (17, 41, [(4, 0), (1, 0), (1, 1), (1, 2), (1, 3), (1, 4), (1, 5)]), (19, 0, [(0, -100002)])] (by decide +kernel) rfl rfl (by decide) (fun i' dl as M' hi _ h => by
    obtain ⟨rfl, rfl, rfl, hB⟩ := h
    obtain rfl : [0, 1, 2, 3, 4, 5, 6] = dl := Option.some.inj hi
    exact px82_c hT hA hB) ?_
  unfold qB
  exact d_ld fun _ => d_br (fun (h1 : a < (-9000)) => d_r1 (⟨hT, frm0, Or.inr (Or.inl ⟨hA, by omega, rfl, rfl⟩)⟩)) (fun (h1 : ¬ (a < (-9000))) => d_br (fun (h2 : (M 0 10) < a) => d_r1 (⟨hT, frm0, Or.inr (Or.inl ⟨hA, by omega, rfl, rfl⟩)⟩)) (fun (h2 : ¬ ((M 0 10) < a)) => d_br (fun (h3 : b < 0) => d_r1 (⟨hT, frm0, Or.inr (Or.inl ⟨hA, by omega, rfl, rfl⟩)⟩)) (fun (h3 : ¬ (b < 0)) => d_br (fun (h4 : 7 < b) => d_r1 (⟨hT, frm0, Or.inr (Or.inl ⟨hA, by omega, rfl, rfl⟩)⟩)) (fun (h4 : ¬ (7 < b)) => d_br (fun (h5 : c < 0) => d_r1 (⟨hT, frm0, Or.inr (Or.inl ⟨hA, by omega, rfl, rfl⟩)⟩)) (fun (h5 : ¬ (c < 0)) => d_br (fun (h6 : 3 < c) => d_r1 (⟨hT, frm0, Or.inr (Or.inl ⟨hA, by omega, rfl, rfl⟩)⟩)) (fun (h6 : ¬ (3 < c)) => d_br (fun (h7 : f < 1) => d_r1 (⟨hT, frm0, Or.inr (Or.inl ⟨hA, by omega, rfl, rfl⟩)⟩)) (fun (h7 : ¬ (f < 1)) => d_br (fun (h8 : 4 < f) => d_r1 (⟨hT, frm0, Or.inr (Or.inl ⟨hA, by omega, rfl, rfl⟩)⟩)) (fun (h8 : ¬ (4 < f)) => d_br (fun (h9 : d ≠ e) => d_ct (⟨rfl, rfl, rfl, by omega⟩)) (fun (h9 : ¬ (d ≠ e)) => d_br (fun (h10 : d = (-1)) => d_ct (⟨rfl, rfl, rfl, by omega⟩)) (fun (h10 : ¬ (d = (-1))) => d_r1 (⟨hT, frm0, Or.inr (Or.inl ⟨hA, by omega, rfl, rfl⟩)⟩)))))))))))
set_option maxHeartbeats 4000000 in
theorem px82 {X : Xs} {M : Mm} {a b c d e f : Int} (hT : okTT M) : Wp X 30 82 0 (eL 0 [vR 0 0, vI a, vI b, vI c, vI d, vI e, vI f]) [] M (fun v M' => okTT M' ∧ FrM sp82_0.2.2.2.1 M M' ∧ qper (M 1 10) (M 0 10) a b c d e f v (M' = M) (M' 1 10 = M 1 10 + 1 ∧ (∀ i : Nat, M' 2 i = if i = (M 1 10).toNat then a else M 2 i) ∧ (∀ i : Nat, M' 3 i = if i = (M 1 10).toNat then b else M 3 i) ∧ (∀ i : Nat, M' 4 i = if i = (M 1 10).toNat then c else M 4 i) ∧ (∀ i : Nat, M' 5 i = if i = (M 1 10).toNat then d else M 5 i) ∧ (∀ i : Nat, M' 6 i = if i = (M 1 10).toNat then e else M 6 i) ∧ (∀ i : Nat, M' 7 i = if i = (M 1 10).toNat then f else M 7 i) ∧ (∀ i : Nat, M' 8 i = if i = (M 1 10).toNat then (-1) else M 8 i))) := by
  have bS : 0 ≤ M 1 10 ∧ M 1 10 ≤ 30 := hT 1 10
  have bN : 0 ≤ M 0 10 ∧ M 0 10 ≤ 9000 := hT 0 10
  unfold qper
  refine Wp_ent (cut := cutL [(12, [0, 1, 2, 3, 4, 5, 6]), (41, [0, 1, 2, 3, 4, 5, 6])]) (CT := (fun i' as M' => i' = 12 ∧ as = [vR 0 0, vI a, vI b, vI c, vI d, vI e, vI f] ∧ M' = M ∧ ¬ qA (M 1 10) d e)) 6 27 [(4, 0), (1, 0), (1, 1), (1, 2), (1, 3), (1, 4), (1, 5)] (us (us (us (us (us (us (fun _ => 0) 0 a) 1 b) 2 c) 3 d) 4 e) 5 f) [(15, 0, [(1, 3), (0, -1), (0, 8)]), (15, 0, [(1, 4), (0, -1), (0, 1)]), (17, 12, [(4, 0), (1, 0), (1, 1), (1, 2), (1, 3), (1, 4), (1, 5)]), (15, 2, [(1, 4), (0, 0), (0, 1)]), (19, 0, [(0, -100001)]), (4, 1, [(0, 10)]), (15, 3, [(1, 4), (1, 6), (0, 1)]), (19, 0, [(0, -100001)]), (17, 12, [(4, 0), (1, 0), (1, 1), (1, 2), (1, 3), (1, 4), (1, 5)]), (15, 2, [(1, 3), (0, 0), (0, 1)]), (19, 0, [(0, -100001)]), (4, 1, [(0, 10)]), (15, 3, [(1, 3), (1, 6), (0, 1)]), (19, 0, [(0, -100001)]), (15, 0, [(1, 4), (0, -1), (0, 1)]), (17, 12, [(4, 0), (1, 0), (1, 1), (1, 2), (1, 3), (1, 4), (1, 5)]), (15, 2, [(1, 4), (0, 0), (0, 1)]), (19, 0, [(0, -100001)]), (4, 1, [(0, 10)]), (15, 3, [(1, 4), (1, 7), (0, 1)]), (19, 0, [(0, -100001)]), (17, 12, [(4, 0), (1, 0), (1, 1), (1, 2), (1, 3), (1, 4), (1, 5)])] (by decide +kernel) rfl rfl (by decide) (fun i' dl as M' hi _ h => by
    obtain ⟨rfl, rfl, rfl, hA⟩ := h
    obtain rfl : [0, 1, 2, 3, 4, 5, 6] = dl := Option.some.inj hi
    exact px82_b hT hA) ?_
  unfold qA
  exact d_br (fun (h1 : d = (-1)) => d_br (fun (h2 : e = (-1)) => d_ct (⟨rfl, rfl, rfl, by omega⟩)) (fun (h2 : ¬ (e = (-1))) => d_br (fun (h3 : e < 0) => d_r1 (⟨hT, frm0, Or.inl ⟨by omega, rfl, rfl⟩⟩)) (fun (h3 : ¬ (e < 0)) => d_ld fun _ => d_br (fun (h4 : (M 1 10) ≤ e) => d_r1 (⟨hT, frm0, Or.inl ⟨by omega, rfl, rfl⟩⟩)) (fun (h4 : ¬ ((M 1 10) ≤ e)) => d_ct (⟨rfl, rfl, rfl, by omega⟩))))) (fun (h1 : ¬ (d = (-1))) => d_br (fun (h5 : d < 0) => d_r1 (⟨hT, frm0, Or.inl ⟨by omega, rfl, rfl⟩⟩)) (fun (h5 : ¬ (d < 0)) => d_ld fun _ => d_br (fun (h6 : (M 1 10) ≤ d) => d_r1 (⟨hT, frm0, Or.inl ⟨by omega, rfl, rfl⟩⟩)) (fun (h6 : ¬ ((M 1 10) ≤ d)) => d_br (fun (h7 : e = (-1)) => d_ct (⟨rfl, rfl, rfl, by omega⟩)) (fun (h7 : ¬ (e = (-1))) => d_br (fun (h8 : e < 0) => d_r1 (⟨hT, frm0, Or.inl ⟨by omega, rfl, rfl⟩⟩)) (fun (h8 : ¬ (e < 0)) => d_ld fun _ => d_br (fun (h9 : (M 1 10) ≤ e) => d_r1 (⟨hT, frm0, Or.inl ⟨by omega, rfl, rfl⟩⟩)) (fun (h9 : ¬ ((M 1 10) ≤ e)) => d_ct (⟨rfl, rfl, rfl, by omega⟩)))))))
set_option maxHeartbeats 4000000 in
theorem px125_c {X : Xs} {M : Mm} {a b c d e f : Int} (hT : okTT M) (hA : ¬ qA (M 65 1) d e) (hB : ¬ qB (M 65 0) a b c d e f) : Wp X 30 125 49 ([0, 1, 2, 3, 4, 5, 6].zip [vR 0 65, vI a, vI b, vI c, vI d, vI e, vI f]) [] M (fun v M' => okTT M' ∧ FrM sp125_0.2.2.2.1 M M' ∧ qper (M 65 1) (M 65 0) a b c d e f v (M' = M) (M' 65 1 = M 65 1 + 1 ∧ (∀ i : Nat, M' 66 i = if i = (M 65 1).toNat then a else M 66 i) ∧ (∀ i : Nat, M' 67 i = if i = (M 65 1).toNat then b else M 67 i) ∧ (∀ i : Nat, M' 68 i = if i = (M 65 1).toNat then c else M 68 i) ∧ (∀ i : Nat, M' 69 i = if i = (M 65 1).toNat then d else M 69 i) ∧ (∀ i : Nat, M' 70 i = if i = (M 65 1).toNat then e else M 70 i) ∧ (∀ i : Nat, M' 71 i = if i = (M 65 1).toNat then f else M 71 i) ∧ (∀ i : Nat, M' 72 i = if i = (M 65 1).toNat then (-1) else M 72 i))) := by
  have bS : 0 ≤ M 65 1 ∧ M 65 1 ≤ 30 := hT 65 1
  have bN : 0 ≤ M 65 0 ∧ M 65 0 ≤ 9000 := hT 65 0
  unfold qper
  have hA1 := hA
  unfold qA at hA1
  have hB1 := hB
  unfold qB at hB1
  refine Wp_seg (cut := cutL [(16, [0, 1, 2, 3, 4, 5, 6]), (49, [0, 1, 2, 3, 4, 5, 6])]) (CT := (fun _ _ _ => False)) 6 20 [(4, 65), (1, 0), (1, 1), (1, 2), (1, 3), (1, 4), (1, 5)] (us (us (us (us (us (us (fun _ => 0) 0 a) 1 b) 2 c) 3 d) 4 e) 5 f) [(4, 65, [(0, 1)]), (15, 1, [(1, 6), (0, 30), (0, 12)]), (4, 65, [(0, 1)]), (11, 66, [(1, 7), (1, 0)]), (11, 67, [(1, 7), (1, 1)]), (11, 68, [(1, 7), (1, 2)]), (11, 69, [(1, 7), (1, 3)]), (11, 70, [(1, 7), (1, 4)]), (11, 71, [(1, 7), (1, 5)]), (11, 72, [(1, 7), (0, -1)]), (4, 65, [(0, 1)]), (0, 0, [(1, 8), (0, 1)]), (10, 65, [(0, 1), (1, 9)]), (19, 0, [(1, 7)]), (19, 0, [(0, -100004)])] (by decide +kernel) rfl rfl (by decide) (fun _ _ _ _ _ _ h => h.elim) ?_
  exact d_ld fun _ => d_br (fun (h1 : (M 65 1) ≠ 30) => d_ld fun _ => d_sa (show 0 ≤ (M 65 1) ∧ (M 65 1) < ((30 : Nat) : Int) by omega) (d_sa (show 0 ≤ (M 65 1) ∧ (M 65 1) < ((30 : Nat) : Int) by omega) (d_sa (show 0 ≤ (M 65 1) ∧ (M 65 1) < ((30 : Nat) : Int) by omega) (d_sa (show 0 ≤ (M 65 1) ∧ (M 65 1) < ((30 : Nat) : Int) by omega) (d_sa (show 0 ≤ (M 65 1) ∧ (M 65 1) < ((30 : Nat) : Int) by omega) (d_sa (show 0 ≤ (M 65 1) ∧ (M 65 1) < ((30 : Nat) : Int) by omega) (d_sa (show 0 ≤ (M 65 1) ∧ (M 65 1) < ((30 : Nat) : Int) by omega) (d_ld fun _ => d_ibw (w := (M 65 1) + 1) (ib0 (x := (M 65 1)) (y := 1) (by unfold in32; omega)) (d_st (d_r1 (⟨(okTT_up (okTT_ua (i := (-2147483648, 2147483647)) (okTT_ua (i := (-2147483648, 2147483647)) (okTT_ua (i := (-1, 29)) (okTT_ua (i := (-1, 29)) (okTT_ua (i := (0, 3)) (okTT_ua (i := (0, 7)) (okTT_ua (i := (-2147483648, 2147483647)) hT rfl (show (-2147483648 : Int) ≤ a ∧ a ≤ (2147483647 : Int) by omega)) rfl (show (0 : Int) ≤ b ∧ b ≤ (7 : Int) by omega)) rfl (show (0 : Int) ≤ c ∧ c ≤ (3 : Int) by omega)) rfl (show (-1 : Int) ≤ d ∧ d ≤ (29 : Int) by omega)) rfl (show (-1 : Int) ≤ e ∧ e ≤ (29 : Int) by omega)) rfl (show (-2147483648 : Int) ≤ f ∧ f ≤ (2147483647 : Int) by omega)) rfl (show (-2147483648 : Int) ≤ (-1) ∧ (-1) ≤ (2147483647 : Int) by omega)) (show (0 : Int) ≤ ((M 65 1) + 1) ∧ ((M 65 1) + 1) ≤ (30 : Int) by omega)), (FrM_up (FrM_up (FrM_up (FrM_up (FrM_up (FrM_up (FrM_up (FrM_up frm0 (wOf_a (by decide))) (wOf_a (by decide))) (wOf_a (by decide))) (wOf_a (by decide))) (wOf_a (by decide))) (wOf_a (by decide))) (wOf_a (by decide))) (by decide)), Or.inr (Or.inr (Or.inr ⟨hA, hB, by omega, rfl, rfl, fun i => (show up M 66 (M 65 1).toNat a 66 i = _ from up_eq), fun i => (show up M 67 (M 65 1).toNat b 67 i = _ from up_eq), fun i => (show up M 68 (M 65 1).toNat c 68 i = _ from up_eq), fun i => (show up M 69 (M 65 1).toNat d 69 i = _ from up_eq), fun i => (show up M 70 (M 65 1).toNat e 70 i = _ from up_eq), fun i => (show up M 71 (M 65 1).toNat f 71 i = _ from up_eq), fun i => (show up M 72 (M 65 1).toNat (-1) 72 i = _ from up_eq)⟩))⟩))))))))))) (fun (h1 : ¬ ((M 65 1) ≠ 30)) => d_r1 (⟨hT, frm0, Or.inr (Or.inr (Or.inl ⟨hA, hB, by omega, rfl, rfl⟩))⟩))
set_option maxHeartbeats 4000000 in
theorem px125_b {X : Xs} {M : Mm} {a b c d e f : Int} (hT : okTT M) (hA : ¬ qA (M 65 1) d e) : Wp X 30 125 16 ([0, 1, 2, 3, 4, 5, 6].zip [vR 0 65, vI a, vI b, vI c, vI d, vI e, vI f]) [] M (fun v M' => okTT M' ∧ FrM sp125_0.2.2.2.1 M M' ∧ qper (M 65 1) (M 65 0) a b c d e f v (M' = M) (M' 65 1 = M 65 1 + 1 ∧ (∀ i : Nat, M' 66 i = if i = (M 65 1).toNat then a else M 66 i) ∧ (∀ i : Nat, M' 67 i = if i = (M 65 1).toNat then b else M 67 i) ∧ (∀ i : Nat, M' 68 i = if i = (M 65 1).toNat then c else M 68 i) ∧ (∀ i : Nat, M' 69 i = if i = (M 65 1).toNat then d else M 69 i) ∧ (∀ i : Nat, M' 70 i = if i = (M 65 1).toNat then e else M 70 i) ∧ (∀ i : Nat, M' 71 i = if i = (M 65 1).toNat then f else M 71 i) ∧ (∀ i : Nat, M' 72 i = if i = (M 65 1).toNat then (-1) else M 72 i))) := by
  have bS : 0 ≤ M 65 1 ∧ M 65 1 ≤ 30 := hT 65 1
  have bN : 0 ≤ M 65 0 ∧ M 65 0 ≤ 9000 := hT 65 0
  unfold qper
  have hA1 := hA
  unfold qA at hA1
  refine Wp_seg (cut := cutL [(16, [0, 1, 2, 3, 4, 5, 6]), (49, [0, 1, 2, 3, 4, 5, 6])]) (CT := (fun i' as M' => i' = 49 ∧ as = [vR 0 65, vI a, vI b, vI c, vI d, vI e, vI f] ∧ M' = M ∧ ¬ qB (M 65 0) a b c d e f)) 6 31 [(4, 65), (1, 0), (1, 1), (1, 2), (1, 3), (1, 4), (1, 5)] (us (us (us (us (us (us (fun _ => 0) 0 a) 1 b) 2 c) 3 d) 4 e) 5 f) [(4, 65, [(0, 0)]), (15, 2, [(3, 0), (2, -9000), (0, 1)]), (19, 0, [(0, -100002)]), (15, 4, [(3, 0), (3, 6), (0, 1)]), (19, 0, [(0, -100002)]), (15, 2, [(3, 1), (2, 0), (0, 1)]), (19, 0, [(0, -100002)]), (15, 4, [(3, 1), (2, 7), (0, 1)]), (19, 0, [(0, -100002)]), (15, 2, [(3, 2), (2, 0), (0, 1)]), (19, 0, [(0, -100002)]), (15, 4, [(3, 2), (2, 3), (0, 1)]), (19, 0, [(0, -100002)]), (15, 2, [(1, 3), (0, 0), (0, 5)]), (15, 2, [(3, 5), (2, 1), (0, 1)]), (19, 0, [(0, -100002)]), (15, 4, [(3, 5), (2, 4), (0, 1)]), (19, 0, [(0, -100002)]), (17, 49, [(4, 65), (1, 0), (1, 1), (1, 2), (1, 3), (1, 4), (1, 5)]), (15, 0, [(1, 3), (1, 4), (0, 1)]), (19, 0, [(0, -100002)]), (15, 2, [(3, 5), (2, 1), (0, 1)]), (19, 0, [(0, -100002)]), (15, 4, [(3, 5), (2, 4), (0, 1)]), (19, 0, [(0, -100002)]), (17, 49, [(4, 65), (1, 0), (1, 1), (1, 2), (1, 3), (1, 4), (1, 5)])] (by decide +kernel) rfl rfl (by decide) (fun i' dl as M' hi _ h => by
    obtain ⟨rfl, rfl, rfl, hB⟩ := h
    obtain rfl : [0, 1, 2, 3, 4, 5, 6] = dl := Option.some.inj hi
    exact px125_c hT hA hB) ?_
  unfold qB
  exact d_ld fun _ => d_br (fun (h1 : a < (-9000)) => d_r1 (⟨hT, frm0, Or.inr (Or.inl ⟨hA, by omega, rfl, rfl⟩)⟩)) (fun (h1 : ¬ (a < (-9000))) => d_br (fun (h2 : (M 65 0) < a) => d_r1 (⟨hT, frm0, Or.inr (Or.inl ⟨hA, by omega, rfl, rfl⟩)⟩)) (fun (h2 : ¬ ((M 65 0) < a)) => d_br (fun (h3 : b < 0) => d_r1 (⟨hT, frm0, Or.inr (Or.inl ⟨hA, by omega, rfl, rfl⟩)⟩)) (fun (h3 : ¬ (b < 0)) => d_br (fun (h4 : 7 < b) => d_r1 (⟨hT, frm0, Or.inr (Or.inl ⟨hA, by omega, rfl, rfl⟩)⟩)) (fun (h4 : ¬ (7 < b)) => d_br (fun (h5 : c < 0) => d_r1 (⟨hT, frm0, Or.inr (Or.inl ⟨hA, by omega, rfl, rfl⟩)⟩)) (fun (h5 : ¬ (c < 0)) => d_br (fun (h6 : 3 < c) => d_r1 (⟨hT, frm0, Or.inr (Or.inl ⟨hA, by omega, rfl, rfl⟩)⟩)) (fun (h6 : ¬ (3 < c)) => d_br (fun (h7 : d < 0) => d_br (fun (h8 : f < 1) => d_r1 (⟨hT, frm0, Or.inr (Or.inl ⟨hA, by omega, rfl, rfl⟩)⟩)) (fun (h8 : ¬ (f < 1)) => d_br (fun (h9 : 4 < f) => d_r1 (⟨hT, frm0, Or.inr (Or.inl ⟨hA, by omega, rfl, rfl⟩)⟩)) (fun (h9 : ¬ (4 < f)) => d_ct (⟨rfl, rfl, rfl, by omega⟩)))) (fun (h7 : ¬ (d < 0)) => d_br (fun (h10 : d = e) => d_r1 (⟨hT, frm0, Or.inr (Or.inl ⟨hA, by omega, rfl, rfl⟩)⟩)) (fun (h10 : ¬ (d = e)) => d_br (fun (h11 : f < 1) => d_r1 (⟨hT, frm0, Or.inr (Or.inl ⟨hA, by omega, rfl, rfl⟩)⟩)) (fun (h11 : ¬ (f < 1)) => d_br (fun (h12 : 4 < f) => d_r1 (⟨hT, frm0, Or.inr (Or.inl ⟨hA, by omega, rfl, rfl⟩)⟩)) (fun (h12 : ¬ (4 < f)) => d_ct (⟨rfl, rfl, rfl, by omega⟩)))))))))))
set_option maxHeartbeats 4000000 in
theorem px125 {X : Xs} {M : Mm} {a b c d e f : Int} (hT : okTT M) : Wp X 30 125 0 (eL 0 [vR 0 65, vI a, vI b, vI c, vI d, vI e, vI f]) [] M (fun v M' => okTT M' ∧ FrM sp125_0.2.2.2.1 M M' ∧ qper (M 65 1) (M 65 0) a b c d e f v (M' = M) (M' 65 1 = M 65 1 + 1 ∧ (∀ i : Nat, M' 66 i = if i = (M 65 1).toNat then a else M 66 i) ∧ (∀ i : Nat, M' 67 i = if i = (M 65 1).toNat then b else M 67 i) ∧ (∀ i : Nat, M' 68 i = if i = (M 65 1).toNat then c else M 68 i) ∧ (∀ i : Nat, M' 69 i = if i = (M 65 1).toNat then d else M 69 i) ∧ (∀ i : Nat, M' 70 i = if i = (M 65 1).toNat then e else M 70 i) ∧ (∀ i : Nat, M' 71 i = if i = (M 65 1).toNat then f else M 71 i) ∧ (∀ i : Nat, M' 72 i = if i = (M 65 1).toNat then (-1) else M 72 i))) := by
  have bS : 0 ≤ M 65 1 ∧ M 65 1 ≤ 30 := hT 65 1
  have bN : 0 ≤ M 65 0 ∧ M 65 0 ≤ 9000 := hT 65 0
  unfold qper
  refine Wp_ent (cut := cutL [(16, [0, 1, 2, 3, 4, 5, 6]), (49, [0, 1, 2, 3, 4, 5, 6])]) (CT := (fun i' as M' => i' = 16 ∧ as = [vR 0 65, vI a, vI b, vI c, vI d, vI e, vI f] ∧ M' = M ∧ ¬ qA (M 65 1) d e)) 6 30 [(4, 65), (1, 0), (1, 1), (1, 2), (1, 3), (1, 4), (1, 5)] (us (us (us (us (us (us (fun _ => 0) 0 a) 1 b) 2 c) 3 d) 4 e) 5 f) [(15, 0, [(1, 3), (0, -1), (0, 9)]), (15, 0, [(1, 4), (0, -1), (0, 1)]), (17, 16, [(4, 65), (1, 0), (1, 1), (1, 2), (1, 3), (1, 4), (1, 5)]), (4, 65, [(0, 1)]), (0, 1, [(1, 6), (0, 1)]), (15, 2, [(3, 4), (2, 0), (0, 1)]), (19, 0, [(0, -100001)]), (15, 4, [(3, 4), (3, 7), (0, 1)]), (19, 0, [(0, -100001)]), (17, 16, [(4, 65), (1, 0), (1, 1), (1, 2), (1, 3), (1, 4), (1, 5)]), (4, 65, [(0, 1)]), (0, 1, [(1, 6), (0, 1)]), (15, 2, [(3, 3), (2, 0), (0, 1)]), (19, 0, [(0, -100001)]), (15, 4, [(3, 3), (3, 7), (0, 1)]), (19, 0, [(0, -100001)]), (15, 0, [(1, 4), (0, -1), (0, 1)]), (17, 16, [(4, 65), (1, 0), (1, 1), (1, 2), (1, 3), (1, 4), (1, 5)]), (4, 65, [(0, 1)]), (0, 1, [(1, 8), (0, 1)]), (15, 2, [(3, 4), (2, 0), (0, 1)]), (19, 0, [(0, -100001)]), (15, 4, [(3, 4), (3, 9), (0, 1)]), (19, 0, [(0, -100001)]), (17, 16, [(4, 65), (1, 0), (1, 1), (1, 2), (1, 3), (1, 4), (1, 5)])] (by decide +kernel) rfl rfl (by decide) (fun i' dl as M' hi _ h => by
    obtain ⟨rfl, rfl, rfl, hA⟩ := h
    obtain rfl : [0, 1, 2, 3, 4, 5, 6] = dl := Option.some.inj hi
    exact px125_b hT hA) ?_
  unfold qA
  exact d_br (fun (h1 : d = (-1)) => d_br (fun (h2 : e = (-1)) => d_ct (⟨rfl, rfl, rfl, by omega⟩)) (fun (h2 : ¬ (e = (-1))) => d_ld fun _ => d_ibw (w := (M 65 1) - 1) (ib1 (x := (M 65 1)) (y := 1) (by unfold in32; omega)) (d_br (fun (h3 : e < 0) => d_r1 (⟨hT, frm0, Or.inl ⟨by omega, rfl, rfl⟩⟩)) (fun (h3 : ¬ (e < 0)) => d_br (fun (h4 : ((M 65 1) - 1) < e) => d_r1 (⟨hT, frm0, Or.inl ⟨by omega, rfl, rfl⟩⟩)) (fun (h4 : ¬ (((M 65 1) - 1) < e)) => d_ct (⟨rfl, rfl, rfl, by omega⟩)))))) (fun (h1 : ¬ (d = (-1))) => d_ld fun _ => d_ibw (w := (M 65 1) - 1) (ib1 (x := (M 65 1)) (y := 1) (by unfold in32; omega)) (d_br (fun (h5 : d < 0) => d_r1 (⟨hT, frm0, Or.inl ⟨by omega, rfl, rfl⟩⟩)) (fun (h5 : ¬ (d < 0)) => d_br (fun (h6 : ((M 65 1) - 1) < d) => d_r1 (⟨hT, frm0, Or.inl ⟨by omega, rfl, rfl⟩⟩)) (fun (h6 : ¬ (((M 65 1) - 1) < d)) => d_br (fun (h7 : e = (-1)) => d_ct (⟨rfl, rfl, rfl, by omega⟩)) (fun (h7 : ¬ (e = (-1))) => d_ld fun _ => d_ibw (w := (M 65 1) - 1) (ib1 (x := (M 65 1)) (y := 1) (by unfold in32; omega)) (d_br (fun (h8 : e < 0) => d_r1 (⟨hT, frm0, Or.inl ⟨by omega, rfl, rfl⟩⟩)) (fun (h8 : ¬ (e < 0)) => d_br (fun (h9 : ((M 65 1) - 1) < e) => d_r1 (⟨hT, frm0, Or.inl ⟨by omega, rfl, rfl⟩⟩)) (fun (h9 : ¬ (((M 65 1) - 1) < e)) => d_ct (⟨rfl, rfl, rfl, by omega⟩)))))))))
def qdie (S p g : Int) (v : Option V) (same suc : Prop) : Prop := ((p < 0 ∨ S ≤ p) ∧ v = some (vI (-100001)) ∧ same) ∨ (¬ (p < 0 ∨ S ≤ p) ∧ 0 ≤ g ∧ v = some (vI (-100003)) ∧ same) ∨ (¬ (p < 0 ∨ S ≤ p) ∧ g < 0 ∧ v = some (vI 1) ∧ suc)
theorem qdie_eq {S p g : Int} {v w : Option V} {p1 s1 p2 s2 : Prop} (h : qdie S p g v p1 s1) (k : qdie S p g w p2 s2) : v = w ∧ ((p1 ∧ p2) ∨ (s1 ∧ s2)) := by
  rcases h with ⟨a1, rfl, a3⟩ | ⟨a1, a2, rfl, a3⟩ | ⟨a1, a2, rfl, a3⟩
  all_goals rcases k with ⟨b1, rfl, b3⟩ | ⟨b1, b2, rfl, b3⟩ | ⟨b1, b2, rfl, b3⟩
  all_goals first | exact ⟨rfl, Or.inl ⟨a3, b3⟩⟩ | exact ⟨rfl, Or.inr ⟨a3, b3⟩⟩ | exact absurd a1 b1 | exact absurd b1 a1 | exact absurd a2 (by omega)
set_option maxHeartbeats 4000000 in
theorem px84 {X : Xs} {M : Mm} {p : Int} (hT : okTT M) : Wp X 30 84 0 (eL 0 [vR 0 0, vI p]) [] M (fun v M' => okTT M' ∧ FrM sp84_0.2.2.2.1 M M' ∧ qdie (M 1 10) p (M 8 p.toNat) v (M' = M) (∀ i : Nat, M' 8 i = if i = p.toNat then M 0 10 else M 8 i)) := by
  have bS : 0 ≤ M 1 10 ∧ M 1 10 ≤ 30 := hT 1 10
  have bN : 0 ≤ M 0 10 ∧ M 0 10 ≤ 9000 := hT 0 10
  have b8 : (-1 : Int) ≤ M 8 p.toNat ∧ M 8 p.toNat ≤ 9000 := by
    have := hT 8 p.toNat
    rw [tiv_a (i := (-1, 9000)) rfl] at this
    exact this
  refine Wp_den 1 16 [(4, 0), (1, 0)] (us (fun _ => 0) 0 p) [(15, 2, [(1, 0), (0, 0), (0, 1)]), (19, 0, [(0, -100001)]), (4, 1, [(0, 10)]), (15, 3, [(1, 0), (1, 1), (0, 1)]), (19, 0, [(0, -100001)]), (5, 8, [(1, 0)]), (15, 0, [(1, 2), (0, -1), (0, 3)]), (4, 0, [(0, 10)]), (11, 8, [(1, 0), (1, 3)]), (19, 0, [(0, 1)]), (19, 0, [(0, -100003)])] (by decide +kernel) rfl rfl (by decide) ?_
  exact d_br (fun (h1 : p < 0) => d_r1 (⟨hT, frm0, Or.inl ⟨by omega, rfl, rfl⟩⟩)) (fun (h1 : ¬ (p < 0)) => d_ld fun _ => d_br (fun (h2 : (M 1 10) ≤ p) => d_r1 (⟨hT, frm0, Or.inl ⟨by omega, rfl, rfl⟩⟩)) (fun (h2 : ¬ ((M 1 10) ≤ p)) => d_la (show 0 ≤ p ∧ p < ((30 : Nat) : Int) by omega) fun _ => d_br (fun (h3 : (M 8 (p).toNat) = (-1)) => d_ld fun _ => d_sa (show 0 ≤ p ∧ p < ((30 : Nat) : Int) by omega) (d_r1 (⟨(okTT_ua (i := (-1, 9000)) hT rfl (show (-1 : Int) ≤ (M 0 10) ∧ (M 0 10) ≤ (9000 : Int) by omega)), (FrM_up frm0 (wOf_a (by decide))), Or.inr (Or.inr ⟨by omega, by omega, rfl, fun i => up_eq⟩)⟩))) (fun (h3 : ¬ ((M 8 (p).toNat) = (-1))) => d_r1 (⟨hT, frm0, Or.inr (Or.inl ⟨by omega, by omega, rfl, rfl⟩)⟩))))
set_option maxHeartbeats 4000000 in
theorem px128 {X : Xs} {M : Mm} {p : Int} (hT : okTT M) : Wp X 30 128 0 (eL 0 [vR 0 65, vI p]) [] M (fun v M' => okTT M' ∧ FrM sp128_0.2.2.2.1 M M' ∧ qdie (M 65 1) p (M 72 p.toNat) v (M' = M) (∀ i : Nat, M' 72 i = if i = p.toNat then M 65 0 else M 72 i)) := by
  have bS : 0 ≤ M 65 1 ∧ M 65 1 ≤ 30 := hT 65 1
  have bN : 0 ≤ M 65 0 ∧ M 65 0 ≤ 9000 := hT 65 0
  have b8 : (-2147483648 : Int) ≤ M 72 p.toNat ∧ M 72 p.toNat ≤ 2147483647 := by
    have := hT 72 p.toNat
    rw [tiv_a (i := (-2147483648, 2147483647)) rfl] at this
    exact this
  refine Wp_den 1 17 [(4, 65), (1, 0)] (us (fun _ => 0) 0 p) [(4, 65, [(0, 1)]), (0, 1, [(1, 1), (0, 1)]), (15, 2, [(3, 0), (2, 0), (0, 1)]), (19, 0, [(0, -100001)]), (15, 4, [(3, 0), (3, 2), (0, 1)]), (19, 0, [(0, -100001)]), (5, 72, [(1, 0)]), (15, 2, [(1, 3), (0, 0), (0, 3)]), (4, 65, [(0, 0)]), (11, 72, [(1, 0), (1, 4)]), (19, 0, [(0, 1)]), (19, 0, [(0, -100003)])] (by decide +kernel) rfl rfl (by decide) ?_
  exact d_ld fun _ => d_ibw (w := (M 65 1) - 1) (ib1 (x := (M 65 1)) (y := 1) (by unfold in32; omega)) (d_br (fun (h1 : p < 0) => d_r1 (⟨hT, frm0, Or.inl ⟨by omega, rfl, rfl⟩⟩)) (fun (h1 : ¬ (p < 0)) => d_br (fun (h2 : ((M 65 1) - 1) < p) => d_r1 (⟨hT, frm0, Or.inl ⟨by omega, rfl, rfl⟩⟩)) (fun (h2 : ¬ (((M 65 1) - 1) < p)) => d_la (show 0 ≤ p ∧ p < ((30 : Nat) : Int) by omega) fun _ => d_br (fun (h3 : (M 72 (p).toNat) < 0) => d_ld fun _ => d_sa (show 0 ≤ p ∧ p < ((30 : Nat) : Int) by omega) (d_r1 (⟨(okTT_ua (i := (-2147483648, 2147483647)) hT rfl (show (-2147483648 : Int) ≤ (M 65 0) ∧ (M 65 0) ≤ (2147483647 : Int) by omega)), (FrM_up frm0 (wOf_a (by decide))), Or.inr (Or.inr ⟨by omega, by omega, rfl, fun i => up_eq⟩)⟩))) (fun (h3 : ¬ ((M 72 (p).toNat) < 0)) => d_r1 (⟨hT, frm0, Or.inr (Or.inl ⟨by omega, by omega, rfl, rfl⟩)⟩)))))
theorem ans_int {k : Nat} {v : Option V} {M : Mm} {lo hi : Int} (hk : mR k = some .int) (h : retOK (mR k) v) (ha : ansIn [((lo, hi), [])] v M) : ∃ z : Int, v = some (vI z) ∧ lo ≤ z ∧ z ≤ hi := by
  rw [hk] at h
  obtain ⟨o, ho, h1, -⟩ := ha
  obtain rfl := List.mem_singleton.mp ho
  match v, h, h1 with
  | some (.inl z), _, h1 => exact ⟨z, rfl, h1 _ rfl⟩
theorem rb67 : rb 67 = 1 := by decide +kernel
def qcA (S b c : Int) : Prop := b < 0 ∨ S ≤ b ∨ c < 0 ∨ S ≤ c
def qcB (N a b c d : Int) : Prop := a < 0 ∨ 3 < a ∨ b = c ∨ d < 0 ∨ N < d
def qch (S N C a b c d : Int) (v : Option V) (same suc : Prop) : Prop := (qcA S b c ∧ v = some (vI (-100001)) ∧ same) ∨ (¬ qcA S b c ∧ qcB N a b c d ∧ v = some (vI (-100002)) ∧ same) ∨ (¬ qcA S b c ∧ ¬ qcB N a b c d ∧ 20 ≤ C ∧ v = some (vI (-100004)) ∧ same) ∨ (¬ qcA S b c ∧ ¬ qcB N a b c d ∧ C < 20 ∧ v = some (vI C) ∧ suc)
theorem qch_eq {S N C a b c d : Int} {v w : Option V} {p1 s1 p2 s2 : Prop} (h : qch S N C a b c d v p1 s1) (g : qch S N C a b c d w p2 s2) : v = w ∧ ((p1 ∧ p2) ∨ (s1 ∧ s2)) := by
  unfold qch at h g
  rcases h with ⟨a1, rfl, a3⟩ | ⟨a1, a2, rfl, a3⟩ | ⟨a1, a2, a4, rfl, a3⟩ | ⟨a1, a2, a4, rfl, a3⟩
  all_goals rcases g with ⟨b1, rfl, b3⟩ | ⟨b1, b2, rfl, b3⟩ | ⟨b1, b2, b4, rfl, b3⟩ | ⟨b1, b2, b4, rfl, b3⟩
  all_goals first | exact ⟨rfl, Or.inl ⟨a3, b3⟩⟩ | exact ⟨rfl, Or.inr ⟨a3, b3⟩⟩ | exact absurd a1 b1 | exact absurd b1 a1 | exact absurd a2 b2 | exact absurd b2 a2 | exact absurd a4 (by omega)
set_option maxHeartbeats 4000000 in
theorem px94 {X : Xs} {M : Mm} {a b c d : Int} (hT : okTT M) : Wp X 30 94 0 (eL 0 [vR 0 0, vI a, vI b, vI c, vI d]) [] M (fun v M' => okTT M' ∧ FrM sp94_0.2.2.2.1 M M' ∧ qch (M 1 10) (M 0 10) (M 27 14) a b c d v (M' = M) (M' 27 14 = M 27 14 + 1)) := by
  have bS : 0 ≤ M 1 10 ∧ M 1 10 ≤ 30 := hT 1 10
  have bN : 0 ≤ M 0 10 ∧ M 0 10 ≤ 9000 := hT 0 10
  have bC : 0 ≤ M 27 14 ∧ M 27 14 ≤ 20 := hT 27 14
  unfold qch qcA qcB
  refine Wp_den 4 45 [(4, 0), (1, 0), (1, 1), (1, 2), (1, 3)] (us (us (us (us (fun _ => 0) 0 a) 1 b) 2 c) 3 d) [(15, 2, [(1, 1), (0, 0), (0, 1)]), (19, 0, [(0, -100001)]), (4, 1, [(0, 10)]), (15, 3, [(1, 1), (1, 4), (0, 1)]), (19, 0, [(0, -100001)]), (15, 2, [(1, 2), (0, 0), (0, 1)]), (19, 0, [(0, -100001)]), (4, 1, [(0, 10)]), (15, 3, [(1, 2), (1, 5), (0, 1)]), (19, 0, [(0, -100001)]), (15, 2, [(1, 0), (0, 0), (0, 1)]), (19, 0, [(0, -100002)]), (15, 4, [(1, 0), (0, 3), (0, 1)]), (19, 0, [(0, -100002)]), (15, 0, [(1, 1), (1, 2), (0, 1)]), (19, 0, [(0, -100002)]), (4, 0, [(0, 10)]), (15, 2, [(1, 3), (0, 0), (0, 1)]), (19, 0, [(0, -100002)]), (15, 4, [(1, 3), (1, 6), (0, 1)]), (19, 0, [(0, -100002)]), (4, 27, [(0, 14)]), (15, 2, [(1, 7), (0, 20), (0, 16)]), (16, 67, [(4, 19), (1, 3)]), (4, 0, [(0, 10)]), (4, 27, [(0, 14)]), (15, 2, [(1, 10), (0, 20), (0, 11)]), (11, 28, [(1, 10), (1, 0)]), (11, 29, [(1, 10), (1, 1)]), (11, 30, [(1, 10), (1, 2)]), (11, 31, [(1, 10), (1, 3)]), (11, 33, [(1, 10), (1, 8)]), (11, 32, [(1, 10), (1, 9)]), (11, 34, [(1, 10), (0, -1)]), (11, 35, [(1, 10), (0, -1)]), (0, 0, [(1, 10), (0, 1)]), (10, 27, [(0, 14), (1, 11)]), (19, 0, [(1, 10)]), (19, 0, [(0, -1)]), (19, 0, [(0, -100004)])] (by decide +kernel) rfl rfl (by decide) ?_
  exact d_br (fun (h1 : b < 0) => d_r1 (⟨hT, frm0, Or.inl ⟨by omega, rfl, rfl⟩⟩)) (fun (h1 : ¬ (b < 0)) => d_ld fun _ => d_br (fun (h2 : (M 1 10) ≤ b) => d_r1 (⟨hT, frm0, Or.inl ⟨by omega, rfl, rfl⟩⟩)) (fun (h2 : ¬ ((M 1 10) ≤ b)) => d_br (fun (h3 : c < 0) => d_r1 (⟨hT, frm0, Or.inl ⟨by omega, rfl, rfl⟩⟩)) (fun (h3 : ¬ (c < 0)) => d_ld fun _ => d_br (fun (h4 : (M 1 10) ≤ c) => d_r1 (⟨hT, frm0, Or.inl ⟨by omega, rfl, rfl⟩⟩)) (fun (h4 : ¬ ((M 1 10) ≤ c)) => d_br (fun (h5 : a < 0) => d_r1 (⟨hT, frm0, Or.inr (Or.inl ⟨by omega, by omega, rfl, rfl⟩)⟩)) (fun (h5 : ¬ (a < 0)) => d_br (fun (h6 : 3 < a) => d_r1 (⟨hT, frm0, Or.inr (Or.inl ⟨by omega, by omega, rfl, rfl⟩)⟩)) (fun (h6 : ¬ (3 < a)) => d_br (fun (h7 : b = c) => d_r1 (⟨hT, frm0, Or.inr (Or.inl ⟨by omega, by omega, rfl, rfl⟩)⟩)) (fun (h7 : ¬ (b = c)) => d_ld fun _ => d_br (fun (h8 : d < 0) => d_r1 (⟨hT, frm0, Or.inr (Or.inl ⟨by omega, by omega, rfl, rfl⟩)⟩)) (fun (h8 : ¬ (d < 0)) => d_br (fun (h9 : (M 0 10) < d) => d_r1 (⟨hT, frm0, Or.inr (Or.inl ⟨by omega, by omega, rfl, rfl⟩)⟩)) (fun (h9 : ¬ ((M 0 10) < d)) => d_ld fun _ => d_br (fun (h10 : (M 27 14) < 20) => d_ca ⟨_, by decide, (ok67_0 X [vR 0 19, vI d] M ⟨rfl, ⟨_, rfl, (show (0 : Int) ≤ d ∧ d ≤ 9999 by omega)⟩, trivial⟩ hT trivial).mono fun v3 M3 q3 hr3 _ _ => (by
    obtain ⟨r, rfl, hr⟩ := ans_int (by decide +kernel) hr3 q3.2.2.1
    rw [nil_eq q3.2.1, rb67]
    exact d_ld fun _ => d_ld fun _ => d_br (fun _ => d_sa (show 0 ≤ (M 27 14) ∧ (M 27 14) < ((20 : Nat) : Int) by omega) (d_sa (show 0 ≤ (M 27 14) ∧ (M 27 14) < ((20 : Nat) : Int) by omega) (d_sa (show 0 ≤ (M 27 14) ∧ (M 27 14) < ((20 : Nat) : Int) by omega) (d_sa (show 0 ≤ (M 27 14) ∧ (M 27 14) < ((20 : Nat) : Int) by omega) (d_sa (show 0 ≤ (M 27 14) ∧ (M 27 14) < ((20 : Nat) : Int) by omega) (d_sa (show 0 ≤ (M 27 14) ∧ (M 27 14) < ((20 : Nat) : Int) by omega) (d_sa (show 0 ≤ (M 27 14) ∧ (M 27 14) < ((20 : Nat) : Int) by omega) (d_sa (show 0 ≤ (M 27 14) ∧ (M 27 14) < ((20 : Nat) : Int) by omega) (d_ibw (w := (M 27 14) + 1) (ib0 (x := (M 27 14)) (y := 1) (by unfold in32; omega)) (d_st (d_r1 (⟨(okTT_up (okTT_ua (i := (-2147483648, 2147483647)) (okTT_ua (i := (-1, 9000)) (okTT_ua (i := (0, 9000)) (okTT_ua (i := (0, 8)) (okTT_ua (i := (0, 9000)) (okTT_ua (i := (0, 29)) (okTT_ua (i := (0, 29)) (okTT_ua (i := (0, 3)) hT rfl (show (0 : Int) ≤ a ∧ a ≤ (3 : Int) by omega)) rfl (show (0 : Int) ≤ b ∧ b ≤ (29 : Int) by omega)) rfl (show (0 : Int) ≤ c ∧ c ≤ (29 : Int) by omega)) rfl (show (0 : Int) ≤ d ∧ d ≤ (9000 : Int) by omega)) rfl (show (0 : Int) ≤ r ∧ r ≤ (8 : Int) by omega)) rfl (show (0 : Int) ≤ (M 0 10) ∧ (M 0 10) ≤ (9000 : Int) by omega)) rfl (show (-1 : Int) ≤ (-1) ∧ (-1) ≤ (9000 : Int) by omega)) rfl (show (-2147483648 : Int) ≤ (-1) ∧ (-1) ≤ (2147483647 : Int) by omega)) (show (0 : Int) ≤ ((M 27 14) + 1) ∧ ((M 27 14) + 1) ≤ (20 : Int) by omega)), (FrM_up (FrM_up (FrM_up (FrM_up (FrM_up (FrM_up (FrM_up (FrM_up (FrM_up frm0 (wOf_a (by decide))) (wOf_a (by decide))) (wOf_a (by decide))) (wOf_a (by decide))) (wOf_a (by decide))) (wOf_a (by decide))) (wOf_a (by decide))) (wOf_a (by decide))) (by decide)), Or.inr (Or.inr (Or.inr ⟨by omega, by omega, by omega, rfl, rfl⟩))⟩)))))))))))) (fun hh => absurd h10 hh))⟩) (fun (h10 : ¬ ((M 27 14) < 20)) => d_r1 (⟨hT, frm0, Or.inr (Or.inr (Or.inl ⟨by omega, by omega, by omega, rfl, rfl⟩))⟩)))))))))))
set_option maxHeartbeats 4000000 in
theorem px154 {X : Xs} {M : Mm} {a b c d : Int} (hT : okTT M) : Wp X 30 154 0 (eL 0 [vR 0 65, vI a, vI b, vI c, vI d]) [] M (fun v M' => okTT M' ∧ FrM sp154_0.2.2.2.1 M M' ∧ qch (M 65 1) (M 65 0) (M 65 21) a b c d v (M' = M) (M' 65 21 = M 65 21 + 1)) := by
  have bS : 0 ≤ M 65 1 ∧ M 65 1 ≤ 30 := hT 65 1
  have bN : 0 ≤ M 65 0 ∧ M 65 0 ≤ 9000 := hT 65 0
  have bC : 0 ≤ M 65 21 ∧ M 65 21 ≤ 20 := hT 65 21
  unfold qch qcA qcB
  refine Wp_den 4 43 [(4, 65), (1, 0), (1, 1), (1, 2), (1, 3)] (us (us (us (us (fun _ => 0) 0 a) 1 b) 2 c) 3 d) [(4, 65, [(0, 1)]), (0, 1, [(1, 4), (0, 1)]), (15, 2, [(3, 1), (2, 0), (0, 1)]), (19, 0, [(0, -100001)]), (15, 4, [(3, 1), (3, 5), (0, 1)]), (19, 0, [(0, -100001)]), (4, 65, [(0, 1)]), (0, 1, [(1, 6), (0, 1)]), (15, 2, [(3, 2), (2, 0), (0, 1)]), (19, 0, [(0, -100001)]), (15, 4, [(3, 2), (3, 7), (0, 1)]), (19, 0, [(0, -100001)]), (15, 2, [(3, 0), (2, 0), (0, 1)]), (19, 0, [(0, -100002)]), (15, 4, [(3, 0), (2, 3), (0, 1)]), (19, 0, [(0, -100002)]), (15, 0, [(1, 1), (1, 2), (0, 1)]), (19, 0, [(0, -100002)]), (4, 65, [(0, 0)]), (15, 2, [(3, 3), (2, 0), (0, 1)]), (19, 0, [(0, -100002)]), (15, 4, [(3, 3), (3, 8), (0, 1)]), (19, 0, [(0, -100002)]), (4, 65, [(0, 21)]), (15, 1, [(1, 9), (0, 20), (0, 12)]), (4, 65, [(0, 21)]), (11, 80, [(1, 10), (1, 0)]), (11, 81, [(1, 10), (1, 1)]), (11, 82, [(1, 10), (1, 2)]), (11, 83, [(1, 10), (1, 3)]), (4, 65, [(0, 0)]), (11, 84, [(1, 10), (1, 11)]), (11, 85, [(1, 10), (0, -1)]), (4, 65, [(0, 21)]), (0, 0, [(1, 12), (0, 1)]), (10, 65, [(0, 21), (1, 13)]), (19, 0, [(1, 10)]), (19, 0, [(0, -100004)])] (by decide +kernel) rfl rfl (by decide) ?_
  exact d_ld fun _ => d_ibw (w := (M 65 1) - 1) (ib1 (x := (M 65 1)) (y := 1) (by unfold in32; omega)) (d_br (fun (h1 : b < 0) => d_r1 (⟨hT, frm0, Or.inl ⟨by omega, rfl, rfl⟩⟩)) (fun (h1 : ¬ (b < 0)) => d_br (fun (h2 : ((M 65 1) - 1) < b) => d_r1 (⟨hT, frm0, Or.inl ⟨by omega, rfl, rfl⟩⟩)) (fun (h2 : ¬ (((M 65 1) - 1) < b)) => d_ld fun _ => d_ibw (w := (M 65 1) - 1) (ib1 (x := (M 65 1)) (y := 1) (by unfold in32; omega)) (d_br (fun (h3 : c < 0) => d_r1 (⟨hT, frm0, Or.inl ⟨by omega, rfl, rfl⟩⟩)) (fun (h3 : ¬ (c < 0)) => d_br (fun (h4 : ((M 65 1) - 1) < c) => d_r1 (⟨hT, frm0, Or.inl ⟨by omega, rfl, rfl⟩⟩)) (fun (h4 : ¬ (((M 65 1) - 1) < c)) => d_br (fun (h5 : a < 0) => d_r1 (⟨hT, frm0, Or.inr (Or.inl ⟨by omega, by omega, rfl, rfl⟩)⟩)) (fun (h5 : ¬ (a < 0)) => d_br (fun (h6 : 3 < a) => d_r1 (⟨hT, frm0, Or.inr (Or.inl ⟨by omega, by omega, rfl, rfl⟩)⟩)) (fun (h6 : ¬ (3 < a)) => d_br (fun (h7 : b = c) => d_r1 (⟨hT, frm0, Or.inr (Or.inl ⟨by omega, by omega, rfl, rfl⟩)⟩)) (fun (h7 : ¬ (b = c)) => d_ld fun _ => d_br (fun (h8 : d < 0) => d_r1 (⟨hT, frm0, Or.inr (Or.inl ⟨by omega, by omega, rfl, rfl⟩)⟩)) (fun (h8 : ¬ (d < 0)) => d_br (fun (h9 : (M 65 0) < d) => d_r1 (⟨hT, frm0, Or.inr (Or.inl ⟨by omega, by omega, rfl, rfl⟩)⟩)) (fun (h9 : ¬ ((M 65 0) < d)) => d_ld fun _ => d_br (fun (h10 : (M 65 21) ≠ 20) => d_ld fun _ => d_sa (show 0 ≤ (M 65 21) ∧ (M 65 21) < ((20 : Nat) : Int) by omega) (d_sa (show 0 ≤ (M 65 21) ∧ (M 65 21) < ((20 : Nat) : Int) by omega) (d_sa (show 0 ≤ (M 65 21) ∧ (M 65 21) < ((20 : Nat) : Int) by omega) (d_sa (show 0 ≤ (M 65 21) ∧ (M 65 21) < ((20 : Nat) : Int) by omega) (d_ld fun _ => d_sa (show 0 ≤ (M 65 21) ∧ (M 65 21) < ((20 : Nat) : Int) by omega) (d_sa (show 0 ≤ (M 65 21) ∧ (M 65 21) < ((20 : Nat) : Int) by omega) (d_ld fun _ => d_ibw (w := (M 65 21) + 1) (ib0 (x := (M 65 21)) (y := 1) (by unfold in32; omega)) (d_st (d_r1 (⟨(okTT_up (okTT_ua (i := (-2147483648, 2147483647)) (okTT_ua (i := (-2147483648, 2147483647)) (okTT_ua (i := (-2147483648, 2147483647)) (okTT_ua (i := (0, 29)) (okTT_ua (i := (0, 29)) (okTT_ua (i := (0, 3)) hT rfl (show (0 : Int) ≤ a ∧ a ≤ (3 : Int) by omega)) rfl (show (0 : Int) ≤ b ∧ b ≤ (29 : Int) by omega)) rfl (show (0 : Int) ≤ c ∧ c ≤ (29 : Int) by omega)) rfl (show (-2147483648 : Int) ≤ d ∧ d ≤ (2147483647 : Int) by omega)) rfl (show (-2147483648 : Int) ≤ (M 65 0) ∧ (M 65 0) ≤ (2147483647 : Int) by omega)) rfl (show (-2147483648 : Int) ≤ (-1) ∧ (-1) ≤ (2147483647 : Int) by omega)) (show (0 : Int) ≤ ((M 65 21) + 1) ∧ ((M 65 21) + 1) ≤ (20 : Int) by omega)), (FrM_up (FrM_up (FrM_up (FrM_up (FrM_up (FrM_up (FrM_up frm0 (wOf_a (by decide))) (wOf_a (by decide))) (wOf_a (by decide))) (wOf_a (by decide))) (wOf_a (by decide))) (wOf_a (by decide))) (by decide)), Or.inr (Or.inr (Or.inr ⟨by omega, by omega, by omega, rfl, rfl⟩))⟩)))))))))) (fun (h10 : ¬ ((M 65 21) ≠ 20)) => d_r1 (⟨hT, frm0, Or.inr (Or.inr (Or.inl ⟨by omega, by omega, by omega, rfl, rfl⟩))⟩)))))))))))))
/-! feed: bytes one by one -/
theorem l50 {X : Xs} : ∀ (n : Nat) (k b : Int) (M : Mm), k + 1 = n → -1 ≤ k ∧ k ≤ 7 → okTT M → M 22 2 + (k + 1) ≤ 240 → Wp X 10 50 4 ([0, 2, 4].zip [vR 0 22, vL b, vI k]) [] M (fun _ M' => okTT M' ∧ FrM sp50_0.2.2.2.1 M M' ∧ M' 22 2 = M 22 2 + (k + 1)) := by
  intro n
  induction n with
  | zero =>
    intro k b M hn hk hT hL
    refine Wp_seg (cut := cutL [(4, [0, 2, 4])]) (CT := fun _ _ _ => False) 2 25 [(4, 22), (3, 0), (1, 1)] (us (us (fun _ => 0) 0 b) 1 k) [(15, 2, [(1, 1), (0, 0), (0, 1)]), (18, 0, []), (4, 22, [(0, 2)]), (15, 3, [(1, 2), (0, 240), (0, 1)]), (18, 0, []), (4, 22, [(0, 2)]), (0, 2, [(0, 8), (1, 1)]), (2, 2, [(3, 0), (1, 4)]), (1, 3, [(3, 5), (2, 255)]), (3, 0, [(3, 6)]), (11, 23, [(1, 3), (1, 7)]), (4, 22, [(0, 2)]), (0, 0, [(1, 8), (0, 1)]), (10, 22, [(0, 2), (1, 9)]), (0, 0, [(1, 1), (0, -1)]), (17, 4, [(4, 22), (3, 0), (1, 10)])] (by decide +kernel) rfl rfl (by decide) (fun _ _ _ _ _ _ h => h.elim) ?_
    exact d_br (fun _ => d_r0 ⟨hT, frm0, by omega⟩) (fun (h : ¬ (k < 0)) => absurd h (by omega))
  | succ n ih =>
    intro k b M hn hk hT hL
    have bL : 0 ≤ M 22 2 ∧ M 22 2 ≤ 240 := hT 22 2
    refine Wp_seg (cut := cutL [(4, [0, 2, 4])]) (CT := fun i as M' => i = 4 ∧ as = [vR 0 22, vL b, vI (k + (-1))] ∧ okTT M' ∧ FrM sp50_0.2.2.2.1 M M' ∧ M' 22 2 = M 22 2 + 1) 2 25 [(4, 22), (3, 0), (1, 1)] (us (us (fun _ => 0) 0 b) 1 k) [(15, 2, [(1, 1), (0, 0), (0, 1)]), (18, 0, []), (4, 22, [(0, 2)]), (15, 3, [(1, 2), (0, 240), (0, 1)]), (18, 0, []), (4, 22, [(0, 2)]), (0, 2, [(0, 8), (1, 1)]), (2, 2, [(3, 0), (1, 4)]), (1, 3, [(3, 5), (2, 255)]), (3, 0, [(3, 6)]), (11, 23, [(1, 3), (1, 7)]), (4, 22, [(0, 2)]), (0, 0, [(1, 8), (0, 1)]), (10, 22, [(0, 2), (1, 9)]), (0, 0, [(1, 1), (0, -1)]), (17, 4, [(4, 22), (3, 0), (1, 10)])] (by decide +kernel) rfl rfl (by decide) (fun i dl as M' hi _ h => ?_) ?_
    · obtain ⟨rfl, rfl, g1, g2, g3⟩ := h
      obtain rfl : [0, 2, 4] = dl := Option.some.inj hi
      exact (ih (k + (-1)) b M' (by omega) (by omega) g1 (by omega)).mono fun _ M3 q => ⟨q.1, FrM_sub g2 (by decide) q.2.1, by rw [q.2.2, g3]; omega⟩
    · exact d_br (fun (h : k < 0) => absurd h (by omega)) (fun (h : ¬ (k < 0)) => d_ld fun _ => d_br (fun (h2 : 240 ≤ M 22 2) => absurd h2 (by omega)) (fun (h2 : ¬ (240 ≤ M 22 2)) => d_ld fun _ => d_ibg fun _ _ => d_sbx fun _ _ => d_l255 fun w hw => d_log (w := w) rfl hw (d_sa (show 0 ≤ M 22 2 ∧ M 22 2 < ((240 : Nat) : Int) by omega) (d_ld fun _ => d_ibw (w := M 22 2 + 1) (ib0 (x := M 22 2) (y := 1) (by unfold in32; omega)) (d_st (d_ibw (w := k + (-1)) (ib0 (x := k) (y := (-1)) (by unfold in32; omega)) (d_ct ⟨rfl, rfl, okTT_up (okTT_ua (i := (0, 255)) hT rfl hw) (show (0 : Int) ≤ M 22 2 + 1 ∧ M 22 2 + 1 ≤ 240 by omega), FrM_up (FrM_up frm0 (wOf_a (by decide))) (by decide), rfl⟩)))))))
theorem e50 {X : Xs} {n b : Int} {M : Mm} (hn : 1 ≤ n ∧ n ≤ 8) (hT : okTT M) (hL : M 22 2 + n ≤ 240) : Wp X 10 50 0 (eL 0 [vR 0 22, vI n, vL b]) [] M (fun _ M' => okTT M' ∧ FrM sp50_0.2.2.2.1 M M' ∧ M' 22 2 = M 22 2 + n) := by
  refine Wp_ent (cut := cutL [(4, [0, 2, 4])]) (CT := fun i as M' => i = 4 ∧ as = [vR 0 22, vL b, vI (n - 1)] ∧ M' = M) 2 25 [(4, 22), (1, 0), (3, 1)] (us (us (fun _ => 0) 0 n) 1 b) [(0, 1, [(1, 0), (0, 1)]), (17, 4, [(4, 22), (3, 1), (1, 2)])] (by decide +kernel) rfl rfl (by decide) (fun i dl as M' hi _ h => ?_) ?_
  · obtain ⟨rfl, rfl, rfl⟩ := h
    obtain rfl : [0, 2, 4] = dl := Option.some.inj hi
    exact (l50 n.toNat (n - 1) b M' (by omega) (by omega) hT (by omega)).mono fun _ M3 q => ⟨q.1, q.2.1, by rw [q.2.2]; omega⟩
  · exact d_ibw (w := n - 1) (ib1 (x := n) (y := 1) (by unfold in32; omega)) (d_ct ⟨rfl, rfl, rfl⟩)
def qfe (L n : Int) (v : Option V) (same suc : Prop) : Prop := ((n < 1 ∨ 8 < n) ∧ v = some (vI (-100002)) ∧ same) ∨ (¬ (n < 1 ∨ 8 < n) ∧ 240 < L + n ∧ v = some (vI (-100004)) ∧ same) ∨ (¬ (n < 1 ∨ 8 < n) ∧ L + n ≤ 240 ∧ v = some (vI (L + n)) ∧ suc)
theorem qfe_eq {L n : Int} {v w : Option V} {p1 s1 p2 s2 : Prop} (h : qfe L n v p1 s1) (k : qfe L n w p2 s2) : v = w ∧ ((p1 ∧ p2) ∨ (s1 ∧ s2)) := by
  rcases h with ⟨a1, rfl, a3⟩ | ⟨a1, a2, rfl, a3⟩ | ⟨a1, a2, rfl, a3⟩
  all_goals rcases k with ⟨b1, rfl, b3⟩ | ⟨b1, b2, rfl, b3⟩ | ⟨b1, b2, rfl, b3⟩
  all_goals first | exact ⟨rfl, Or.inl ⟨a3, b3⟩⟩ | exact ⟨rfl, Or.inr ⟨a3, b3⟩⟩ | exact absurd a1 b1 | exact absurd b1 a1 | exact absurd a2 (by omega)
theorem px90 {X : Xs} {n b : Int} {M : Mm} (hT : okTT M) : Wp X 30 90 0 (eL 0 [vR 0 0, vI n, vL b]) [] M (fun v M' => okTT M' ∧ FrM sp90_0.2.2.2.1 M M' ∧ qfe (M 22 2) n v (M' = M) (M' 22 2 = M 22 2 + n)) := by
  have bL : 0 ≤ M 22 2 ∧ M 22 2 ≤ 240 := hT 22 2
  unfold qfe
  refine Wp_den 2 30 [(4, 0), (1, 0), (3, 1)] (us (us (fun _ => 0) 0 n) 1 b) [(15, 2, [(1, 0), (0, 1), (0, 1)]), (19, 0, [(0, -100002)]), (15, 4, [(1, 0), (0, 8), (0, 1)]), (19, 0, [(0, -100002)]), (4, 22, [(0, 2)]), (0, 0, [(1, 2), (1, 0)]), (15, 5, [(1, 3), (0, 240), (0, 3)]), (16, 50, [(4, 22), (1, 0), (3, 1)]), (4, 22, [(0, 2)]), (19, 0, [(1, 4)]), (19, 0, [(0, -100004)])] (by decide +kernel) rfl rfl (by decide) ?_
  exact d_br (fun (h : n < 1) => d_r1 ⟨hT, frm0, Or.inl ⟨by omega, rfl, rfl⟩⟩) (fun (h : ¬ (n < 1)) => d_br (fun (h2 : 8 < n) => d_r1 ⟨hT, frm0, Or.inl ⟨by omega, rfl, rfl⟩⟩) (fun (h2 : ¬ (8 < n)) => d_ld fun _ => d_ibw (w := M 22 2 + n) (ib0 (x := M 22 2) (y := n) (by unfold in32; omega)) (d_br (fun (h3 : M 22 2 + n ≤ 240) => d_ca ⟨_, by decide, (e50 (n := n) (b := b) (M := M) (by omega) hT h3).mono fun v3 M3 q3 _ _ _ => d_ld fun _ => d_r1 ⟨q3.1, FrM_sub frm0 (by decide) q3.2.1, Or.inr (Or.inr ⟨by omega, h3, congrArg (fun z => some (vI z)) q3.2.2, q3.2.2⟩)⟩⟩) (fun (h3 : ¬ (M 22 2 + n ≤ 240)) => d_r1 ⟨hT, frm0, Or.inr (Or.inl ⟨by omega, by omega, rfl, rfl⟩)⟩))))
theorem l138 {X : Xs} : ∀ (n : Nat) (k b : Int) (M : Mm), k + 1 = n → -1 ≤ k ∧ k ≤ 7 → okTT M → M 65 14 + (k + 1) ≤ 240 → Wp X 30 138 20 ([0, 2, 4].zip [vR 0 65, vL b, vI k]) [] M (fun v M' => okTT M' ∧ FrM sp138_0.2.2.2.1 M M' ∧ v = some (vI (M 65 14 + (k + 1))) ∧ M' 65 14 = M 65 14 + (k + 1)) := by
  intro n
  induction n with
  | zero =>
    intro k b M hn hk hT hL
    refine Wp_seg (cut := cutL [(20, [0, 2, 4])]) (CT := fun _ _ _ => False) 2 25 [(4, 65), (3, 0), (1, 1)] (us (us (fun _ => 0) 0 b) 1 k) [(15, 2, [(1, 1), (0, 0), (0, 2)]), (4, 65, [(0, 14)]), (19, 0, [(1, 2)]), (4, 65, [(0, 14)]), (0, 2, [(0, 8), (1, 1)]), (2, 1, [(3, 0), (1, 3)]), (1, 3, [(3, 4), (2, 255)]), (3, 0, [(3, 5)]), (11, 75, [(1, 2), (1, 6)]), (4, 65, [(0, 14)]), (0, 0, [(1, 7), (0, 1)]), (10, 65, [(0, 14), (1, 8)]), (0, 0, [(1, 1), (0, -1)]), (17, 20, [(4, 65), (3, 0), (1, 9)])] (by decide +kernel) rfl rfl (by decide) (fun _ _ _ _ _ _ h => h.elim) ?_
    have e : M 65 14 = M 65 14 + (k + 1) := by omega
    exact d_br (fun _ => d_ld fun _ => d_r1 ⟨hT, frm0, congrArg (fun z => some (vI z)) e, e⟩) (fun (h : ¬ (k < 0)) => absurd h (by omega))
  | succ n ih =>
    intro k b M hn hk hT hL
    have bL : 0 ≤ M 65 14 ∧ M 65 14 ≤ 240 := hT 65 14
    refine Wp_seg (cut := cutL [(20, [0, 2, 4])]) (CT := fun i as M' => i = 20 ∧ as = [vR 0 65, vL b, vI (k + (-1))] ∧ okTT M' ∧ FrM sp138_0.2.2.2.1 M M' ∧ M' 65 14 = M 65 14 + 1) 2 25 [(4, 65), (3, 0), (1, 1)] (us (us (fun _ => 0) 0 b) 1 k) [(15, 2, [(1, 1), (0, 0), (0, 2)]), (4, 65, [(0, 14)]), (19, 0, [(1, 2)]), (4, 65, [(0, 14)]), (0, 2, [(0, 8), (1, 1)]), (2, 1, [(3, 0), (1, 3)]), (1, 3, [(3, 4), (2, 255)]), (3, 0, [(3, 5)]), (11, 75, [(1, 2), (1, 6)]), (4, 65, [(0, 14)]), (0, 0, [(1, 7), (0, 1)]), (10, 65, [(0, 14), (1, 8)]), (0, 0, [(1, 1), (0, -1)]), (17, 20, [(4, 65), (3, 0), (1, 9)])] (by decide +kernel) rfl rfl (by decide) (fun i dl as M' hi _ h => ?_) ?_
    · obtain ⟨rfl, rfl, g1, g2, g3⟩ := h
      obtain rfl : [0, 2, 4] = dl := Option.some.inj hi
      have e : M' 65 14 + (k + (-1) + 1) = M 65 14 + (k + 1) := by rw [g3]; omega
      exact (ih (k + (-1)) b M' (by omega) (by omega) g1 (by omega)).mono fun v M3 q => ⟨q.1, FrM_sub g2 (by decide) q.2.1, by rw [q.2.2.1, e], by rw [q.2.2.2, e]⟩
    · exact d_br (fun (h : k < 0) => absurd h (by omega)) (fun (h : ¬ (k < 0)) => d_ld fun _ => d_ibg fun _ _ => d_sbx fun _ _ => d_l255 fun w hw => d_log (w := w) rfl hw (d_sa (show 0 ≤ M 65 14 ∧ M 65 14 < ((240 : Nat) : Int) by omega) (d_ld fun _ => d_ibw (w := M 65 14 + 1) (ib0 (x := M 65 14) (y := 1) (by unfold in32; omega)) (d_st (d_ibw (w := k + (-1)) (ib0 (x := k) (y := (-1)) (by unfold in32; omega)) (d_ct ⟨rfl, rfl, okTT_up (okTT_ua (i := (0, 255)) hT rfl hw) (show (0 : Int) ≤ M 65 14 + 1 ∧ M 65 14 + 1 ≤ 240 by omega), FrM_up (FrM_up frm0 (wOf_a (by decide))) (by decide), rfl⟩))))))
theorem px138 {X : Xs} {n b : Int} {M : Mm} (hT : okTT M) : Wp X 30 138 0 (eL 0 [vR 0 65, vI n, vL b]) [] M (fun v M' => okTT M' ∧ FrM sp138_0.2.2.2.1 M M' ∧ qfe (M 65 14) n v (M' = M) (M' 65 14 = M 65 14 + n)) := by
  have bL : 0 ≤ M 65 14 ∧ M 65 14 ≤ 240 := hT 65 14
  unfold qfe
  refine Wp_ent (cut := cutL [(20, [0, 2, 4])]) (CT := fun i as M' => i = 20 ∧ as = [vR 0 65, vL b, vI (n - 1)] ∧ M' = M ∧ 1 ≤ n ∧ n ≤ 8 ∧ M 65 14 + n ≤ 240) 2 30 [(4, 65), (1, 0), (3, 1)] (us (us (fun _ => 0) 0 n) 1 b) [(15, 2, [(3, 0), (2, 1), (0, 1)]), (19, 0, [(0, -100002)]), (15, 4, [(3, 0), (2, 8), (0, 1)]), (19, 0, [(0, -100002)]), (4, 65, [(0, 14)]), (0, 0, [(1, 2), (1, 0)]), (15, 5, [(1, 3), (0, 240), (0, 2)]), (0, 1, [(1, 0), (0, 1)]), (17, 20, [(4, 65), (3, 1), (1, 4)]), (19, 0, [(0, -100004)])] (by decide +kernel) rfl rfl (by decide) (fun i dl as M' hi _ h => ?_) ?_
  · obtain ⟨rfl, rfl, rfl, g1, g2, g3⟩ := h
    obtain rfl : [0, 2, 4] = dl := Option.some.inj hi
    have e : M' 65 14 + (n - 1 + 1) = M' 65 14 + n := by omega
    exact (l138 n.toNat (n - 1) b M' (by omega) (by omega) hT (by omega)).mono fun v M3 q => ⟨q.1, q.2.1, Or.inr (Or.inr ⟨by omega, g3, by rw [q.2.2.1, e], by rw [q.2.2.2, e]⟩)⟩
  · exact d_br (fun (h : n < 1) => d_r1 ⟨hT, frm0, Or.inl ⟨by omega, rfl, rfl⟩⟩) (fun (h : ¬ (n < 1)) => d_br (fun (h2 : 8 < n) => d_r1 ⟨hT, frm0, Or.inl ⟨by omega, rfl, rfl⟩⟩) (fun (h2 : ¬ (8 < n)) => d_ld fun _ => d_ibw (w := M 65 14 + n) (ib0 (x := M 65 14) (y := n) (by unfold in32; omega)) (d_br (fun (h3 : M 65 14 + n ≤ 240) => d_ibw (w := n - 1) (ib1 (x := n) (y := 1) (by unfold in32; omega)) (d_ct ⟨rfl, rfl, rfl, by omega, by omega, h3⟩)) (fun (h3 : ¬ (M 65 14 + n ≤ 240)) => d_r1 ⟨hT, frm0, Or.inr (Or.inl ⟨by omega, by omega, rfl, rfl⟩)⟩))))
/-! read: what becomes of the text -/
def sp151_1 : Spec := (151, [(2, 65, 0)], [((-100003, -100003), [(65, 21, 1, 20)]), ((-2147483648, 2147483647), [(65, 14, 0, 0)])], [(65, 15), (65, 16), (65, 17), (65, 44), (65, 45), (65, 46), (65, 47), (65, 48), (76, 0), (77, 0), (78, 0), (79, 0)], 70)
def cu151_1 : List Cut := [(15, [0, 1], [(2, 65, 0), (0, 0, 0)], [], [(0, 0, 3), (0, 0, 10)], []),
  (15, [0, 1], [(2, 65, 0), (0, 1, 1)], [], [(0, 0, 3), (0, 0, 9)], []),
  (15, [0, 1], [(2, 65, 0), (0, 2, 2)], [], [(0, 0, 3), (0, 0, 8)], []),
  (15, [0, 1], [(2, 65, 0), (0, 3, 3)], [], [(0, 0, 3), (0, 0, 7)], []),
  (15, [0, 1], [(2, 65, 0), (0, 4, 4)], [], [(0, 0, 3), (0, 0, 6)], []),
  (15, [0, 1], [(2, 65, 0), (0, 5, 5)], [], [(0, 0, 3), (0, 0, 5)], []),
  (15, [0, 1], [(2, 65, 0), (0, 6, 6)], [], [(0, 0, 3), (0, 0, 4)], []),
  (15, [0, 1], [(2, 65, 0), (0, 7, 7)], [], [(0, 0, 3), (0, 0, 3)], []),
  (15, [0, 1], [(2, 65, 0), (0, 8, 8)], [], [(0, 0, 3), (0, 0, 2)], []),
  (39, [0, 3], [(2, 65, 0), (0, 0, 8)], [(65, 14, 0, 0)], [(0, 0, 2), (-1, 1, 160)], []),
  (55, [0, 3], [(2, 65, 0), (0, 0, 160)], [(65, 14, 0, 0)], [(0, 0, 1), (-1, 1, 160)], [])]
theorem os151_1 : okStart H0 [sp143_0, sp150_0, sp150_1, sp150_2, sp150_3, sp150_4, sp150_5, sp150_6, sp150_7, sp150_8] inlF [] [] cu151_1 4000 sp151_1 = true := by decide +kernel
theorem oc151_1 : cu151_1.all (okCut H0 [sp143_0, sp150_0, sp150_1, sp150_2, sp150_3, sp150_4, sp150_5, sp150_6, sp150_7, sp150_8] inlF [] cu151_1 4000 sp151_1) = true := by decide +kernel
theorem ok151_1 (X : Xs) : SpecOK X sp151_1 := sp_sound (sps_cons (ok143_0 X) (sps_cons (ok150_0 X) (sps_cons (ok150_1 X) (sps_cons (ok150_2 X) (sps_cons (ok150_3 X) (sps_cons (ok150_4 X) (sps_cons (ok150_5 X) (sps_cons (ok150_6 X) (sps_cons (ok150_7 X) (sps_cons (ok150_8 X) sps_nil)))))))))) rfl os151_1 (List.all_eq_true.mp oc151_1)
def sp91_1 : Spec := (91, [(2, 0, 0)], [((-100003, -100003), [(27, 14, 1, 20)]), ((-2147483648, 2147483647), [(22, 2, 0, 0)])], [(19, 3), (20, 0), (21, 0), (22, 3), (22, 4), (22, 5), (22, 6), (24, 3), (25, 0), (26, 0)], 70)
theorem os91_1 : okStart H0 [sp51_0] inlF [] [] cu91_0 4000 sp91_1 = true := by decide +kernel
theorem oc91_1 : cu91_0.all (okCut H0 [sp51_0] inlF [] cu91_0 4000 sp91_1) = true := by decide +kernel
theorem ok91_1 (X : Xs) : SpecOK X sp91_1 := sp_sound (sps_cons (ok51_0 X) sps_nil) rfl os91_1 (List.all_eq_true.mp oc91_1)
theorem px91 {X : Xs} {M : Mm} (hT : okTT M) : Wp X 70 91 0 (eL 0 [vR 0 0]) [] M (fun _ M' => okTT M' ∧ FrM sp91_1.2.2.2.1 M M' ∧ ((1 ≤ M 27 14 ∧ M' = M) ∨ (M 27 14 ≤ 0 ∧ M' 22 2 = 0))) := by
  by_cases h : 1 ≤ M 27 14
  · refine Wp_den 0 20 [(4, 0)] (fun _ => 0) [(4, 27, [(0, 14)]), (15, 5, [(1, 0), (0, 0), (0, 12)]), (16, 51, [(4, 22)]), (10, 22, [(0, 2), (0, 0)]), (15, 1, [(1, 1), (0, 0), (0, 6)]), (14, 25, [(4, 20), (0, 0), (0, 0), (0, 9)]), (14, 26, [(4, 21), (0, 0), (0, 0), (0, 180)]), (4, 24, [(0, 2)]), (10, 19, [(0, 2), (1, 2)]), (4, 19, [(0, 2)]), (19, 0, [(1, 3)]), (4, 22, [(0, 4)]), (0, 1, [(0, -10), (1, 2)]), (19, 0, [(1, 3)]), (19, 0, [(0, -100003)])] (by decide +kernel) rfl rfl (by decide) ?_
    exact d_ld fun _ => d_br (fun (hh : M 27 14 ≤ 0) => absurd h (by omega)) (fun _ => d_r1 ⟨hT, frm0, Or.inl ⟨h, rfl⟩⟩)
  · refine (ok91_1 X [vR 0 0] M ⟨rfl, trivial⟩ hT trivial).mono fun v M' q => ⟨q.1, q.2.1, Or.inr ⟨by omega, ?_⟩⟩
    obtain ⟨o, ho, -, h2⟩ := q.2.2.1
    rcases List.mem_cons.mp ho with rfl | ho
    · have e : M' 27 14 = M 27 14 := q.2.1 27 14 (by decide)
      have b : 1 ≤ M' 27 14 ∧ M' 27 14 ≤ 20 := h2 _ List.mem_cons_self
      exact absurd h (by omega)
    · obtain rfl := List.mem_singleton.mp ho
      have b : 0 ≤ M' 22 2 ∧ M' 22 2 ≤ 0 := h2 _ List.mem_cons_self
      omega
theorem px151 {X : Xs} {M : Mm} (hT : okTT M) : Wp X 70 151 0 (eL 0 [vR 0 65]) [] M (fun _ M' => okTT M' ∧ FrM sp151_1.2.2.2.1 M M' ∧ ((1 ≤ M 65 21 ∧ M' = M) ∨ (M 65 21 ≤ 0 ∧ M' 65 14 = 0))) := by
  by_cases h : 1 ≤ M 65 21
  · refine Wp_ent (cut := cutL [(15, [0, 1])]) (CT := fun _ _ _ => False) 0 20 [(4, 65)] (fun _ => 0) [(4, 65, [(0, 21)]), (15, 5, [(1, 0), (0, 0), (0, 3)]), (10, 65, [(0, 15), (0, -1)]), (10, 65, [(0, 43), (0, 0)]), (17, 15, [(4, 65), (0, 0)]), (19, 0, [(0, -100003)])] (by decide +kernel) rfl rfl (by decide) (fun _ _ _ _ _ _ h => h.elim) ?_
    exact d_ld fun _ => d_br (fun (hh : M 65 21 ≤ 0) => absurd h (by omega)) (fun _ => d_r1 ⟨hT, frm0, Or.inl ⟨h, rfl⟩⟩)
  · refine (ok151_1 X [vR 0 65] M ⟨rfl, trivial⟩ hT trivial).mono fun v M' q => ⟨q.1, q.2.1, Or.inr ⟨by omega, ?_⟩⟩
    obtain ⟨o, ho, -, h2⟩ := q.2.2.1
    rcases List.mem_cons.mp ho with rfl | ho
    · have e : M' 65 21 = M 65 21 := q.2.1 65 21 (by decide)
      have b : 1 ≤ M' 65 21 ∧ M' 65 21 ≤ 20 := h2 _ List.mem_cons_self
      exact absurd h (by omega)
    · obtain rfl := List.mem_singleton.mp ho
      have b : 0 ≤ M' 65 14 ∧ M' 65 14 ≤ 0 := h2 _ List.mem_cons_self
      omega
end
section
/-! ranks: the last that was told on or before a day -/
def rkX (M : Mm) (p day : Int) : Nat → Int
  | 0 => M 4 p.toNat
  | n + 1 => if M 9 n = p ∧ M 11 n ≤ day then M 10 n else rkX M p day n
def bsX (M : Mm) (p day : Int) : Nat → Int
  | 0 => -1
  | n + 1 => if M 73 (3 * n) = p ∧ M 73 (3 * n + 1) ≤ day then (n : Int) else bsX M p day n
def reX (M : Mm) (p : Int) (b : Int) : Int := if b < 0 then M 68 p.toNat else M 73 (3 * b.toNat + 2)
theorem bsX_b (M : Mm) (p day : Int) : ∀ n : Nat, -1 ≤ bsX M p day n ∧ bsX M p day n < n := by
  intro n
  induction n with
  | zero => exact ⟨Int.le_refl _, by show (-1 : Int) < 0; omega⟩
  | succ n ih =>
    show -1 ≤ (if M 73 (3 * n) = p ∧ M 73 (3 * n + 1) ≤ day then (n : Int) else bsX M p day n) ∧ (if M 73 (3 * n) = p ∧ M 73 (3 * n + 1) ≤ day then (n : Int) else bsX M p day n) < ((n + 1 : Nat) : Int)
    split <;> omega
theorem ib2 {x y : Int} (h : in32 (x * y)) : ib 2 x y = x * y := by
  show (Int32.ofInt x * Int32.ofInt y).toInt = x * y
  rw [← Int32.ofInt_mul]
  exact i32_to h
theorem l74 {X : Xs} : ∀ (n : Nat) (p day i : Int) (M : Mm), i + 1 = n → n ≤ 60 → 0 ≤ p ∧ p ≤ 29 → Wp X 10 74 5 ([0, 1, 2, 3].zip [vR 0 1, vI p, vI day, vI i]) [] M (fun v M' => M' = M ∧ v = some (vI (rkX M p day n))) := by
  intro n
  induction n with
  | zero =>
    intro p day i M hi hn hp
    refine Wp_seg (cut := cutL [(5, [0, 1, 2, 3])]) (CT := fun _ _ _ => False) 3 20 [(4, 1), (1, 0), (1, 1), (1, 2)] (us (us (us (fun _ => 0) 0 p) 1 day) 2 i) [(15, 2, [(1, 2), (0, 0), (0, 2)]), (5, 4, [(1, 0)]), (19, 0, [(1, 3)]), (5, 9, [(1, 2)]), (15, 1, [(1, 3), (1, 0), (0, 2)]), (0, 0, [(1, 2), (0, -1)]), (17, 5, [(4, 1), (1, 0), (1, 1), (1, 4)]), (5, 11, [(1, 2)]), (15, 4, [(1, 4), (1, 1), (0, 2)]), (0, 0, [(1, 2), (0, -1)]), (17, 5, [(4, 1), (1, 0), (1, 1), (1, 5)]), (5, 10, [(1, 2)]), (19, 0, [(1, 5)])] (by decide +kernel) rfl rfl (by decide) (fun _ _ _ _ _ _ h => h.elim) ?_
    exact d_br (fun _ => d_la (show 0 ≤ p ∧ p < ((30 : Nat) : Int) by omega) fun _ => d_r1 ⟨rfl, rfl⟩) (fun (h : ¬ (i < 0)) => absurd h (by omega))
  | succ n ih =>
    intro p day i M hi hn hp
    obtain rfl : i = (n : Int) := by omega
    have ix : 0 ≤ (n : Int) ∧ (n : Int) < ((60 : Nat) : Int) := by omega
    have e1 : ib 0 (n : Int) (-1) = (n : Int) + (-1) := ib0 (by unfold in32; omega)
    refine Wp_seg (cut := cutL [(5, [0, 1, 2, 3])]) (CT := fun i' as M' => i' = 5 ∧ as = [vR 0 1, vI p, vI day, vI ((n : Int) + (-1))] ∧ M' = M ∧ ¬ (M 9 n = p ∧ M 11 n ≤ day)) 3 20 [(4, 1), (1, 0), (1, 1), (1, 2)] (us (us (us (fun _ => 0) 0 p) 1 day) 2 (n : Int)) [(15, 2, [(1, 2), (0, 0), (0, 2)]), (5, 4, [(1, 0)]), (19, 0, [(1, 3)]), (5, 9, [(1, 2)]), (15, 1, [(1, 3), (1, 0), (0, 2)]), (0, 0, [(1, 2), (0, -1)]), (17, 5, [(4, 1), (1, 0), (1, 1), (1, 4)]), (5, 11, [(1, 2)]), (15, 4, [(1, 4), (1, 1), (0, 2)]), (0, 0, [(1, 2), (0, -1)]), (17, 5, [(4, 1), (1, 0), (1, 1), (1, 5)]), (5, 10, [(1, 2)]), (19, 0, [(1, 5)])] (by decide +kernel) rfl rfl (by decide) (fun i' dl as M' hi' _ h => ?_) ?_
    · obtain ⟨rfl, rfl, rfl, hc⟩ := h
      obtain rfl : [0, 1, 2, 3] = dl := Option.some.inj hi'
      refine (ih p day ((n : Int) + (-1)) M' (by omega) (by omega) hp).mono fun v M2 q => ⟨q.1, ?_⟩
      rw [q.2]
      show _ = some (vI (if M' 9 n = p ∧ M' 11 n ≤ day then M' 10 n else rkX M' p day n))
      rw [if_neg hc]
    · refine d_br (fun (h : (n : Int) < 0) => absurd h (by omega)) fun _ => d_la ix fun _ => d_br (fun (h1 : M 9 n ≠ p) => d_ibw e1 (d_ct ⟨rfl, rfl, rfl, fun q => h1 q.1⟩)) fun (h1 : ¬ (M 9 n ≠ p)) => d_la ix fun _ => d_br (fun (h2 : day < M 11 n) => d_ibw e1 (d_ct ⟨rfl, rfl, rfl, fun q => by omega⟩)) fun (h2 : ¬ (day < M 11 n)) => d_la ix fun _ => d_r1 ⟨rfl, ?_⟩
      show _ = some (vI (if M 9 n = p ∧ M 11 n ≤ day then M 10 n else rkX M p day n))
      rw [if_pos ⟨by omega, by omega⟩]
      rfl
theorem e74 {X : Xs} {p day : Int} {M : Mm} (hT : okTT M) (hp : 0 ≤ p ∧ p ≤ 29) : Wp X 10 74 0 (eL 0 [vR 0 1, vI p, vI day]) [] M (fun v M' => M' = M ∧ v = some (vI (rkX M p day (M 1 11).toNat))) := by
  have b : 0 ≤ M 1 11 ∧ M 1 11 ≤ 60 := hT 1 11
  refine Wp_ent (cut := cutL [(5, [0, 1, 2, 3])]) (CT := fun i as M' => i = 5 ∧ as = [vR 0 1, vI p, vI day, vI (M 1 11 - 1)] ∧ M' = M) 2 20 [(4, 1), (1, 0), (1, 1)] (us (us (fun _ => 0) 0 p) 1 day) [(4, 1, [(0, 11)]), (0, 1, [(1, 2), (0, 1)]), (17, 5, [(4, 1), (1, 0), (1, 1), (1, 3)])] (by decide +kernel) rfl rfl (by decide) (fun i dl as M' hi _ h => ?_) ?_
  · obtain ⟨rfl, rfl, rfl⟩ := h
    obtain rfl : [0, 1, 2, 3] = dl := Option.some.inj hi
    exact l74 (M' 1 11).toNat p day (M' 1 11 - 1) M' (by omega) (by omega) hp
  · exact d_ld fun _ => d_ibw (w := M 1 11 - 1) (ib1 (x := M 1 11) (y := 1) (by unfold in32; omega)) (d_ct ⟨rfl, rfl, rfl⟩)
theorem l126 {X : Xs} {p day : Int} {M : Mm} {c : Nat} (hp : 0 ≤ p ∧ p ≤ 29) (hc : M 65 9 = c) (hc2 : c ≤ 60) (hm : ∀ l k : Nat, l ≤ k → k < c → M 73 (3 * l + 1) ≤ M 73 (3 * k + 1)) : ∀ (m n : Nat), m + n = c → Wp X 20 126 4 ([0, 1, 2, 3, 4].zip [vR 0 65, vI p, vI day, vI (bsX M p day n), vI n]) [] M (fun v M' => M' = M ∧ v = some (vI (reX M p (bsX M p day c)))) := by
  intro m
  induction m with
  | zero =>
    intro n hn
    obtain rfl : n = c := by omega
    have bb := bsX_b M p day n
    generalize bsX M p day n = b at bb
    refine Wp_seg (cut := cutL [(4, [0, 1, 2, 3, 4])]) (CT := fun _ _ _ => False) 4 50 [(4, 65), (1, 0), (1, 1), (1, 2), (1, 3)] (us (us (us (us (fun _ => 0) 0 p) 1 day) 2 b) 3 n) [(4, 65, [(0, 9)]), (15, 3, [(1, 3), (1, 4), (0, 7)]), (15, 3, [(1, 2), (0, 0), (0, 4)]), (0, 2, [(0, 3), (1, 2)]), (0, 0, [(1, 5), (0, 2)]), (5, 73, [(1, 6)]), (19, 0, [(1, 7)]), (5, 68, [(1, 0)]), (19, 0, [(1, 5)]), (0, 2, [(0, 3), (1, 3)]), (5, 73, [(1, 5)]), (15, 1, [(1, 6), (1, 0), (0, 2)]), (0, 0, [(1, 3), (0, 1)]), (17, 4, [(4, 65), (1, 0), (1, 1), (1, 2), (1, 7)]), (0, 2, [(0, 3), (1, 3)]), (0, 0, [(1, 7), (0, 1)]), (5, 73, [(1, 8)]), (15, 4, [(1, 9), (1, 1), (0, 2)]), (0, 0, [(1, 3), (0, 1)]), (17, 4, [(4, 65), (1, 0), (1, 1), (1, 2), (1, 10)]), (15, 2, [(1, 2), (0, 0), (0, 2)]), (0, 0, [(1, 3), (0, 1)]), (17, 4, [(4, 65), (1, 0), (1, 1), (1, 3), (1, 10)]), (0, 2, [(0, 3), (1, 3)]), (0, 0, [(1, 10), (0, 1)]), (5, 73, [(1, 11)]), (0, 2, [(0, 3), (1, 2)]), (0, 0, [(1, 13), (0, 1)]), (5, 73, [(1, 14)]), (15, 2, [(1, 12), (1, 15), (0, 2)]), (0, 0, [(1, 3), (0, 1)]), (17, 4, [(4, 65), (1, 0), (1, 1), (1, 2), (1, 16)]), (0, 0, [(1, 3), (0, 1)]), (17, 4, [(4, 65), (1, 0), (1, 1), (1, 3), (1, 16)])] (by decide +kernel) rfl rfl (by decide) (fun _ _ _ _ _ _ h => h.elim) ?_
    refine d_ld fun _ => d_br (fun _ => ?_) (fun (h : ¬ (M 65 9 ≤ (n : Int))) => absurd h (by omega))
    refine d_br (fun (h : 0 ≤ b) => ?_) (fun (h : ¬ (0 ≤ b)) => d_la (show 0 ≤ p ∧ p < ((30 : Nat) : Int) by omega) fun _ => d_r1 ⟨rfl, ?_⟩)
    · have e2 : ib 2 3 b = 3 * b := ib2 (by unfold in32; omega)
      refine d_ibw e2 (d_ibw (w := 3 * b + 2) (ib0 (x := 3 * b) (y := 2) (by unfold in32; omega)) (d_la (show 0 ≤ 3 * b + 2 ∧ 3 * b + 2 < ((180 : Nat) : Int) by omega) fun _ => d_r1 ⟨rfl, ?_⟩))
      have e : (3 * b + 2).toNat = 3 * b.toNat + 2 := by omega
      show some (vI (M 73 (3 * b + 2).toNat)) = some (vI (if b < 0 then M 68 p.toNat else M 73 (3 * b.toNat + 2)))
      rw [if_neg (by omega), e]
    · show some (vI (M 68 p.toNat)) = some (vI (if b < 0 then M 68 p.toNat else M 73 (3 * b.toNat + 2)))
      rw [if_pos (by omega)]
  | succ m ih =>
    intro n hn
    have bb := bsX_b M p day n
    have e3 : ib 2 3 (n : Int) = 3 * (n : Int) := ib2 (by unfold in32; omega)
    have e4 : ib 0 (3 * (n : Int)) 1 = 3 * (n : Int) + 1 := ib0 (by unfold in32; omega)
    have e5 : ib 0 (n : Int) 1 = ((n + 1 : Nat) : Int) := ib0 (by unfold in32; omega)
    have x0 : 0 ≤ 3 * (n : Int) ∧ 3 * (n : Int) < ((180 : Nat) : Int) := by omega
    have x1 : 0 ≤ 3 * (n : Int) + 1 ∧ 3 * (n : Int) + 1 < ((180 : Nat) : Int) := by omega
    have t0 : (3 * (n : Int)).toNat = 3 * n := by omega
    have t1 : (3 * (n : Int) + 1).toNat = 3 * n + 1 := by omega
    have go : ∀ z : Int, z = bsX M p day (n + 1) → Wp X 20 126 4 ([0, 1, 2, 3, 4].zip [vR 0 65, vI p, vI day, vI z, vI ((n + 1 : Nat) : Int)]) [] M (fun v M' => M' = M ∧ v = some (vI (reX M p (bsX M p day c)))) := fun z hz => by
      rw [hz]
      exact ih (n + 1) (by omega)
    have es : bsX M p day (n + 1) = if M 73 (3 * n) = p ∧ M 73 (3 * n + 1) ≤ day then (n : Int) else bsX M p day n := rfl
    generalize bsX M p day n = b at bb es
    refine Wp_seg (cut := cutL [(4, [0, 1, 2, 3, 4])]) (CT := fun i' as M' => i' = 4 ∧ M' = M ∧ ∃ z, as = [vR 0 65, vI p, vI day, vI z, vI ((n + 1 : Nat) : Int)] ∧ z = bsX M p day (n + 1)) 4 50 [(4, 65), (1, 0), (1, 1), (1, 2), (1, 3)] (us (us (us (us (fun _ => 0) 0 p) 1 day) 2 b) 3 n) [(4, 65, [(0, 9)]), (15, 3, [(1, 3), (1, 4), (0, 7)]), (15, 3, [(1, 2), (0, 0), (0, 4)]), (0, 2, [(0, 3), (1, 2)]), (0, 0, [(1, 5), (0, 2)]), (5, 73, [(1, 6)]), (19, 0, [(1, 7)]), (5, 68, [(1, 0)]), (19, 0, [(1, 5)]), (0, 2, [(0, 3), (1, 3)]), (5, 73, [(1, 5)]), (15, 1, [(1, 6), (1, 0), (0, 2)]), (0, 0, [(1, 3), (0, 1)]), (17, 4, [(4, 65), (1, 0), (1, 1), (1, 2), (1, 7)]), (0, 2, [(0, 3), (1, 3)]), (0, 0, [(1, 7), (0, 1)]), (5, 73, [(1, 8)]), (15, 4, [(1, 9), (1, 1), (0, 2)]), (0, 0, [(1, 3), (0, 1)]), (17, 4, [(4, 65), (1, 0), (1, 1), (1, 2), (1, 10)]), (15, 2, [(1, 2), (0, 0), (0, 2)]), (0, 0, [(1, 3), (0, 1)]), (17, 4, [(4, 65), (1, 0), (1, 1), (1, 3), (1, 10)]), (0, 2, [(0, 3), (1, 3)]), (0, 0, [(1, 10), (0, 1)]), (5, 73, [(1, 11)]), (0, 2, [(0, 3), (1, 2)]), (0, 0, [(1, 13), (0, 1)]), (5, 73, [(1, 14)]), (15, 2, [(1, 12), (1, 15), (0, 2)]), (0, 0, [(1, 3), (0, 1)]), (17, 4, [(4, 65), (1, 0), (1, 1), (1, 2), (1, 16)]), (0, 0, [(1, 3), (0, 1)]), (17, 4, [(4, 65), (1, 0), (1, 1), (1, 3), (1, 16)])] (by decide +kernel) rfl rfl (by decide) (fun i' dl as M' hi' _ h => ?_) ?_
    · obtain ⟨rfl, rfl, z, rfl, hz⟩ := h
      obtain rfl : [0, 1, 2, 3, 4] = dl := Option.some.inj hi'
      exact go z hz
    · refine d_ld fun _ => d_br (fun (h : M 65 9 ≤ (n : Int)) => absurd h (by omega)) fun _ => d_ibw e3 (d_la x0 fun _ => d_br (fun (h1 : M 73 (3 * (n : Int)).toNat ≠ p) => ?_) fun (h1 : ¬ (M 73 (3 * (n : Int)).toNat ≠ p)) => d_ibw e3 (d_ibw e4 (d_la x1 fun _ => d_br (fun (h2 : day < M 73 (3 * (n : Int) + 1).toNat) => ?_) fun (h2 : ¬ (day < M 73 (3 * (n : Int) + 1).toNat)) => d_br (fun (h3 : b < 0) => ?_) fun (h3 : ¬ (b < 0)) => ?_)))
      · rw [t0] at h1
        exact d_ibw e5 (d_ct ⟨rfl, rfl, b, rfl, by rw [es, if_neg (fun q => h1 q.1)]⟩)
      · rw [t1] at h2
        exact d_ibw e5 (d_ct ⟨rfl, rfl, b, rfl, by rw [es, if_neg (fun q => by omega)]⟩)
      · rw [t0] at h1
        rw [t1] at h2
        exact d_ibw e5 (d_ct ⟨rfl, rfl, (n : Int), rfl, by rw [es, if_pos ⟨by omega, by omega⟩]⟩)
      · rw [t0] at h1
        rw [t1] at h2
        have e6 : ib 2 3 b = 3 * b := ib2 (by unfold in32; omega)
        have mo := hm b.toNat n (by omega) (by omega)
        have t2 : (3 * b + 1).toNat = 3 * b.toNat + 1 := by omega
        refine d_ibw e3 (d_ibw e4 (d_la x1 fun _ => d_ibw e6 (d_ibw (w := 3 * b + 1) (ib0 (x := 3 * b) (y := 1) (by unfold in32; omega)) (d_la (show 0 ≤ 3 * b + 1 ∧ 3 * b + 1 < ((180 : Nat) : Int) by omega) fun _ => d_br (fun (h4 : M 73 (3 * (n : Int) + 1).toNat < M 73 (3 * b + 1).toNat) => ?_) fun _ => ?_))))
        · rw [t1, t2] at h4
          exact absurd h4 (by omega)
        · exact d_ibw e5 (d_ct ⟨rfl, rfl, (n : Int), rfl, by rw [es, if_pos ⟨by omega, by omega⟩]⟩)
theorem e126 {X : Xs} {p day : Int} {M : Mm} (hT : okTT M) (hp : 0 ≤ p ∧ p ≤ 29) (hm : ∀ l k : Nat, l ≤ k → (k : Int) < M 65 9 → M 73 (3 * l + 1) ≤ M 73 (3 * k + 1)) : Wp X 20 126 0 (eL 0 [vR 0 65, vI p, vI day]) [] M (fun v M' => M' = M ∧ v = some (vI (reX M p (bsX M p day (M 65 9).toNat)))) := by
  have b : 0 ≤ M 65 9 ∧ M 65 9 ≤ 60 := hT 65 9
  refine Wp_ent (cut := cutL [(4, [0, 1, 2, 3, 4])]) (CT := fun i as M' => i = 4 ∧ as = [vR 0 65, vI p, vI day, vI (-1), vI 0] ∧ M' = M) 2 20 [(4, 65), (1, 0), (1, 1)] (us (us (fun _ => 0) 0 p) 1 day) [(17, 4, [(4, 65), (1, 0), (1, 1), (0, -1), (0, 0)])] (by decide +kernel) rfl rfl (by decide) (fun i dl as M' hi _ h => ?_) ?_
  · obtain ⟨rfl, rfl, rfl⟩ := h
    obtain rfl : [0, 1, 2, 3, 4] = dl := Option.some.inj hi
    exact l126 (c := (M' 65 9).toNat) hp (by omega) (by omega) (fun l k h1 h2 => hm l k h1 (by omega)) (M' 65 9).toNat 0 (by omega)
  · exact d_ct ⟨rfl, rfl, rfl⟩
/-- both tell the same -/
theorem rk_bs {M M1 : Mm} {p day : Int} {c : Nat} (h4 : ∀ i : Nat, M 4 i = M1 68 i) (hk : ∀ k : Nat, k < c → M 9 k = M1 73 (3 * k) ∧ M 11 k = M1 73 (3 * k + 1) ∧ M 10 k = M1 73 (3 * k + 2)) : ∀ n : Nat, n ≤ c → rkX M p day n = reX M1 p (bsX M1 p day n) := by
  intro n
  induction n with
  | zero =>
    intro _
    show M 4 p.toNat = if (-1 : Int) < 0 then M1 68 p.toNat else _
    rw [if_pos (by decide)]
    exact h4 _
  | succ n ih =>
    intro hn
    obtain ⟨k1, k2, k3⟩ := hk n (by omega)
    show (if M 9 n = p ∧ M 11 n ≤ day then M 10 n else rkX M p day n) = reX M1 p (if M1 73 (3 * n) = p ∧ M1 73 (3 * n + 1) ≤ day then (n : Int) else bsX M1 p day n)
    rw [k1, k2, k3]
    by_cases q : M1 73 (3 * n) = p ∧ M1 73 (3 * n + 1) ≤ day
    · rw [if_pos q, if_pos q]
      show _ = if (n : Int) < 0 then _ else M1 73 (3 * (n : Int).toNat + 2)
      rw [if_neg (by omega)]
      rfl
    · rw [if_neg q, if_neg q]
      exact ih (by omega)
def qrk (S R p b x : Int) (v : Option V) (same suc : Prop) : Prop := ((p < 0 ∨ S ≤ p) ∧ v = some (vI (-100001)) ∧ same) ∨ (¬ (p < 0 ∨ S ≤ p) ∧ (b < 0 ∨ 3 < b) ∧ v = some (vI (-100002)) ∧ same) ∨ (¬ (p < 0 ∨ S ≤ p) ∧ ¬ (b < 0 ∨ 3 < b) ∧ 60 ≤ R ∧ v = some (vI (-100004)) ∧ same) ∨ (¬ (p < 0 ∨ S ≤ p) ∧ ¬ (b < 0 ∨ 3 < b) ∧ R < 60 ∧ v = some (vI x) ∧ suc)
theorem qrk_eq {S R p b x : Int} {v u : Option V} {p1 s1 p2 s2 : Prop} (h : qrk S R p b x v p1 s1) (g : qrk S R p b x u p2 s2) : v = u ∧ ((p1 ∧ p2) ∨ (s1 ∧ s2)) := by
  unfold qrk at h g
  rcases h with ⟨a1, rfl, a3⟩ | ⟨a1, a2, rfl, a3⟩ | ⟨a1, a2, a4, rfl, a3⟩ | ⟨a1, a2, a4, rfl, a3⟩
  all_goals rcases g with ⟨b1, rfl, b3⟩ | ⟨b1, b2, rfl, b3⟩ | ⟨b1, b2, b4, rfl, b3⟩ | ⟨b1, b2, b4, rfl, b3⟩
  all_goals first | exact ⟨rfl, Or.inl ⟨a3, b3⟩⟩ | exact ⟨rfl, Or.inr ⟨a3, b3⟩⟩ | exact absurd a1 b1 | exact absurd b1 a1 | exact absurd a2 b2 | exact absurd b2 a2 | exact absurd a4 (by omega)
theorem rbv74 : rb 74 = 1 := by decide +kernel
theorem rbv126 : rb 126 = 1 := by decide +kernel
set_option maxHeartbeats 4000000 in
theorem px83 {X : Xs} {M : Mm} {p b : Int} (hT : okTT M) : Wp X 30 83 0 (eL 0 [vR 0 0, vI p, vI b]) [] M (fun v M' => okTT M' ∧ FrM sp83_0.2.2.2.1 M M' ∧ qrk (M 1 10) (M 1 11) p b (rkX M p (M 0 10) (M 1 11).toNat) v (M' = M) (M' 1 11 = M 1 11 + 1 ∧ (∀ i : Nat, M' 9 i = if i = (M 1 11).toNat then p else M 9 i) ∧ (∀ i : Nat, M' 10 i = if i = (M 1 11).toNat then b else M 10 i) ∧ (∀ i : Nat, M' 11 i = if i = (M 1 11).toNat then M 0 10 else M 11 i))) := by
  have bS : 0 ≤ M 1 10 ∧ M 1 10 ≤ 30 := hT 1 10
  have bN : 0 ≤ M 0 10 ∧ M 0 10 ≤ 9000 := hT 0 10
  have bR : 0 ≤ M 1 11 ∧ M 1 11 ≤ 60 := hT 1 11
  unfold qrk
  refine Wp_den 2 33 [(4, 0), (1, 0), (1, 1)] (us (us (fun _ => 0) 0 p) 1 b) [(15, 2, [(1, 0), (0, 0), (0, 1)]), (19, 0, [(0, -100001)]), (4, 1, [(0, 10)]), (15, 3, [(1, 0), (1, 2), (0, 1)]), (19, 0, [(0, -100001)]), (15, 2, [(1, 1), (0, 0), (0, 1)]), (19, 0, [(0, -100002)]), (15, 4, [(1, 1), (0, 3), (0, 1)]), (19, 0, [(0, -100002)]), (4, 1, [(0, 11)]), (15, 2, [(1, 3), (0, 60), (0, 16)]), (4, 0, [(0, 10)]), (16, 74, [(4, 1), (1, 0), (1, 4)]), (4, 0, [(0, 10)]), (4, 1, [(0, 11)]), (15, 2, [(1, 7), (0, 60), (0, 10)]), (4, 1, [(0, 11)]), (11, 9, [(1, 8), (1, 0)]), (4, 1, [(0, 11)]), (11, 10, [(1, 9), (1, 1)]), (4, 1, [(0, 11)]), (11, 11, [(1, 10), (1, 6)]), (4, 1, [(0, 11)]), (0, 0, [(1, 11), (0, 1)]), (10, 1, [(0, 11), (1, 12)]), (19, 0, [(1, 5)]), (19, 0, [(1, 5)]), (19, 0, [(0, -100004)])] (by decide +kernel) rfl rfl (by decide) ?_
  exact d_br (fun (h1 : p < 0) => d_r1 (⟨hT, frm0, Or.inl ⟨by omega, rfl, rfl⟩⟩)) (fun (h1 : ¬ (p < 0)) => d_ld fun _ => d_br (fun (h2 : (M 1 10) ≤ p) => d_r1 (⟨hT, frm0, Or.inl ⟨by omega, rfl, rfl⟩⟩)) (fun (h2 : ¬ ((M 1 10) ≤ p)) => d_br (fun (h3 : b < 0) => d_r1 (⟨hT, frm0, Or.inr (Or.inl ⟨by omega, by omega, rfl, rfl⟩)⟩)) (fun (h3 : ¬ (b < 0)) => d_br (fun (h4 : 3 < b) => d_r1 (⟨hT, frm0, Or.inr (Or.inl ⟨by omega, by omega, rfl, rfl⟩)⟩)) (fun (h4 : ¬ (3 < b)) => d_ld fun _ => d_br (fun (h5 : (M 1 11) < 60) => d_ld fun _ => d_ca ⟨_, by decide, (e74 (p := p) (day := M 0 10) hT (by omega)).mono fun v3 M3 q3 _ _ _ => (by
    obtain ⟨e1, rfl⟩ := q3
    rw [e1, rbv74]
    exact d_ld fun _ => d_ld fun _ => d_br (fun _ => d_ld fun _ => d_sa (show 0 ≤ (M 1 11) ∧ (M 1 11) < ((60 : Nat) : Int) by omega) (d_ld fun _ => d_sa (show 0 ≤ (M 1 11) ∧ (M 1 11) < ((60 : Nat) : Int) by omega) (d_ld fun _ => d_sa (show 0 ≤ (M 1 11) ∧ (M 1 11) < ((60 : Nat) : Int) by omega) (d_ld fun _ => d_ibw (w := (M 1 11) + 1) (ib0 (x := (M 1 11)) (y := 1) (by unfold in32; omega)) (d_st (d_r1 (⟨(okTT_up (okTT_ua (i := (0, 9000)) (okTT_ua (i := (0, 3)) (okTT_ua (i := (0, 29)) hT rfl (show (0 : Int) ≤ p ∧ p ≤ (29 : Int) by omega)) rfl (show (0 : Int) ≤ b ∧ b ≤ (3 : Int) by omega)) rfl (show (0 : Int) ≤ (M 0 10) ∧ (M 0 10) ≤ (9000 : Int) by omega)) (show (0 : Int) ≤ ((M 1 11) + 1) ∧ ((M 1 11) + 1) ≤ (60 : Int) by omega)), (FrM_up (FrM_up (FrM_up (FrM_up frm0 (wOf_a (by decide))) (wOf_a (by decide))) (wOf_a (by decide))) (by decide)), Or.inr (Or.inr (Or.inr ⟨by omega, by omega, by omega, rfl, rfl, fun i => (show up M 9 (M 1 11).toNat p 9 i = _ from up_eq), fun i => (show up M 10 (M 1 11).toNat b 10 i = _ from up_eq), fun i => (show up M 11 (M 1 11).toNat (M 0 10) 11 i = _ from up_eq)⟩))⟩))))))) (fun hh => absurd h5 hh))⟩) (fun (h5 : ¬ ((M 1 11) < 60)) => d_r1 (⟨hT, frm0, Or.inr (Or.inr (Or.inl ⟨by omega, by omega, by omega, rfl, rfl⟩))⟩))))))
theorem tiv73 {s c : Nat} (h : s % 3 = c) : tiv 73 s = ([(-2147483648, 2147483647), (-2147483648, 2147483647), (0, 3)] : List Iv).getD c I64 := by
  unfold tiv
  show ([(-2147483648, 2147483647), (-2147483648, 2147483647), (0, 3)] : List Iv).getD (s % 3) I64 = _
  rw [h]
theorem up3 {M : Mm} {a i : Nat} {R x y z : Int} (hR : 0 ≤ R) : up (up (up M a (3 * R).toNat x) a (3 * R + 1).toNat y) a (3 * R + 2).toNat z a i = if i = 3 * R.toNat then x else if i = 3 * R.toNat + 1 then y else if i = 3 * R.toNat + 2 then z else M a i := by
  rw [up_eq, up_eq, up_eq, show (3 * R).toNat = 3 * R.toNat by omega, show (3 * R + 1).toNat = 3 * R.toNat + 1 by omega, show (3 * R + 2).toNat = 3 * R.toNat + 2 by omega]
  by_cases h0 : i = 3 * R.toNat
  · rw [if_neg (by omega), if_neg (by omega), if_pos h0, if_pos h0]
  by_cases h1 : i = 3 * R.toNat + 1
  · rw [if_neg (by omega), if_pos h1, if_neg h0, if_pos h1]
  by_cases h2 : i = 3 * R.toNat + 2
  · rw [if_pos h2, if_neg h0, if_neg h1, if_pos h2]
  · rw [if_neg h2, if_neg h1, if_neg h0, if_neg h0, if_neg h1, if_neg h2]
set_option maxHeartbeats 4000000 in
theorem px127 {X : Xs} {M : Mm} {p b : Int} (hT : okTT M) (hm : ∀ l k : Nat, l ≤ k → (k : Int) < M 65 9 → M 73 (3 * l + 1) ≤ M 73 (3 * k + 1)) : Wp X 30 127 0 (eL 0 [vR 0 65, vI p, vI b]) [] M (fun v M' => okTT M' ∧ FrM sp127_0.2.2.2.1 M M' ∧ qrk (M 65 1) (M 65 9) p b (reX M p (bsX M p (M 65 0) (M 65 9).toNat)) v (M' = M) (M' 65 9 = M 65 9 + 1 ∧ (∀ i : Nat, M' 73 i = if i = 3 * (M 65 9).toNat then p else if i = 3 * (M 65 9).toNat + 1 then M 65 0 else if i = 3 * (M 65 9).toNat + 2 then b else M 73 i))) := by
  have bS : 0 ≤ M 65 1 ∧ M 65 1 ≤ 30 := hT 65 1
  have bN : 0 ≤ M 65 0 ∧ M 65 0 ≤ 9000 := hT 65 0
  have bR : 0 ≤ M 65 9 ∧ M 65 9 ≤ 60 := hT 65 9
  unfold qrk
  refine Wp_den 2 36 [(4, 65), (1, 0), (1, 1)] (us (us (fun _ => 0) 0 p) 1 b) [(4, 65, [(0, 1)]), (0, 1, [(1, 2), (0, 1)]), (15, 2, [(3, 0), (2, 0), (0, 1)]), (19, 0, [(0, -100001)]), (15, 4, [(3, 0), (3, 3), (0, 1)]), (19, 0, [(0, -100001)]), (15, 2, [(3, 1), (2, 0), (0, 1)]), (19, 0, [(0, -100002)]), (15, 4, [(3, 1), (2, 3), (0, 1)]), (19, 0, [(0, -100002)]), (4, 65, [(0, 9)]), (15, 1, [(1, 4), (0, 60), (0, 18)]), (4, 65, [(0, 0)]), (16, 126, [(4, 65), (1, 0), (1, 5)]), (4, 65, [(0, 9)]), (0, 2, [(0, 3), (1, 7)]), (11, 73, [(1, 8), (1, 0)]), (4, 65, [(0, 9)]), (0, 2, [(0, 3), (1, 9)]), (0, 0, [(1, 10), (0, 1)]), (4, 65, [(0, 0)]), (11, 73, [(1, 11), (1, 12)]), (4, 65, [(0, 9)]), (0, 2, [(0, 3), (1, 13)]), (0, 0, [(1, 14), (0, 2)]), (11, 73, [(1, 15), (1, 1)]), (4, 65, [(0, 9)]), (0, 0, [(1, 16), (0, 1)]), (10, 65, [(0, 9), (1, 17)]), (19, 0, [(1, 6)]), (19, 0, [(0, -100004)])] (by decide +kernel) rfl rfl (by decide) ?_
  exact d_ld fun _ => d_ibw (w := (M 65 1) - 1) (ib1 (x := (M 65 1)) (y := 1) (by unfold in32; omega)) (d_br (fun (h1 : p < 0) => d_r1 (⟨hT, frm0, Or.inl ⟨by omega, rfl, rfl⟩⟩)) (fun (h1 : ¬ (p < 0)) => d_br (fun (h2 : ((M 65 1) - 1) < p) => d_r1 (⟨hT, frm0, Or.inl ⟨by omega, rfl, rfl⟩⟩)) (fun (h2 : ¬ (((M 65 1) - 1) < p)) => d_br (fun (h3 : b < 0) => d_r1 (⟨hT, frm0, Or.inr (Or.inl ⟨by omega, by omega, rfl, rfl⟩)⟩)) (fun (h3 : ¬ (b < 0)) => d_br (fun (h4 : 3 < b) => d_r1 (⟨hT, frm0, Or.inr (Or.inl ⟨by omega, by omega, rfl, rfl⟩)⟩)) (fun (h4 : ¬ (3 < b)) => d_ld fun _ => d_br (fun (h5 : (M 65 9) ≠ 60) => d_ld fun _ => d_ca ⟨_, by decide, (e126 (p := p) (day := M 65 0) hT (by omega) hm).mono fun v3 M3 q3 _ _ _ => (by
    obtain ⟨e1, rfl⟩ := q3
    rw [e1, rbv126]
    exact d_ld fun _ => d_ibw (w := 3 * (M 65 9)) (ib2 (x := 3) (y := (M 65 9)) (by unfold in32; omega)) (d_sa (show 0 ≤ (3 * (M 65 9)) ∧ (3 * (M 65 9)) < ((180 : Nat) : Int) by omega) (d_ld fun _ => d_ibw (w := 3 * (M 65 9)) (ib2 (x := 3) (y := (M 65 9)) (by unfold in32; omega)) (d_ibw (w := (3 * (M 65 9)) + 1) (ib0 (x := (3 * (M 65 9))) (y := 1) (by unfold in32; omega)) (d_ld fun _ => d_sa (show 0 ≤ ((3 * (M 65 9)) + 1) ∧ ((3 * (M 65 9)) + 1) < ((180 : Nat) : Int) by omega) (d_ld fun _ => d_ibw (w := 3 * (M 65 9)) (ib2 (x := 3) (y := (M 65 9)) (by unfold in32; omega)) (d_ibw (w := (3 * (M 65 9)) + 2) (ib0 (x := (3 * (M 65 9))) (y := 2) (by unfold in32; omega)) (d_sa (show 0 ≤ ((3 * (M 65 9)) + 2) ∧ ((3 * (M 65 9)) + 2) < ((180 : Nat) : Int) by omega) (d_ld fun _ => d_ibw (w := (M 65 9) + 1) (ib0 (x := (M 65 9)) (y := 1) (by unfold in32; omega)) (d_st (d_r1 (⟨(okTT_up (okTT_up (okTT_up (okTT_up hT (show (tiv 73 ((3 * (M 65 9))).toNat).1 ≤ p ∧ p ≤ (tiv 73 ((3 * (M 65 9))).toNat).2 by rw [tiv73 (s := ((3 * (M 65 9))).toNat) (c := 0) (by omega)]; exact (show (-2147483648 : Int) ≤ p ∧ p ≤ (2147483647 : Int) by omega))) (show (tiv 73 (((3 * (M 65 9)) + 1)).toNat).1 ≤ (M 65 0) ∧ (M 65 0) ≤ (tiv 73 (((3 * (M 65 9)) + 1)).toNat).2 by rw [tiv73 (s := (((3 * (M 65 9)) + 1)).toNat) (c := 1) (by omega)]; exact (show (-2147483648 : Int) ≤ (M 65 0) ∧ (M 65 0) ≤ (2147483647 : Int) by omega))) (show (tiv 73 (((3 * (M 65 9)) + 2)).toNat).1 ≤ b ∧ b ≤ (tiv 73 (((3 * (M 65 9)) + 2)).toNat).2 by rw [tiv73 (s := (((3 * (M 65 9)) + 2)).toNat) (c := 2) (by omega)]; exact (show (0 : Int) ≤ b ∧ b ≤ (3 : Int) by omega))) (show (0 : Int) ≤ ((M 65 9) + 1) ∧ ((M 65 9) + 1) ≤ (60 : Int) by omega)), (FrM_up (FrM_up (FrM_up (FrM_up frm0 (wOf_a (by decide))) (wOf_a (by decide))) (wOf_a (by decide))) (by decide)), Or.inr (Or.inr (Or.inr ⟨by omega, by omega, by omega, rfl, rfl, fun i => (show up (up (up M 73 (3 * M 65 9).toNat p) 73 (3 * M 65 9 + 1).toNat (M 65 0)) 73 (3 * M 65 9 + 2).toNat b 73 i = _ from up3 bR.1)⟩))⟩))))))))))))⟩) (fun (h5 : ¬ ((M 65 9) ≠ 60)) => d_r1 (⟨hT, frm0, Or.inr (Or.inr (Or.inl ⟨by omega, by omega, by omega, rfl, rfl⟩))⟩)))))))
def tld (S N p d k x0 x1 x2 x3 x4 x5 x6 : Int) : Int := if p < 0 ∨ S ≤ p then -100001 else if d < 0 ∨ N < d then -100002 else if k = 0 then x0 else if k = 1 then x1 else if k = 2 then x2 else if k = 3 then x3 else if k = 4 then x4 else if k = 5 then x5 else if k = 6 then x6 else -100002
set_option maxHeartbeats 4000000 in
theorem px88 {X : Xs} {M : Mm} {p d k : Int} (hT : okTT M) : Wp X 30 88 0 (eL 0 [vR 0 0, vI p, vI d, vI k]) [] M (fun v M' => M' = M ∧ v = some (vI (tld (M 1 10) (M 0 10) p d k (M 2 p.toNat) (M 3 p.toNat) (rkX M p d (M 1 11).toNat) (M 5 p.toNat) (M 6 p.toNat) (M 7 p.toNat) (M 8 p.toNat)))) := by
  have bS : 0 ≤ M 1 10 ∧ M 1 10 ≤ 30 := hT 1 10
  have bN : 0 ≤ M 0 10 ∧ M 0 10 ≤ 9000 := hT 0 10
  refine Wp_den 3 37 [(4, 0), (1, 0), (1, 1), (1, 2)] (us (us (us (fun _ => 0) 0 p) 1 d) 2 k) [(15, 2, [(1, 0), (0, 0), (0, 1)]), (19, 0, [(0, -100001)]), (4, 1, [(0, 10)]), (15, 3, [(1, 0), (1, 3), (0, 1)]), (19, 0, [(0, -100001)]), (4, 0, [(0, 10)]), (15, 2, [(1, 1), (0, 0), (0, 1)]), (19, 0, [(0, -100002)]), (15, 4, [(1, 1), (1, 4), (0, 1)]), (19, 0, [(0, -100002)]), (15, 0, [(1, 2), (0, 0), (0, 2)]), (5, 2, [(1, 0)]), (19, 0, [(1, 5)]), (15, 0, [(1, 2), (0, 1), (0, 2)]), (5, 3, [(1, 0)]), (19, 0, [(1, 5)]), (15, 0, [(1, 2), (0, 2), (0, 2)]), (16, 74, [(4, 1), (1, 0), (1, 1)]), (19, 0, [(1, 5)]), (15, 0, [(1, 2), (0, 3), (0, 2)]), (5, 5, [(1, 0)]), (19, 0, [(1, 5)]), (15, 0, [(1, 2), (0, 4), (0, 2)]), (5, 6, [(1, 0)]), (19, 0, [(1, 5)]), (15, 0, [(1, 2), (0, 5), (0, 2)]), (5, 7, [(1, 0)]), (19, 0, [(1, 5)]), (15, 0, [(1, 2), (0, 6), (0, 2)]), (5, 8, [(1, 0)]), (19, 0, [(1, 5)]), (19, 0, [(0, -100002)])] (by decide +kernel) rfl rfl (by decide) ?_
  exact d_br (fun (h1 : p < 0) => d_r1 (⟨rfl, congrArg (fun z => some (vI z)) (show ((-100001) : Int) = _ by unfold tld; rw [if_pos (by omega)])⟩)) (fun (h1 : ¬ (p < 0)) => d_ld fun _ => d_br (fun (h2 : (M 1 10) ≤ p) => d_r1 (⟨rfl, congrArg (fun z => some (vI z)) (show ((-100001) : Int) = _ by unfold tld; rw [if_pos (by omega)])⟩)) (fun (h2 : ¬ ((M 1 10) ≤ p)) => d_ld fun _ => d_br (fun (h3 : d < 0) => d_r1 (⟨rfl, congrArg (fun z => some (vI z)) (show ((-100002) : Int) = _ by unfold tld; rw [if_neg (by omega), if_pos (by omega)])⟩)) (fun (h3 : ¬ (d < 0)) => d_br (fun (h4 : (M 0 10) < d) => d_r1 (⟨rfl, congrArg (fun z => some (vI z)) (show ((-100002) : Int) = _ by unfold tld; rw [if_neg (by omega), if_pos (by omega)])⟩)) (fun (h4 : ¬ ((M 0 10) < d)) => d_br (fun (h5 : k = 0) => d_la (show 0 ≤ p ∧ p < ((30 : Nat) : Int) by omega) fun _ => d_r1 (⟨rfl, congrArg (fun z => some (vI z)) (show ((M 2 (p).toNat) : Int) = _ by unfold tld; rw [if_neg (by omega), if_neg (by omega), if_pos (by omega)])⟩)) (fun (h5 : ¬ (k = 0)) => d_br (fun (h6 : k = 1) => d_la (show 0 ≤ p ∧ p < ((30 : Nat) : Int) by omega) fun _ => d_r1 (⟨rfl, congrArg (fun z => some (vI z)) (show ((M 3 (p).toNat) : Int) = _ by unfold tld; rw [if_neg (by omega), if_neg (by omega), if_neg (by omega), if_pos (by omega)])⟩)) (fun (h6 : ¬ (k = 1)) => d_br (fun (h7 : k = 2) => d_ca ⟨_, by decide, (e74 (p := p) (day := d) hT (by omega)).mono fun v3 M3 q3 _ _ _ => (by
    obtain ⟨e1, rfl⟩ := q3
    rw [e1, rbv74]
    exact d_r1 (⟨rfl, congrArg (fun z => some (vI z)) (show ((rkX M p d (M 1 11).toNat) : Int) = _ by unfold tld; rw [if_neg (by omega), if_neg (by omega), if_neg (by omega), if_neg (by omega), if_pos (by omega)])⟩))⟩) (fun (h7 : ¬ (k = 2)) => d_br (fun (h8 : k = 3) => d_la (show 0 ≤ p ∧ p < ((30 : Nat) : Int) by omega) fun _ => d_r1 (⟨rfl, congrArg (fun z => some (vI z)) (show ((M 5 (p).toNat) : Int) = _ by unfold tld; rw [if_neg (by omega), if_neg (by omega), if_neg (by omega), if_neg (by omega), if_neg (by omega), if_pos (by omega)])⟩)) (fun (h8 : ¬ (k = 3)) => d_br (fun (h9 : k = 4) => d_la (show 0 ≤ p ∧ p < ((30 : Nat) : Int) by omega) fun _ => d_r1 (⟨rfl, congrArg (fun z => some (vI z)) (show ((M 6 (p).toNat) : Int) = _ by unfold tld; rw [if_neg (by omega), if_neg (by omega), if_neg (by omega), if_neg (by omega), if_neg (by omega), if_neg (by omega), if_pos (by omega)])⟩)) (fun (h9 : ¬ (k = 4)) => d_br (fun (h10 : k = 5) => d_la (show 0 ≤ p ∧ p < ((30 : Nat) : Int) by omega) fun _ => d_r1 (⟨rfl, congrArg (fun z => some (vI z)) (show ((M 7 (p).toNat) : Int) = _ by unfold tld; rw [if_neg (by omega), if_neg (by omega), if_neg (by omega), if_neg (by omega), if_neg (by omega), if_neg (by omega), if_neg (by omega), if_pos (by omega)])⟩)) (fun (h10 : ¬ (k = 5)) => d_br (fun (h11 : k = 6) => d_la (show 0 ≤ p ∧ p < ((30 : Nat) : Int) by omega) fun _ => d_r1 (⟨rfl, congrArg (fun z => some (vI z)) (show ((M 8 (p).toNat) : Int) = _ by unfold tld; rw [if_neg (by omega), if_neg (by omega), if_neg (by omega), if_neg (by omega), if_neg (by omega), if_neg (by omega), if_neg (by omega), if_neg (by omega), if_pos (by omega)])⟩)) (fun (h11 : ¬ (k = 6)) => d_r1 (⟨rfl, congrArg (fun z => some (vI z)) (show ((-100002) : Int) = _ by unfold tld; rw [if_neg (by omega), if_neg (by omega), if_neg (by omega), if_neg (by omega), if_neg (by omega), if_neg (by omega), if_neg (by omega), if_neg (by omega), if_neg (by omega)])⟩))))))))))))
set_option maxHeartbeats 4000000 in
theorem px134 {X : Xs} {M : Mm} {p d k : Int} (hT : okTT M) (hm : ∀ l k : Nat, l ≤ k → (k : Int) < M 65 9 → M 73 (3 * l + 1) ≤ M 73 (3 * k + 1)) : Wp X 30 134 0 (eL 0 [vR 0 65, vI p, vI d, vI k]) [] M (fun v M' => M' = M ∧ v = some (vI (tld (M 65 1) (M 65 0) p d k (M 66 p.toNat) (M 67 p.toNat) (reX M p (bsX M p d (M 65 9).toNat)) (M 69 p.toNat) (M 70 p.toNat) (M 71 p.toNat) (M 72 p.toNat)))) := by
  have bS : 0 ≤ M 65 1 ∧ M 65 1 ≤ 30 := hT 65 1
  have bN : 0 ≤ M 65 0 ∧ M 65 0 ≤ 9000 := hT 65 0
  refine Wp_den 3 38 [(4, 65), (1, 0), (1, 1), (1, 2)] (us (us (us (fun _ => 0) 0 p) 1 d) 2 k) [(4, 65, [(0, 1)]), (0, 1, [(1, 3), (0, 1)]), (15, 2, [(3, 0), (2, 0), (0, 1)]), (19, 0, [(0, -100001)]), (15, 4, [(3, 0), (3, 4), (0, 1)]), (19, 0, [(0, -100001)]), (4, 65, [(0, 0)]), (15, 2, [(3, 1), (2, 0), (0, 1)]), (19, 0, [(0, -100002)]), (15, 4, [(3, 1), (3, 5), (0, 1)]), (19, 0, [(0, -100002)]), (15, 0, [(1, 2), (0, 0), (0, 2)]), (5, 66, [(1, 0)]), (19, 0, [(1, 6)]), (15, 0, [(1, 2), (0, 1), (0, 2)]), (5, 67, [(1, 0)]), (19, 0, [(1, 6)]), (15, 0, [(1, 2), (0, 2), (0, 2)]), (16, 126, [(4, 65), (1, 0), (1, 1)]), (19, 0, [(1, 6)]), (15, 0, [(1, 2), (0, 3), (0, 2)]), (5, 69, [(1, 0)]), (19, 0, [(1, 6)]), (15, 0, [(1, 2), (0, 4), (0, 2)]), (5, 70, [(1, 0)]), (19, 0, [(1, 6)]), (15, 0, [(1, 2), (0, 5), (0, 2)]), (5, 71, [(1, 0)]), (19, 0, [(1, 6)]), (15, 0, [(1, 2), (0, 6), (0, 2)]), (5, 72, [(1, 0)]), (19, 0, [(1, 6)]), (19, 0, [(0, -100002)])] (by decide +kernel) rfl rfl (by decide) ?_
  exact d_ld fun _ => d_ibw (w := (M 65 1) - 1) (ib1 (x := (M 65 1)) (y := 1) (by unfold in32; omega)) (d_br (fun (h1 : p < 0) => d_r1 (⟨rfl, congrArg (fun z => some (vI z)) (show ((-100001) : Int) = _ by unfold tld; rw [if_pos (by omega)])⟩)) (fun (h1 : ¬ (p < 0)) => d_br (fun (h2 : ((M 65 1) - 1) < p) => d_r1 (⟨rfl, congrArg (fun z => some (vI z)) (show ((-100001) : Int) = _ by unfold tld; rw [if_pos (by omega)])⟩)) (fun (h2 : ¬ (((M 65 1) - 1) < p)) => d_ld fun _ => d_br (fun (h3 : d < 0) => d_r1 (⟨rfl, congrArg (fun z => some (vI z)) (show ((-100002) : Int) = _ by unfold tld; rw [if_neg (by omega), if_pos (by omega)])⟩)) (fun (h3 : ¬ (d < 0)) => d_br (fun (h4 : (M 65 0) < d) => d_r1 (⟨rfl, congrArg (fun z => some (vI z)) (show ((-100002) : Int) = _ by unfold tld; rw [if_neg (by omega), if_pos (by omega)])⟩)) (fun (h4 : ¬ ((M 65 0) < d)) => d_br (fun (h5 : k = 0) => d_la (show 0 ≤ p ∧ p < ((30 : Nat) : Int) by omega) fun _ => d_r1 (⟨rfl, congrArg (fun z => some (vI z)) (show ((M 66 (p).toNat) : Int) = _ by unfold tld; rw [if_neg (by omega), if_neg (by omega), if_pos (by omega)])⟩)) (fun (h5 : ¬ (k = 0)) => d_br (fun (h6 : k = 1) => d_la (show 0 ≤ p ∧ p < ((30 : Nat) : Int) by omega) fun _ => d_r1 (⟨rfl, congrArg (fun z => some (vI z)) (show ((M 67 (p).toNat) : Int) = _ by unfold tld; rw [if_neg (by omega), if_neg (by omega), if_neg (by omega), if_pos (by omega)])⟩)) (fun (h6 : ¬ (k = 1)) => d_br (fun (h7 : k = 2) => d_ca ⟨_, by decide, (e126 (p := p) (day := d) hT (by omega) hm).mono fun v3 M3 q3 _ _ _ => (by
    obtain ⟨e1, rfl⟩ := q3
    rw [e1, rbv126]
    exact d_r1 (⟨rfl, congrArg (fun z => some (vI z)) (show ((reX M p (bsX M p d (M 65 9).toNat)) : Int) = _ by unfold tld; rw [if_neg (by omega), if_neg (by omega), if_neg (by omega), if_neg (by omega), if_pos (by omega)])⟩))⟩) (fun (h7 : ¬ (k = 2)) => d_br (fun (h8 : k = 3) => d_la (show 0 ≤ p ∧ p < ((30 : Nat) : Int) by omega) fun _ => d_r1 (⟨rfl, congrArg (fun z => some (vI z)) (show ((M 69 (p).toNat) : Int) = _ by unfold tld; rw [if_neg (by omega), if_neg (by omega), if_neg (by omega), if_neg (by omega), if_neg (by omega), if_pos (by omega)])⟩)) (fun (h8 : ¬ (k = 3)) => d_br (fun (h9 : k = 4) => d_la (show 0 ≤ p ∧ p < ((30 : Nat) : Int) by omega) fun _ => d_r1 (⟨rfl, congrArg (fun z => some (vI z)) (show ((M 70 (p).toNat) : Int) = _ by unfold tld; rw [if_neg (by omega), if_neg (by omega), if_neg (by omega), if_neg (by omega), if_neg (by omega), if_neg (by omega), if_pos (by omega)])⟩)) (fun (h9 : ¬ (k = 4)) => d_br (fun (h10 : k = 5) => d_la (show 0 ≤ p ∧ p < ((30 : Nat) : Int) by omega) fun _ => d_r1 (⟨rfl, congrArg (fun z => some (vI z)) (show ((M 71 (p).toNat) : Int) = _ by unfold tld; rw [if_neg (by omega), if_neg (by omega), if_neg (by omega), if_neg (by omega), if_neg (by omega), if_neg (by omega), if_neg (by omega), if_pos (by omega)])⟩)) (fun (h10 : ¬ (k = 5)) => d_br (fun (h11 : k = 6) => d_la (show 0 ≤ p ∧ p < ((30 : Nat) : Int) by omega) fun _ => d_r1 (⟨rfl, congrArg (fun z => some (vI z)) (show ((M 72 (p).toNat) : Int) = _ by unfold tld; rw [if_neg (by omega), if_neg (by omega), if_neg (by omega), if_neg (by omega), if_neg (by omega), if_neg (by omega), if_neg (by omega), if_neg (by omega), if_pos (by omega)])⟩)) (fun (h11 : ¬ (k = 6)) => d_r1 (⟨rfl, congrArg (fun z => some (vI z)) (show ((-100002) : Int) = _ by unfold tld; rw [if_neg (by omega), if_neg (by omega), if_neg (by omega), if_neg (by omega), if_neg (by omega), if_neg (by omega), if_neg (by omega), if_neg (by omega), if_neg (by omega)])⟩)))))))))))))
end
