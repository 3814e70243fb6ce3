section
-- ===== PART A: goes FIRST, ahead of the names: the tables' words, and 'selects' of the private methods out of them =====
/-- a private method of a class that the tables say can be made, by its rows of tables_1 -/
def lw_okq (q : MethodName × Nat) : Prop := (q.1.cls ≠ "java/lang/invoke/MethodHandle" ∧ q.1.cls ≠ "java/lang/invoke/VarHandle") ∧ Cond.instantiable q.1.cls q.2 ∈ tables_1 ∧ Cond.privateMethod q.1 ∈ tables_1 ∧ Cond.instanceMethod q.1 ∈ tables_1
theorem lw_p0 : lw_okq (⟨"ChoiceParser$TextReader", "take", "(C)Z"⟩, 4) := ⟨⟨by decide +kernel, by decide +kernel⟩, List.mem_of_getElem? (i := 48) (by decide +kernel), List.mem_of_getElem? (i := 294) (by decide +kernel), List.mem_of_getElem? (i := 295) (by decide +kernel)⟩
theorem lw_p1 : lw_okq (⟨"ChoiceParser$TextReader", "readChoice", "(I)LChoiceParser$Node;"⟩, 4) := ⟨⟨by decide +kernel, by decide +kernel⟩, List.mem_of_getElem? (i := 48) (by decide +kernel), List.mem_of_getElem? (i := 298) (by decide +kernel), List.mem_of_getElem? (i := 299) (by decide +kernel)⟩
theorem lw_p2 : lw_okq (⟨"ChoiceParser$TextReader", "readRow", "(I)LChoiceParser$Node;"⟩, 4) := ⟨⟨by decide +kernel, by decide +kernel⟩, List.mem_of_getElem? (i := 48) (by decide +kernel), List.mem_of_getElem? (i := 302) (by decide +kernel), List.mem_of_getElem? (i := 303) (by decide +kernel)⟩
theorem lw_p3 : lw_okq (⟨"ChoiceParser$TextReader", "readPart", "(I)LChoiceParser$Node;"⟩, 4) := ⟨⟨by decide +kernel, by decide +kernel⟩, List.mem_of_getElem? (i := 48) (by decide +kernel), List.mem_of_getElem? (i := 306) (by decide +kernel), List.mem_of_getElem? (i := 307) (by decide +kernel)⟩
theorem lw_p4 : lw_okq (⟨"ChoiceParser$TextReader", "readUnit", "(I)LChoiceParser$Node;"⟩, 4) := ⟨⟨by decide +kernel, by decide +kernel⟩, List.mem_of_getElem? (i := 48) (by decide +kernel), List.mem_of_getElem? (i := 313) (by decide +kernel), List.mem_of_getElem? (i := 314) (by decide +kernel)⟩
theorem lw_p5 : lw_okq (⟨"ChoiceParser$TextReader", "readRange", "()LChoiceParser$Node;"⟩, 4) := ⟨⟨by decide +kernel, by decide +kernel⟩, List.mem_of_getElem? (i := 48) (by decide +kernel), List.mem_of_getElem? (i := 317) (by decide +kernel), List.mem_of_getElem? (i := 318) (by decide +kernel)⟩
theorem lw_p6 : lw_okq (⟨"ChoiceParser$TextReader", "readGroup", "(I)LChoiceParser$Node;"⟩, 4) := ⟨⟨by decide +kernel, by decide +kernel⟩, List.mem_of_getElem? (i := 48) (by decide +kernel), List.mem_of_getElem? (i := 371) (by decide +kernel), List.mem_of_getElem? (i := 372) (by decide +kernel)⟩
theorem lw_p7 : lw_okq (⟨"ChoiceParser$Grammar", "examine", "()I"⟩, 2) := ⟨⟨by decide +kernel, by decide +kernel⟩, List.mem_of_getElem? (i := 82) (by decide +kernel), List.mem_of_getElem? (i := 404) (by decide +kernel), List.mem_of_getElem? (i := 405) (by decide +kernel)⟩
theorem lw_p8 : lw_okq (⟨"ChoiceParser$Grammar", "lowestMissing", "()I"⟩, 2) := ⟨⟨by decide +kernel, by decide +kernel⟩, List.mem_of_getElem? (i := 82) (by decide +kernel), List.mem_of_getElem? (i := 412) (by decide +kernel), List.mem_of_getElem? (i := 413) (by decide +kernel)⟩
theorem lw_p9 : lw_okq (⟨"ChoiceParser$Grammar", "forgetFindings", "()V"⟩, 2) := ⟨⟨by decide +kernel, by decide +kernel⟩, List.mem_of_getElem? (i := 82) (by decide +kernel), List.mem_of_getElem? (i := 420) (by decide +kernel), List.mem_of_getElem? (i := 421) (by decide +kernel)⟩
theorem lw_p10 : lw_okq (⟨"ChoiceParser$Grammar", "findOutcomes", "()V"⟩, 2) := ⟨⟨by decide +kernel, by decide +kernel⟩, List.mem_of_getElem? (i := 82) (by decide +kernel), List.mem_of_getElem? (i := 428) (by decide +kernel), List.mem_of_getElem? (i := 429) (by decide +kernel)⟩
theorem lw_p11 : lw_okq (⟨"ChoiceParser$Grammar", "findOutcomesIn", "(LChoiceParser$Expression;)Z"⟩, 2) := ⟨⟨by decide +kernel, by decide +kernel⟩, List.mem_of_getElem? (i := 82) (by decide +kernel), List.mem_of_getElem? (i := 432) (by decide +kernel), List.mem_of_getElem? (i := 433) (by decide +kernel)⟩
theorem lw_p12 : lw_okq (⟨"ChoiceParser$Grammar", "outcomesOf", "(LChoiceParser$Node;)I"⟩, 2) := ⟨⟨by decide +kernel, by decide +kernel⟩, List.mem_of_getElem? (i := 82) (by decide +kernel), List.mem_of_getElem? (i := 440) (by decide +kernel), List.mem_of_getElem? (i := 441) (by decide +kernel)⟩
theorem lw_p13 : lw_okq (⟨"ChoiceParser$Grammar", "findGood", "()V"⟩, 2) := ⟨⟨by decide +kernel, by decide +kernel⟩, List.mem_of_getElem? (i := 82) (by decide +kernel), List.mem_of_getElem? (i := 463) (by decide +kernel), List.mem_of_getElem? (i := 464) (by decide +kernel)⟩
theorem lw_p14 : lw_okq (⟨"ChoiceParser$Grammar", "findGoodIn", "(LChoiceParser$Expression;)Z"⟩, 2) := ⟨⟨by decide +kernel, by decide +kernel⟩, List.mem_of_getElem? (i := 82) (by decide +kernel), List.mem_of_getElem? (i := 467) (by decide +kernel), List.mem_of_getElem? (i := 468) (by decide +kernel)⟩
theorem lw_p15 : lw_okq (⟨"ChoiceParser$Grammar", "isGood", "(LChoiceParser$Node;)Z"⟩, 2) := ⟨⟨by decide +kernel, by decide +kernel⟩, List.mem_of_getElem? (i := 82) (by decide +kernel), List.mem_of_getElem? (i := 475) (by decide +kernel), List.mem_of_getElem? (i := 476) (by decide +kernel)⟩
def lw_privs_1 : List (MethodName × Nat) := [(⟨"ChoiceParser$TextReader", "take", "(C)Z"⟩, 4), (⟨"ChoiceParser$TextReader", "readChoice", "(I)LChoiceParser$Node;"⟩, 4), (⟨"ChoiceParser$TextReader", "readRow", "(I)LChoiceParser$Node;"⟩, 4), (⟨"ChoiceParser$TextReader", "readPart", "(I)LChoiceParser$Node;"⟩, 4), (⟨"ChoiceParser$TextReader", "readUnit", "(I)LChoiceParser$Node;"⟩, 4), (⟨"ChoiceParser$TextReader", "readRange", "()LChoiceParser$Node;"⟩, 4), (⟨"ChoiceParser$TextReader", "readGroup", "(I)LChoiceParser$Node;"⟩, 4), (⟨"ChoiceParser$Grammar", "examine", "()I"⟩, 2), (⟨"ChoiceParser$Grammar", "lowestMissing", "()I"⟩, 2), (⟨"ChoiceParser$Grammar", "forgetFindings", "()V"⟩, 2), (⟨"ChoiceParser$Grammar", "findOutcomes", "()V"⟩, 2), (⟨"ChoiceParser$Grammar", "findOutcomesIn", "(LChoiceParser$Expression;)Z"⟩, 2), (⟨"ChoiceParser$Grammar", "outcomesOf", "(LChoiceParser$Node;)I"⟩, 2), (⟨"ChoiceParser$Grammar", "findGood", "()V"⟩, 2), (⟨"ChoiceParser$Grammar", "findGoodIn", "(LChoiceParser$Expression;)Z"⟩, 2), (⟨"ChoiceParser$Grammar", "isGood", "(LChoiceParser$Node;)Z"⟩, 2)]
theorem lw_r1 : ∀ q ∈ lw_privs_1, lw_okq q := List.forall_mem_cons.mpr ⟨lw_p0, List.forall_mem_cons.mpr ⟨lw_p1, List.forall_mem_cons.mpr ⟨lw_p2, List.forall_mem_cons.mpr ⟨lw_p3, List.forall_mem_cons.mpr ⟨lw_p4, List.forall_mem_cons.mpr ⟨lw_p5, List.forall_mem_cons.mpr ⟨lw_p6, List.forall_mem_cons.mpr ⟨lw_p7, List.forall_mem_cons.mpr ⟨lw_p8, List.forall_mem_cons.mpr ⟨lw_p9, List.forall_mem_cons.mpr ⟨lw_p10, List.forall_mem_cons.mpr ⟨lw_p11, List.forall_mem_cons.mpr ⟨lw_p12, List.forall_mem_cons.mpr ⟨lw_p13, List.forall_mem_cons.mpr ⟨lw_p14, List.forall_mem_cons.mpr ⟨lw_p15, fun _ h => absurd h List.not_mem_nil⟩⟩⟩⟩⟩⟩⟩⟩⟩⟩⟩⟩⟩⟩⟩⟩
theorem lw_p16 : lw_okq (⟨"ChoiceParser$Grammar", "lowestNotGood", "()I"⟩, 2) := ⟨⟨by decide +kernel, by decide +kernel⟩, List.mem_of_getElem? (i := 82) (by decide +kernel), List.mem_of_getElem? (i := 485) (by decide +kernel), List.mem_of_getElem? (i := 486) (by decide +kernel)⟩
theorem lw_p17 : lw_okq (⟨"java/lang/Throwable", "fillInStackTrace", "(I)Ljava/lang/Throwable;"⟩, 6) := ⟨⟨by decide +kernel, by decide +kernel⟩, List.mem_of_getElem? (i := 567) (by decide +kernel), List.mem_of_getElem? (i := 565) (by decide +kernel), List.mem_of_getElem? (i := 566) (by decide +kernel)⟩
theorem lw_p18 : lw_okq (⟨"ChoiceParser", "isPlace", "(I)Z"⟩, 7) := ⟨⟨by decide +kernel, by decide +kernel⟩, List.mem_of_getElem? (i := 26) (by decide +kernel), List.mem_of_getElem? (i := 663) (by decide +kernel), List.mem_of_getElem? (i := 664) (by decide +kernel)⟩
theorem lw_p19 : lw_okq (⟨"ChoiceParser$Matcher", "workOut", "(IIII)I"⟩, 5) := ⟨⟨by decide +kernel, by decide +kernel⟩, List.mem_of_getElem? (i := 118) (by decide +kernel), List.mem_of_getElem? (i := 684) (by decide +kernel), List.mem_of_getElem? (i := 685) (by decide +kernel)⟩
theorem lw_p20 : lw_okq (⟨"ChoiceParser$Matcher", "go", "(LChoiceParser$Node;III)I"⟩, 5) := ⟨⟨by decide +kernel, by decide +kernel⟩, List.mem_of_getElem? (i := 118) (by decide +kernel), List.mem_of_getElem? (i := 696) (by decide +kernel), List.mem_of_getElem? (i := 697) (by decide +kernel)⟩
theorem lw_p21 : lw_okq (⟨"ChoiceParser$Matcher", "goLetter", "(LChoiceParser$Node;I)I"⟩, 5) := ⟨⟨by decide +kernel, by decide +kernel⟩, List.mem_of_getElem? (i := 118) (by decide +kernel), List.mem_of_getElem? (i := 700) (by decide +kernel), List.mem_of_getElem? (i := 701) (by decide +kernel)⟩
theorem lw_p22 : lw_okq (⟨"ChoiceParser$Matcher", "goRule", "(IIII)I"⟩, 5) := ⟨⟨by decide +kernel, by decide +kernel⟩, List.mem_of_getElem? (i := 118) (by decide +kernel), List.mem_of_getElem? (i := 705) (by decide +kernel), List.mem_of_getElem? (i := 706) (by decide +kernel)⟩
theorem lw_p23 : lw_okq (⟨"ChoiceParser$Matcher", "goRow", "(LChoiceParser$Node;III)I"⟩, 5) := ⟨⟨by decide +kernel, by decide +kernel⟩, List.mem_of_getElem? (i := 118) (by decide +kernel), List.mem_of_getElem? (i := 714) (by decide +kernel), List.mem_of_getElem? (i := 715) (by decide +kernel)⟩
theorem lw_p24 : lw_okq (⟨"ChoiceParser$Matcher", "goChoice", "(LChoiceParser$Node;III)I"⟩, 5) := ⟨⟨by decide +kernel, by decide +kernel⟩, List.mem_of_getElem? (i := 118) (by decide +kernel), List.mem_of_getElem? (i := 718) (by decide +kernel), List.mem_of_getElem? (i := 719) (by decide +kernel)⟩
theorem lw_p25 : lw_okq (⟨"ChoiceParser$Matcher", "goRepeated", "(LChoiceParser$Node;III)I"⟩, 5) := ⟨⟨by decide +kernel, by decide +kernel⟩, List.mem_of_getElem? (i := 118) (by decide +kernel), List.mem_of_getElem? (i := 726) (by decide +kernel), List.mem_of_getElem? (i := 727) (by decide +kernel)⟩
theorem lw_p26 : lw_okq (⟨"ChoiceParser$Tree", "set", "(ILChoiceParser$Memory;II)V"⟩, 2) := ⟨⟨by decide +kernel, by decide +kernel⟩, List.mem_of_getElem? (i := 140) (by decide +kernel), List.mem_of_getElem? (i := 739) (by decide +kernel), List.mem_of_getElem? (i := 740) (by decide +kernel)⟩
theorem lw_p27 : lw_okq (⟨"ChoiceParser$Tree", "putBelow", "(ILChoiceParser$Memory;)V"⟩, 2) := ⟨⟨by decide +kernel, by decide +kernel⟩, List.mem_of_getElem? (i := 140) (by decide +kernel), List.mem_of_getElem? (i := 744) (by decide +kernel), List.mem_of_getElem? (i := 745) (by decide +kernel)⟩
theorem lw_p28 : lw_okq (⟨"ChoiceParser$Tree", "makeRoom", "(II)V"⟩, 2) := ⟨⟨by decide +kernel, by decide +kernel⟩, List.mem_of_getElem? (i := 140) (by decide +kernel), List.mem_of_getElem? (i := 759) (by decide +kernel), List.mem_of_getElem? (i := 760) (by decide +kernel)⟩
theorem lw_p29 : lw_okq (⟨"ChoiceParserModel", "forget", "()V"⟩, 43) := ⟨⟨by decide +kernel, by decide +kernel⟩, List.mem_of_getElem? (i := 822) (by decide +kernel), List.mem_of_getElem? (i := 828) (by decide +kernel), List.mem_of_getElem? (i := 829) (by decide +kernel)⟩
theorem lw_p30 : lw_okq (⟨"ChoiceParserModel", "read", "()I"⟩, 43) := ⟨⟨by decide +kernel, by decide +kernel⟩, List.mem_of_getElem? (i := 822) (by decide +kernel), List.mem_of_getElem? (i := 981) (by decide +kernel), List.mem_of_getElem? (i := 982) (by decide +kernel)⟩
theorem lw_p31 : lw_okq (⟨"ChoiceParserModel", "enter", "()V"⟩, 43) := ⟨⟨by decide +kernel, by decide +kernel⟩, List.mem_of_getElem? (i := 822) (by decide +kernel), List.mem_of_getElem? (i := 985) (by decide +kernel), List.mem_of_getElem? (i := 986) (by decide +kernel)⟩
def lw_privs_2 : List (MethodName × Nat) := [(⟨"ChoiceParser$Grammar", "lowestNotGood", "()I"⟩, 2), (⟨"java/lang/Throwable", "fillInStackTrace", "(I)Ljava/lang/Throwable;"⟩, 6), (⟨"ChoiceParser", "isPlace", "(I)Z"⟩, 7), (⟨"ChoiceParser$Matcher", "workOut", "(IIII)I"⟩, 5), (⟨"ChoiceParser$Matcher", "go", "(LChoiceParser$Node;III)I"⟩, 5), (⟨"ChoiceParser$Matcher", "goLetter", "(LChoiceParser$Node;I)I"⟩, 5), (⟨"ChoiceParser$Matcher", "goRule", "(IIII)I"⟩, 5), (⟨"ChoiceParser$Matcher", "goRow", "(LChoiceParser$Node;III)I"⟩, 5), (⟨"ChoiceParser$Matcher", "goChoice", "(LChoiceParser$Node;III)I"⟩, 5), (⟨"ChoiceParser$Matcher", "goRepeated", "(LChoiceParser$Node;III)I"⟩, 5), (⟨"ChoiceParser$Tree", "set", "(ILChoiceParser$Memory;II)V"⟩, 2), (⟨"ChoiceParser$Tree", "putBelow", "(ILChoiceParser$Memory;)V"⟩, 2), (⟨"ChoiceParser$Tree", "makeRoom", "(II)V"⟩, 2), (⟨"ChoiceParserModel", "forget", "()V"⟩, 43), (⟨"ChoiceParserModel", "read", "()I"⟩, 43), (⟨"ChoiceParserModel", "enter", "()V"⟩, 43)]
theorem lw_r2 : ∀ q ∈ lw_privs_2, lw_okq q := List.forall_mem_cons.mpr ⟨lw_p16, List.forall_mem_cons.mpr ⟨lw_p17, List.forall_mem_cons.mpr ⟨lw_p18, List.forall_mem_cons.mpr ⟨lw_p19, List.forall_mem_cons.mpr ⟨lw_p20, List.forall_mem_cons.mpr ⟨lw_p21, List.forall_mem_cons.mpr ⟨lw_p22, List.forall_mem_cons.mpr ⟨lw_p23, List.forall_mem_cons.mpr ⟨lw_p24, List.forall_mem_cons.mpr ⟨lw_p25, List.forall_mem_cons.mpr ⟨lw_p26, List.forall_mem_cons.mpr ⟨lw_p27, List.forall_mem_cons.mpr ⟨lw_p28, List.forall_mem_cons.mpr ⟨lw_p29, List.forall_mem_cons.mpr ⟨lw_p30, List.forall_mem_cons.mpr ⟨lw_p31, fun _ h => absurd h List.not_mem_nil⟩⟩⟩⟩⟩⟩⟩⟩⟩⟩⟩⟩⟩⟩⟩⟩
theorem lw_p32 : lw_okq (⟨"ChoiceParserModel", "look", "(I)C"⟩, 43) := ⟨⟨by decide +kernel, by decide +kernel⟩, List.mem_of_getElem? (i := 822) (by decide +kernel), List.mem_of_getElem? (i := 989) (by decide +kernel), List.mem_of_getElem? (i := 990) (by decide +kernel)⟩
theorem lw_p33 : lw_okq (⟨"ChoiceParserModel", "rowDone", "()V"⟩, 43) := ⟨⟨by decide +kernel, by decide +kernel⟩, List.mem_of_getElem? (i := 822) (by decide +kernel), List.mem_of_getElem? (i := 993) (by decide +kernel), List.mem_of_getElem? (i := 994) (by decide +kernel)⟩
theorem lw_p34 : lw_okq (⟨"ChoiceParserModel", "made", "(III)I"⟩, 43) := ⟨⟨by decide +kernel, by decide +kernel⟩, List.mem_of_getElem? (i := 822) (by decide +kernel), List.mem_of_getElem? (i := 997) (by decide +kernel), List.mem_of_getElem? (i := 998) (by decide +kernel)⟩
theorem lw_p35 : lw_okq (⟨"ChoiceParserModel", "choiceDone", "()I"⟩, 43) := ⟨⟨by decide +kernel, by decide +kernel⟩, List.mem_of_getElem? (i := 822) (by decide +kernel), List.mem_of_getElem? (i := 1001) (by decide +kernel), List.mem_of_getElem? (i := 1002) (by decide +kernel)⟩
theorem lw_p36 : lw_okq (⟨"ChoiceParserModel", "partDone", "(II)I"⟩, 43) := ⟨⟨by decide +kernel, by decide +kernel⟩, List.mem_of_getElem? (i := 822) (by decide +kernel), List.mem_of_getElem? (i := 1005) (by decide +kernel), List.mem_of_getElem? (i := 1006) (by decide +kernel)⟩
theorem lw_p37 : lw_okq (⟨"ChoiceParserModel", "simple", "(I)I"⟩, 43) := ⟨⟨by decide +kernel, by decide +kernel⟩, List.mem_of_getElem? (i := 822) (by decide +kernel), List.mem_of_getElem? (i := 1009) (by decide +kernel), List.mem_of_getElem? (i := 1010) (by decide +kernel)⟩
theorem lw_p38 : lw_okq (⟨"ChoiceParserModel", "findDepths", "(I)V"⟩, 43) := ⟨⟨by decide +kernel, by decide +kernel⟩, List.mem_of_getElem? (i := 822) (by decide +kernel), List.mem_of_getElem? (i := 1013) (by decide +kernel), List.mem_of_getElem? (i := 1014) (by decide +kernel)⟩
theorem lw_p39 : lw_okq (⟨"ChoiceParserModel", "fail", "(I)I"⟩, 43) := ⟨⟨by decide +kernel, by decide +kernel⟩, List.mem_of_getElem? (i := 822) (by decide +kernel), List.mem_of_getElem? (i := 1028) (by decide +kernel), List.mem_of_getElem? (i := 1029) (by decide +kernel)⟩
theorem lw_p40 : lw_okq (⟨"ChoiceParserModel", "hasRule", "(I)Z"⟩, 43) := ⟨⟨by decide +kernel, by decide +kernel⟩, List.mem_of_getElem? (i := 822) (by decide +kernel), List.mem_of_getElem? (i := 1040) (by decide +kernel), List.mem_of_getElem? (i := 1041) (by decide +kernel)⟩
theorem lw_p41 : lw_okq (⟨"ChoiceParserModel", "lacking", "()I"⟩, 43) := ⟨⟨by decide +kernel, by decide +kernel⟩, List.mem_of_getElem? (i := 822) (by decide +kernel), List.mem_of_getElem? (i := 1044) (by decide +kernel), List.mem_of_getElem? (i := 1045) (by decide +kernel)⟩
theorem lw_p42 : lw_okq (⟨"ChoiceParserModel", "study", "()V"⟩, 43) := ⟨⟨by decide +kernel, by decide +kernel⟩, List.mem_of_getElem? (i := 822) (by decide +kernel), List.mem_of_getElem? (i := 1048) (by decide +kernel), List.mem_of_getElem? (i := 1049) (by decide +kernel)⟩
theorem lw_p43 : lw_okq (⟨"ChoiceParserModel", "more", "(Z)Z"⟩, 43) := ⟨⟨by decide +kernel, by decide +kernel⟩, List.mem_of_getElem? (i := 822) (by decide +kernel), List.mem_of_getElem? (i := 1052) (by decide +kernel), List.mem_of_getElem? (i := 1053) (by decide +kernel)⟩
theorem lw_p44 : lw_okq (⟨"ChoiceParserModel", "goodOf", "(II)Z"⟩, 43) := ⟨⟨by decide +kernel, by decide +kernel⟩, List.mem_of_getElem? (i := 822) (by decide +kernel), List.mem_of_getElem? (i := 1056) (by decide +kernel), List.mem_of_getElem? (i := 1057) (by decide +kernel)⟩
theorem lw_p45 : lw_okq (⟨"ChoiceParserModel", "outcomeOf", "(II)I"⟩, 43) := ⟨⟨by decide +kernel, by decide +kernel⟩, List.mem_of_getElem? (i := 822) (by decide +kernel), List.mem_of_getElem? (i := 1063) (by decide +kernel), List.mem_of_getElem? (i := 1064) (by decide +kernel)⟩
theorem lw_p46 : lw_okq (⟨"ChoiceParserModel", "fault", "()I"⟩, 43) := ⟨⟨by decide +kernel, by decide +kernel⟩, List.mem_of_getElem? (i := 822) (by decide +kernel), List.mem_of_getElem? (i := 1077) (by decide +kernel), List.mem_of_getElem? (i := 1078) (by decide +kernel)⟩
theorem lw_p47 : lw_okq (⟨"ChoiceParserModel", "rules", "()I"⟩, 43) := ⟨⟨by decide +kernel, by decide +kernel⟩, List.mem_of_getElem? (i := 822) (by decide +kernel), List.mem_of_getElem? (i := 1081) (by decide +kernel), List.mem_of_getElem? (i := 1082) (by decide +kernel)⟩
def lw_privs_3 : List (MethodName × Nat) := [(⟨"ChoiceParserModel", "look", "(I)C"⟩, 43), (⟨"ChoiceParserModel", "rowDone", "()V"⟩, 43), (⟨"ChoiceParserModel", "made", "(III)I"⟩, 43), (⟨"ChoiceParserModel", "choiceDone", "()I"⟩, 43), (⟨"ChoiceParserModel", "partDone", "(II)I"⟩, 43), (⟨"ChoiceParserModel", "simple", "(I)I"⟩, 43), (⟨"ChoiceParserModel", "findDepths", "(I)V"⟩, 43), (⟨"ChoiceParserModel", "fail", "(I)I"⟩, 43), (⟨"ChoiceParserModel", "hasRule", "(I)Z"⟩, 43), (⟨"ChoiceParserModel", "lacking", "()I"⟩, 43), (⟨"ChoiceParserModel", "study", "()V"⟩, 43), (⟨"ChoiceParserModel", "more", "(Z)Z"⟩, 43), (⟨"ChoiceParserModel", "goodOf", "(II)Z"⟩, 43), (⟨"ChoiceParserModel", "outcomeOf", "(II)I"⟩, 43), (⟨"ChoiceParserModel", "fault", "()I"⟩, 43), (⟨"ChoiceParserModel", "rules", "()I"⟩, 43)]
theorem lw_r3 : ∀ q ∈ lw_privs_3, lw_okq q := List.forall_mem_cons.mpr ⟨lw_p32, List.forall_mem_cons.mpr ⟨lw_p33, List.forall_mem_cons.mpr ⟨lw_p34, List.forall_mem_cons.mpr ⟨lw_p35, List.forall_mem_cons.mpr ⟨lw_p36, List.forall_mem_cons.mpr ⟨lw_p37, List.forall_mem_cons.mpr ⟨lw_p38, List.forall_mem_cons.mpr ⟨lw_p39, List.forall_mem_cons.mpr ⟨lw_p40, List.forall_mem_cons.mpr ⟨lw_p41, List.forall_mem_cons.mpr ⟨lw_p42, List.forall_mem_cons.mpr ⟨lw_p43, List.forall_mem_cons.mpr ⟨lw_p44, List.forall_mem_cons.mpr ⟨lw_p45, List.forall_mem_cons.mpr ⟨lw_p46, List.forall_mem_cons.mpr ⟨lw_p47, fun _ h => absurd h List.not_mem_nil⟩⟩⟩⟩⟩⟩⟩⟩⟩⟩⟩⟩⟩⟩⟩⟩
theorem lw_p48 : lw_okq (⟨"ChoiceParserModel", "run", "(II)I"⟩, 43) := ⟨⟨by decide +kernel, by decide +kernel⟩, List.mem_of_getElem? (i := 822) (by decide +kernel), List.mem_of_getElem? (i := 1089) (by decide +kernel), List.mem_of_getElem? (i := 1090) (by decide +kernel)⟩
theorem lw_p49 : lw_okq (⟨"ChoiceParserModel", "ask", "(II)I"⟩, 43) := ⟨⟨by decide +kernel, by decide +kernel⟩, List.mem_of_getElem? (i := 822) (by decide +kernel), List.mem_of_getElem? (i := 1093) (by decide +kernel), List.mem_of_getElem? (i := 1094) (by decide +kernel)⟩
theorem lw_p50 : lw_okq (⟨"ChoiceParserModel", "push", "(II)V"⟩, 43) := ⟨⟨by decide +kernel, by decide +kernel⟩, List.mem_of_getElem? (i := 822) (by decide +kernel), List.mem_of_getElem? (i := 1097) (by decide +kernel), List.mem_of_getElem? (i := 1098) (by decide +kernel)⟩
theorem lw_p51 : lw_okq (⟨"ChoiceParserModel", "record", "(III)V"⟩, 43) := ⟨⟨by decide +kernel, by decide +kernel⟩, List.mem_of_getElem? (i := 822) (by decide +kernel), List.mem_of_getElem? (i := 1101) (by decide +kernel), List.mem_of_getElem? (i := 1102) (by decide +kernel)⟩
theorem lw_p52 : lw_okq (⟨"ChoiceParserModel", "wanted", "()I"⟩, 43) := ⟨⟨by decide +kernel, by decide +kernel⟩, List.mem_of_getElem? (i := 822) (by decide +kernel), List.mem_of_getElem? (i := 1105) (by decide +kernel), List.mem_of_getElem? (i := 1106) (by decide +kernel)⟩
theorem lw_p53 : lw_okq (⟨"ChoiceParserModel", "answer", "(I)I"⟩, 43) := ⟨⟨by decide +kernel, by decide +kernel⟩, List.mem_of_getElem? (i := 822) (by decide +kernel), List.mem_of_getElem? (i := 1112) (by decide +kernel), List.mem_of_getElem? (i := 1113) (by decide +kernel)⟩
theorem lw_p54 : lw_okq (⟨"ChoiceParserModel", "grow", "(III)V"⟩, 43) := ⟨⟨by decide +kernel, by decide +kernel⟩, List.mem_of_getElem? (i := 822) (by decide +kernel), List.mem_of_getElem? (i := 1116) (by decide +kernel), List.mem_of_getElem? (i := 1117) (by decide +kernel)⟩
theorem lw_p55 : lw_okq (⟨"ChoiceParserModel", "keep", "(IIII)V"⟩, 43) := ⟨⟨by decide +kernel, by decide +kernel⟩, List.mem_of_getElem? (i := 822) (by decide +kernel), List.mem_of_getElem? (i := 1120) (by decide +kernel), List.mem_of_getElem? (i := 1121) (by decide +kernel)⟩
def lw_privs_4 : List (MethodName × Nat) := [(⟨"ChoiceParserModel", "run", "(II)I"⟩, 43), (⟨"ChoiceParserModel", "ask", "(II)I"⟩, 43), (⟨"ChoiceParserModel", "push", "(II)V"⟩, 43), (⟨"ChoiceParserModel", "record", "(III)V"⟩, 43), (⟨"ChoiceParserModel", "wanted", "()I"⟩, 43), (⟨"ChoiceParserModel", "answer", "(I)I"⟩, 43), (⟨"ChoiceParserModel", "grow", "(III)V"⟩, 43), (⟨"ChoiceParserModel", "keep", "(IIII)V"⟩, 43)]
theorem lw_r4 : ∀ q ∈ lw_privs_4, lw_okq q := List.forall_mem_cons.mpr ⟨lw_p48, List.forall_mem_cons.mpr ⟨lw_p49, List.forall_mem_cons.mpr ⟨lw_p50, List.forall_mem_cons.mpr ⟨lw_p51, List.forall_mem_cons.mpr ⟨lw_p52, List.forall_mem_cons.mpr ⟨lw_p53, List.forall_mem_cons.mpr ⟨lw_p54, List.forall_mem_cons.mpr ⟨lw_p55, fun _ h => absurd h List.not_mem_nil⟩⟩⟩⟩⟩⟩⟩⟩
def lw_privs : List (MethodName × Nat) := lw_privs_1 ++ (lw_privs_2 ++ (lw_privs_3 ++ (lw_privs_4)))
def lw_tbl : List Cond := k2_sels lw_privs ++ tables_1
theorem lw_privs_ok : ∀ q ∈ lw_privs, lw_okq q := by
  show ∀ q ∈ lw_privs_1 ++ (lw_privs_2 ++ (lw_privs_3 ++ (lw_privs_4))), lw_okq q
  exact List.forall_mem_append.mpr ⟨lw_r1, List.forall_mem_append.mpr ⟨lw_r2, List.forall_mem_append.mpr ⟨lw_r3, lw_r4⟩⟩⟩
end
section
/-! ===== BEGIN words of one list among another's, by their places ===== -/
theorem goodIn_r {big : List Cond} (ws : List Cond) (ps : List Nat) (hp : ws = ps.filterMap (fun i => big[i]?)) (h : ws.all goodWord = true) : GoodIn big ws := by
  intro w hw
  have h1 := List.all_eq_true.mp h w hw
  rw [hp] at hw
  obtain ⟨i, -, hi⟩ := List.mem_filterMap.mp hw
  have hm : w ∈ big := by first | exact List.mem_of_getElem? hi | exact List.getElem?_mem hi
  exact ⟨hm, good_of_word h1⟩
theorem goodIn_app {big a b : List Cond} (ha : GoodIn big a) (hb : GoodIn big b) : GoodIn big (a ++ b) := fun w h => (List.mem_append.mp h).elim (ha w) (hb w)
theorem goodIn_ca {big a b : List Cond} {c : Cond} (ha : GoodIn big (c :: a)) (hb : GoodIn big b) : GoodIn big (c :: (a ++ b)) := fun w h => (List.mem_cons.mp h).elim (fun e => ha w (List.mem_cons.mpr (Or.inl e))) (fun h => (List.mem_append.mp h).elim (fun h => ha w (List.mem_cons.mpr (Or.inr h))) (hb w))
theorem goodIn_sub {big ws : List Cond} (hm : ∀ w ∈ ws, w ∈ big) (h : ws.all goodWord = true) : GoodIn big ws := fun w hw => ⟨hm w hw, good_of_word (List.all_eq_true.mp h w hw)⟩
/-! ===== END ===== -/

/-! ===== BEGIN exceptions that leave a method, and their catching by the caller (launches without stack traces) ===== -/
section VXA
/-! The laws vx_back, vx_callV, vx_callS, vx_callSW, vx_throw0, vx_throwS follow proofs of the library, with one case more: JvmDerived/Free/Laws.lean (Back.of_free), Shelf42/LK1.lean (callV, callS), Shelf/KitTraced.lean (throwNew0V, throwNewS). -/
def vx_T (XC : String → State → State → Prop) (st : State) (q : Addr) (t : State) (mc ms : Nat) (free : Addr → Prop) : Prop :=
  ∃ (E : String) (ce : Cell) (L : List Loc), XC E st t ∧ t.heap[q]? = some ce ∧ ce.vm = .none ∧ st.vm.findClass E = some ce.cls ∧ st.WarmedH t.vm ∧ st.sameButNew ({ t with vm := st.vm } : State) L mc ms ∧ ∀ z ∈ L, free z.base
def vx_Q (Qc : Array Value → State → Outcome → State → Prop) (XC : String → State → State → Prop) (mc ms : Nat) (free : Addr → Prop) : Array Value → State → Outcome → State → Prop := fun a st o t =>
  (Qc a st o t ∧ ∃ L, FrameEnd st o t L mc ms ∧ ∀ q ∈ L, free q.base) ∨ ∃ q, o = .threw q ∧ vx_T XC st q t mc ms free
def vx_Met (l : Launch) (y : MethodName) (ws : List Cond) (rm : Room) (Pc : Array Value → State → Prop) (Qc : Array Value → State → Outcome → State → Prop) (XC : String → State → State → Prop) (mc ms : Nat) (free : Addr → Prop) : Prop :=
  MetFree l y (headSpec ws rm) Pc (fun _ _ _ _ _ => True) (vx_Q Qc XC mc ms free)
def vx_Post (XC : String → State → State → Prop) (mc ms : Nat) (free : Addr → Prop) : Pt → Array Value → Addr → Pt → Prop := fun A a q B =>
  ∃ (g : JFrame) (mk : MethodId) (t : State) (L : List Loc) (E : String) (ce : Cell), B.U.heap = t.heap ∧ B.U.vm = t.vm ∧ XC E (A.U.calling g mk a) t ∧ t.heap[q]? = some ce ∧ ce.vm = .none ∧ A.U.vm.findClass E = some ce.cls ∧ B.locs = A.locs ++ L ∧ (∀ z ∈ L, free z.base) ∧ B.cells = A.cells + mc ∧ B.slots = A.slots + ms
def vx_Back (l : Launch) (R : Room) (p : Program) (e : Env) (below : List Frame) (s : State) (sargs : Array Value) (y : MethodName) (len W9 : Nat)
    (Pre : Pt → Array Value → Prop) (Post : Pt → Array Value → Option Value → Pt → Prop) (PostX : Pt → Array Value → Addr → Pt → Prop) : Prop :=
  ∀ (m : MethodId) (meth : Method) (c : Code) (A : Pt) (g : JFrame) (ig : Instr) (mk : MethodId) (a : Array Value),
    Stand p l e R s m sargs below meth c A.U A.locs A.cells A.slots → g.method = m → g.locals.size = c.maxLocals → decode c.code g.pc = .ok (ig, len) →
    2 * g.monitorRoom + (g.stack.map fun v => v.category).sum ≤ W9 → A.U.methodNamed? y = some mk → Pre A a →
    (∃ (v : Option Value) (B : Pt), Stand p l e R s m sargs below meth c B.U B.locs B.cells B.slots ∧ Post A a v B ∧
      Steps p.tables e below (doInvoke e (A.U.setTop g) [] mk a).1 (B.U.setTop { g with pc := g.pc + len, stack := v.toList ++ g.stack })) ∨
    (∃ (q : Addr) (B : Pt), Stand p l e R s m sargs below meth c B.U B.locs B.cells B.slots ∧ PostX A a q B ∧
      Steps p.tables e below (doInvoke e (A.U.setTop g) [] mk a).1 ((B.U.setTop g).pushFrame (.throwing q)))
section Payer
variable {l : Launch} {R : Room} {p : Program} {e : Env} {below : List Frame} {s : State} {sargs : Array Value} {y : MethodName} {len W9 : Nat}
theorem vx_back {ws : List Cond} {rm : Room} {Pc : Array Value → State → Prop} {Qc : Array Value → State → Outcome → State → Prop} {XC : String → State → State → Prop} {mc ms : Nat} {free : Addr → Prop} {bytes : ByteArray} {maxL : Nat} {ret : Option FieldType}
    (hM : vx_Met l y ws rm Pc Qc XC mc ms free) (hblind : FrameBlind Pc) (hrc : rm.cells = mc) (hrs : rm.slots = ms)
    (hframes : rm.frames + 1 ≤ R.frames) (hlocals : W9 + (maxL + 11) + rm.locals ≤ R.locals)
    (hws : ∀ w ∈ ws, ∀ a' U, s.WarmedH U.vm → w.before a' U = true) (hcode : Cond.code y bytes maxL ret ∈ ws) (hinit : ∀ a' U, s.WarmedH U.vm → (Cond.initialized y.cls).before a' U = true) :
    vx_Back l R p e below s sargs y len W9 (PreOf R mc ms Pc) (PostOf Qc mc ms free) (vx_Post XC mc ms free) := by
  intro m meth c A g ig mk a X hg hsize hdg hW hn hp
  have h1 : (headSpec ws rm).pre.before a A.U = true := atoms_intro fun w hw => hws w hw _ _ X.warmed
  have h2 : (Cond.code y bytes maxL ret).before a A.U = true := hws _ hcode _ _ X.warmed
  have h3 : (Cond.initialized y.cls).before a A.U = true := hinit _ _ X.warmed
  have h4 : A.cells + (headSpec ws rm).room.cells ≤ R.cells := by rw [show (headSpec ws rm).room.cells = mc from hrc]; exact hp.1
  have h5 : A.slots + (headSpec ws rm).room.slots ≤ R.slots := by rw [show (headSpec ws rm).room.slots = ms from hrs]; exact hp.2.1
  have hPc : Pc a (A.U.calling g mk a) := hblind _ _ _ _ hp.2.2
  obtain ⟨U, Ls, c0, s0⟩ := A
  dsimp only [Pt.U, Pt.locs, Pt.cells, Pt.slots] at h1 h2 h3 h4 h5 X hn hPc ⊢
  obtain ⟨methY, cY, hmY, hcY, -, hlY, -, -, -, -⟩ := Cond.code_spec hn h2
  obtain ⟨kY, hkY, -⟩ := className_of_methodNamed hn
  have hinitY : kY.init = .initialized := Cond.initialized_spec (findClass_of_methodNamed hn) hkY h3
  have h : At U g.method c below := by rw [hg]; exact X.here
  have hlocals9 : W9 + (maxL + 11) + (headSpec ws rm).room.locals ≤ R.locals := hlocals
  have happ : (headSpec ws rm).appliesLoose y e.platform (U.calling g mk a) = true :=
    Spec.appliesLoose_calling (g := g) h hdg hn hkY hinitY
      (X.room_calling (g := g) (R' := (headSpec ws rm).room) hsize hmY hcY hframes (by rw [hlY]; omega) h4 h5) h1
  obtain ⟨mid, hmid⟩ := h.above
  have hfr : (U.setTop g).frames = (.java g :: mid) ++ below := by rw [State.frames_setTop' g h.top, hmid]; rfl
  obtain ⟨o, s₂, hsteps, -, hend, hq⟩ := Steps.callFree hM p X.admits X.cas X.clock (acts := []) hfr happ hPc trivial
  have hq' : vx_Q Qc XC mc ms free a (U.calling g mk a) o s₂ := hq
  rw [State.frames_setTop' g h.top] at hend
  obtain ⟨g₀, hg0⟩ := Option.isSome_iff_exists.mp h.top
  obtain ⟨r, hr⟩ := State.topJava?_eq_some.mp hg0
  have hr' : (({ U with heap := s₂.heap, slotsUsed := s₂.slotsUsed } : State).setVm s₂.vm).frames = .java g₀ :: r := hr
  rcases hq' with ⟨hqc, L, hfe, hL⟩ | ⟨q, rfl, E, ce, L, hx, hce, hcv, hcl, hW₂, hsm, hL⟩
  · obtain ⟨⟨v, rfl⟩, hW₂, e2, q2, q3, q4, q5, q6⟩ := id hfe
    have e3 : s₂ = ({ (U.calling g mk a).setFrames s₂.frames with heap := s₂.heap, slotsUsed := s₂.slotsUsed } : State).setVm s₂.vm := by
      have : s₂ = ({ s₂ with vm := (U.calling g mk a).vm } : State).setVm s₂.vm := rfl
      rw [e2] at this
      exact this
    obtain ⟨c₂, i₂, len₂, hc₂, hd₂, hf₂⟩ := hend
    have hW' : U.WarmedH s₂.vm := hW₂
    have hcc : c₂ = c := by
      have h1 : s₂.code? g.method = U.code? g.method := by
        rw [State.code?_eq, State.code?_eq, hW'.alike.method?]
      exact Option.some.inj (hc₂.symm.trans (h1.trans h.code))
    subst hcc
    have hlen : len₂ = len := by rw [hdg] at hd₂; cases hd₂; rfl
    subst hlen
    have hs₂ : s₂ = (({ U with heap := s₂.heap, slotsUsed := s₂.slotsUsed } : State).setVm s₂.vm).setTop { g with pc := g.pc + len₂, stack := v.toList ++ g.stack } := by
      refine e3.trans ?_
      rw [hf₂, State.calling_eq h.top, State.setFrames_setFrames, State.setTop_of_frames _ hr', hr]
      rfl
    have hsame : U.sameButNew ({ U with heap := s₂.heap, slotsUsed := s₂.slotsUsed } : State) L mc ms := by
      refine ⟨?_, q2, q3, q4, q5, q6⟩
      obtain ⟨t, ht, -⟩ := State.frames_cons hr
      show ({ U with heap := s₂.heap, slotsUsed := s₂.slotsUsed } : State) = { U.setFrames U.frames with heap := s₂.heap, slotsUsed := s₂.slotsUsed }
      rw [State.setFrames_self ht]
    subst hg
    refine Or.inl ⟨v, ⟨(({ U with heap := s₂.heap, slotsUsed := s₂.slotsUsed } : State).setVm s₂.vm), Ls ++ L, c0 + mc, s0 + ms⟩,
      ⟨X.admits, X.cas, X.clock, X.frames, X.room, X.hears, X.method, X.code, (X.here.setHeapUsed s₂.heap s₂.slotsUsed).setVm hW'.alike, X.tail, State.WarmedH.trans X.warmed hW', X.limits, X.bytes, X.same.trans (hsame.setVm s.vm)⟩,
      ⟨g, mk, s₂, L, rfl, rfl, hqc, rfl, hL, rfl, rfl⟩, ?_⟩
    show Steps p.tables e below _ ((({ U with heap := s₂.heap, slotsUsed := s₂.slotsUsed } : State).setVm s₂.vm).setTop { g with pc := g.pc + len₂, stack := v.toList ++ g.stack })
    rw [← hs₂]
    exact hsteps
  · obtain ⟨e2, q2, q3, q4, q5, q6⟩ := id hsm
    have e3 : s₂ = ({ (U.calling g mk a).setFrames s₂.frames with heap := s₂.heap, slotsUsed := s₂.slotsUsed } : State).setVm s₂.vm := by
      have : s₂ = ({ s₂ with vm := (U.calling g mk a).vm } : State).setVm s₂.vm := rfl
      rw [e2] at this
      exact this
    have hf₂ : s₂.frames = .throwing q :: .java g :: U.frames.tail := hend
    have hW' : U.WarmedH s₂.vm := hW₂
    have hs₂ : s₂ = ((({ U with heap := s₂.heap, slotsUsed := s₂.slotsUsed } : State).setVm s₂.vm).setTop g).pushFrame (.throwing q) := by
      refine e3.trans ?_
      rw [hf₂, State.calling_eq h.top, State.setFrames_setFrames, State.pushFrame, State.frames_setTop _ hr', State.setTop_of_frames _ hr', State.setFrames_setFrames, hr]
      rfl
    have hsame : U.sameButNew ({ U with heap := s₂.heap, slotsUsed := s₂.slotsUsed } : State) L mc ms := by
      refine ⟨?_, q2, q3, q4, q5, q6⟩
      obtain ⟨t, ht, -⟩ := State.frames_cons hr
      show ({ U with heap := s₂.heap, slotsUsed := s₂.slotsUsed } : State) = { U.setFrames U.frames with heap := s₂.heap, slotsUsed := s₂.slotsUsed }
      rw [State.setFrames_self ht]
    subst hg
    refine Or.inr ⟨q, ⟨(({ U with heap := s₂.heap, slotsUsed := s₂.slotsUsed } : State).setVm s₂.vm), Ls ++ L, c0 + mc, s0 + ms⟩,
      ⟨X.admits, X.cas, X.clock, X.frames, X.room, X.hears, X.method, X.code, (X.here.setHeapUsed s₂.heap s₂.slotsUsed).setVm hW'.alike, X.tail, State.WarmedH.trans X.warmed hW', X.limits, X.bytes, X.same.trans (hsame.setVm s.vm)⟩,
      ⟨g, mk, s₂, L, E, ce, rfl, rfl, hx, hce, hcv, hcl, rfl, hL, rfl, rfl⟩, ?_⟩
    show Steps p.tables e below _ (((({ U with heap := s₂.heap, slotsUsed := s₂.slotsUsed } : State).setVm s₂.vm).setTop g).pushFrame (.throwing q))
    rw [← hs₂]
    exact hsteps
end Payer
section Calls
variable {p : Program} {l : Launch} {e : Env} {R : Room} {s : State} {m : MethodId} {args : Array Value} {below : List Frame} {meth : Method} {c : Code} {T : State} {locs : List Loc} {cells slots : Nat}
theorem vx_callV (X : Stand p l e R s m args below meth c T locs cells slots) (hexec : p.tables.exec = Jvm.exec) {own C : String} {index : Nat} {y : MethodName} {bytes : ByteArray} {maxL : Nat} {ret : Option FieldType}
    (hown : s.vm.findClass own = some m.cls) (hlink : (Cond.methodLink own index y).before args s = true) (hinst : (Cond.instanceMethod y).before args s = true) (hsel : (Cond.selects C y y).before args s = true)
    (hcode : (Cond.code y bytes maxL ret).before args s = true) (hy : y.cls ≠ "java/lang/invoke/MethodHandle" ∧ y.cls ≠ "java/lang/invoke/VarHandle")
    {W9 : Nat} {Pre : Pt → Array Value → Prop} {Post : Pt → Array Value → Option Value → Pt → Prop} {PostX : Pt → Array Value → Addr → Pt → Prop} (hK : vx_Back l R p e below s args y 3 W9 Pre Post PostX)
    {b : Addr} {cellB : Cell} (hcell : T.heap[b]? = some cellB) (hobj : cellB.vm.isStatics = false) (hcls : s.vm.findClass C = some cellB.cls)
    {g : JFrame} (hg : g.method = m) (hsize : g.locals.size = c.maxLocals) {argsL rest : List Value} (hlen : ∀ sig, parseMethodDescriptor y.desc = some sig → argsL.length = sig.parameters.length)
    (hstack : g.stack = argsL.reverse ++ .ref b :: rest) (hW : 2 * g.monitorRoom + (rest.map fun v => v.category).sum ≤ W9) (hdg : decode c.code g.pc = .ok (.invokevirtual index, 3))
    (hpre : ∀ vm₁, s.WarmedH vm₁ → Pre ⟨T.setVm vm₁, locs, cells, slots⟩ (Value.ref b :: argsL).toArray) :
    (∃ (v : Option Value) (vm₁ : Vm) (B : Pt), s.WarmedH vm₁ ∧ Stand p l e R s m args below meth c B.U B.locs B.cells B.slots ∧ Post ⟨T.setVm vm₁, locs, cells, slots⟩ (Value.ref b :: argsL).toArray v B ∧
      ∀ target, Steps p.tables e below (B.U.setTop { g with pc := g.pc + 3, stack := v.toList ++ rest }) target → Steps p.tables e below (T.setTop g) target) ∨
    (∃ (q : Addr) (vm₁ : Vm) (B : Pt), s.WarmedH vm₁ ∧ Stand p l e R s m args below meth c B.U B.locs B.cells B.slots ∧ PostX ⟨T.setVm vm₁, locs, cells, slots⟩ (Value.ref b :: argsL).toArray q B ∧
      Steps p.tables e below (T.setTop g) ((B.U.setTop { g with stack := rest }).pushFrame (.throwing q))) := by
  obtain ⟨mk, methM, hnamed, hmethM, hstM, habM⟩ := Cond.instanceMethod_spec hinst
  obtain ⟨methM', cM, hmethM', -, -, -, -, -, -, hsigM⟩ := Cond.code_spec hnamed hcode
  cases hmethM.symm.trans hmethM'
  obtain ⟨c2, r2, m2, q1, q2, q3, q4, kP, hkP, hkPi⟩ := Cond.selects_spec hsel
  cases hcls.symm.trans q1
  cases (State.methodFound?_of_named hnamed hy).symm.trans q2
  cases hnamed.symm.trans q3
  have hselP : selectMethod e.platform s.vm cellB.cls mk = .method mk := by rw [Launch.admits_selectMethod X.admits]; exact q4
  obtain ⟨vm₁, X₁, hstep₁⟩ := X.invokevirtual hexec hown hlink hnamed hmethM hstM hkP hkPi hy (a := b) (cell := cellB) hcell
    (fun z h => by rw [h] at hobj; cases hobj) hselP hmethM habM hkP hkPi (g := g) hg (argsL := argsL) (rest := rest) (hlen _ hsigM) hstack hdg
  rcases hK m meth c ⟨T.setVm vm₁, locs, cells, slots⟩ { g with stack := rest } (.invokevirtual index) mk (Value.ref b :: argsL).toArray X₁ hg hsize hdg hW (X₁.named hnamed) (hpre vm₁ X₁.warmed) with ⟨v, B, X', hpost, hsteps⟩ | ⟨q, B, X', hpost, hsteps⟩
  · exact Or.inl ⟨v, vm₁, B, X₁.warmed, X', hpost, fun target h => hstep₁ _ fun acts => by rw [doInvoke_state]; exact hsteps.trans h⟩
  · exact Or.inr ⟨q, vm₁, B, X₁.warmed, X', hpost, hstep₁ _ fun acts => by rw [doInvoke_state]; exact hsteps⟩
theorem vx_callS (X : Stand p l e R s m args below meth c T locs cells slots) (hexec : p.tables.exec = Jvm.exec) {own : String} {index : Nat} {y : MethodName} {bytes : ByteArray} {maxL : Nat} {ret : Option FieldType}
    (hown : s.vm.findClass own = some m.cls) (hlink : (Cond.methodLink own index y).before args s = true) (hstat : (Cond.static y).before args s = true) (hinit : (Cond.initialized y.cls).before args s = true)
    (hcode : (Cond.code y bytes maxL ret).before args s = true) (hy : y.cls ≠ "java/lang/invoke/MethodHandle" ∧ y.cls ≠ "java/lang/invoke/VarHandle")
    {W9 : Nat} {Pre : Pt → Array Value → Prop} {Post : Pt → Array Value → Option Value → Pt → Prop} {PostX : Pt → Array Value → Addr → Pt → Prop} (hK : vx_Back l R p e below s args y 3 W9 Pre Post PostX)
    {g : JFrame} (hg : g.method = m) (hsize : g.locals.size = c.maxLocals) {argsL rest : List Value} (hlen : ∀ sig, parseMethodDescriptor y.desc = some sig → argsL.length = sig.parameters.length)
    (hstack : g.stack = argsL.reverse ++ rest) (hW : 2 * g.monitorRoom + (rest.map fun v => v.category).sum ≤ W9) (hdg : decode c.code g.pc = .ok (.invokestatic index, 3))
    (hpre : ∀ vm₁, s.WarmedH vm₁ → Pre ⟨T.setVm vm₁, locs, cells, slots⟩ argsL.toArray) :
    (∃ (v : Option Value) (vm₁ : Vm) (B : Pt), s.WarmedH vm₁ ∧ Stand p l e R s m args below meth c B.U B.locs B.cells B.slots ∧ Post ⟨T.setVm vm₁, locs, cells, slots⟩ argsL.toArray v B ∧
      ∀ target, Steps p.tables e below (B.U.setTop { g with pc := g.pc + 3, stack := v.toList ++ rest }) target → Steps p.tables e below (T.setTop g) target) ∨
    (∃ (q : Addr) (vm₁ : Vm) (B : Pt), s.WarmedH vm₁ ∧ Stand p l e R s m args below meth c B.U B.locs B.cells B.slots ∧ PostX ⟨T.setVm vm₁, locs, cells, slots⟩ argsL.toArray q B ∧
      Steps p.tables e below (T.setTop g) ((B.U.setTop { g with stack := rest }).pushFrame (.throwing q))) := by
  obtain ⟨mk, hnamed⟩ := Cond.code_named hcode
  obtain ⟨methM, cM, hmethM, -, -, -, -, -, -, hsigM⟩ := Cond.code_spec hnamed hcode
  have hstatic : methM.isStatic = true := Cond.static_spec hnamed hmethM hstat
  obtain ⟨kP, hkP, -⟩ := className_of_methodNamed hnamed
  have hinitP : kP.init = .initialized := Cond.initialized_spec (findClass_of_methodNamed hnamed) hkP hinit
  obtain ⟨vm₁, X₁, hstep₁⟩ := X.invokestatic hexec hown hlink hnamed hmethM hstatic hkP hinitP hy (g := g) hg (argsL := argsL) (rest := rest) (hlen _ hsigM) hstack hdg
  rcases hK m meth c ⟨T.setVm vm₁, locs, cells, slots⟩ { g with stack := rest } (.invokestatic index) mk argsL.toArray X₁ hg hsize hdg hW (X₁.named hnamed) (hpre vm₁ X₁.warmed) with ⟨v, B, X', hpost, hsteps⟩ | ⟨q, B, X', hpost, hsteps⟩
  · exact Or.inl ⟨v, vm₁, B, X₁.warmed, X', hpost, fun target h => hstep₁ _ fun acts => by rw [doInvoke_state]; exact hsteps.trans h⟩
  · exact Or.inr ⟨q, vm₁, B, X₁.warmed, X', hpost, hstep₁ _ fun acts => by rw [doInvoke_state]; exact hsteps⟩
end Calls
theorem vx_cls {s : State} {T : State} {vm₁ : Vm} {E : String} {k : ClassId} (hW : s.WarmedH vm₁) (h : (T.setVm vm₁).vm.findClass E = some k) : s.vm.findClass E = some k := by
  have h1 : vm₁.findClass E = some k := h
  rw [hW.alike.findClass] at h1
  exact h1
def vx_W (p : Program) (l : Launch) (e : Env) (R : Room) (s : State) (m : MethodId) (args : Array Value) (below : List Frame) (meth : Method) (c : Code) (H : Heap) (locs : List Loc) (cells slots : Nat) (Q : State → Prop) (g : JFrame) (q : Addr) : Prop :=
  ∀ T : State, T.heap = H → Stand p l e R s m args below meth c T locs cells slots → ∃ t, Steps p.tables e below ((T.setTop g).pushFrame (.throwing q)) t ∧ Q t
def vx_Run (p : Program) (l : Launch) (e : Env) (R : Room) (s : State) (m : MethodId) (args : Array Value) (below : List Frame) (meth : Method) (c : Code) (H : Heap) (locs : List Loc) (cells slots mc ms : Nat) (g : JFrame) (rest : List Value) (Qa : State → Outcome → State → Prop) (XC : String → State → State → Prop) (free : Addr → Prop) : Prop :=
  ∀ T : State, T.heap = H → Stand p l e R s m args below meth c T locs cells slots →
    (∃ (v : Option Value) (st₀ t T' : State) (L : List Loc), st₀.heap = H ∧ Stand p l e R s m args below meth c T' (locs ++ L) (cells + mc) (slots + ms) ∧ (∀ q ∈ L, free q.base) ∧ T'.heap = t.heap ∧ T'.vm = t.vm ∧ Qa st₀ (.returned v) t ∧
      Goes p e below T g T' { g with pc := g.pc + 3, stack := v.toList ++ rest }) ∨
    (∃ (q : Addr) (st₀ t T' : State) (L : List Loc) (E : String) (ce : Cell), st₀.heap = H ∧ Stand p l e R s m args below meth c T' (locs ++ L) (cells + mc) (slots + ms) ∧ (∀ z ∈ L, free z.base) ∧ T'.heap = t.heap ∧ T'.vm = t.vm ∧ XC E st₀ t ∧ t.heap[q]? = some ce ∧ ce.vm = .none ∧ s.vm.findClass E = some ce.cls ∧
      Steps p.tables e below (T.setTop g) ((T'.setTop { g with stack := rest }).pushFrame (.throwing q)))
def vx_X {S : Type} (px : S → Prop) (B : String → S → State → Prop) (A : Nat → Prop) : String → State → State → Prop := fun E st t => ∃ u : S, px u ∧ B E u t ∧ va_F A st t
section Runs
variable {p : Program} {l : Launch} {e : Env} {R : Room} {s : State} {m : MethodId} {args : Array Value} {below : List Frame} {meth : Method} {c : Code} {H : Heap} {locs : List Loc} {cells slots : Nat}
variable {y : MethodName} {bytes cc : ByteArray} {maxL nL mc ms n index : Nat} {ret : Option FieldType} {ws : List Cond} {rm : Room} {Pc : Array Value → State → Prop} {Qc : Array Value → State → Outcome → State → Prop} {XC : String → State → State → Prop} {free : Addr → Prop} {Ts : List Cond} {own C : String} {b : Addr} {As rest : List Value} {g : JFrame}
theorem vx_callBack (cb : CallB R s args own index y bytes maxL ret ws rm mc ms n) (hM : vx_Met l y ws rm Pc Qc XC mc ms free) (hbl : FrameBlind Pc) : vx_Back l R p e below s args y 3 8 (PreOf R mc ms Pc) (PostOf Qc mc ms free) (vx_Post XC mc ms free) := by
  obtain ⟨hrc, hrs, hfr, hlo, hws, hcw, -, hini, -⟩ := cb
  exact vx_back (bytes := bytes) (maxL := maxL) (ret := ret) hM hbl hrc hrs hfr hlo hws hcw (fun a' U hW => word_at hW (Or.inl (by first | rfl | simp [Cond.onTables, Cond.keeps, Cond.steady])) hini)
theorem vx_runV (S : CallFix p m c cc nL s args Ts own) (hM : vx_Met l y ws rm Pc Qc XC mc ms free) (cw : CallW R s args own C index y bytes maxL ret ws rm mc ms n) (hp : PreV s H C b Pc As)
    (hg : g.method = m) (hn : As.length = n) (hsize : g.locals.size = nL) (hstack : g.stack = As.reverse ++ .ref b :: rest) (hW : 2 * g.monitorRoom + (rest.map fun v => v.category).sum ≤ 8) (hdg : decode cc g.pc = .ok (.invokevirtual index, 3)) (hf : cells + mc ≤ R.cells ∧ slots + ms ≤ R.slots) :
    vx_Run p l e R s m args below meth c H locs cells slots mc ms g rest (Qc (Value.ref b :: As).toArray) XC free := by
  have hK : vx_Back l R p e below s args y 3 8 (PreOf R mc ms Pc) (PostOf Qc mc ms free) (vx_Post XC mc ms free) := vx_callBack cw.1 hM hp.1
  obtain ⟨⟨-, -, -, -, -, -, hcode, -, hy, hlen, hl⟩, hin, hse⟩ := cw
  obtain ⟨hx, hb, hml, ho, -⟩ := S
  obtain ⟨-, ⟨cellB, hcB, hoB, hclB⟩, hPc⟩ := hp
  intro T hT X
  rcases vx_callV X hx (C := C) (bytes := bytes) (maxL := maxL) (ret := ret) ho hl hin hse hcode hy hK (by rw [hT]; exact hcB) hoB hclB hg (hsize.trans hml.symm) (argsL := As) (rest := rest) (fun sig h => hn.trans (hlen sig h)) hstack hW (by rw [hb]; exact hdg)
    (fun vm₁ hW₁ => ⟨hf.1, hf.2, hPc (T.setVm vm₁) hT hW₁⟩) with ⟨v, vm₁, ⟨U', l2, c2, s2⟩, hW₁, X', ⟨g', mk, t, L, e1, e2, hq, h1, hL, h2, h3⟩, st⟩ | ⟨q, vm₁, ⟨U', l2, c2, s2⟩, hW₁, X', ⟨g', mk, t, L, E, ce, e1, e2, hq, hce, hcv, hcl, h1, hL, h2, h3⟩, st⟩
  · dsimp only [Pt.U, Pt.locs, Pt.cells, Pt.slots] at X' e1 e2 h1 h2 h3 st
    subst h1; subst h2; subst h3
    exact Or.inl ⟨v, (T.setVm vm₁).calling g' mk (Value.ref b :: As).toArray, t, U', L, hT, X', hL, e1, e2, hq, st⟩
  · dsimp only [Pt.U, Pt.locs, Pt.cells, Pt.slots] at X' e1 e2 h1 h2 h3 st hcl
    subst h1; subst h2; subst h3
    exact Or.inr ⟨q, (T.setVm vm₁).calling g' mk (Value.ref b :: As).toArray, t, U', L, E, ce, hT, X', hL, e1, e2, hq, hce, hcv, vx_cls hW₁ hcl, st⟩
theorem vx_runS (S : CallFix p m c cc nL s args Ts own) (hM : vx_Met l y ws rm Pc Qc XC mc ms free) (cw : CallB R s args own index y bytes maxL ret ws rm mc ms n ∧ (Cond.static y).before args s = true) (hp : PreS s H Pc As)
    (hg : g.method = m) (hn : As.length = n) (hsize : g.locals.size = nL) (hstack : g.stack = As.reverse ++ rest) (hW : 2 * g.monitorRoom + (rest.map fun v => v.category).sum ≤ 8) (hdg : decode cc g.pc = .ok (.invokestatic index, 3)) (hf : cells + mc ≤ R.cells ∧ slots + ms ≤ R.slots) :
    vx_Run p l e R s m args below meth c H locs cells slots mc ms g rest (Qc As.toArray) XC free := by
  have hK : vx_Back l R p e below s args y 3 8 (PreOf R mc ms Pc) (PostOf Qc mc ms free) (vx_Post XC mc ms free) := vx_callBack cw.1 hM hp.1
  obtain ⟨⟨-, -, -, -, -, -, hcode, hini, hy, hlen, hl⟩, hstt⟩ := cw
  obtain ⟨hx, hb, hml, ho, -⟩ := S
  intro T hT X
  rcases vx_callS X hx (bytes := bytes) (maxL := maxL) (ret := ret) ho hl hstt hini hcode hy hK hg (hsize.trans hml.symm) (argsL := As) (rest := rest) (fun sig h => hn.trans (hlen sig h)) hstack hW (by rw [hb]; exact hdg)
    (fun vm₁ hW₁ => ⟨hf.1, hf.2, hp.2 (T.setVm vm₁) hT hW₁⟩) with ⟨v, vm₁, ⟨U', l2, c2, s2⟩, hW₁, X', ⟨g', mk, t, L, e1, e2, hq, h1, hL, h2, h3⟩, st⟩ | ⟨q, vm₁, ⟨U', l2, c2, s2⟩, hW₁, X', ⟨g', mk, t, L, E, ce, e1, e2, hq, hce, hcv, hcl, h1, hL, h2, h3⟩, st⟩
  · dsimp only [Pt.U, Pt.locs, Pt.cells, Pt.slots] at X' e1 e2 h1 h2 h3 st
    subst h1; subst h2; subst h3
    exact Or.inl ⟨v, (T.setVm vm₁).calling g' mk As.toArray, t, U', L, hT, X', hL, e1, e2, hq, st⟩
  · dsimp only [Pt.U, Pt.locs, Pt.cells, Pt.slots] at X' e1 e2 h1 h2 h3 st hcl
    subst h1; subst h2; subst h3
    exact Or.inr ⟨q, (T.setVm vm₁).calling g' mk As.toArray, t, U', L, E, ce, hT, X', hL, e1, e2, hq, hce, hcv, vx_cls hW₁ hcl, st⟩
end Runs
section Rows
variable {p : Program} {l : Launch} {e : Env} {R : Room} {s : State} {m : MethodId} {args : Array Value} {below : List Frame} {meth : Method} {c : Code} {H : Heap} {locs : List Loc} {cells slots : Nat} {Q : State → Prop}
variable {mc ms : Nat} {free : Addr → Prop} {A0 A1 : Nat → Prop} {H0 : Heap} {a : Array Value} {pc : Nat} {ls : Array Slot} {st0 rest : List Value}
theorem vx_keep {st₀ t T' : State} {L : List Loc} (h0 : st₀.heap = H) (e1 : T'.heap = t.heap) (hS : va_S A0 H0 H locs) (hA : ∀ q, q < H.size → A1 q → A0 q) (hf : ∀ q, free q → A0 q) (hL : ∀ q ∈ L, free q.base) (hF : va_F A1 st₀ t) :
    H.size ≤ T'.heap.size ∧ (∀ q : Nat, q < H.size → ¬ A1 q → T'.heap[q]? = H[q]?) ∧ va_S A0 H0 T'.heap (locs ++ L) := by
  obtain ⟨hz, hk⟩ := hF
  rw [h0] at hz hk
  exact ⟨by rw [e1]; exact hz, fun q h1 h2 => by rw [e1]; exact hk q h1 h2,
    ⟨Nat.le_trans hS.1 (by rw [e1]; exact hz), fun q h1 h2 => by rw [e1, hk q (Nat.lt_of_lt_of_le h1 hS.1) (fun z => h2 (hA q (Nat.lt_of_lt_of_le h1 hS.1) z))]; exact hS.2.1 q h1 h2, fun q hq => by
      rcases List.mem_append.mp hq with h | h
      · exact hS.2.2 q h
      · exact hf _ (hL q h)⟩⟩
theorem vx_calli {S SX : Type} {post : Int32 → S → Prop} {px : SX → Prop} {B : S → State → Prop} {BX : String → SX → State → Prop} {AX : Nat → Prop} (hr : vx_Run p l e R s m args below meth c H locs cells slots mc ms (F0 m pc ls st0) rest (va_Qi post B A1 a) (vx_X px BX AX) free) (hS : va_S A0 H0 H locs) (hA : ∀ q, q < H.size → A1 q → A0 q) (hf : ∀ q, free q → A0 q) (hAX : ∀ q, q < H.size → AX q → A0 q)
    (kx : ∀ (E : String) (ce : Cell) (q9 : Addr) (u : SX) (t : State) (H1 : Heap) (locs1 : List Loc), t.heap = H1 → s.vm.Alike t.vm → px u → BX E u t → H.size ≤ H1.size → (∀ q : Nat, q < H.size → ¬ AX q → H1[q]? = H[q]?) → va_S A0 H0 H1 locs1 → H1[q9]? = some ce → ce.vm = .none → s.vm.findClass E = some ce.cls → vx_W p l e R s m args below meth c H1 locs1 (cells + mc) (slots + ms) Q (F0 m pc ls rest) q9)
    (kk : ∀ (r : Int32) (u : S) (t : State) (H1 : Heap) (locs1 : List Loc), t.heap = H1 → s.vm.Alike t.vm → post r u → B u t → H.size ≤ H1.size → (∀ q : Nat, q < H.size → ¬ A1 q → H1[q]? = H[q]?) → va_S A0 H0 H1 locs1 → W p l e R s m args below meth c H1 locs1 (cells + mc) (slots + ms) Q (F0 m (pc + 3) ls (.int r :: rest))) : W p l e R s m args below meth c H locs cells slots Q (F0 m pc ls st0) := by
  intro T hT X
  rcases hr T hT X with ⟨v, st₀, t, T', L, h0, X', hL, e1, e2, ⟨⟨r, u, hv, hp, hb⟩, hF⟩, st⟩ | ⟨q, st₀, t, T', L, E, ce, h0, X', hL, e1, e2, ⟨u, hp, hb, hF⟩, hce, hcv, hcl, st⟩
  · cases hv
    obtain ⟨k1, k2, k3⟩ := vx_keep h0 e1 hS hA hf hL hF
    obtain ⟨t2, a1, b1⟩ := kk r u t T'.heap (locs ++ L) e1.symm (by rw [← e2]; exact X'.warmed.alike) hp hb k1 k2 k3 T' rfl X'
    exact ⟨t2, st t2 a1, b1⟩
  · obtain ⟨k1, k2, k3⟩ := vx_keep h0 e1 hS hAX hf hL hF
    obtain ⟨t2, a1, b1⟩ := kx E ce q u t T'.heap (locs ++ L) e1.symm (by rw [← e2]; exact X'.warmed.alike) hp hb k1 k2 k3 (by rw [e1]; exact hce) hcv hcl T' rfl X'
    exact ⟨t2, st.trans a1, b1⟩
theorem vx_calll {S SX : Type} {post : Int64 → S → Prop} {px : SX → Prop} {B : S → State → Prop} {BX : String → SX → State → Prop} {AX : Nat → Prop} (hr : vx_Run p l e R s m args below meth c H locs cells slots mc ms (F0 m pc ls st0) rest (va_Ql post B A1 a) (vx_X px BX AX) free) (hS : va_S A0 H0 H locs) (hA : ∀ q, q < H.size → A1 q → A0 q) (hf : ∀ q, free q → A0 q) (hAX : ∀ q, q < H.size → AX q → A0 q)
    (kx : ∀ (E : String) (ce : Cell) (q9 : Addr) (u : SX) (t : State) (H1 : Heap) (locs1 : List Loc), t.heap = H1 → s.vm.Alike t.vm → px u → BX E u t → H.size ≤ H1.size → (∀ q : Nat, q < H.size → ¬ AX q → H1[q]? = H[q]?) → va_S A0 H0 H1 locs1 → H1[q9]? = some ce → ce.vm = .none → s.vm.findClass E = some ce.cls → vx_W p l e R s m args below meth c H1 locs1 (cells + mc) (slots + ms) Q (F0 m pc ls rest) q9)
    (kk : ∀ (r : Int64) (u : S) (t : State) (H1 : Heap) (locs1 : List Loc), t.heap = H1 → s.vm.Alike t.vm → post r u → B u t → H.size ≤ H1.size → (∀ q : Nat, q < H.size → ¬ A1 q → H1[q]? = H[q]?) → va_S A0 H0 H1 locs1 → W p l e R s m args below meth c H1 locs1 (cells + mc) (slots + ms) Q (F0 m (pc + 3) ls (.long r :: rest))) : W p l e R s m args below meth c H locs cells slots Q (F0 m pc ls st0) := by
  intro T hT X
  rcases hr T hT X with ⟨v, st₀, t, T', L, h0, X', hL, e1, e2, ⟨⟨r, u, hv, hp, hb⟩, hF⟩, st⟩ | ⟨q, st₀, t, T', L, E, ce, h0, X', hL, e1, e2, ⟨u, hp, hb, hF⟩, hce, hcv, hcl, st⟩
  · cases hv
    obtain ⟨k1, k2, k3⟩ := vx_keep h0 e1 hS hA hf hL hF
    obtain ⟨t2, a1, b1⟩ := kk r u t T'.heap (locs ++ L) e1.symm (by rw [← e2]; exact X'.warmed.alike) hp hb k1 k2 k3 T' rfl X'
    exact ⟨t2, st t2 a1, b1⟩
  · obtain ⟨k1, k2, k3⟩ := vx_keep h0 e1 hS hAX hf hL hF
    obtain ⟨t2, a1, b1⟩ := kx E ce q u t T'.heap (locs ++ L) e1.symm (by rw [← e2]; exact X'.warmed.alike) hp hb k1 k2 k3 (by rw [e1]; exact hce) hcv hcl T' rfl X'
    exact ⟨t2, st.trans a1, b1⟩
theorem vx_callf {S SX : Type} {post : UInt32 → S → Prop} {px : SX → Prop} {B : S → State → Prop} {BX : String → SX → State → Prop} {AX : Nat → Prop} (hr : vx_Run p l e R s m args below meth c H locs cells slots mc ms (F0 m pc ls st0) rest (va_Qf post B A1 a) (vx_X px BX AX) free) (hS : va_S A0 H0 H locs) (hA : ∀ q, q < H.size → A1 q → A0 q) (hf : ∀ q, free q → A0 q) (hAX : ∀ q, q < H.size → AX q → A0 q)
    (kx : ∀ (E : String) (ce : Cell) (q9 : Addr) (u : SX) (t : State) (H1 : Heap) (locs1 : List Loc), t.heap = H1 → s.vm.Alike t.vm → px u → BX E u t → H.size ≤ H1.size → (∀ q : Nat, q < H.size → ¬ AX q → H1[q]? = H[q]?) → va_S A0 H0 H1 locs1 → H1[q9]? = some ce → ce.vm = .none → s.vm.findClass E = some ce.cls → vx_W p l e R s m args below meth c H1 locs1 (cells + mc) (slots + ms) Q (F0 m pc ls rest) q9)
    (kk : ∀ (r : UInt32) (u : S) (t : State) (H1 : Heap) (locs1 : List Loc), t.heap = H1 → s.vm.Alike t.vm → post r u → B u t → H.size ≤ H1.size → (∀ q : Nat, q < H.size → ¬ A1 q → H1[q]? = H[q]?) → va_S A0 H0 H1 locs1 → W p l e R s m args below meth c H1 locs1 (cells + mc) (slots + ms) Q (F0 m (pc + 3) ls (.float r :: rest))) : W p l e R s m args below meth c H locs cells slots Q (F0 m pc ls st0) := by
  intro T hT X
  rcases hr T hT X with ⟨v, st₀, t, T', L, h0, X', hL, e1, e2, ⟨⟨r, u, hv, hp, hb⟩, hF⟩, st⟩ | ⟨q, st₀, t, T', L, E, ce, h0, X', hL, e1, e2, ⟨u, hp, hb, hF⟩, hce, hcv, hcl, st⟩
  · cases hv
    obtain ⟨k1, k2, k3⟩ := vx_keep h0 e1 hS hA hf hL hF
    obtain ⟨t2, a1, b1⟩ := kk r u t T'.heap (locs ++ L) e1.symm (by rw [← e2]; exact X'.warmed.alike) hp hb k1 k2 k3 T' rfl X'
    exact ⟨t2, st t2 a1, b1⟩
  · obtain ⟨k1, k2, k3⟩ := vx_keep h0 e1 hS hAX hf hL hF
    obtain ⟨t2, a1, b1⟩ := kx E ce q u t T'.heap (locs ++ L) e1.symm (by rw [← e2]; exact X'.warmed.alike) hp hb k1 k2 k3 (by rw [e1]; exact hce) hcv hcl T' rfl X'
    exact ⟨t2, st.trans a1, b1⟩
theorem vx_calld {S SX : Type} {post : UInt64 → S → Prop} {px : SX → Prop} {B : S → State → Prop} {BX : String → SX → State → Prop} {AX : Nat → Prop} (hr : vx_Run p l e R s m args below meth c H locs cells slots mc ms (F0 m pc ls st0) rest (va_Qd post B A1 a) (vx_X px BX AX) free) (hS : va_S A0 H0 H locs) (hA : ∀ q, q < H.size → A1 q → A0 q) (hf : ∀ q, free q → A0 q) (hAX : ∀ q, q < H.size → AX q → A0 q)
    (kx : ∀ (E : String) (ce : Cell) (q9 : Addr) (u : SX) (t : State) (H1 : Heap) (locs1 : List Loc), t.heap = H1 → s.vm.Alike t.vm → px u → BX E u t → H.size ≤ H1.size → (∀ q : Nat, q < H.size → ¬ AX q → H1[q]? = H[q]?) → va_S A0 H0 H1 locs1 → H1[q9]? = some ce → ce.vm = .none → s.vm.findClass E = some ce.cls → vx_W p l e R s m args below meth c H1 locs1 (cells + mc) (slots + ms) Q (F0 m pc ls rest) q9)
    (kk : ∀ (r : UInt64) (u : S) (t : State) (H1 : Heap) (locs1 : List Loc), t.heap = H1 → s.vm.Alike t.vm → post r u → B u t → H.size ≤ H1.size → (∀ q : Nat, q < H.size → ¬ A1 q → H1[q]? = H[q]?) → va_S A0 H0 H1 locs1 → W p l e R s m args below meth c H1 locs1 (cells + mc) (slots + ms) Q (F0 m (pc + 3) ls (.double r :: rest))) : W p l e R s m args below meth c H locs cells slots Q (F0 m pc ls st0) := by
  intro T hT X
  rcases hr T hT X with ⟨v, st₀, t, T', L, h0, X', hL, e1, e2, ⟨⟨r, u, hv, hp, hb⟩, hF⟩, st⟩ | ⟨q, st₀, t, T', L, E, ce, h0, X', hL, e1, e2, ⟨u, hp, hb, hF⟩, hce, hcv, hcl, st⟩
  · cases hv
    obtain ⟨k1, k2, k3⟩ := vx_keep h0 e1 hS hA hf hL hF
    obtain ⟨t2, a1, b1⟩ := kk r u t T'.heap (locs ++ L) e1.symm (by rw [← e2]; exact X'.warmed.alike) hp hb k1 k2 k3 T' rfl X'
    exact ⟨t2, st t2 a1, b1⟩
  · obtain ⟨k1, k2, k3⟩ := vx_keep h0 e1 hS hAX hf hL hF
    obtain ⟨t2, a1, b1⟩ := kx E ce q u t T'.heap (locs ++ L) e1.symm (by rw [← e2]; exact X'.warmed.alike) hp hb k1 k2 k3 (by rw [e1]; exact hce) hcv hcl T' rfl X'
    exact ⟨t2, st.trans a1, b1⟩
theorem vx_callv {S SX : Type} {post : S → Prop} {px : SX → Prop} {B : S → State → Prop} {BX : String → SX → State → Prop} {AX : Nat → Prop} (hr : vx_Run p l e R s m args below meth c H locs cells slots mc ms (F0 m pc ls st0) rest (va_Qv post B A1 a) (vx_X px BX AX) free) (hS : va_S A0 H0 H locs) (hA : ∀ q, q < H.size → A1 q → A0 q) (hf : ∀ q, free q → A0 q) (hAX : ∀ q, q < H.size → AX q → A0 q)
    (kx : ∀ (E : String) (ce : Cell) (q9 : Addr) (u : SX) (t : State) (H1 : Heap) (locs1 : List Loc), t.heap = H1 → s.vm.Alike t.vm → px u → BX E u t → H.size ≤ H1.size → (∀ q : Nat, q < H.size → ¬ AX q → H1[q]? = H[q]?) → va_S A0 H0 H1 locs1 → H1[q9]? = some ce → ce.vm = .none → s.vm.findClass E = some ce.cls → vx_W p l e R s m args below meth c H1 locs1 (cells + mc) (slots + ms) Q (F0 m pc ls rest) q9)
    (kk : ∀ (u : S) (t : State) (H1 : Heap) (locs1 : List Loc), t.heap = H1 → s.vm.Alike t.vm → post u → B u t → H.size ≤ H1.size → (∀ q : Nat, q < H.size → ¬ A1 q → H1[q]? = H[q]?) → va_S A0 H0 H1 locs1 → W p l e R s m args below meth c H1 locs1 (cells + mc) (slots + ms) Q (F0 m (pc + 3) ls (rest))) : W p l e R s m args below meth c H locs cells slots Q (F0 m pc ls st0) := by
  intro T hT X
  rcases hr T hT X with ⟨v, st₀, t, T', L, h0, X', hL, e1, e2, ⟨⟨u, hv, hp, hb⟩, hF⟩, st⟩ | ⟨q, st₀, t, T', L, E, ce, h0, X', hL, e1, e2, ⟨u, hp, hb, hF⟩, hce, hcv, hcl, st⟩
  · cases hv
    obtain ⟨k1, k2, k3⟩ := vx_keep h0 e1 hS hA hf hL hF
    obtain ⟨t2, a1, b1⟩ := kk u t T'.heap (locs ++ L) e1.symm (by rw [← e2]; exact X'.warmed.alike) hp hb k1 k2 k3 T' rfl X'
    exact ⟨t2, st t2 a1, b1⟩
  · obtain ⟨k1, k2, k3⟩ := vx_keep h0 e1 hS hAX hf hL hF
    obtain ⟨t2, a1, b1⟩ := kx E ce q u t T'.heap (locs ++ L) e1.symm (by rw [← e2]; exact X'.warmed.alike) hp hb k1 k2 k3 (by rw [e1]; exact hce) hcv hcl T' rfl X'
    exact ⟨t2, st.trans a1, b1⟩
end Rows
section Ends
variable {p : Program} {l : Launch} {e : Env} {R : Room} {s : State} {m : MethodId} {args : Array Value} {below : List Frame} {meth : Method} {c : Code} {H : Heap} {locs : List Loc} {cells slots : Nat} {Q : State → Prop}
variable {mc ms : Nat} {free : Addr → Prop} {A0 A1 : Nat → Prop} {H0 : Heap} {a : Array Value} {ls : Array Slot} {st0 rest : List Value}
variable {Qc : Array Value → State → Outcome → State → Prop} {XC : String → State → State → Prop}
def vx_MQ (below : List Frame) (Qc : Array Value → State → Outcome → State → Prop) (XC : String → State → State → Prop) (a : Array Value) (s : State) (mc ms : Nat) (free : Addr → Prop) : State → Prop := fun t =>
  ∃ o, t.status = .running ∧ Ended t below o ∧ vx_Q Qc XC mc ms free a s o t
theorem vx_ret {g : JFrame} {mc ms : Nat} (k : W p l e R s m args below meth c H locs cells slots (MQ below Qc args s mc ms free) g) : W p l e R s m args below meth c H locs cells slots (vx_MQ below Qc XC args s mc ms free) g := by
  intro T hT X
  obtain ⟨t, a1, o, b1, b2, b3, b4⟩ := k T hT X
  exact ⟨t, a1, o, b1, b2, Or.inl ⟨b3, b4⟩⟩
theorem vx_widen {g : JFrame} {q : Addr} {k n : Nat} (h1 : cells ≤ k) (h2 : slots ≤ n) (kk : vx_W p l e R s m args below meth c H locs k n Q g q) : vx_W p l e R s m args below meth c H locs cells slots Q g q := fun T hT X => kk T hT (stand_widen X h1 h2)
theorem vx_out {pc : Nat} {E : String} {ce : Cell} {q : Addr} {mc ms : Nat} (hout : ∀ x ∈ c.exceptionTable.toList, covers x pc = false) (hlocks : meth.locks = false) (hcell : H[q]? = some ce) (hv : ce.vm = .none) (hcl : s.vm.findClass E = some ce.cls)
    (hx : ∀ t : State, t.heap = H → s.vm.Alike t.vm → XC E s t) (hf : ∀ z ∈ locs, free z.base) (hc : cells ≤ mc) (hs : slots ≤ ms) :
    vx_W p l e R s m args below meth c H locs cells slots (vx_MQ below Qc XC args s mc ms free) (F0 m pc ls rest) q := by
  intro T hT X
  obtain ⟨st1, hrun, hend, hW, hsm⟩ := X.leaveThrown q (g := F0 m pc ls rest) rfl rfl rfl hout hlocks
  have hcell9 : (T.setFrames (.throwing q :: below)).heap[q]? = some ce := by
    show T.heap[q]? = some ce
    rw [hT]; exact hcell
  exact ⟨_, st1, .threw q, hrun, hend, Or.inr ⟨q, rfl, E, ce, locs, hx _ hT hW.alike, hcell9, hv, hcl, hW, hsm.mono hc hs, hf⟩⟩
theorem vx_frame {U : State} {k n : Nat} (h : s.sameButNew ({ U with vm := s.vm } : State) locs k n) : s.heap.size ≤ U.heap.size ∧ ∀ q : Nat, q < s.heap.size → (∀ z ∈ locs, z.base ≠ q) → U.heap[q]? = s.heap[q]? := by
  obtain ⟨-, h2, -, -, -, h6⟩ := h
  refine ⟨h2, fun q hq hz => ?_⟩
  obtain ⟨c9, e1, e2, e3, e4⟩ := h6 q _ (Array.getElem?_eq_getElem hq)
  have hs : c9.slots = (s.heap[q]).slots := Array.ext_getElem? fun i => e4 i fun hm => hz _ hm rfl
  have h9 : c9 = s.heap[q] := by
    rw [hs] at e2
    exact e2
  have e5 : U.heap[q]? = some c9 := e1
  rw [e5, h9, Array.getElem?_eq_getElem hq]
def vx_no (w : Cond) : Bool := decide (w ≠ .isRef (.static Bundle.tN "UNASSIGNED_STACK" Bundle.steD)) && decide (w ≠ .isRef (.static Bundle.tN "SUPPRESSED_SENTINEL" Bundle.listD)) && decide (w ≠ .laysStatic Bundle.tN "UNASSIGNED_STACK" Bundle.steD) && decide (w ≠ .laysStatic Bundle.tN "SUPPRESSED_SENTINEL" Bundle.listD)
def vx_at0 (own : String) (ic : Nat) (X : String) (names : List String) : List Cond := (Bundle.ownAtoms0 own ic X names).filter vx_no
def vx_atS (own : String) (ic : Nat) (X : String) (names : List String) : List Cond := (Bundle.ownAtoms own ic X names).filter vx_no
def vx_ot (w : Cond) : Bool := w.onTables || goodWord w
theorem vx_ot_at {args a' : Array Value} {s U : State} {w : Cond} (hW : s.WarmedH U.vm) (hvm : s.vm = U.vm) (hg : vx_ot w = true) (h : w.before args s = true) : w.before a' U = true := by
  simp only [vx_ot, Bool.or_eq_true] at hg
  rcases hg with hg | hg
  · exact va_tabs hg hvm h
  · exact word_at hW (good_of_word hg) h
theorem vx_hat {args : Array Value} {s : State} {L B : List Cond} (h1 : ∀ w ∈ L.filter goodWord, w.before args s = true) (h2 : ∀ w ∈ L.filter (fun w => !goodWord w), w ∈ B) (h3 : ∀ w ∈ B, w.before args s = true) : ∀ w ∈ L, w.before args s = true := by
  intro w hw
  by_cases g : goodWord w = true
  · exact h1 w (List.mem_filter.mpr ⟨hw, g⟩)
  · refine h3 w (h2 w (List.mem_filter.mpr ⟨hw, ?_⟩))
    show (!goodWord w) = true
    cases hgw : goodWord w
    · rfl
    · exact absurd hgw g
theorem vx_c {args : Array Value} {s : State} {w : Cond} {B : List Cond} (h : w.before args s = true) (t : ∀ w ∈ B, w.before args s = true) : ∀ w' ∈ w :: B, w'.before args s = true := fun w' h' => (List.mem_cons.mp h').elim (fun e => by rw [e]; exact h) (t w')
theorem vx_n {args : Array Value} {s : State} : ∀ w ∈ ([] : List Cond), w.before args s = true := fun _ h => nomatch h
theorem vx_own {args : Array Value} {s : State} {L : List Cond} (h1 : ∀ w ∈ L.filter vx_no, w.before args s = true)
    (hU : (Cond.isRef (.static Bundle.tN "UNASSIGNED_STACK" Bundle.steD)).before args s = true) (hN : (Cond.isRef (.static Bundle.tN "SUPPRESSED_SENTINEL" Bundle.listD)).before args s = true)
    (lU : (Cond.laysStatic Bundle.tN "UNASSIGNED_STACK" Bundle.steD).before args s = true) (lN : (Cond.laysStatic Bundle.tN "SUPPRESSED_SENTINEL" Bundle.listD).before args s = true) : ∀ w ∈ L, w.before args s = true := by
  intro w hw
  by_cases e1 : w = .isRef (.static Bundle.tN "UNASSIGNED_STACK" Bundle.steD)
  · rw [e1]; exact hU
  · by_cases e2 : w = .isRef (.static Bundle.tN "SUPPRESSED_SENTINEL" Bundle.listD)
    · rw [e2]; exact hN
    · by_cases e3 : w = .laysStatic Bundle.tN "UNASSIGNED_STACK" Bundle.steD
      · rw [e3]; exact lU
      · by_cases e4 : w = .laysStatic Bundle.tN "SUPPRESSED_SENTINEL" Bundle.listD
        · rw [e4]; exact lN
        · exact h1 w (List.mem_filter.mpr ⟨hw, by unfold vx_no; rw [decide_eq_true e1, decide_eq_true e2, decide_eq_true e3, decide_eq_true e4]; rfl⟩)
def vx_L (C n d : String) (A : Nat → Prop) (U : State) (H : Heap) : Prop := ∃ (c : ClassId) (k : Class) (i : Nat) (f : Field) (a : Nat) (cell : Cell), U.vm.findClass C = some c ∧ U.fieldFound? C n d = some (c, k, i, f) ∧ f.isStatic = true ∧ k.statics = some a ∧ H[a]? = some cell ∧ cell.vm.isStatics = true ∧ cell.cls = c ∧ f.slot < cell.slots.size ∧ k.staticTypes[f.slot]? = some f.type ∧ ¬ A a
theorem vx_L.moved {C n d : String} {A : Nat → Prop} {u U : State} {H : Heap} (hvm : u.vm.Alike U.vm) (h : vx_L C n d A u H) : vx_L C n d A U H := by
  obtain ⟨c, k, i, f, a, cell, h1, h2, h3, h4, h5, h6, h7, h8, h9, h10⟩ := h
  obtain ⟨k', hi', he⟩ := State.fieldFound?_setVm hvm h2
  exact ⟨c, k', i, f, a, cell, by rw [hvm.findClass]; exact h1, hi', h3, by rw [he]; exact h4, h5, h6, h7, h8, by rw [he]; exact h9, h10⟩
theorem vx_L.kept {C n d : String} {A : Nat → Prop} {U : State} {H H1 : Heap} (h : vx_L C n d A U H) (hq : ∀ a : Nat, a < H.size → ¬ A a → H1[a]? = H[a]?) : vx_L C n d A U H1 := by
  obtain ⟨c, k, i, f, a, cell, h1, h2, h3, h4, h5, h6, h7, h8, h9, h10⟩ := h
  exact ⟨c, k, i, f, a, cell, h1, h2, h3, h4, by rw [hq a (Array.getElem?_eq_some_iff.mp h5).1 h10]; exact h5, h6, h7, h8, h9, h10⟩
theorem vx_L.narrow {C n d : String} {A B : Nat → Prop} {U : State} {H : Heap} (h : vx_L C n d A U H) (hAB : ∀ q, B q → A q) : vx_L C n d B U H := by
  obtain ⟨c, k, i, f, a, cell, h1, h2, h3, h4, h5, h6, h7, h8, h9, h10⟩ := h
  exact ⟨c, k, i, f, a, cell, h1, h2, h3, h4, h5, h6, h7, h8, h9, fun z => h10 (hAB _ z)⟩
theorem vx_L.word {C n d : String} {A : Nat → Prop} {s : State} {args : Array Value} (h : vx_L C n d A s s.heap) : (Cond.laysStatic C n d).before args s = true := by
  obtain ⟨c, k, i, f, a, cell, h1, h2, h3, h4, h5, h6, h7, h8, h9, -⟩ := h
  show (Cond.laysStatic C n d).holds args s none s [] = true
  exact Cond.laysStatic_of h1 h2 h3 h4 h5 h6 h7 h8 h9
def vx_Zq (C n d : String) (A : Nat → Prop) (U : State) (H : Heap) : Prop := va_Zq C n d A U H ∧ vx_L C n d A U H
theorem vx_Zq.moved {C n d : String} {A : Nat → Prop} {u U : State} {H : Heap} (hvm : u.vm.Alike U.vm) (h : vx_Zq C n d A u H) : vx_Zq C n d A U H := ⟨va_Zq.moved hvm h.1, vx_L.moved hvm h.2⟩
theorem vx_Zq.kept {C n d : String} {A : Nat → Prop} {U : State} {H H1 : Heap} (h : vx_Zq C n d A U H) (hq : ∀ a : Nat, a < H.size → ¬ A a → H1[a]? = H[a]?) : vx_Zq C n d A U H1 := ⟨va_Zq.kept h.1 hq, vx_L.kept h.2 hq⟩
theorem vx_Zq.narrow {C n d : String} {A B : Nat → Prop} {U : State} {H : Heap} (h : vx_Zq C n d A U H) (hAB : ∀ q, B q → A q) : vx_Zq C n d B U H := ⟨va_Zq.narrow h.1 hAB, vx_L.narrow h.2 hAB⟩
theorem vx_Zqof {args : Array Value} {s : State} {C n d : String} {A : Nat → Prop} (hl : (Cond.laysStatic C n d).before args s = true) (hini : (Cond.initialized C).before args s = true) (h : (Cond.isRef (.static C n d)).before args s = true) (hA : ∀ a : Nat, a < s.heap.size → ¬ A a) : vx_Zq C n d A s s.heap := by
  refine ⟨va_Zqof hl hini h hA, ?_⟩
  obtain ⟨c, k, i, f, a, cell, h1, h2, h3, h4, h5, h6, h7, h8, h9⟩ := Cond.laysStatic_spec hl
  exact ⟨c, k, i, f, a, cell, h1, h2, h3, h4, h5, h6, h7, h8, h9, hA a (Array.getElem?_eq_some_iff.mp h5).1⟩
theorem vx_isRef {C n d : String} {v : Value} {A : Nat → Prop} {s : State} {args : Array Value} (h : va_Z C n d v A s s.heap) (hv : v.isRef = true) : (Cond.isRef (.static C n d)).before args s = true := by
  obtain ⟨cf, kf, fi, f, a, cell, h1, h2, h3, h4, h5, h6, h7, -⟩ := h
  have he : (Term.static C n d).eval args s none [] s = some v := by
    simp [Term.eval, State.fieldNamed?, h1, h2, h4, h5, h6, h7]
  simp only [Cond.before, Cond.holds, Cond.value, he]
  cases v <;> simp_all [Value.isRef]
theorem vx_isRefq {C n d : String} {A : Nat → Prop} {s : State} {args : Array Value} (h : va_Zq C n d A s s.heap) : (Cond.isRef (.static C n d)).before args s = true := by
  rcases h with h | ⟨t, h⟩
  · exact vx_isRef h rfl
  · exact vx_isRef h rfl
theorem vx_rebase {T : State} (X : Stand p l e R s m args below meth c T locs cells slots) {R' : Room} (hf : R'.frames ≤ R.frames) (hl : R'.locals ≤ R.locals) (hc : cells + R'.cells ≤ R.cells) (hs : slots + R'.slots ≤ R.slots) :
    Stand p l e R' ((T.setVm s.vm).setFrames (.invoking m args :: below)) m args below meth c T [] 0 0 := by
  have htop : (T.setVm s.vm).topJava?.isSome := X.here.top
  have hF : ((T.setVm s.vm).setFrames (.invoking m args :: below)).frames = .invoking m args :: below := State.frames_setFrames _ (State.cur_lt_of_top htop)
  obtain ⟨g₀, hg0⟩ := Option.isSome_iff_exists.mp htop
  obtain ⟨r, hr⟩ := State.topJava?_eq_some.mp hg0
  have hl9 : e.platform.stackLimits (T.setVm s.vm).me = e.platform.stackLimits s.me := X.limits
  have hb9 : (T.setVm s.vm).me.stackBytes = s.me.stackBytes := X.bytes
  refine ⟨X.admits, X.cas, X.clock, hF, ?_, X.hears, X.method, X.code, X.here, X.tail, X.warmed, ?_, ?_, ?_⟩
  · have h := X.room
    have hU : ((T.setVm s.vm).setFrames (.invoking m args :: below)).localsInUse = s.localsInUse := by
      rw [State.localsInUse_invoking hF (meth := meth) (c := c) X.method X.code, State.localsInUse_invoking X.frames X.method X.code]
    simp only [State.hasRoom, Bool.and_eq_true, decide_eq_true_eq] at h ⊢
    obtain ⟨⟨⟨⟨h1, h2, h3, h4, h5, h6⟩, h7⟩, h8⟩, h9⟩ := h
    rw [X.frames, List.length_cons] at h2 h3
    have q1 := X.heapSize
    have q2 := X.used
    simp only [hF, hU, List.length_cons, State.stackLimits_setFrames, State.stackBytes_setFrames, hl9, hb9]
    refine ⟨⟨⟨⟨by omega, by omega, by omega, by omega, by omega, h6⟩, ?_⟩, ?_⟩, X.book⟩
    · show T.heap.size + R'.cells ≤ e.platform.maxCells
      omega
    · show T.slotsUsed + R'.slots ≤ e.platform.maxSlots
      omega
  · rw [State.stackLimits_setFrames]; rfl
  · rw [State.stackBytes_setFrames]; rfl
  · refine ⟨?_, Nat.le_refl _, Nat.le_refl _, ?_, ?_, fun a c9 h9 => ⟨c9, h9, rfl, rfl, fun _ _ => rfl⟩⟩
    · obtain ⟨t, ht, -⟩ := State.frames_cons hr
      show T.setVm s.vm = { ((T.setVm s.vm).setFrames (.invoking m args :: below)).setFrames (T.setVm s.vm).frames with heap := T.heap, slotsUsed := T.slotsUsed }
      rw [State.setFrames_setFrames, State.setFrames_self ht]
      rfl
    · show T.slotsUsed = T.slotsUsed + ((T.heap.toList.drop T.heap.size).map (·.slots.size)).sum
      rw [List.drop_eq_nil_of_le (Nat.le_of_eq Array.length_toList)]
      rfl
    · show ((T.heap.toList.drop T.heap.size).map (·.slots.size)).sum ≤ 0
      rw [List.drop_eq_nil_of_le (Nat.le_of_eq Array.length_toList)]
      exact Nat.le_refl _
theorem vx_throw0 {cc : ByteArray} {pc : Nat} (hexec : p.tables.exec = Jvm.exec) (hb : c.code = cc) (hl : l.stackTraces = false) {own cls : String} {names : List String} {ik ic mc ms : Nat} {A : Nat → Prop}
    (hown : s.vm.findClass own = some m.cls) (hcls : Bundle.fit cls = true) (hnames : ∀ n ∈ names, Bundle.fit n = true)
    (hk : (Cond.classLink own ik cls).before args s = true) (hini : (Cond.initialized cls).before args s = true) (hat : ∀ w ∈ vx_at0 own ic cls names, w.before args s = true)
    (hgood : ∀ w ∈ Cond.classLink own ik cls :: Cond.initialized cls :: vx_at0 own ic cls names, vx_ot w = true)
    (hU : vx_Zq Bundle.tN "UNASSIGNED_STACK" Bundle.steD A s s.heap) (hN : vx_Zq Bundle.tN "SUPPRESSED_SENTINEL" Bundle.listD A s s.heap) (hS : va_S A s.heap H locs) (hsize : ls.size = c.maxLocals)
    (d0 : decode cc pc = .ok (.new ik, 3)) (d3 : decode cc (pc + 3) = .ok (.dup, 1)) (d4 : decode cc (pc + 4) = .ok (.invokespecial ic, 3)) (d7 : decode cc (pc + 7) = .ok (.athrow, 1))
    (hout : ∀ x ∈ c.exceptionTable.toList, covers x (pc + 7) = false)
    (hRframes : names.length + 3 < R.frames) (hRlocals : (rest.map fun v => v.category).sum + (13 * (names.length + 1) + 42) ≤ R.locals) (hRcells : cells + 1 ≤ R.cells) (hRslots : slots + 6 ≤ R.slots) (hlocks : meth.locks = false)
    (hx : ∀ t : State, s.vm.Alike t.vm → H.size ≤ t.heap.size → (∀ q : Nat, q < H.size → t.heap[q]? = H[q]?) → XC cls s t)
    (hf : ∀ z ∈ locs, free z.base) (hc : cells + 1 ≤ mc) (hs : slots + 6 ≤ ms) :
    W p l e R s m args below meth c H locs cells slots (vx_MQ below Qc XC args s mc ms free) (F0 m pc ls rest) := by
  intro T hT X
  have htr : e.platform.stackTraces = false := (show e.platform.stackTraces = l.stackTraces by rw [X.admits.platform]).trans hl
  have Y := vx_rebase X (R' := { frames := R.frames, locals := R.locals, cells := 1, slots := 6 }) (Nat.le_refl _) (Nat.le_refl _) hRcells hRslots
  obtain ⟨s', hA⟩ : ∃ z, z = (T.setVm s.vm).setFrames (.invoking m args :: below) := ⟨_, rfl⟩
  rw [← hA] at Y
  have hvm : s'.vm = s.vm := by rw [hA]; rfl
  have hhp : s'.heap = H := by rw [hA]; exact hT
  have hW0 : s.WarmedH s'.vm := by rw [hvm]; exact State.WarmedH.refl s
  have hat' : ∀ w ∈ vx_at0 own ic cls names, w.before args s' = true := fun w hw => vx_ot_at hW0 hvm.symm (hgood w (List.mem_cons_of_mem _ (List.mem_cons_of_mem _ hw))) (hat w hw)
  have hk' : (Cond.classLink own ik cls).before args s' = true := vx_ot_at hW0 hvm.symm (hgood _ List.mem_cons_self) hk
  have hini' : (Cond.initialized cls).before args s' = true := vx_ot_at hW0 hvm.symm (hgood _ (List.mem_cons_of_mem _ List.mem_cons_self)) hini
  have hU' : vx_Zq Bundle.tN "UNASSIGNED_STACK" Bundle.steD A s' s'.heap := by rw [hhp]; exact vx_Zq.moved hW0.alike (hU.kept hS.2.1)
  have hN' : vx_Zq Bundle.tN "SUPPRESSED_SENTINEL" Bundle.listD A s' s'.heap := by rw [hhp]; exact vx_Zq.moved hW0.alike (hN.kept hS.2.1)
  have h : ∀ w ∈ Bundle.ownAtoms0 own ic cls names, w.before args s' = true := vx_own hat' (vx_isRefq hU'.1) (vx_isRefq hN'.1) hU'.2.word hN'.2.word
  have hown' : s'.vm.findClass own = some m.cls := by rw [hvm]; exact hown
  have hins : (Cond.instantiable cls 6).before args s' = true := h _ (by simp [Bundle.ownAtoms0])
  obtain ⟨vm₁, cX, kX, hfX, hkX, -, -, X₁, st1⟩ := Y.newCold hexec (own := own) (C := cls) (index := ik) (n := 6) hown' hk' hins hini'
    (g := F0 m pc ls rest) rfl (by rw [hb]; exact d0) (Nat.le_refl _) (Nat.le_refl _)
  generalize hT1 : (T.setVm vm₁).pushCell { cls := cX, slots := kX.instanceTypes.map defaultValue, vm := .none } = T1 at X₁ st1
  have hcat : (Value.ref T.heap.size).category = 1 := rfl
  have hcellA : T1.heap[T.heap.size]? = some (freshCell cX kX) := by rw [← hT1]; exact State.heap_pushCell_size _ _
  have d3' : decode c.code (pc + 3) = .ok (.dup, 1) := by rw [hb]; exact d3
  obtain ⟨U, hsteps, hrun, hend, hW, hsame, ce, hce, hO⟩ := X₁.ctorThrow0 hexec htr (own := own) (cls := cls) (names := names) (ic := ic) hown' hcls hnames h (fun x hx => nomatch hx) hfX hkX hcellA (by rw [hhp, hT]; exact Nat.le_refl _)
    (g := { method := m, pc := pc + 4, locals := ls, stack := .ref T.heap.size :: .ref T.heap.size :: rest, locked := none }) rfl hsize rfl rfl (rest := rest) rfl
    (by rw [hb]; exact d4) (by rw [hb]; exact d7) hout hRframes (by simp only [List.map_cons, List.sum_cons, hcat]; omega) hlocks
  obtain ⟨f1, f2⟩ := vx_frame hsame
  rw [hhp] at f1 f2
  have hWs : s.WarmedH U.vm := State.WarmedH.trans hW0 hW
  have hcl : s.vm.findClass cls = some ce.cls := by
    have h9 := hO.cls
    rw [hvm] at h9
    exact h9
  have hall : s.sameButNew ({ U with vm := s.vm } : State) locs mc ms := by
    subst hA
    obtain ⟨e1, e2⟩ := hsame
    rw [State.setFrames_setFrames] at e1
    have h2 : (T.setVm s.vm).sameButNew ({ U with vm := s.vm } : State) [] (0 + 1) (0 + 6) := ⟨e1, e2⟩
    have h3 := X.same.trans h2
    rw [List.append_nil] at h3
    exact h3.mono hc hs
  refine ⟨U, ?_, .threw T.heap.size, hrun, hend, Or.inr ⟨T.heap.size, rfl, cls, ce, locs, hx U hWs.alike f1 (fun q hq => f2 q hq (fun z hz => nomatch hz)), hce, hO.vm, hcl, hWs, hall, hf⟩⟩
  refine st1 _ ?_
  show Steps p.tables e below (T1.setTop { method := m, pc := pc + 3, locals := ls, stack := .ref T.heap.size :: rest, locked := none }) _
  jvm_step X₁.here [X₁.here.top, hexec, d3', Value.category]
  exact hsteps
theorem vx_throwS {cc : ByteArray} {pc : Nat} (hexec : p.tables.exec = Jvm.exec) (hb : c.code = cc) (hl : l.stackTraces = false) {own cls text : String} {names : List String} {ik is ic mc ms sa : Nat} {A : Nat → Prop}
    (hown : s.vm.findClass own = some m.cls) (hcls : Bundle.fit cls = true) (hnames : ∀ n ∈ names, Bundle.fit n = true)
    (hk : (Cond.classLink own ik cls).before args s = true) (hini : (Cond.initialized cls).before args s = true) (hstr : vk_R own is text sa s) (hat : ∀ w ∈ vx_atS own ic cls names, w.before args s = true)
    (hgood : ∀ w ∈ Cond.classLink own ik cls :: Cond.initialized cls :: vx_atS own ic cls names, vx_ot w = true)
    (hU : vx_Zq Bundle.tN "UNASSIGNED_STACK" Bundle.steD A s s.heap) (hN : vx_Zq Bundle.tN "SUPPRESSED_SENTINEL" Bundle.listD A s s.heap) (hS : va_S A s.heap H locs) (hsize : ls.size = c.maxLocals)
    (d0 : decode cc pc = .ok (.new ik, 3)) (d3 : decode cc (pc + 3) = .ok (.dup, 1)) (d4 : decode cc (pc + 4) = .ok (.ldc is, 2)) (d6 : decode cc (pc + 6) = .ok (.invokespecial ic, 3)) (d9 : decode cc (pc + 9) = .ok (.athrow, 1))
    (hout : ∀ x ∈ c.exceptionTable.toList, covers x (pc + 9) = false)
    (hRframes : names.length + 3 < R.frames) (hRlocals : (rest.map fun v => v.category).sum + (13 * (names.length + 1) + 43) ≤ R.locals) (hRcells : cells + 1 ≤ R.cells) (hRslots : slots + 6 ≤ R.slots) (hlocks : meth.locks = false)
    (hx : ∀ t : State, s.vm.Alike t.vm → H.size ≤ t.heap.size → (∀ q : Nat, q < H.size → t.heap[q]? = H[q]?) → XC cls s t)
    (hf : ∀ z ∈ locs, free z.base) (hc : cells + 1 ≤ mc) (hs : slots + 6 ≤ ms) :
    W p l e R s m args below meth c H locs cells slots (vx_MQ below Qc XC args s mc ms free) (F0 m pc ls rest) := by
  intro T hT X
  have htr : e.platform.stackTraces = false := (show e.platform.stackTraces = l.stackTraces by rw [X.admits.platform]).trans hl
  have Y := vx_rebase X (R' := { frames := R.frames, locals := R.locals, cells := 1, slots := 6 }) (Nat.le_refl _) (Nat.le_refl _) hRcells hRslots
  obtain ⟨s', hA⟩ : ∃ z, z = (T.setVm s.vm).setFrames (.invoking m args :: below) := ⟨_, rfl⟩
  rw [← hA] at Y
  have hvm : s'.vm = s.vm := by rw [hA]; rfl
  have hhp : s'.heap = H := by rw [hA]; exact hT
  have hW0 : s.WarmedH s'.vm := by rw [hvm]; exact State.WarmedH.refl s
  have hat' : ∀ w ∈ vx_atS own ic cls names, w.before args s' = true := fun w hw => vx_ot_at hW0 hvm.symm (hgood w (List.mem_cons_of_mem _ (List.mem_cons_of_mem _ hw))) (hat w hw)
  have hk' : (Cond.classLink own ik cls).before args s' = true := vx_ot_at hW0 hvm.symm (hgood _ List.mem_cons_self) hk
  have hini' : (Cond.initialized cls).before args s' = true := vx_ot_at hW0 hvm.symm (hgood _ (List.mem_cons_of_mem _ List.mem_cons_self)) hini
  have hU' : vx_Zq Bundle.tN "UNASSIGNED_STACK" Bundle.steD A s' s'.heap := by rw [hhp]; exact vx_Zq.moved hW0.alike (hU.kept hS.2.1)
  have hN' : vx_Zq Bundle.tN "SUPPRESSED_SENTINEL" Bundle.listD A s' s'.heap := by rw [hhp]; exact vx_Zq.moved hW0.alike (hN.kept hS.2.1)
  have h : ∀ w ∈ Bundle.ownAtoms own ic cls names, w.before args s' = true := vx_own hat' (vx_isRefq hU'.1) (vx_isRefq hN'.1) hU'.2.word hN'.2.word
  have hown' : s'.vm.findClass own = some m.cls := by rw [hvm]; exact hown
  have hins : (Cond.instantiable cls 6).before args s' = true := h _ (by simp [Bundle.ownAtoms])
  obtain ⟨vm₁, cX, kX, hfX, hkX, -, -, X₁, st1⟩ := Y.newCold hexec (own := own) (C := cls) (index := ik) (n := 6) hown' hk' hins hini'
    (g := F0 m pc ls rest) rfl (by rw [hb]; exact d0) (Nat.le_refl _) (Nat.le_refl _)
  generalize hT1 : (T.setVm vm₁).pushCell { cls := cX, slots := kX.instanceTypes.map defaultValue, vm := .none } = T1 at X₁ st1
  have hcat : (Value.ref T.heap.size).category = 1 := rfl
  have hcellA : T1.heap[T.heap.size]? = some (freshCell cX kX) := by rw [← hT1]; exact State.heap_pushCell_size _ _
  have d3' : decode c.code (pc + 3) = .ok (.dup, 1) := by rw [hb]; exact d3
  have d4' : decode c.code (pc + 4) = .ok (.ldc is, 2) := by rw [hb]; exact d4
  have hstr' : vk_R own is text sa s' := vk_R.warm hW0 hstr
  obtain ⟨U, hsteps, hrun, hend, hW, hsame, ce, hce, hO⟩ := X₁.ctorThrowS hexec htr (own := own) (cls := cls) (names := names) (ic := ic) hown' hcls hnames h (fun x hx => nomatch hx) hfX hkX hcellA (by rw [hhp, hT]; exact Nat.le_refl _) (msg := .ref sa) rfl
    (g := { method := m, pc := pc + 6, locals := ls, stack := .ref sa :: .ref T.heap.size :: .ref T.heap.size :: rest, locked := none }) rfl hsize rfl rfl (rest := rest) rfl
    (by rw [hb]; exact d6) (by rw [hb]; exact d9) hout hRframes (by simp only [List.map_cons, List.sum_cons, hcat]; omega) hlocks
  obtain ⟨f1, f2⟩ := vx_frame hsame
  rw [hhp] at f1 f2
  have hWs : s.WarmedH U.vm := State.WarmedH.trans hW0 hW
  have hcl : s.vm.findClass cls = some ce.cls := by
    have h9 := hO.cls
    rw [hvm] at h9
    exact h9
  have hall : s.sameButNew ({ U with vm := s.vm } : State) locs mc ms := by
    subst hA
    obtain ⟨e1, e2⟩ := hsame
    rw [State.setFrames_setFrames] at e1
    have h2 : (T.setVm s.vm).sameButNew ({ U with vm := s.vm } : State) [] (0 + 1) (0 + 6) := ⟨e1, e2⟩
    have h3 := X.same.trans h2
    rw [List.append_nil] at h3
    exact h3.mono hc hs
  refine ⟨U, ?_, .threw T.heap.size, hrun, hend, Or.inr ⟨T.heap.size, rfl, cls, ce, locs, hx U hWs.alike f1 (fun q hq => f2 q hq (fun z hz => nomatch hz)), hce, hO.vm, hcl, hWs, hall, hf⟩⟩
  refine st1 _ ?_
  show Steps p.tables e below (T1.setTop { method := m, pc := pc + 3, locals := ls, stack := .ref T.heap.size :: rest, locked := none }) _
  jvm_step X₁.here [X₁.here.top, hexec, d3', Value.category]
  exact X₁.ldcString hexec (own := own) (text := text) (index := is) (a := sa) hown' hstr'.1 hstr'.2
    (g := { method := m, pc := pc + 4, locals := ls, stack := .ref T.heap.size :: .ref T.heap.size :: rest, locked := none }) rfl d4' _ hsteps
theorem vx_throwSW {cc : ByteArray} {pc : Nat} (hexec : p.tables.exec = Jvm.exec) (hb : c.code = cc) (hl : l.stackTraces = false) {own cls text : String} {names : List String} {ik is ic mc ms sa : Nat} {A : Nat → Prop}
    (hown : s.vm.findClass own = some m.cls) (hcls : Bundle.fit cls = true) (hnames : ∀ n ∈ names, Bundle.fit n = true)
    (hk : (Cond.classLink own ik cls).before args s = true) (hini : (Cond.initialized cls).before args s = true) (hstr : vk_R own is text sa s) (hat : ∀ w ∈ vx_atS own ic cls names, w.before args s = true)
    (hgood : ∀ w ∈ Cond.classLink own ik cls :: Cond.initialized cls :: vx_atS own ic cls names, vx_ot w = true)
    (hU : vx_Zq Bundle.tN "UNASSIGNED_STACK" Bundle.steD A s s.heap) (hN : vx_Zq Bundle.tN "SUPPRESSED_SENTINEL" Bundle.listD A s s.heap) (hS : va_S A s.heap H locs) (hsize : ls.size = c.maxLocals)
    (d0 : decode cc pc = .ok (.new ik, 3)) (d3 : decode cc (pc + 3) = .ok (.dup, 1)) (d4 : decode cc (pc + 4) = .ok (.ldc_w is, 3)) (d7 : decode cc (pc + 7) = .ok (.invokespecial ic, 3)) (d10 : decode cc (pc + 10) = .ok (.athrow, 1))
    (hout : ∀ x ∈ c.exceptionTable.toList, covers x (pc + 10) = false)
    (hRframes : names.length + 3 < R.frames) (hRlocals : (rest.map fun v => v.category).sum + (13 * (names.length + 1) + 43) ≤ R.locals) (hRcells : cells + 1 ≤ R.cells) (hRslots : slots + 6 ≤ R.slots) (hlocks : meth.locks = false)
    (hx : ∀ t : State, s.vm.Alike t.vm → H.size ≤ t.heap.size → (∀ q : Nat, q < H.size → t.heap[q]? = H[q]?) → XC cls s t)
    (hf : ∀ z ∈ locs, free z.base) (hc : cells + 1 ≤ mc) (hs : slots + 6 ≤ ms) :
    W p l e R s m args below meth c H locs cells slots (vx_MQ below Qc XC args s mc ms free) (F0 m pc ls rest) := by
  intro T hT X
  have htr : e.platform.stackTraces = false := (show e.platform.stackTraces = l.stackTraces by rw [X.admits.platform]).trans hl
  have Y := vx_rebase X (R' := { frames := R.frames, locals := R.locals, cells := 1, slots := 6 }) (Nat.le_refl _) (Nat.le_refl _) hRcells hRslots
  obtain ⟨s', hA⟩ : ∃ z, z = (T.setVm s.vm).setFrames (.invoking m args :: below) := ⟨_, rfl⟩
  rw [← hA] at Y
  have hvm : s'.vm = s.vm := by rw [hA]; rfl
  have hhp : s'.heap = H := by rw [hA]; exact hT
  have hW0 : s.WarmedH s'.vm := by rw [hvm]; exact State.WarmedH.refl s
  have hat' : ∀ w ∈ vx_atS own ic cls names, w.before args s' = true := fun w hw => vx_ot_at hW0 hvm.symm (hgood w (List.mem_cons_of_mem _ (List.mem_cons_of_mem _ hw))) (hat w hw)
  have hk' : (Cond.classLink own ik cls).before args s' = true := vx_ot_at hW0 hvm.symm (hgood _ List.mem_cons_self) hk
  have hini' : (Cond.initialized cls).before args s' = true := vx_ot_at hW0 hvm.symm (hgood _ (List.mem_cons_of_mem _ List.mem_cons_self)) hini
  have hU' : vx_Zq Bundle.tN "UNASSIGNED_STACK" Bundle.steD A s' s'.heap := by rw [hhp]; exact vx_Zq.moved hW0.alike (hU.kept hS.2.1)
  have hN' : vx_Zq Bundle.tN "SUPPRESSED_SENTINEL" Bundle.listD A s' s'.heap := by rw [hhp]; exact vx_Zq.moved hW0.alike (hN.kept hS.2.1)
  have h : ∀ w ∈ Bundle.ownAtoms own ic cls names, w.before args s' = true := vx_own hat' (vx_isRefq hU'.1) (vx_isRefq hN'.1) hU'.2.word hN'.2.word
  have hown' : s'.vm.findClass own = some m.cls := by rw [hvm]; exact hown
  have hins : (Cond.instantiable cls 6).before args s' = true := h _ (by simp [Bundle.ownAtoms])
  obtain ⟨vm₁, cX, kX, hfX, hkX, -, -, X₁, st1⟩ := Y.newCold hexec (own := own) (C := cls) (index := ik) (n := 6) hown' hk' hins hini'
    (g := F0 m pc ls rest) rfl (by rw [hb]; exact d0) (Nat.le_refl _) (Nat.le_refl _)
  generalize hT1 : (T.setVm vm₁).pushCell { cls := cX, slots := kX.instanceTypes.map defaultValue, vm := .none } = T1 at X₁ st1
  have hcat : (Value.ref T.heap.size).category = 1 := rfl
  have hcellA : T1.heap[T.heap.size]? = some (freshCell cX kX) := by rw [← hT1]; exact State.heap_pushCell_size _ _
  have d3' : decode c.code (pc + 3) = .ok (.dup, 1) := by rw [hb]; exact d3
  have d4' : decode c.code (pc + 4) = .ok (.ldc_w is, 3) := by rw [hb]; exact d4
  have hstr' : vk_R own is text sa s' := vk_R.warm hW0 hstr
  obtain ⟨U, hsteps, hrun, hend, hW, hsame, ce, hce, hO⟩ := X₁.ctorThrowS hexec htr (own := own) (cls := cls) (names := names) (ic := ic) hown' hcls hnames h (fun x hx => nomatch hx) hfX hkX hcellA (by rw [hhp, hT]; exact Nat.le_refl _) (msg := .ref sa) rfl
    (g := { method := m, pc := pc + 7, locals := ls, stack := .ref sa :: .ref T.heap.size :: .ref T.heap.size :: rest, locked := none }) rfl hsize rfl rfl (rest := rest) rfl
    (by rw [hb]; exact d7) (by rw [hb]; exact d10) hout hRframes (by simp only [List.map_cons, List.sum_cons, hcat]; omega) hlocks
  obtain ⟨f1, f2⟩ := vx_frame hsame
  rw [hhp] at f1 f2
  have hWs : s.WarmedH U.vm := State.WarmedH.trans hW0 hW
  have hcl : s.vm.findClass cls = some ce.cls := by
    have h9 := hO.cls
    rw [hvm] at h9
    exact h9
  have hall : s.sameButNew ({ U with vm := s.vm } : State) locs mc ms := by
    subst hA
    obtain ⟨e1, e2⟩ := hsame
    rw [State.setFrames_setFrames] at e1
    have h2 : (T.setVm s.vm).sameButNew ({ U with vm := s.vm } : State) [] (0 + 1) (0 + 6) := ⟨e1, e2⟩
    have h3 := X.same.trans h2
    rw [List.append_nil] at h3
    exact h3.mono hc hs
  refine ⟨U, ?_, .threw T.heap.size, hrun, hend, Or.inr ⟨T.heap.size, rfl, cls, ce, locs, hx U hWs.alike f1 (fun q hq => f2 q hq (fun z hz => nomatch hz)), hce, hO.vm, hcl, hWs, hall, hf⟩⟩
  refine st1 _ ?_
  show Steps p.tables e below (T1.setTop { method := m, pc := pc + 3, locals := ls, stack := .ref T.heap.size :: rest, locked := none }) _
  jvm_step X₁.here [X₁.here.top, hexec, d3', Value.category]
  exact X₁.ldcStringW hexec (own := own) (text := text) (index := is) (a := sa) hown' hstr'.1 hstr'.2
    (g := { method := m, pc := pc + 4, locals := ls, stack := .ref T.heap.size :: .ref T.heap.size :: rest, locked := none }) rfl d4' _ hsteps
end Ends
section Bodies
variable {l : Launch}
theorem vx_ofW {y : MethodName} {ws ws' : List Cond} {rm : Room} {Pc : Array Value → State → Prop} {Qc : Array Value → State → Outcome → State → Prop} {XC : String → State → State → Prop} {mc ms : Nat} {free : Addr → Prop} {cc : ByteArray} {maxL : Nat} {ret : Option FieldType}
    (hy : plainName y.cls = true) (hw : ws = Cond.code y cc maxL ret :: ws')
    (body : ∀ p e s m args below meth c s₁, BodyLoose p l y (headSpec ws rm) cc maxL ret e s m args below meth c s₁ → c.maxLocals = maxL → (∀ x ∈ c.exceptionTable.toList, False) → Pc args s →
      W p l e (headSpec ws rm).room s m args below meth c s.heap [] 0 0 (vx_MQ below Qc XC args s mc ms free) (entryFrame m args maxL)) : vx_Met l y ws rm Pc Qc XC mc ms free := by
  refine MetFree.of_bodyS (code := cc) (maxLocals := maxL) (ret := ret) hy ?_ ?_
  · intro args s m h hn
    obtain ⟨meth, c, h1, h2, h3, h4, h5, h6, -, -⟩ := Cond.code_spec hn (atoms_spec (ws := ws) h _ (by rw [hw]; exact List.mem_cons_self))
    exact ⟨meth, c, h1, h2, h3, h4, h5, h6⟩
  · intro p e s m args below meth c s₁ B hml hP _
    have hh0 : s₁.heap = s.heap := by rw [B.state]; rfl
    have ht : ∀ x ∈ c.exceptionTable.toList, False := by
      obtain ⟨meth9, c9, h1, h2, -, -, -, -, h7, -⟩ := Cond.code_spec B.named (atoms_spec (ws := ws) B.pre _ (by rw [hw]; exact List.mem_cons_self))
      cases Option.some.inj (h1.symm.trans B.method)
      cases Option.some.inj (h2.symm.trans (Stand.of_body B).code)
      intro x hx
      rw [Array.isEmpty_iff.mp h7] at hx
      cases hx
    obtain ⟨t, a1, o, b1, b2, b3⟩ := body p e s m args below meth c s₁ B hml ht hP s₁ hh0 (Stand.of_body B)
    exact ⟨t, o, a1, b1, b2, b3⟩
theorem vx_table {p : Program} {x y : MethodName} {S : Spec} {cc bytes : ByteArray} {maxL maxL' : Nat} {ret ret' : Option FieldType} {e : Env} {s s₁ : State} {m : MethodId} {args : Array Value} {below : List Frame} {meth : Method} {c : Code} {hh : List (Nat × Nat × Nat × Nat)}
    (B : BodyLoose p l y S cc maxL ret e s m args below meth c s₁) (h : (Cond.codeWith y bytes maxL' ret' hh).before args s = true) : c.exceptionTable.toList = tableOf hh := by
  obtain ⟨m9, meth9, c9, hn9, h1, h2, -, -, h6, -⟩ := Cond.codeWith_spec h
  cases Option.some.inj (hn9.symm.trans B.named)
  cases Option.some.inj (h1.symm.trans B.method)
  cases Option.some.inj (h2.symm.trans (Stand.of_body B).code)
  rw [← h6, table_eq]
end Bodies
end VXA
/-! ===== END ===== -/
/-! ===== BEGIN a static call of a method with an exception table ===== -/
section VXS
variable {p : Program} {l : Launch} {e : Env} {R : Room} {s : State} {m : MethodId} {args : Array Value} {below : List Frame} {meth : Method} {c : Code} {T : State} {H : Heap} {locs : List Loc} {cells slots : Nat}
abbrev vx_CSW (R : Room) (s : State) (args : Array Value) (own : String) (index : Nat) (y : MethodName) (bytes : ByteArray) (maxL : Nat) (ret : Option FieldType) (hh : List (Nat × Nat × Nat × Nat)) (ws : List Cond) (rm : Room) (mc ms n : Nat) : Prop :=
  (rm.cells = mc ∧ rm.slots = ms ∧ rm.frames + 1 ≤ R.frames ∧ 8 + (maxL + 11) + rm.locals ≤ R.locals ∧ (∀ w ∈ ws, ∀ (a' : Array Value) (U : State), s.WarmedH U.vm → w.before a' U = true) ∧ Cond.codeWith y bytes maxL ret hh ∈ ws) ∧
  (Cond.codeWith y bytes maxL ret hh).before args s = true ∧ (Cond.initialized y.cls).before args s = true ∧ (y.cls ≠ "java/lang/invoke/MethodHandle" ∧ y.cls ≠ "java/lang/invoke/VarHandle") ∧
  (∀ sig, parseMethodDescriptor y.desc = some sig → n = sig.parameters.length) ∧ (Cond.methodLink own index y).before args s = true ∧ (Cond.static y).before args s = true
theorem vx_cwSW {own : String} {index maxL mc ms : Nat} {y : MethodName} {bytes : ByteArray} {ret : Option FieldType} {hh : List (Nat × Nat × Nat × Nat)} {Ts ws ws' : List Cond} {rm : Room} (n : Nat) (ht : ∀ w ∈ Ts, w.before args s = true) (hT : GoodIn Ts (va_wsS own index y ws)) (hw : ws = Cond.codeWith y bytes maxL ret hh :: ws') (hrc : rm.cells = mc) (hrs : rm.slots = ms)
    (hd : y.cls ≠ "java/lang/invoke/MethodHandle" ∧ y.cls ≠ "java/lang/invoke/VarHandle" ∧ (parseMethodDescriptor y.desc).map (fun d => d.parameters.length) = some n) (hR : rm.frames + 1 ≤ R.frames ∧ 8 + (maxL + 11) + rm.locals ≤ R.locals) :
    vx_CSW R s args own index y bytes maxL ret hh ws rm mc ms n := by
  have ok : ∀ w ∈ va_wsS own index y ws, w.before args s = true := fun w h => ht w (hT w h).1
  have hG : GoodIn Ts ws := fun w h => hT w (by unfold va_wsS; exact List.mem_append_right _ h)
  have hc : Cond.codeWith y bytes maxL ret hh ∈ ws := by rw [hw]; exact List.mem_cons_self
  refine ⟨⟨hrc, hrs, hR.1, hR.2, pay_in ht hG, hc⟩, ht _ (hG _ hc).1, ok _ (by simp [va_wsS]), ⟨hd.1, hd.2.1⟩, fun sig h => ?_, ok _ (by simp [va_wsS]), ok _ (by simp [va_wsS])⟩
  have h2 := hd.2.2
  rw [h] at h2
  exact (Option.some.inj h2).symm
theorem vx_callSW (X : Stand p l e R s m args below meth c T locs cells slots) (hexec : p.tables.exec = Jvm.exec) {own : String} {index : Nat} {y : MethodName} {bytes : ByteArray} {maxL : Nat} {ret : Option FieldType} {hh : List (Nat × Nat × Nat × Nat)}
    (hown : s.vm.findClass own = some m.cls) (hlink : (Cond.methodLink own index y).before args s = true) (hstat : (Cond.static y).before args s = true) (hinit : (Cond.initialized y.cls).before args s = true)
    (hcode : (Cond.codeWith y bytes maxL ret hh).before args s = true) (hy : y.cls ≠ "java/lang/invoke/MethodHandle" ∧ y.cls ≠ "java/lang/invoke/VarHandle")
    {W9 : Nat} {Pre : Pt → Array Value → Prop} {Post : Pt → Array Value → Option Value → Pt → Prop} (hK : Back l R p e below s args y 3 W9 Pre Post)
    {g : JFrame} (hg : g.method = m) (hsize : g.locals.size = c.maxLocals) {argsL rest : List Value} (hlen : ∀ sig, parseMethodDescriptor y.desc = some sig → argsL.length = sig.parameters.length)
    (hstack : g.stack = argsL.reverse ++ rest) (hW : 2 * g.monitorRoom + (rest.map fun v => v.category).sum ≤ W9) (hdg : decode c.code g.pc = .ok (.invokestatic index, 3))
    (hpre : ∀ vm₁, s.WarmedH vm₁ → Pre ⟨T.setVm vm₁, locs, cells, slots⟩ argsL.toArray) :
    ∃ (v : Option Value) (vm₁ : Vm) (B : Pt), s.WarmedH vm₁ ∧ Stand p l e R s m args below meth c B.U B.locs B.cells B.slots ∧ Post ⟨T.setVm vm₁, locs, cells, slots⟩ argsL.toArray v B ∧
      ∀ target, Steps p.tables e below (B.U.setTop { g with pc := g.pc + 3, stack := v.toList ++ rest }) target → Steps p.tables e below (T.setTop g) target := by
  obtain ⟨mk, methM, cM, hnamed, hmethM, -, -, -, -, -, -, hsigM⟩ := Cond.codeWith_spec hcode
  have hstatic : methM.isStatic = true := Cond.static_spec hnamed hmethM hstat
  obtain ⟨kP, hkP, -⟩ := className_of_methodNamed hnamed
  have hinitP : kP.init = .initialized := Cond.initialized_spec (findClass_of_methodNamed hnamed) hkP hinit
  obtain ⟨vm₁, X₁, hstep₁⟩ := X.invokestatic hexec hown hlink hnamed hmethM hstatic hkP hinitP hy (g := g) hg (argsL := argsL) (rest := rest) (hlen _ hsigM) hstack hdg
  obtain ⟨v, B, X', hpost, hsteps⟩ := hK m meth c ⟨T.setVm vm₁, locs, cells, slots⟩ { g with stack := rest } (.invokestatic index) mk argsL.toArray X₁ hg hsize hdg hW (X₁.named hnamed) (hpre vm₁ X₁.warmed)
  exact ⟨v, vm₁, B, X₁.warmed, X', hpost, fun target h => hstep₁ _ fun acts => by rw [doInvoke_state]; exact hsteps.trans h⟩
theorem vx_runSW {y : MethodName} {bytes cc : ByteArray} {maxL nL mc ms n index : Nat} {ret : Option FieldType} {hh : List (Nat × Nat × Nat × Nat)} {ws : List Cond} {rm : Room} {Pc : Array Value → State → Prop} {Qc : Array Value → State → Outcome → State → Prop} {free : Addr → Prop} {Ts : List Cond} {own : String} {As rest : List Value} {g : JFrame}
    (S : CallFix p m c cc nL s args Ts own) (hM : Met l y ws rm Pc Qc mc ms free) (cw : vx_CSW R s args own index y bytes maxL ret hh ws rm mc ms n) (hp : PreS s H Pc As)
    (hg : g.method = m) (hn : As.length = n) (hsize : g.locals.size = nL) (hstack : g.stack = As.reverse ++ rest) (hW : 2 * g.monitorRoom + (rest.map fun v => v.category).sum ≤ 8) (hdg : decode cc g.pc = .ok (.invokestatic index, 3)) (hf : cells + mc ≤ R.cells ∧ slots + ms ≤ R.slots) :
    va_Run p l e R s m args below meth c H locs cells slots mc ms g rest (Qc As.toArray) (free) := by
  obtain ⟨⟨hrc, hrs, hfr, hlo, hws, hcw⟩, hcode, hini, hy, hlen, hl, hstt⟩ := cw
  have hK : Back l R p e below s args y 3 8 (PreOf R mc ms Pc) (PostOf Qc mc ms free) := va_backW (hh := hh) (bytes := bytes) (maxL := maxL) (ret := ret) hM hp.1 hrc hrs hfr hlo hws hcw (fun a' U hW => word_at hW (Or.inl (by first | rfl | simp [Cond.onTables, Cond.keeps, Cond.steady])) hini)
  obtain ⟨hx, hb, hml, ho, -⟩ := S
  intro T hT X
  obtain ⟨v, vm₁, ⟨U', l2, c2, s2⟩, hW₁, X', ⟨g', mk, t, L, e1, e2, hq, h1, hL, h2, h3⟩, st⟩ := vx_callSW X hx (hh := hh) (bytes := bytes) (maxL := maxL) (ret := ret) ho hl hstt hini hcode hy hK hg (hsize.trans hml.symm) (argsL := As) (rest := rest) (fun sig h => hn.trans (hlen sig h)) hstack hW (by rw [hb]; exact hdg)
    (fun vm₁ hW₁ => ⟨hf.1, hf.2, hp.2 (T.setVm vm₁) hT hW₁⟩)
  dsimp only [Pt.U, Pt.locs, Pt.cells, Pt.slots] at X' e1 e2 h1 h2 h3 st
  subst h1; subst h2; subst h3
  exact ⟨v, (T.setVm vm₁).calling g' mk As.toArray, t, U', L, hT, X', hL, e1, e2, hq, st⟩
theorem vx_lt {D : va_G} {cl : List vw_C} {ws : va_W} {H1 : Heap} (h : va_P D cl ws H1) {k : Nat} {q : Nat × va_E} (hk : ws[k]? = some q) : q.1 < H1.size := (h k q hk).lt
end VXS
/-! ===== END ===== -/
/-! ===== BEGIN methods with a table of their own: called by a name, returning or throwing ===== -/
section VXH
/-! vx_backW, vx_callVX, vx_callSX, vx_callVW, vx_runVW, vx_runVX, vx_runSX, vx_ofWH follow the same proofs as their sisters above (Free/Laws.lean, Shelf42/LK1.lean); vx_outP calls Shelf42/NT130.lean (outThrough). -/
section
variable {l : Launch} {R : Room} {p : Program} {e : Env} {below : List Frame} {s : State} {sargs : Array Value} {y : MethodName} {len W9 : Nat}
theorem vx_backW {ws : List Cond} {rm : Room} {Pc : Array Value → State → Prop} {Qc : Array Value → State → Outcome → State → Prop} {XC : String → State → State → Prop} {mc ms : Nat} {free : Addr → Prop} {bytes : ByteArray} {maxL : Nat} {ret : Option FieldType} {hh : List (Nat × Nat × Nat × Nat)}
    (hM : vx_Met l y ws rm Pc Qc XC mc ms free) (hblind : FrameBlind Pc) (hrc : rm.cells = mc) (hrs : rm.slots = ms)
    (hframes : rm.frames + 1 ≤ R.frames) (hlocals : W9 + (maxL + 11) + rm.locals ≤ R.locals)
    (hws : ∀ w ∈ ws, ∀ a' U, s.WarmedH U.vm → w.before a' U = true) (hcode : Cond.codeWith y bytes maxL ret hh ∈ ws) (hinit : ∀ a' U, s.WarmedH U.vm → (Cond.initialized y.cls).before a' U = true) :
    vx_Back l R p e below s sargs y len W9 (PreOf R mc ms Pc) (PostOf Qc mc ms free) (vx_Post XC mc ms free) := by
  intro m meth c A g ig mk a X hg hsize hdg hW hn hp
  have h1 : (headSpec ws rm).pre.before a A.U = true := atoms_intro fun w hw => hws w hw _ _ X.warmed
  have h2 : (Cond.codeWith y bytes maxL ret hh).before a A.U = true := hws _ hcode _ _ X.warmed
  have h3 : (Cond.initialized y.cls).before a A.U = true := hinit _ _ X.warmed
  have h4 : A.cells + (headSpec ws rm).room.cells ≤ R.cells := by rw [show (headSpec ws rm).room.cells = mc from hrc]; exact hp.1
  have h5 : A.slots + (headSpec ws rm).room.slots ≤ R.slots := by rw [show (headSpec ws rm).room.slots = ms from hrs]; exact hp.2.1
  have hPc : Pc a (A.U.calling g mk a) := hblind _ _ _ _ hp.2.2
  obtain ⟨U, Ls, c0, s0⟩ := A
  dsimp only [Pt.U, Pt.locs, Pt.cells, Pt.slots] at h1 h2 h3 h4 h5 X hn hPc ⊢
  obtain ⟨m9, methY, cY, hn9, hmY, hcY, -, hlY, -⟩ := Cond.codeWith_spec h2
  cases Option.some.inj (hn9.symm.trans hn)
  obtain ⟨kY, hkY, -⟩ := className_of_methodNamed hn
  have hinitY : kY.init = .initialized := Cond.initialized_spec (findClass_of_methodNamed hn) hkY h3
  have h : At U g.method c below := by rw [hg]; exact X.here
  have hlocals9 : W9 + (maxL + 11) + (headSpec ws rm).room.locals ≤ R.locals := hlocals
  have happ : (headSpec ws rm).appliesLoose y e.platform (U.calling g mk a) = true :=
    Spec.appliesLoose_calling (g := g) h hdg hn hkY hinitY
      (X.room_calling (g := g) (R' := (headSpec ws rm).room) hsize hmY hcY hframes (by rw [hlY]; omega) h4 h5) h1
  obtain ⟨mid, hmid⟩ := h.above
  have hfr : (U.setTop g).frames = (.java g :: mid) ++ below := by rw [State.frames_setTop' g h.top, hmid]; rfl
  obtain ⟨o, s₂, hsteps, -, hend, hq⟩ := Steps.callFree hM p X.admits X.cas X.clock (acts := []) hfr happ hPc trivial
  have hq' : vx_Q Qc XC mc ms free a (U.calling g mk a) o s₂ := hq
  rw [State.frames_setTop' g h.top] at hend
  obtain ⟨g₀, hg0⟩ := Option.isSome_iff_exists.mp h.top
  obtain ⟨r, hr⟩ := State.topJava?_eq_some.mp hg0
  have hr' : (({ U with heap := s₂.heap, slotsUsed := s₂.slotsUsed } : State).setVm s₂.vm).frames = .java g₀ :: r := hr
  rcases hq' with ⟨hqc, L, hfe, hL⟩ | ⟨q, rfl, E, ce, L, hx, hce, hcv, hcl, hW₂, hsm, hL⟩
  · obtain ⟨⟨v, rfl⟩, hW₂, e2, q2, q3, q4, q5, q6⟩ := id hfe
    have e3 : s₂ = ({ (U.calling g mk a).setFrames s₂.frames with heap := s₂.heap, slotsUsed := s₂.slotsUsed } : State).setVm s₂.vm := by
      have : s₂ = ({ s₂ with vm := (U.calling g mk a).vm } : State).setVm s₂.vm := rfl
      rw [e2] at this
      exact this
    obtain ⟨c₂, i₂, len₂, hc₂, hd₂, hf₂⟩ := hend
    have hW' : U.WarmedH s₂.vm := hW₂
    have hcc : c₂ = c := by
      have h1 : s₂.code? g.method = U.code? g.method := by
        rw [State.code?_eq, State.code?_eq, hW'.alike.method?]
      exact Option.some.inj (hc₂.symm.trans (h1.trans h.code))
    subst hcc
    have hlen : len₂ = len := by rw [hdg] at hd₂; cases hd₂; rfl
    subst hlen
    have hs₂ : s₂ = (({ U with heap := s₂.heap, slotsUsed := s₂.slotsUsed } : State).setVm s₂.vm).setTop { g with pc := g.pc + len₂, stack := v.toList ++ g.stack } := by
      refine e3.trans ?_
      rw [hf₂, State.calling_eq h.top, State.setFrames_setFrames, State.setTop_of_frames _ hr', hr]
      rfl
    have hsame : U.sameButNew ({ U with heap := s₂.heap, slotsUsed := s₂.slotsUsed } : State) L mc ms := by
      refine ⟨?_, q2, q3, q4, q5, q6⟩
      obtain ⟨t, ht, -⟩ := State.frames_cons hr
      show ({ U with heap := s₂.heap, slotsUsed := s₂.slotsUsed } : State) = { U.setFrames U.frames with heap := s₂.heap, slotsUsed := s₂.slotsUsed }
      rw [State.setFrames_self ht]
    subst hg
    refine Or.inl ⟨v, ⟨(({ U with heap := s₂.heap, slotsUsed := s₂.slotsUsed } : State).setVm s₂.vm), Ls ++ L, c0 + mc, s0 + ms⟩,
      ⟨X.admits, X.cas, X.clock, X.frames, X.room, X.hears, X.method, X.code, (X.here.setHeapUsed s₂.heap s₂.slotsUsed).setVm hW'.alike, X.tail, State.WarmedH.trans X.warmed hW', X.limits, X.bytes, X.same.trans (hsame.setVm s.vm)⟩,
      ⟨g, mk, s₂, L, rfl, rfl, hqc, rfl, hL, rfl, rfl⟩, ?_⟩
    show Steps p.tables e below _ ((({ U with heap := s₂.heap, slotsUsed := s₂.slotsUsed } : State).setVm s₂.vm).setTop { g with pc := g.pc + len₂, stack := v.toList ++ g.stack })
    rw [← hs₂]
    exact hsteps
  · obtain ⟨e2, q2, q3, q4, q5, q6⟩ := id hsm
    have e3 : s₂ = ({ (U.calling g mk a).setFrames s₂.frames with heap := s₂.heap, slotsUsed := s₂.slotsUsed } : State).setVm s₂.vm := by
      have : s₂ = ({ s₂ with vm := (U.calling g mk a).vm } : State).setVm s₂.vm := rfl
      rw [e2] at this
      exact this
    have hf₂ : s₂.frames = .throwing q :: .java g :: U.frames.tail := hend
    have hW' : U.WarmedH s₂.vm := hW₂
    have hs₂ : s₂ = ((({ U with heap := s₂.heap, slotsUsed := s₂.slotsUsed } : State).setVm s₂.vm).setTop g).pushFrame (.throwing q) := by
      refine e3.trans ?_
      rw [hf₂, State.calling_eq h.top, State.setFrames_setFrames, State.pushFrame, State.frames_setTop _ hr', State.setTop_of_frames _ hr', State.setFrames_setFrames, hr]
      rfl
    have hsame : U.sameButNew ({ U with heap := s₂.heap, slotsUsed := s₂.slotsUsed } : State) L mc ms := by
      refine ⟨?_, q2, q3, q4, q5, q6⟩
      obtain ⟨t, ht, -⟩ := State.frames_cons hr
      show ({ U with heap := s₂.heap, slotsUsed := s₂.slotsUsed } : State) = { U.setFrames U.frames with heap := s₂.heap, slotsUsed := s₂.slotsUsed }
      rw [State.setFrames_self ht]
    subst hg
    refine Or.inr ⟨q, ⟨(({ U with heap := s₂.heap, slotsUsed := s₂.slotsUsed } : State).setVm s₂.vm), Ls ++ L, c0 + mc, s0 + ms⟩,
      ⟨X.admits, X.cas, X.clock, X.frames, X.room, X.hears, X.method, X.code, (X.here.setHeapUsed s₂.heap s₂.slotsUsed).setVm hW'.alike, X.tail, State.WarmedH.trans X.warmed hW', X.limits, X.bytes, X.same.trans (hsame.setVm s.vm)⟩,
      ⟨g, mk, s₂, L, E, ce, rfl, rfl, hx, hce, hcv, hcl, rfl, hL, rfl, rfl⟩, ?_⟩
    show Steps p.tables e below _ (((({ U with heap := s₂.heap, slotsUsed := s₂.slotsUsed } : State).setVm s₂.vm).setTop g).pushFrame (.throwing q))
    rw [← hs₂]
    exact hsteps
end
variable {p : Program} {l : Launch} {e : Env} {R : Room} {s : State} {m : MethodId} {args : Array Value} {below : List Frame} {meth : Method} {c : Code} {T : State} {H : Heap} {locs : List Loc} {cells slots : Nat}
theorem vx_callVX (X : Stand p l e R s m args below meth c T locs cells slots) (hexec : p.tables.exec = Jvm.exec) {own C : String} {index : Nat} {y : MethodName} {bytes : ByteArray} {maxL : Nat} {ret : Option FieldType} {hh : List (Nat × Nat × Nat × Nat)}
    (hown : s.vm.findClass own = some m.cls) (hlink : (Cond.methodLink own index y).before args s = true) (hinst : (Cond.instanceMethod y).before args s = true) (hsel : (Cond.selects C y y).before args s = true)
    (hcode : (Cond.codeWith y bytes maxL ret hh).before args s = true) (hy : y.cls ≠ "java/lang/invoke/MethodHandle" ∧ y.cls ≠ "java/lang/invoke/VarHandle")
    {W9 : Nat} {Pre : Pt → Array Value → Prop} {Post : Pt → Array Value → Option Value → Pt → Prop} {PostX : Pt → Array Value → Addr → Pt → Prop} (hK : vx_Back l R p e below s args y 3 W9 Pre Post PostX)
    {b : Addr} {cellB : Cell} (hcell : T.heap[b]? = some cellB) (hobj : cellB.vm.isStatics = false) (hcls : s.vm.findClass C = some cellB.cls)
    {g : JFrame} (hg : g.method = m) (hsize : g.locals.size = c.maxLocals) {argsL rest : List Value} (hlen : ∀ sig, parseMethodDescriptor y.desc = some sig → argsL.length = sig.parameters.length)
    (hstack : g.stack = argsL.reverse ++ .ref b :: rest) (hW : 2 * g.monitorRoom + (rest.map fun v => v.category).sum ≤ W9) (hdg : decode c.code g.pc = .ok (.invokevirtual index, 3))
    (hpre : ∀ vm₁, s.WarmedH vm₁ → Pre ⟨T.setVm vm₁, locs, cells, slots⟩ (Value.ref b :: argsL).toArray) :
    (∃ (v : Option Value) (vm₁ : Vm) (B : Pt), s.WarmedH vm₁ ∧ Stand p l e R s m args below meth c B.U B.locs B.cells B.slots ∧ Post ⟨T.setVm vm₁, locs, cells, slots⟩ (Value.ref b :: argsL).toArray v B ∧
      ∀ target, Steps p.tables e below (B.U.setTop { g with pc := g.pc + 3, stack := v.toList ++ rest }) target → Steps p.tables e below (T.setTop g) target) ∨
    (∃ (q : Addr) (vm₁ : Vm) (B : Pt), s.WarmedH vm₁ ∧ Stand p l e R s m args below meth c B.U B.locs B.cells B.slots ∧ PostX ⟨T.setVm vm₁, locs, cells, slots⟩ (Value.ref b :: argsL).toArray q B ∧
      Steps p.tables e below (T.setTop g) ((B.U.setTop { g with stack := rest }).pushFrame (.throwing q))) := by
  obtain ⟨mk, methM, hnamed, hmethM, hstM, habM⟩ := Cond.instanceMethod_spec hinst
  obtain ⟨m8, methM', cM, hn8, hmethM', -, -, -, -, -, -, hsigM⟩ := Cond.codeWith_spec hcode
  cases Option.some.inj (hn8.symm.trans hnamed)
  cases hmethM.symm.trans hmethM'
  obtain ⟨c2, r2, m2, q1, q2, q3, q4, kP, hkP, hkPi⟩ := Cond.selects_spec hsel
  cases hcls.symm.trans q1
  cases (State.methodFound?_of_named hnamed hy).symm.trans q2
  cases hnamed.symm.trans q3
  have hselP : selectMethod e.platform s.vm cellB.cls mk = .method mk := by rw [Launch.admits_selectMethod X.admits]; exact q4
  obtain ⟨vm₁, X₁, hstep₁⟩ := X.invokevirtual hexec hown hlink hnamed hmethM hstM hkP hkPi hy (a := b) (cell := cellB) hcell
    (fun z h => by rw [h] at hobj; cases hobj) hselP hmethM habM hkP hkPi (g := g) hg (argsL := argsL) (rest := rest) (hlen _ hsigM) hstack hdg
  rcases hK m meth c ⟨T.setVm vm₁, locs, cells, slots⟩ { g with stack := rest } (.invokevirtual index) mk (Value.ref b :: argsL).toArray X₁ hg hsize hdg hW (X₁.named hnamed) (hpre vm₁ X₁.warmed) with ⟨v, B, X', hpost, hsteps⟩ | ⟨q, B, X', hpost, hsteps⟩
  · exact Or.inl ⟨v, vm₁, B, X₁.warmed, X', hpost, fun target h => hstep₁ _ fun acts => by rw [doInvoke_state]; exact hsteps.trans h⟩
  · exact Or.inr ⟨q, vm₁, B, X₁.warmed, X', hpost, hstep₁ _ fun acts => by rw [doInvoke_state]; exact hsteps⟩
theorem vx_callSX (X : Stand p l e R s m args below meth c T locs cells slots) (hexec : p.tables.exec = Jvm.exec) {own : String} {index : Nat} {y : MethodName} {bytes : ByteArray} {maxL : Nat} {ret : Option FieldType} {hh : List (Nat × Nat × Nat × Nat)}
    (hown : s.vm.findClass own = some m.cls) (hlink : (Cond.methodLink own index y).before args s = true) (hstat : (Cond.static y).before args s = true) (hinit : (Cond.initialized y.cls).before args s = true)
    (hcode : (Cond.codeWith y bytes maxL ret hh).before args s = true) (hy : y.cls ≠ "java/lang/invoke/MethodHandle" ∧ y.cls ≠ "java/lang/invoke/VarHandle")
    {W9 : Nat} {Pre : Pt → Array Value → Prop} {Post : Pt → Array Value → Option Value → Pt → Prop} {PostX : Pt → Array Value → Addr → Pt → Prop} (hK : vx_Back l R p e below s args y 3 W9 Pre Post PostX)
    {g : JFrame} (hg : g.method = m) (hsize : g.locals.size = c.maxLocals) {argsL rest : List Value} (hlen : ∀ sig, parseMethodDescriptor y.desc = some sig → argsL.length = sig.parameters.length)
    (hstack : g.stack = argsL.reverse ++ rest) (hW : 2 * g.monitorRoom + (rest.map fun v => v.category).sum ≤ W9) (hdg : decode c.code g.pc = .ok (.invokestatic index, 3))
    (hpre : ∀ vm₁, s.WarmedH vm₁ → Pre ⟨T.setVm vm₁, locs, cells, slots⟩ argsL.toArray) :
    (∃ (v : Option Value) (vm₁ : Vm) (B : Pt), s.WarmedH vm₁ ∧ Stand p l e R s m args below meth c B.U B.locs B.cells B.slots ∧ Post ⟨T.setVm vm₁, locs, cells, slots⟩ argsL.toArray v B ∧
      ∀ target, Steps p.tables e below (B.U.setTop { g with pc := g.pc + 3, stack := v.toList ++ rest }) target → Steps p.tables e below (T.setTop g) target) ∨
    (∃ (q : Addr) (vm₁ : Vm) (B : Pt), s.WarmedH vm₁ ∧ Stand p l e R s m args below meth c B.U B.locs B.cells B.slots ∧ PostX ⟨T.setVm vm₁, locs, cells, slots⟩ argsL.toArray q B ∧
      Steps p.tables e below (T.setTop g) ((B.U.setTop { g with stack := rest }).pushFrame (.throwing q))) := by
  obtain ⟨mk, methM, cM, hnamed, hmethM, -, -, -, -, -, -, hsigM⟩ := Cond.codeWith_spec hcode
  have hstatic : methM.isStatic = true := Cond.static_spec hnamed hmethM hstat
  obtain ⟨kP, hkP, -⟩ := className_of_methodNamed hnamed
  have hinitP : kP.init = .initialized := Cond.initialized_spec (findClass_of_methodNamed hnamed) hkP hinit
  obtain ⟨vm₁, X₁, hstep₁⟩ := X.invokestatic hexec hown hlink hnamed hmethM hstatic hkP hinitP hy (g := g) hg (argsL := argsL) (rest := rest) (hlen _ hsigM) hstack hdg
  rcases hK m meth c ⟨T.setVm vm₁, locs, cells, slots⟩ { g with stack := rest } (.invokestatic index) mk argsL.toArray X₁ hg hsize hdg hW (X₁.named hnamed) (hpre vm₁ X₁.warmed) with ⟨v, B, X', hpost, hsteps⟩ | ⟨q, B, X', hpost, hsteps⟩
  · exact Or.inl ⟨v, vm₁, B, X₁.warmed, X', hpost, fun target h => hstep₁ _ fun acts => by rw [doInvoke_state]; exact hsteps.trans h⟩
  · exact Or.inr ⟨q, vm₁, B, X₁.warmed, X', hpost, hstep₁ _ fun acts => by rw [doInvoke_state]; exact hsteps⟩
theorem vx_callVW (X : Stand p l e R s m args below meth c T locs cells slots) (hexec : p.tables.exec = Jvm.exec) {own C : String} {index : Nat} {y : MethodName} {bytes : ByteArray} {maxL : Nat} {ret : Option FieldType} {hh : List (Nat × Nat × Nat × Nat)}
    (hown : s.vm.findClass own = some m.cls) (hlink : (Cond.methodLink own index y).before args s = true) (hinst : (Cond.instanceMethod y).before args s = true) (hsel : (Cond.selects C y y).before args s = true)
    (hcode : (Cond.codeWith y bytes maxL ret hh).before args s = true) (hy : y.cls ≠ "java/lang/invoke/MethodHandle" ∧ y.cls ≠ "java/lang/invoke/VarHandle")
    {W9 : Nat} {Pre : Pt → Array Value → Prop} {Post : Pt → Array Value → Option Value → Pt → Prop} (hK : Back l R p e below s args y 3 W9 Pre Post)
    {b : Addr} {cellB : Cell} (hcell : T.heap[b]? = some cellB) (hobj : cellB.vm.isStatics = false) (hcls : s.vm.findClass C = some cellB.cls)
    {g : JFrame} (hg : g.method = m) (hsize : g.locals.size = c.maxLocals) {argsL rest : List Value} (hlen : ∀ sig, parseMethodDescriptor y.desc = some sig → argsL.length = sig.parameters.length)
    (hstack : g.stack = argsL.reverse ++ .ref b :: rest) (hW : 2 * g.monitorRoom + (rest.map fun v => v.category).sum ≤ W9) (hdg : decode c.code g.pc = .ok (.invokevirtual index, 3))
    (hpre : ∀ vm₁, s.WarmedH vm₁ → Pre ⟨T.setVm vm₁, locs, cells, slots⟩ (Value.ref b :: argsL).toArray) :
    ∃ (v : Option Value) (vm₁ : Vm) (B : Pt), s.WarmedH vm₁ ∧ Stand p l e R s m args below meth c B.U B.locs B.cells B.slots ∧ Post ⟨T.setVm vm₁, locs, cells, slots⟩ (Value.ref b :: argsL).toArray v B ∧
      ∀ target, Steps p.tables e below (B.U.setTop { g with pc := g.pc + 3, stack := v.toList ++ rest }) target → Steps p.tables e below (T.setTop g) target := by
  obtain ⟨mk, methM, hnamed, hmethM, hstM, habM⟩ := Cond.instanceMethod_spec hinst
  obtain ⟨m8, methM', cM, hn8, hmethM', -, -, -, -, -, -, hsigM⟩ := Cond.codeWith_spec hcode
  cases Option.some.inj (hn8.symm.trans hnamed)
  cases hmethM.symm.trans hmethM'
  obtain ⟨c2, r2, m2, q1, q2, q3, q4, kP, hkP, hkPi⟩ := Cond.selects_spec hsel
  cases hcls.symm.trans q1
  cases (State.methodFound?_of_named hnamed hy).symm.trans q2
  cases hnamed.symm.trans q3
  have hselP : selectMethod e.platform s.vm cellB.cls mk = .method mk := by rw [Launch.admits_selectMethod X.admits]; exact q4
  obtain ⟨vm₁, X₁, hstep₁⟩ := X.invokevirtual hexec hown hlink hnamed hmethM hstM hkP hkPi hy (a := b) (cell := cellB) hcell
    (fun z h => by rw [h] at hobj; cases hobj) hselP hmethM habM hkP hkPi (g := g) hg (argsL := argsL) (rest := rest) (hlen _ hsigM) hstack hdg
  obtain ⟨v, B, X', hpost, hsteps⟩ := hK m meth c ⟨T.setVm vm₁, locs, cells, slots⟩ { g with stack := rest } (.invokevirtual index) mk (Value.ref b :: argsL).toArray X₁ hg hsize hdg hW (X₁.named hnamed) (hpre vm₁ X₁.warmed)
  exact ⟨v, vm₁, B, X₁.warmed, X', hpost, fun target h => hstep₁ _ fun acts => by rw [doInvoke_state]; exact hsteps.trans h⟩
abbrev vx_CVW (R : Room) (s : State) (args : Array Value) (own C : String) (index : Nat) (y : MethodName) (bytes : ByteArray) (maxL : Nat) (ret : Option FieldType) (hh : List (Nat × Nat × Nat × Nat)) (ws : List Cond) (rm : Room) (mc ms n : Nat) : Prop :=
  (rm.cells = mc ∧ rm.slots = ms ∧ rm.frames + 1 ≤ R.frames ∧ 8 + (maxL + 11) + rm.locals ≤ R.locals ∧ (∀ w ∈ ws, ∀ (a' : Array Value) (U : State), s.WarmedH U.vm → w.before a' U = true) ∧ Cond.codeWith y bytes maxL ret hh ∈ ws) ∧
  (Cond.codeWith y bytes maxL ret hh).before args s = true ∧ (Cond.initialized y.cls).before args s = true ∧ (y.cls ≠ "java/lang/invoke/MethodHandle" ∧ y.cls ≠ "java/lang/invoke/VarHandle") ∧
  (∀ sig, parseMethodDescriptor y.desc = some sig → n = sig.parameters.length) ∧ (Cond.methodLink own index y).before args s = true ∧ (Cond.instanceMethod y).before args s = true ∧ (Cond.selects C y y).before args s = true
theorem vx_cwVW {own C : String} {index maxL mc ms : Nat} {y : MethodName} {bytes : ByteArray} {ret : Option FieldType} {hh : List (Nat × Nat × Nat × Nat)} {Ts ws ws' : List Cond} {rm : Room} (n : Nat) (ht : ∀ w ∈ Ts, w.before args s = true) (hT : GoodIn Ts (wsV own index C y ws)) (hw : ws = Cond.codeWith y bytes maxL ret hh :: ws') (hrc : rm.cells = mc) (hrs : rm.slots = ms)
    (hd : y.cls = C ∧ y.cls ≠ "java/lang/invoke/MethodHandle" ∧ y.cls ≠ "java/lang/invoke/VarHandle" ∧ (parseMethodDescriptor y.desc).map (fun d => d.parameters.length) = some n) (hR : rm.frames + 1 ≤ R.frames ∧ 8 + (maxL + 11) + rm.locals ≤ R.locals) :
    vx_CVW R s args own C index y bytes maxL ret hh ws rm mc ms n := by
  obtain ⟨hC, hd⟩ := hd
  subst hC
  have ok : ∀ w ∈ wsV own index y.cls y ws, w.before args s = true := fun w h => ht w (hT w h).1
  have hG : GoodIn Ts ws := fun w h => hT w (by unfold wsV; exact List.mem_append_right _ h)
  have hc : Cond.codeWith y bytes maxL ret hh ∈ ws := by rw [hw]; exact List.mem_cons_self
  refine ⟨⟨hrc, hrs, hR.1, hR.2, pay_in ht hG, hc⟩, ht _ (hG _ hc).1, ok _ (by simp [wsV]), ⟨hd.1, hd.2.1⟩, fun sig h => ?_, ok _ (by simp [wsV]), ok _ (by simp [wsV]), ok _ (by simp [wsV])⟩
  have h2 := hd.2.2
  rw [h] at h2
  exact (Option.some.inj h2).symm
theorem vx_runVW {y : MethodName} {bytes cc : ByteArray} {maxL nL mc ms n index : Nat} {ret : Option FieldType} {hh : List (Nat × Nat × Nat × Nat)} {ws : List Cond} {rm : Room} {Pc : Array Value → State → Prop} {Qc : Array Value → State → Outcome → State → Prop} {free : Addr → Prop} {Ts : List Cond} {own C : String} {b : Addr} {As rest : List Value} {g : JFrame}
    (S : CallFix p m c cc nL s args Ts own) (hM : Met l y ws rm Pc Qc mc ms free) (cw : vx_CVW R s args own C index y bytes maxL ret hh ws rm mc ms n) (hp : PreV s H C b Pc As)
    (hg : g.method = m) (hn : As.length = n) (hsize : g.locals.size = nL) (hstack : g.stack = As.reverse ++ .ref b :: rest) (hW : 2 * g.monitorRoom + (rest.map fun v => v.category).sum ≤ 8) (hdg : decode cc g.pc = .ok (.invokevirtual index, 3)) (hf : cells + mc ≤ R.cells ∧ slots + ms ≤ R.slots) :
    va_Run p l e R s m args below meth c H locs cells slots mc ms g rest (Qc (Value.ref b :: As).toArray) free := by
  obtain ⟨⟨hrc, hrs, hfr, hlo, hws, hcw⟩, hcode, hini, hy, hlen, hl, hin, hse⟩ := cw
  have hK : Back l R p e below s args y 3 8 (PreOf R mc ms Pc) (PostOf Qc mc ms free) := va_backW (hh := hh) (bytes := bytes) (maxL := maxL) (ret := ret) hM hp.1 hrc hrs hfr hlo hws hcw (fun a' U hW => word_at hW (Or.inl (by first | rfl | simp [Cond.onTables, Cond.keeps, Cond.steady])) hini)
  obtain ⟨hx, hb, hml, ho, -⟩ := S
  obtain ⟨-, ⟨cellB, hcB, hoB, hclB⟩, hPc⟩ := hp
  intro T hT X
  obtain ⟨v, vm₁, ⟨U', l2, c2, s2⟩, hW₁, X', ⟨g', mk, t, L, e1, e2, hq, h1, hL, h2, h3⟩, st⟩ := vx_callVW X hx (C := C) (hh := hh) (bytes := bytes) (maxL := maxL) (ret := ret) ho hl hin hse hcode hy hK (by rw [hT]; exact hcB) hoB hclB hg (hsize.trans hml.symm) (argsL := As) (rest := rest) (fun sig h => hn.trans (hlen sig h)) hstack hW (by rw [hb]; exact hdg)
    (fun vm₁ hW₁ => ⟨hf.1, hf.2, hPc (T.setVm vm₁) hT hW₁⟩)
  dsimp only [Pt.U, Pt.locs, Pt.cells, Pt.slots] at X' e1 e2 h1 h2 h3 st
  subst h1; subst h2; subst h3
  exact ⟨v, (T.setVm vm₁).calling g' mk (Value.ref b :: As).toArray, t, U', L, hT, X', hL, e1, e2, hq, st⟩
section
variable {y : MethodName} {bytes cc : ByteArray} {maxL nL mc ms n index : Nat} {ret : Option FieldType} {ws : List Cond} {rm : Room} {Pc : Array Value → State → Prop} {Qc : Array Value → State → Outcome → State → Prop} {XC : String → State → State → Prop} {free : Addr → Prop} {Ts : List Cond} {own C : String} {b : Addr} {As rest : List Value} {g : JFrame}
theorem vx_runVX {hh : List (Nat × Nat × Nat × Nat)} (S : CallFix p m c cc nL s args Ts own) (hM : vx_Met l y ws rm Pc Qc XC mc ms free) (cw : vx_CVW R s args own C index y bytes maxL ret hh ws rm mc ms n) (hp : PreV s H C b Pc As)
    (hg : g.method = m) (hn : As.length = n) (hsize : g.locals.size = nL) (hstack : g.stack = As.reverse ++ .ref b :: rest) (hW : 2 * g.monitorRoom + (rest.map fun v => v.category).sum ≤ 8) (hdg : decode cc g.pc = .ok (.invokevirtual index, 3)) (hf : cells + mc ≤ R.cells ∧ slots + ms ≤ R.slots) :
    vx_Run p l e R s m args below meth c H locs cells slots mc ms g rest (Qc (Value.ref b :: As).toArray) XC free := by
  obtain ⟨⟨hrc, hrs, hfr, hlo, hws, hcw⟩, hcode, hini, hy, hlen, hl, hin, hse⟩ := cw
  have hK : vx_Back l R p e below s args y 3 8 (PreOf R mc ms Pc) (PostOf Qc mc ms free) (vx_Post XC mc ms free) := vx_backW (hh := hh) (bytes := bytes) (maxL := maxL) (ret := ret) hM hp.1 hrc hrs hfr hlo hws hcw (fun a' U hW => word_at hW (Or.inl (by first | rfl | simp [Cond.onTables, Cond.keeps, Cond.steady])) hini)
  obtain ⟨hx, hb, hml, ho, -⟩ := S
  obtain ⟨-, ⟨cellB, hcB, hoB, hclB⟩, hPc⟩ := hp
  intro T hT X
  rcases vx_callVX X hx (C := C) (hh := hh) (bytes := bytes) (maxL := maxL) (ret := ret) ho hl hin hse hcode hy hK (by rw [hT]; exact hcB) hoB hclB hg (hsize.trans hml.symm) (argsL := As) (rest := rest) (fun sig h => hn.trans (hlen sig h)) hstack hW (by rw [hb]; exact hdg)
    (fun vm₁ hW₁ => ⟨hf.1, hf.2, hPc (T.setVm vm₁) hT hW₁⟩) with ⟨v, vm₁, ⟨U', l2, c2, s2⟩, hW₁, X', ⟨g', mk, t, L, e1, e2, hq, h1, hL, h2, h3⟩, st⟩ | ⟨q, vm₁, ⟨U', l2, c2, s2⟩, hW₁, X', ⟨g', mk, t, L, E, ce, e1, e2, hq, hce, hcv, hcl, h1, hL, h2, h3⟩, st⟩
  · dsimp only [Pt.U, Pt.locs, Pt.cells, Pt.slots] at X' e1 e2 h1 h2 h3 st
    subst h1; subst h2; subst h3
    exact Or.inl ⟨v, (T.setVm vm₁).calling g' mk (Value.ref b :: As).toArray, t, U', L, hT, X', hL, e1, e2, hq, st⟩
  · dsimp only [Pt.U, Pt.locs, Pt.cells, Pt.slots] at X' e1 e2 h1 h2 h3 st hcl
    subst h1; subst h2; subst h3
    exact Or.inr ⟨q, (T.setVm vm₁).calling g' mk (Value.ref b :: As).toArray, t, U', L, E, ce, hT, X', hL, e1, e2, hq, hce, hcv, vx_cls hW₁ hcl, st⟩
theorem vx_runSX {hh : List (Nat × Nat × Nat × Nat)} (S : CallFix p m c cc nL s args Ts own) (hM : vx_Met l y ws rm Pc Qc XC mc ms free) (cw : vx_CSW R s args own index y bytes maxL ret hh ws rm mc ms n) (hp : PreS s H Pc As)
    (hg : g.method = m) (hn : As.length = n) (hsize : g.locals.size = nL) (hstack : g.stack = As.reverse ++ rest) (hW : 2 * g.monitorRoom + (rest.map fun v => v.category).sum ≤ 8) (hdg : decode cc g.pc = .ok (.invokestatic index, 3)) (hf : cells + mc ≤ R.cells ∧ slots + ms ≤ R.slots) :
    vx_Run p l e R s m args below meth c H locs cells slots mc ms g rest (Qc As.toArray) XC free := by
  obtain ⟨⟨hrc, hrs, hfr, hlo, hws, hcw⟩, hcode, hini, hy, hlen, hl, hstt⟩ := cw
  have hK : vx_Back l R p e below s args y 3 8 (PreOf R mc ms Pc) (PostOf Qc mc ms free) (vx_Post XC mc ms free) := vx_backW (hh := hh) (bytes := bytes) (maxL := maxL) (ret := ret) hM hp.1 hrc hrs hfr hlo hws hcw (fun a' U hW => word_at hW (Or.inl (by first | rfl | simp [Cond.onTables, Cond.keeps, Cond.steady])) hini)
  obtain ⟨hx, hb, hml, ho, -⟩ := S
  intro T hT X
  rcases vx_callSX X hx (hh := hh) (bytes := bytes) (maxL := maxL) (ret := ret) ho hl hstt hini hcode hy hK hg (hsize.trans hml.symm) (argsL := As) (rest := rest) (fun sig h => hn.trans (hlen sig h)) hstack hW (by rw [hb]; exact hdg)
    (fun vm₁ hW₁ => ⟨hf.1, hf.2, hp.2 (T.setVm vm₁) hT hW₁⟩) with ⟨v, vm₁, ⟨U', l2, c2, s2⟩, hW₁, X', ⟨g', mk, t, L, e1, e2, hq, h1, hL, h2, h3⟩, st⟩ | ⟨q, vm₁, ⟨U', l2, c2, s2⟩, hW₁, X', ⟨g', mk, t, L, E, ce, e1, e2, hq, hce, hcv, hcl, h1, hL, h2, h3⟩, st⟩
  · dsimp only [Pt.U, Pt.locs, Pt.cells, Pt.slots] at X' e1 e2 h1 h2 h3 st
    subst h1; subst h2; subst h3
    exact Or.inl ⟨v, (T.setVm vm₁).calling g' mk As.toArray, t, U', L, hT, X', hL, e1, e2, hq, st⟩
  · dsimp only [Pt.U, Pt.locs, Pt.cells, Pt.slots] at X' e1 e2 h1 h2 h3 st hcl
    subst h1; subst h2; subst h3
    exact Or.inr ⟨q, (T.setVm vm₁).calling g' mk As.toArray, t, U', L, E, ce, hT, X', hL, e1, e2, hq, hce, hcv, vx_cls hW₁ hcl, st⟩
end
end VXH
theorem vx_ofWH {l : Launch} {y : MethodName} {ws ws' : List Cond} {rm : Room} {Pc : Array Value → State → Prop} {Qc : Array Value → State → Outcome → State → Prop} {XC : String → State → State → Prop} {mc ms : Nat} {free : Addr → Prop} {cc : ByteArray} {maxL : Nat} {ret : Option FieldType} {hh : List (Nat × Nat × Nat × Nat)}
    (hy : plainName y.cls = true) (hw : ws = Cond.codeWith y cc maxL ret hh :: ws')
    (body : ∀ p e s m args below meth c s₁, BodyLoose p l y (headSpec ws rm) cc maxL ret e s m args below meth c s₁ → c.maxLocals = maxL → Pc args s →
      W p l e (headSpec ws rm).room s m args below meth c s.heap [] 0 0 (vx_MQ below Qc XC args s mc ms free) (entryFrame m args maxL)) : vx_Met l y ws rm Pc Qc XC mc ms free := by
  refine MetFree.of_bodyS (code := cc) (maxLocals := maxL) (ret := ret) hy ?_ ?_
  · intro args s m h hn
    obtain ⟨m9, meth, c, hn9, h1, h2, h3, h4, -, h5, h6, -⟩ := Cond.codeWith_spec (atoms_spec (ws := ws) h _ (by rw [hw]; exact List.mem_cons_self))
    cases hn.symm.trans hn9
    exact ⟨meth, c, h1, h2, h3, h4, h5, h6⟩
  · intro p e s m args below meth c s₁ B hml hP _
    have hh0 : s₁.heap = s.heap := by rw [B.state]; rfl
    obtain ⟨t, a1, o, b1, b2, b3⟩ := body p e s m args below meth c s₁ B hml hP s₁ hh0 (Stand.of_body B)
    exact ⟨t, o, a1, b1, b2, b3⟩
/-! ===== END ===== -/
end
section
def RX0 : String := "ChoiceParser$Characters"
def TX0 : u_T := fun k => match k with
  | 0 => ("ChoiceParser$Characters", "row", "[C", true)
  | _ => ("ChoiceParser$Characters", "size", "I", false)
def tyX0 : Nat → FieldType := fun k => match k with
  | 0 => .array .char
  | _ => .int
theorem nmX0 : ∀ a, a < 2 → ∀ b, b < 2 → a ≠ b → (TX0 a).2.1 ≠ (TX0 b).2.1 := by decide +kernel
theorem tyX0_ok : ∀ k, k < 2 → parseFieldDescriptor (TX0 k).2.2.1 = some (tyX0 k) := by decide +kernel
abbrev cX0_init : ByteArray := prog_2_method_1_code
def yX0_init : MethodName := ⟨RX0, "<init>", "(I)V"⟩
abbrev cX0_size : ByteArray := prog_2_method_2_code
def yX0_size : MethodName := ⟨RX0, "size", "()I"⟩
abbrev cX0_add : ByteArray := prog_2_method_3_code
def yX0_add : MethodName := ⟨RX0, "add", "(C)Z"⟩
abbrev cX0_at : ByteArray := prog_2_method_4_code
def yX0_at : MethodName := ⟨RX0, "at", "(I)C"⟩
abbrev cX0_removeAll : ByteArray := prog_2_method_5_code
def yX0_removeAll : MethodName := ⟨RX0, "removeAll", "()V"⟩
def RX1 : String := "ChoiceParser$Expression"
def TX1 : u_T := fun k => match k with
  | 0 => ("ChoiceParser$Expression", "earliest", "LChoiceParser$Node;", false)
  | _ => ("ChoiceParser$Expression", "root", "LChoiceParser$Node;", false)
def tyX1 : Nat → FieldType := fun k => match k with
  | 0 => .object "ChoiceParser$Node"
  | _ => .object "ChoiceParser$Node"
theorem nmX1 : ∀ a, a < 2 → ∀ b, b < 2 → a ≠ b → (TX1 a).2.1 ≠ (TX1 b).2.1 := by decide +kernel
theorem tyX1_ok : ∀ k, k < 2 → parseFieldDescriptor (TX1 k).2.2.1 = some (tyX1 k) := by decide +kernel
abbrev cX1_init : ByteArray := prog_3_method_1_code
def yX1_init : MethodName := ⟨RX1, "<init>", "()V"⟩
abbrev cX1_add : ByteArray := prog_3_method_2_code
def yX1_add : MethodName := ⟨RX1, "add", "(IIILChoiceParser$Node;)LChoiceParser$Node;"⟩
abbrev cX1_outcomesOfRoot : ByteArray := prog_3_method_3_code
def yX1_outcomesOfRoot : MethodName := ⟨RX1, "outcomesOfRoot", "()I"⟩
abbrev cX1_rootIsGood : ByteArray := prog_3_method_4_code
def yX1_rootIsGood : MethodName := ⟨RX1, "rootIsGood", "()Z"⟩
abbrev cX1_rulesInIt : ByteArray := prog_3_method_5_code
def yX1_rulesInIt : MethodName := ⟨RX1, "rulesInIt", "()I"⟩
abbrev cX1_allGood : ByteArray := prog_3_method_6_code
def yX1_allGood : MethodName := ⟨RX1, "allGood", "()Z"⟩
abbrev cX1_forgetFindings : ByteArray := prog_3_method_7_code
def yX1_forgetFindings : MethodName := ⟨RX1, "forgetFindings", "()V"⟩
def RX2 : String := "ChoiceParser$Grammar"
def TX2 : u_T := fun k => match k with
  | 0 => ("ChoiceParser$Grammar", "expressions", "[LChoiceParser$Expression;", true)
  | _ => ("ChoiceParser$Grammar", "verdict", "I", false)
def tyX2 : Nat → FieldType := fun k => match k with
  | 0 => .array (.object "ChoiceParser$Expression")
  | _ => .int
theorem nmX2 : ∀ a, a < 2 → ∀ b, b < 2 → a ≠ b → (TX2 a).2.1 ≠ (TX2 b).2.1 := by decide +kernel
theorem tyX2_ok : ∀ k, k < 2 → parseFieldDescriptor (TX2 k).2.2.1 = some (tyX2 k) := by decide +kernel
abbrev cX2_init : ByteArray := prog_4_method_1_code
def yX2_init : MethodName := ⟨RX2, "<init>", "()V"⟩
abbrev cX2_verdict : ByteArray := prog_4_method_2_code
def yX2_verdict : MethodName := ⟨RX2, "verdict", "()I"⟩
abbrev cX2_misses : ByteArray := prog_4_method_3_code
def yX2_misses : MethodName := ⟨RX2, "misses", "()Z"⟩
abbrev cX2_expressionOf : ByteArray := prog_4_method_4_code
def yX2_expressionOf : MethodName := ⟨RX2, "expressionOf", "(I)LChoiceParser$Expression;"⟩
abbrev cX2_size : ByteArray := prog_4_method_5_code
def yX2_size : MethodName := ⟨RX2, "size", "()I"⟩
abbrev cX2_put : ByteArray := prog_4_method_6_code
def yX2_put : MethodName := ⟨RX2, "put", "(ILChoiceParser$Expression;)V"⟩
abbrev cX2_examine : ByteArray := prog_4_method_7_code
def yX2_examine : MethodName := ⟨RX2, "examine", "()I"⟩
abbrev cX2_lowestMissing : ByteArray := prog_4_method_8_code
def yX2_lowestMissing : MethodName := ⟨RX2, "lowestMissing", "()I"⟩
abbrev cX2_lowestNotGood : ByteArray := prog_4_method_9_code
def yX2_lowestNotGood : MethodName := ⟨RX2, "lowestNotGood", "()I"⟩
abbrev cX2_forgetFindings : ByteArray := prog_4_method_10_code
def yX2_forgetFindings : MethodName := ⟨RX2, "forgetFindings", "()V"⟩
abbrev cX2_findOutcomes : ByteArray := prog_4_method_11_code
def yX2_findOutcomes : MethodName := ⟨RX2, "findOutcomes", "()V"⟩
abbrev cX2_findOutcomesIn : ByteArray := prog_4_method_12_code
def yX2_findOutcomesIn : MethodName := ⟨RX2, "findOutcomesIn", "(LChoiceParser$Expression;)Z"⟩
abbrev cX2_outcomesOf : ByteArray := prog_4_method_13_code
def yX2_outcomesOf : MethodName := ⟨RX2, "outcomesOf", "(LChoiceParser$Node;)I"⟩
abbrev cX2_outcomesOfRow : ByteArray := prog_4_method_14_code
def yX2_outcomesOfRow : MethodName := ⟨RX2, "outcomesOfRow", "(LChoiceParser$Node;)I"⟩
abbrev cX2_joinInRow : ByteArray := prog_4_method_15_code
def yX2_joinInRow : MethodName := ⟨RX2, "joinInRow", "(II)I"⟩
abbrev cX2_outcomesOfChoice : ByteArray := prog_4_method_16_code
def yX2_outcomesOfChoice : MethodName := ⟨RX2, "outcomesOfChoice", "(LChoiceParser$Node;)I"⟩
abbrev cX2_outcomesOfSign : ByteArray := prog_4_method_17_code
def yX2_outcomesOfSign : MethodName := ⟨RX2, "outcomesOfSign", "(II)I"⟩
abbrev cX2_any : ByteArray := prog_4_method_18_code
def yX2_any : MethodName := ⟨RX2, "any", "(II)Z"⟩
abbrev cX2_findGood : ByteArray := prog_4_method_19_code
def yX2_findGood : MethodName := ⟨RX2, "findGood", "()V"⟩
abbrev cX2_findGoodIn : ByteArray := prog_4_method_20_code
def yX2_findGoodIn : MethodName := ⟨RX2, "findGoodIn", "(LChoiceParser$Expression;)Z"⟩
abbrev cX2_isGood : ByteArray := prog_4_method_21_code
def yX2_isGood : MethodName := ⟨RX2, "isGood", "(LChoiceParser$Node;)Z"⟩
abbrev cX2_isGoodRow : ByteArray := prog_4_method_22_code
def yX2_isGoodRow : MethodName := ⟨RX2, "isGoodRow", "(LChoiceParser$Node;)Z"⟩
abbrev cX2_isGoodChoice : ByteArray := prog_4_method_23_code
def yX2_isGoodChoice : MethodName := ⟨RX2, "isGoodChoice", "(LChoiceParser$Node;)Z"⟩
def RX3 : String := "ChoiceParser$Matcher"
def TX3 : u_T := fun k => match k with
  | 0 => ("ChoiceParser$Matcher", "grammar", "LChoiceParser$Grammar;", true)
  | 1 => ("ChoiceParser$Matcher", "input", "LChoiceParser$Characters;", true)
  | 2 => ("ChoiceParser$Matcher", "memory", "LChoiceParser$Memory;", true)
  | 3 => ("ChoiceParser$Matcher", "begun", "I", false)
  | _ => ("ChoiceParser$Matcher", "remembered", "I", false)
def tyX3 : Nat → FieldType := fun k => match k with
  | 0 => .object "ChoiceParser$Grammar"
  | 1 => .object "ChoiceParser$Characters"
  | 2 => .object "ChoiceParser$Memory"
  | 3 => .int
  | _ => .int
theorem nmX3 : ∀ a, a < 5 → ∀ b, b < 5 → a ≠ b → (TX3 a).2.1 ≠ (TX3 b).2.1 := by decide +kernel
theorem tyX3_ok : ∀ k, k < 5 → parseFieldDescriptor (TX3 k).2.2.1 = some (tyX3 k) := by decide +kernel
abbrev cX3_init : ByteArray := prog_5_method_1_code
def yX3_init : MethodName := ⟨RX3, "<init>", "(LChoiceParser$Grammar;LChoiceParser$Characters;LChoiceParser$Memory;)V"⟩
abbrev cX3_begun : ByteArray := prog_5_method_2_code
def yX3_begun : MethodName := ⟨RX3, "begun", "()I"⟩
abbrev cX3_remembered : ByteArray := prog_5_method_3_code
def yX3_remembered : MethodName := ⟨RX3, "remembered", "()I"⟩
abbrev cX3_matchRule : ByteArray := prog_5_method_4_code
def yX3_matchRule : MethodName := ⟨RX3, "matchRule", "(III)I"⟩
abbrev cX3_workOut : ByteArray := prog_5_method_5_code
def yX3_workOut : MethodName := ⟨RX3, "workOut", "(IIII)I"⟩
abbrev cX3_go : ByteArray := prog_5_method_6_code
def yX3_go : MethodName := ⟨RX3, "go", "(LChoiceParser$Node;III)I"⟩
abbrev cX3_goLetter : ByteArray := prog_5_method_7_code
def yX3_goLetter : MethodName := ⟨RX3, "goLetter", "(LChoiceParser$Node;I)I"⟩
abbrev cX3_goRule : ByteArray := prog_5_method_8_code
def yX3_goRule : MethodName := ⟨RX3, "goRule", "(IIII)I"⟩
abbrev cX3_goRow : ByteArray := prog_5_method_9_code
def yX3_goRow : MethodName := ⟨RX3, "goRow", "(LChoiceParser$Node;III)I"⟩
abbrev cX3_goChoice : ByteArray := prog_5_method_10_code
def yX3_goChoice : MethodName := ⟨RX3, "goChoice", "(LChoiceParser$Node;III)I"⟩
abbrev cX3_goRepeated : ByteArray := prog_5_method_11_code
def yX3_goRepeated : MethodName := ⟨RX3, "goRepeated", "(LChoiceParser$Node;III)I"⟩
def RX4 : String := "ChoiceParser$Memory"
def TX4 : u_T := fun k => match k with
  | 0 => ("ChoiceParser$Memory", "gave", "[I", true)
  | 1 => ("ChoiceParser$Memory", "belowSizes", "[I", true)
  | _ => ("ChoiceParser$Memory", "below", "[B", true)
def tyX4 : Nat → FieldType := fun k => match k with
  | 0 => .array .int
  | 1 => .array .int
  | _ => .array .byte
theorem nmX4 : ∀ a, a < 3 → ∀ b, b < 3 → a ≠ b → (TX4 a).2.1 ≠ (TX4 b).2.1 := by decide +kernel
theorem tyX4_ok : ∀ k, k < 3 → parseFieldDescriptor (TX4 k).2.2.1 = some (tyX4 k) := by decide +kernel
abbrev cX4_init : ByteArray := prog_6_method_1_code
def yX4_init : MethodName := ⟨RX4, "<init>", "()V"⟩
abbrev cX4_cellOf : ByteArray := prog_6_method_2_code
def yX4_cellOf : MethodName := ⟨RX4, "cellOf", "(II)I"⟩
abbrev cX4_isCell : ByteArray := prog_6_method_3_code
def yX4_isCell : MethodName := ⟨RX4, "isCell", "(I)Z"⟩
abbrev cX4_forget : ByteArray := prog_6_method_4_code
def yX4_forget : MethodName := ⟨RX4, "forget", "()V"⟩
abbrev cX4_size : ByteArray := prog_6_method_5_code
def yX4_size : MethodName := ⟨RX4, "size", "()I"⟩
abbrev cX4_recall : ByteArray := prog_6_method_6_code
def yX4_recall : MethodName := ⟨RX4, "recall", "(I)I"⟩
abbrev cX4_keep : ByteArray := prog_6_method_7_code
def yX4_keep : MethodName := ⟨RX4, "keep", "(II)V"⟩
abbrev cX4_belowSize : ByteArray := prog_6_method_8_code
def yX4_belowSize : MethodName := ⟨RX4, "belowSize", "(I)I"⟩
abbrev cX4_cutBelow : ByteArray := prog_6_method_9_code
def yX4_cutBelow : MethodName := ⟨RX4, "cutBelow", "(II)V"⟩
abbrev cX4_addBelow : ByteArray := prog_6_method_10_code
def yX4_addBelow : MethodName := ⟨RX4, "addBelow", "(II)V"⟩
abbrev cX4_below : ByteArray := prog_6_method_11_code
def yX4_below : MethodName := ⟨RX4, "below", "(II)I"⟩
def RX5 : String := "ChoiceParser$Node"
def TX5 : u_T := fun k => match k with
  | 0 => ("ChoiceParser$Node", "kind", "I", true)
  | 1 => ("ChoiceParser$Node", "low", "I", true)
  | 2 => ("ChoiceParser$Node", "high", "I", true)
  | 3 => ("ChoiceParser$Node", "first", "LChoiceParser$Node;", true)
  | 4 => ("ChoiceParser$Node", "next", "LChoiceParser$Node;", false)
  | 5 => ("ChoiceParser$Node", "later", "LChoiceParser$Node;", false)
  | 6 => ("ChoiceParser$Node", "outcomes", "I", false)
  | _ => ("ChoiceParser$Node", "good", "Z", false)
def tyX5 : Nat → FieldType := fun k => match k with
  | 0 => .int
  | 1 => .int
  | 2 => .int
  | 3 => .object "ChoiceParser$Node"
  | 4 => .object "ChoiceParser$Node"
  | 5 => .object "ChoiceParser$Node"
  | 6 => .int
  | _ => .boolean
theorem nmX5 : ∀ a, a < 8 → ∀ b, b < 8 → a ≠ b → (TX5 a).2.1 ≠ (TX5 b).2.1 := by decide +kernel
theorem tyX5_ok : ∀ k, k < 8 → parseFieldDescriptor (TX5 k).2.2.1 = some (tyX5 k) := by decide +kernel
abbrev cX5_init : ByteArray := prog_7_method_1_code
def yX5_init : MethodName := ⟨RX5, "<init>", "(IIILChoiceParser$Node;)V"⟩
def RX6 : String := "ChoiceParser$TextReader"
def TX6 : u_T := fun k => match k with
  | 0 => ("ChoiceParser$TextReader", "text", "LChoiceParser$Characters;", true)
  | 1 => ("ChoiceParser$TextReader", "expression", "LChoiceParser$Expression;", false)
  | 2 => ("ChoiceParser$TextReader", "at", "I", false)
  | _ => ("ChoiceParser$TextReader", "ruleRead", "I", false)
def tyX6 : Nat → FieldType := fun k => match k with
  | 0 => .object "ChoiceParser$Characters"
  | 1 => .object "ChoiceParser$Expression"
  | 2 => .int
  | _ => .int
theorem nmX6 : ∀ a, a < 4 → ∀ b, b < 4 → a ≠ b → (TX6 a).2.1 ≠ (TX6 b).2.1 := by decide +kernel
theorem tyX6_ok : ∀ k, k < 4 → parseFieldDescriptor (TX6 k).2.2.1 = some (tyX6 k) := by decide +kernel
abbrev cX6_init : ByteArray := prog_8_method_1_code
def yX6_init : MethodName := ⟨RX6, "<init>", "(LChoiceParser$Characters;)V"⟩
abbrev cX6_fault : ByteArray := prog_8_method_2_code
def yX6_fault : MethodName := ⟨RX6, "fault", "()I"⟩
abbrev cX6_ruleRead : ByteArray := prog_8_method_3_code
def yX6_ruleRead : MethodName := ⟨RX6, "ruleRead", "()I"⟩
abbrev cX6_read : ByteArray := prog_8_method_4_code
def yX6_read : MethodName := ⟨RX6, "read", "()LChoiceParser$Expression;"⟩
abbrev cX6_take : ByteArray := prog_8_method_5_code
def yX6_take : MethodName := ⟨RX6, "take", "(C)Z"⟩
abbrev cX6_readChoice : ByteArray := prog_8_method_6_code
def yX6_readChoice : MethodName := ⟨RX6, "readChoice", "(I)LChoiceParser$Node;"⟩
abbrev cX6_readRow : ByteArray := prog_8_method_7_code
def yX6_readRow : MethodName := ⟨RX6, "readRow", "(I)LChoiceParser$Node;"⟩
abbrev cX6_readPart : ByteArray := prog_8_method_8_code
def yX6_readPart : MethodName := ⟨RX6, "readPart", "(I)LChoiceParser$Node;"⟩
abbrev cX6_readUnit : ByteArray := prog_8_method_9_code
def yX6_readUnit : MethodName := ⟨RX6, "readUnit", "(I)LChoiceParser$Node;"⟩
abbrev cX6_readGroup : ByteArray := prog_8_method_10_code
def yX6_readGroup : MethodName := ⟨RX6, "readGroup", "(I)LChoiceParser$Node;"⟩
abbrev cX6_readRange : ByteArray := prog_8_method_11_code
def yX6_readRange : MethodName := ⟨RX6, "readRange", "()LChoiceParser$Node;"⟩
abbrev cX6_beginsPart : ByteArray := prog_8_method_12_code
def yX6_beginsPart : MethodName := ⟨RX6, "beginsPart", "(C)Z"⟩
abbrev cX6_signBefore : ByteArray := prog_8_method_13_code
def yX6_signBefore : MethodName := ⟨RX6, "signBefore", "(C)I"⟩
abbrev cX6_signBehind : ByteArray := prog_8_method_14_code
def yX6_signBehind : MethodName := ⟨RX6, "signBehind", "(C)I"⟩
def RX7 : String := "ChoiceParser$Tree"
def TX7 : u_T := fun k => match k with
  | 0 => ("ChoiceParser$Tree", "rows", "[[I", true)
  | _ => ("ChoiceParser$Tree", "size", "I", false)
def tyX7 : Nat → FieldType := fun k => match k with
  | 0 => .array (.array .int)
  | _ => .int
theorem nmX7 : ∀ a, a < 2 → ∀ b, b < 2 → a ≠ b → (TX7 a).2.1 ≠ (TX7 b).2.1 := by decide +kernel
theorem tyX7_ok : ∀ k, k < 2 → parseFieldDescriptor (TX7 k).2.2.1 = some (tyX7 k) := by decide +kernel
abbrev cX7_init : ByteArray := prog_9_method_1_code
def yX7_init : MethodName := ⟨RX7, "<init>", "()V"⟩
abbrev cX7_size : ByteArray := prog_9_method_2_code
def yX7_size : MethodName := ⟨RX7, "size", "()I"⟩
abbrev cX7_has : ByteArray := prog_9_method_3_code
def yX7_has : MethodName := ⟨RX7, "has", "(II)Z"⟩
abbrev cX7_tell : ByteArray := prog_9_method_4_code
def yX7_tell : MethodName := ⟨RX7, "tell", "(II)I"⟩
abbrev cX7_fell : ByteArray := prog_9_method_5_code
def yX7_fell : MethodName := ⟨RX7, "fell", "()V"⟩
abbrev cX7_grow : ByteArray := prog_9_method_6_code
def yX7_grow : MethodName := ⟨RX7, "grow", "(LChoiceParser$Memory;I)V"⟩
abbrev cX7_putBelow : ByteArray := prog_9_method_7_code
def yX7_putBelow : MethodName := ⟨RX7, "putBelow", "(ILChoiceParser$Memory;)V"⟩
abbrev cX7_makeRoom : ByteArray := prog_9_method_8_code
def yX7_makeRoom : MethodName := ⟨RX7, "makeRoom", "(II)V"⟩
abbrev cX7_set : ByteArray := prog_9_method_9_code
def yX7_set : MethodName := ⟨RX7, "set", "(ILChoiceParser$Memory;II)V"⟩
def RX8 : String := "ChoiceParser"
def TX8 : u_T := fun k => match k with
  | 0 => ("ChoiceParser", "pad", "LChoiceParser$Characters;", true)
  | 1 => ("ChoiceParser", "input", "LChoiceParser$Characters;", true)
  | 2 => ("ChoiceParser", "reader", "LChoiceParser$TextReader;", true)
  | 3 => ("ChoiceParser", "grammar", "LChoiceParser$Grammar;", true)
  | 4 => ("ChoiceParser", "memory", "LChoiceParser$Memory;", true)
  | 5 => ("ChoiceParser", "matcher", "LChoiceParser$Matcher;", true)
  | _ => ("ChoiceParser", "tree", "LChoiceParser$Tree;", true)
def tyX8 : Nat → FieldType := fun k => match k with
  | 0 => .object "ChoiceParser$Characters"
  | 1 => .object "ChoiceParser$Characters"
  | 2 => .object "ChoiceParser$TextReader"
  | 3 => .object "ChoiceParser$Grammar"
  | 4 => .object "ChoiceParser$Memory"
  | 5 => .object "ChoiceParser$Matcher"
  | _ => .object "ChoiceParser$Tree"
theorem nmX8 : ∀ a, a < 7 → ∀ b, b < 7 → a ≠ b → (TX8 a).2.1 ≠ (TX8 b).2.1 := by decide +kernel
theorem tyX8_ok : ∀ k, k < 7 → parseFieldDescriptor (TX8 k).2.2.1 = some (tyX8 k) := by decide +kernel
abbrev cX8_init : ByteArray := prog_1_method_1_code
def yX8_init : MethodName := ⟨RX8, "<init>", "()V"⟩
abbrev cX8_type : ByteArray := prog_1_method_2_code
def yX8_type : MethodName := ⟨RX8, "type", "(C)Z"⟩
abbrev cX8_rule : ByteArray := prog_1_method_3_code
def yX8_rule : MethodName := ⟨RX8, "rule", "()I"⟩
abbrev cX8_drop : ByteArray := prog_1_method_4_code
def yX8_drop : MethodName := ⟨RX8, "drop", "(I)Z"⟩
abbrev cX8_feed : ByteArray := prog_1_method_5_code
def yX8_feed : MethodName := ⟨RX8, "feed", "(C)I"⟩
abbrev cX8_clear : ByteArray := prog_1_method_6_code
def yX8_clear : MethodName := ⟨RX8, "clear", "()I"⟩
abbrev cX8_outcomes : ByteArray := prog_1_method_7_code
def yX8_outcomes : MethodName := ⟨RX8, "outcomes", "(I)I"⟩
abbrev cX8_check : ByteArray := prog_1_method_8_code
def yX8_check : MethodName := ⟨RX8, "check", "()I"⟩
abbrev cX8_match : ByteArray := prog_1_method_9_code
def yX8_match : MethodName := ⟨RX8, "match", "(II)I"⟩
abbrev cX8_memory : ByteArray := prog_1_method_10_code
def yX8_memory : MethodName := ⟨RX8, "memory", "(II)I"⟩
abbrev cX8_node : ByteArray := prog_1_method_11_code
def yX8_node : MethodName := ⟨RX8, "node", "(II)I"⟩
abbrev cX8_count : ByteArray := prog_1_method_12_code
def yX8_count : MethodName := ⟨RX8, "count", "(I)I"⟩
abbrev cX8_full : ByteArray := prog_1_method_13_code
def yX8_full : MethodName := ⟨RX8, "full", "()F"⟩
abbrev cX8_isPlace : ByteArray := prog_1_method_14_code
def yX8_isPlace : MethodName := ⟨RX8, "isPlace", "(I)Z"⟩
abbrev cX8_isRule : ByteArray := prog_1_method_15_code
def yX8_isRule : MethodName := ⟨RX8, "isRule", "(I)Z"⟩
abbrev cX8_isLetter : ByteArray := prog_1_method_16_code
def yX8_isLetter : MethodName := ⟨RX8, "isLetter", "(C)Z"⟩
abbrev cX8_isRuleLetter : ByteArray := prog_1_method_17_code
def yX8_isRuleLetter : MethodName := ⟨RX8, "isRuleLetter", "(C)Z"⟩
abbrev cX8_standsInTexts : ByteArray := prog_1_method_18_code
def yX8_standsInTexts : MethodName := ⟨RX8, "standsInTexts", "(C)Z"⟩
def RX9 : String := "ChoiceParserModel"
def TX9 : u_T := fun k => match k with
  | 0 => ("ChoiceParserModel", "thrown", "I", false)
  | 1 => ("ChoiceParserModel", "typed", "I", false)
  | 2 => ("ChoiceParserModel", "pad", "[C", true)
  | 3 => ("ChoiceParserModel", "letters", "I", false)
  | 4 => ("ChoiceParserModel", "input", "[I", true)
  | 5 => ("ChoiceParserModel", "kind", "[I", true)
  | 6 => ("ChoiceParserModel", "first", "[I", true)
  | 7 => ("ChoiceParserModel", "second", "[I", true)
  | 8 => ("ChoiceParserModel", "deep", "[I", true)
  | 9 => ("ChoiceParserModel", "goesOn", "[Z", true)
  | 10 => ("ChoiceParserModel", "size", "[I", true)
  | 11 => ("ChoiceParserModel", "outcome", "[I", true)
  | 12 => ("ChoiceParserModel", "good", "[Z", true)
  | 13 => ("ChoiceParserModel", "memory", "[I", true)
  | 14 => ("ChoiceParserModel", "worked", "I", false)
  | 15 => ("ChoiceParserModel", "had", "I", false)
  | 16 => ("ChoiceParserModel", "height", "I", false)
  | 17 => ("ChoiceParserModel", "waits", "[I", true)
  | 18 => ("ChoiceParserModel", "places", "[I", true)
  | 19 => ("ChoiceParserModel", "marks", "[I", true)
  | 20 => ("ChoiceParserModel", "again", "[Z", true)
  | 21 => ("ChoiceParserModel", "ahead", "[I", true)
  | 22 => ("ChoiceParserModel", "depth", "I", false)
  | 23 => ("ChoiceParserModel", "recording", "Z", false)
  | 24 => ("ChoiceParserModel", "records", "I", false)
  | 25 => ("ChoiceParserModel", "recordRule", "[I", true)
  | 26 => ("ChoiceParserModel", "recordFrom", "[I", true)
  | 27 => ("ChoiceParserModel", "recordTo", "[I", true)
  | 28 => ("ChoiceParserModel", "nodes", "I", false)
  | 29 => ("ChoiceParserModel", "nodeRule", "[I", true)
  | 30 => ("ChoiceParserModel", "nodeFrom", "[I", true)
  | 31 => ("ChoiceParserModel", "nodeTo", "[I", true)
  | 32 => ("ChoiceParserModel", "nodeLevel", "[I", true)
  | 33 => ("ChoiceParserModel", "pathNode", "[I", true)
  | 34 => ("ChoiceParserModel", "pathChild", "[I", true)
  | 35 => ("ChoiceParserModel", "open", "I", false)
  | 36 => ("ChoiceParserModel", "parts", "I", false)
  | 37 => ("ChoiceParserModel", "part", "[I", true)
  | 38 => ("ChoiceParserModel", "rows", "I", false)
  | 39 => ("ChoiceParserModel", "row", "[I", true)
  | 40 => ("ChoiceParserModel", "partsBefore", "[I", true)
  | 41 => ("ChoiceParserModel", "rowsBefore", "[I", true)
  | _ => ("ChoiceParserModel", "sign", "[C", true)
def tyX9 : Nat → FieldType := fun k => match k with
  | 0 => .int
  | 1 => .int
  | 2 => .array .char
  | 3 => .int
  | 4 => .array .int
  | 5 => .array .int
  | 6 => .array .int
  | 7 => .array .int
  | 8 => .array .int
  | 9 => .array .boolean
  | 10 => .array .int
  | 11 => .array .int
  | 12 => .array .boolean
  | 13 => .array .int
  | 14 => .int
  | 15 => .int
  | 16 => .int
  | 17 => .array .int
  | 18 => .array .int
  | 19 => .array .int
  | 20 => .array .boolean
  | 21 => .array .int
  | 22 => .int
  | 23 => .boolean
  | 24 => .int
  | 25 => .array .int
  | 26 => .array .int
  | 27 => .array .int
  | 28 => .int
  | 29 => .array .int
  | 30 => .array .int
  | 31 => .array .int
  | 32 => .array .int
  | 33 => .array .int
  | 34 => .array .int
  | 35 => .int
  | 36 => .int
  | 37 => .array .int
  | 38 => .int
  | 39 => .array .int
  | 40 => .array .int
  | 41 => .array .int
  | _ => .array .char
theorem nmX9 : ∀ a, a < 43 → ∀ b, b < 43 → a ≠ b → (TX9 a).2.1 ≠ (TX9 b).2.1 := by decide +kernel
theorem tyX9_ok : ∀ k, k < 43 → parseFieldDescriptor (TX9 k).2.2.1 = some (tyX9 k) := by decide +kernel
abbrev cX9_init : ByteArray := prog_11_method_1_code
def yX9_init : MethodName := ⟨RX9, "<init>", "()V"⟩
abbrev cX9_thrown : ByteArray := prog_11_method_2_code
def yX9_thrown : MethodName := ⟨RX9, "thrown", "()I"⟩
abbrev cX9_fail : ByteArray := prog_11_method_3_code
def yX9_fail : MethodName := ⟨RX9, "fail", "(I)I"⟩
abbrev cX9_in : ByteArray := prog_11_method_4_code
def yX9_in : MethodName := ⟨RX9, "in", "(III)Z"⟩
abbrev cX9_forget : ByteArray := prog_11_method_5_code
def yX9_forget : MethodName := ⟨RX9, "forget", "()V"⟩
abbrev cX9_hasRule : ByteArray := prog_11_method_6_code
def yX9_hasRule : MethodName := ⟨RX9, "hasRule", "(I)Z"⟩
abbrev cX9_isLetter : ByteArray := prog_11_method_7_code
def yX9_isLetter : MethodName := ⟨RX9, "isLetter", "(C)Z"⟩
abbrev cX9_isRule : ByteArray := prog_11_method_8_code
def yX9_isRule : MethodName := ⟨RX9, "isRule", "(C)Z"⟩
abbrev cX9_type : ByteArray := prog_11_method_9_code
def yX9_type : MethodName := ⟨RX9, "type", "(C)Z"⟩
abbrev cX9_look : ByteArray := prog_11_method_10_code
def yX9_look : MethodName := ⟨RX9, "look", "(I)C"⟩
abbrev cX9_made : ByteArray := prog_11_method_11_code
def yX9_made : MethodName := ⟨RX9, "made", "(III)I"⟩
abbrev cX9_partDone : ByteArray := prog_11_method_12_code
def yX9_partDone : MethodName := ⟨RX9, "partDone", "(II)I"⟩
abbrev cX9_rowDone : ByteArray := prog_11_method_13_code
def yX9_rowDone : MethodName := ⟨RX9, "rowDone", "()V"⟩
abbrev cX9_choiceDone : ByteArray := prog_11_method_14_code
def yX9_choiceDone : MethodName := ⟨RX9, "choiceDone", "()I"⟩
abbrev cX9_enter : ByteArray := prog_11_method_15_code
def yX9_enter : MethodName := ⟨RX9, "enter", "()V"⟩
abbrev cX9_simple : ByteArray := prog_11_method_16_code
def yX9_simple : MethodName := ⟨RX9, "simple", "(I)I"⟩
abbrev cX9_read : ByteArray := prog_11_method_17_code
def yX9_read : MethodName := ⟨RX9, "read", "()I"⟩
abbrev cX9_findDepths : ByteArray := prog_11_method_18_code
def yX9_findDepths : MethodName := ⟨RX9, "findDepths", "(I)V"⟩
abbrev cX9_rule : ByteArray := prog_11_method_19_code
def yX9_rule : MethodName := ⟨RX9, "rule", "()I"⟩
abbrev cX9_drop : ByteArray := prog_11_method_20_code
def yX9_drop : MethodName := ⟨RX9, "drop", "(I)Z"⟩
abbrev cX9_feed : ByteArray := prog_11_method_21_code
def yX9_feed : MethodName := ⟨RX9, "feed", "(C)I"⟩
abbrev cX9_clear : ByteArray := prog_11_method_22_code
def yX9_clear : MethodName := ⟨RX9, "clear", "()I"⟩
abbrev cX9_lacking : ByteArray := prog_11_method_23_code
def yX9_lacking : MethodName := ⟨RX9, "lacking", "()I"⟩
abbrev cX9_bit : ByteArray := prog_11_method_24_code
def yX9_bit : MethodName := ⟨RX9, "bit", "(ZI)I"⟩
abbrev cX9_has : ByteArray := prog_11_method_25_code
def yX9_has : MethodName := ⟨RX9, "has", "(II)Z"⟩
abbrev cX9_row : ByteArray := prog_11_method_26_code
def yX9_row : MethodName := ⟨RX9, "row", "(II)I"⟩
abbrev cX9_outcomeOf : ByteArray := prog_11_method_27_code
def yX9_outcomeOf : MethodName := ⟨RX9, "outcomeOf", "(II)I"⟩
abbrev cX9_goodOf : ByteArray := prog_11_method_28_code
def yX9_goodOf : MethodName := ⟨RX9, "goodOf", "(II)Z"⟩
abbrev cX9_more : ByteArray := prog_11_method_29_code
def yX9_more : MethodName := ⟨RX9, "more", "(Z)Z"⟩
abbrev cX9_study : ByteArray := prog_11_method_30_code
def yX9_study : MethodName := ⟨RX9, "study", "()V"⟩
abbrev cX9_outcomes : ByteArray := prog_11_method_31_code
def yX9_outcomes : MethodName := ⟨RX9, "outcomes", "(I)I"⟩
abbrev cX9_rules : ByteArray := prog_11_method_32_code
def yX9_rules : MethodName := ⟨RX9, "rules", "()I"⟩
abbrev cX9_fault : ByteArray := prog_11_method_33_code
def yX9_fault : MethodName := ⟨RX9, "fault", "()I"⟩
abbrev cX9_check : ByteArray := prog_11_method_34_code
def yX9_check : MethodName := ⟨RX9, "check", "()I"⟩
abbrev cX9_push : ByteArray := prog_11_method_35_code
def yX9_push : MethodName := ⟨RX9, "push", "(II)V"⟩
abbrev cX9_record : ByteArray := prog_11_method_36_code
def yX9_record : MethodName := ⟨RX9, "record", "(III)V"⟩
abbrev cX9_ask : ByteArray := prog_11_method_37_code
def yX9_ask : MethodName := ⟨RX9, "ask", "(II)I"⟩
abbrev cX9_base : ByteArray := prog_11_method_38_code
def yX9_base : MethodName := ⟨RX9, "base", "(I)I"⟩
abbrev cX9_wanted : ByteArray := prog_11_method_39_code
def yX9_wanted : MethodName := ⟨RX9, "wanted", "()I"⟩
abbrev cX9_answer : ByteArray := prog_11_method_40_code
def yX9_answer : MethodName := ⟨RX9, "answer", "(I)I"⟩
abbrev cX9_run : ByteArray := prog_11_method_41_code
def yX9_run : MethodName := ⟨RX9, "run", "(II)I"⟩
abbrev cX9_keep : ByteArray := prog_11_method_42_code
def yX9_keep : MethodName := ⟨RX9, "keep", "(IIII)V"⟩
abbrev cX9_grow : ByteArray := prog_11_method_43_code
def yX9_grow : MethodName := ⟨RX9, "grow", "(III)V"⟩
abbrev cX9_match : ByteArray := prog_11_method_44_code
def yX9_match : MethodName := ⟨RX9, "match", "(II)I"⟩
abbrev cX9_memory : ByteArray := prog_11_method_45_code
def yX9_memory : MethodName := ⟨RX9, "memory", "(II)I"⟩
abbrev cX9_node : ByteArray := prog_11_method_46_code
def yX9_node : MethodName := ⟨RX9, "node", "(II)I"⟩
abbrev cX9_count : ByteArray := prog_11_method_47_code
def yX9_count : MethodName := ⟨RX9, "count", "(I)I"⟩
abbrev cX9_full : ByteArray := prog_11_method_48_code
def yX9_full : MethodName := ⟨RX9, "full", "()F"⟩
def RJ9 : String := "java/lang/Math"
abbrev cJ9_max_7cf53 : ByteArray := prog_17_method_65_code
def yJ9_max_7cf53 : MethodName := ⟨RJ9, "max", "(II)I"⟩
abbrev cJ9_min_7cf53 : ByteArray := prog_17_method_69_code
def yJ9_min_7cf53 : MethodName := ⟨RJ9, "min", "(II)I"⟩
def RJ0 : String := "java/lang/String"
abbrev cJ0_length_8abf5 : ByteArray := prog_19_method_54_code
def yJ0_length_8abf5 : MethodName := ⟨RJ0, "length", "()I"⟩
abbrev cJ0_indexOf_0f7a4 : ByteArray := prog_19_method_79_code
def yJ0_indexOf_0f7a4 : MethodName := ⟨RJ0, "indexOf", "(I)I"⟩
abbrev cJ0_indexOf_7cf53 : ByteArray := prog_19_method_80_code
def yJ0_indexOf_7cf53 : MethodName := ⟨RJ0, "indexOf", "(II)I"⟩
abbrev cJ0_coder_7d493 : ByteArray := prog_19_method_152_code
def yJ0_coder_7d493 : MethodName := ⟨RJ0, "coder", "()B"⟩
abbrev cJ0_isLatin1_aae02 : ByteArray := prog_19_method_154_code
def yJ0_isLatin1_aae02 : MethodName := ⟨RJ0, "isLatin1", "()Z"⟩
abbrev cJ0_checkBoundsBeginEnd_23922 : ByteArray := prog_19_method_158_code
def yJ0_checkBoundsBeginEnd_23922 : MethodName := ⟨RJ0, "checkBoundsBeginEnd", "(III)V"⟩
def RJ1 : String := "java/lang/StringLatin1"
abbrev cJ1_canEncode_9a6ad : ByteArray := prog_20_method_4_code
def yJ1_canEncode_9a6ad : MethodName := ⟨RJ1, "canEncode", "(I)Z"⟩
abbrev cJ1_indexOf_4cfef : ByteArray := prog_20_method_22_code
def yJ1_indexOf_4cfef : MethodName := ⟨RJ1, "indexOf", "([BIII)I"⟩
abbrev cJ1_indexOfChar_4cfef : ByteArray := prog_20_method_23_code
def yJ1_indexOfChar_4cfef : MethodName := ⟨RJ1, "indexOfChar", "([BIII)I"⟩
def RJ7 : String := "java/util/Arrays"
abbrev cJ7_fill_53178 : ByteArray := prog_23_method_103_code
def yJ7_fill_53178 : MethodName := ⟨RJ7, "fill", "([II)V"⟩
def RL : String := "ChoiceParserLaw"
abbrev cL_drop : ByteArray := method_3_code
def yL_drop : MethodName := ⟨RL, "drop", "(LChoiceParser;I[J)I"⟩
abbrev cL_feed : ByteArray := method_4_code
def yL_feed : MethodName := ⟨RL, "feed", "(LChoiceParser;C[J)I"⟩
abbrev cL_outcomes : ByteArray := method_5_code
def yL_outcomes : MethodName := ⟨RL, "outcomes", "(LChoiceParser;I[J)I"⟩
abbrev cL_match : ByteArray := method_6_code
def yL_match : MethodName := ⟨RL, "match", "(LChoiceParser;II[J)I"⟩
abbrev cL_memory : ByteArray := method_7_code
def yL_memory : MethodName := ⟨RL, "memory", "(LChoiceParser;II[J)I"⟩
abbrev cL_node : ByteArray := method_8_code
def yL_node : MethodName := ⟨RL, "node", "(LChoiceParser;II[J)I"⟩
abbrev cL_count : ByteArray := method_9_code
def yL_count : MethodName := ⟨RL, "count", "(LChoiceParser;I[J)I"⟩
abbrev cL_law : ByteArray := code
def yL_law : MethodName := ⟨RL, "law", "([I)Z"⟩
end
section
theorem dX0_init_0 : decode cX0_init 0 = .ok (.aload_n 0, 1) := by decide +kernel
theorem dX0_init_1 : decode cX0_init 1 = .ok (.invokespecial 3, 3) := by decide +kernel
theorem dX0_init_4 : decode cX0_init 4 = .ok (.aload_n 0, 1) := by decide +kernel
theorem dX0_init_5 : decode cX0_init 5 = .ok (.iload_n 1, 1) := by decide +kernel
theorem dX0_init_6 : decode cX0_init 6 = .ok (.ifCond .lt 7, 3) := by decide +kernel
theorem dX0_init_9 : decode cX0_init 9 = .ok (.iload_n 1, 1) := by decide +kernel
theorem dX0_init_10 : decode cX0_init 10 = .ok (.goto 4, 3) := by decide +kernel
theorem dX0_init_13 : decode cX0_init 13 = .ok (.iconst 0, 1) := by decide +kernel
theorem dX0_init_14 : decode cX0_init 14 = .ok (.newarray .char, 2) := by decide +kernel
theorem dX0_init_16 : decode cX0_init 16 = .ok (.putfield 9, 3) := by decide +kernel
theorem dX0_init_19 : decode cX0_init 19 = .ok (.return_, 1) := by decide +kernel
theorem dX0_size_0 : decode cX0_size 0 = .ok (.aload_n 0, 1) := by decide +kernel
theorem dX0_size_1 : decode cX0_size 1 = .ok (.getfield 15, 3) := by decide +kernel
theorem dX0_size_4 : decode cX0_size 4 = .ok (.ireturn, 1) := by decide +kernel
theorem dX0_add_0 : decode cX0_add 0 = .ok (.aload_n 0, 1) := by decide +kernel
theorem dX0_add_1 : decode cX0_add 1 = .ok (.getfield 15, 3) := by decide +kernel
theorem dX0_add_4 : decode cX0_add 4 = .ok (.ifCond .lt 15, 3) := by decide +kernel
theorem dX0_add_7 : decode cX0_add 7 = .ok (.aload_n 0, 1) := by decide +kernel
theorem dX0_add_8 : decode cX0_add 8 = .ok (.getfield 15, 3) := by decide +kernel
theorem dX0_add_11 : decode cX0_add 11 = .ok (.aload_n 0, 1) := by decide +kernel
theorem dX0_add_12 : decode cX0_add 12 = .ok (.getfield 9, 3) := by decide +kernel
theorem dX0_add_15 : decode cX0_add 15 = .ok (.arraylength, 1) := by decide +kernel
theorem dX0_add_16 : decode cX0_add 16 = .ok (.if_icmp .lt 5, 3) := by decide +kernel
theorem dX0_add_19 : decode cX0_add 19 = .ok (.iconst 0, 1) := by decide +kernel
theorem dX0_add_20 : decode cX0_add 20 = .ok (.ireturn, 1) := by decide +kernel
theorem dX0_add_21 : decode cX0_add 21 = .ok (.aload_n 0, 1) := by decide +kernel
theorem dX0_add_22 : decode cX0_add 22 = .ok (.getfield 9, 3) := by decide +kernel
theorem dX0_add_25 : decode cX0_add 25 = .ok (.aload_n 0, 1) := by decide +kernel
theorem dX0_add_26 : decode cX0_add 26 = .ok (.getfield 15, 3) := by decide +kernel
theorem dX0_add_29 : decode cX0_add 29 = .ok (.iload_n 1, 1) := by decide +kernel
theorem dX0_add_30 : decode cX0_add 30 = .ok (.castore, 1) := by decide +kernel
theorem dX0_add_31 : decode cX0_add 31 = .ok (.aload_n 0, 1) := by decide +kernel
theorem dX0_add_32 : decode cX0_add 32 = .ok (.dup, 1) := by decide +kernel
theorem dX0_add_33 : decode cX0_add 33 = .ok (.getfield 15, 3) := by decide +kernel
theorem dX0_add_36 : decode cX0_add 36 = .ok (.iconst 1, 1) := by decide +kernel
theorem dX0_add_37 : decode cX0_add 37 = .ok (.iadd, 1) := by decide +kernel
theorem dX0_add_38 : decode cX0_add 38 = .ok (.putfield 15, 3) := by decide +kernel
theorem dX0_add_41 : decode cX0_add 41 = .ok (.iconst 1, 1) := by decide +kernel
theorem dX0_add_42 : decode cX0_add 42 = .ok (.ireturn, 1) := by decide +kernel
theorem dX0_at_0 : decode cX0_at 0 = .ok (.iload_n 1, 1) := by decide +kernel
theorem dX0_at_1 : decode cX0_at 1 = .ok (.ifCond .lt 29, 3) := by decide +kernel
theorem dX0_at_4 : decode cX0_at 4 = .ok (.iload_n 1, 1) := by decide +kernel
theorem dX0_at_5 : decode cX0_at 5 = .ok (.aload_n 0, 1) := by decide +kernel
theorem dX0_at_6 : decode cX0_at 6 = .ok (.getfield 15, 3) := by decide +kernel
theorem dX0_at_9 : decode cX0_at 9 = .ok (.if_icmp .ge 21, 3) := by decide +kernel
theorem dX0_at_12 : decode cX0_at 12 = .ok (.iload_n 1, 1) := by decide +kernel
theorem dX0_at_13 : decode cX0_at 13 = .ok (.aload_n 0, 1) := by decide +kernel
theorem dX0_at_14 : decode cX0_at 14 = .ok (.getfield 9, 3) := by decide +kernel
theorem dX0_at_17 : decode cX0_at 17 = .ok (.arraylength, 1) := by decide +kernel
theorem dX0_at_18 : decode cX0_at 18 = .ok (.if_icmp .ge 12, 3) := by decide +kernel
theorem dX0_at_21 : decode cX0_at 21 = .ok (.aload_n 0, 1) := by decide +kernel
theorem dX0_at_22 : decode cX0_at 22 = .ok (.getfield 9, 3) := by decide +kernel
theorem dX0_at_25 : decode cX0_at 25 = .ok (.iload_n 1, 1) := by decide +kernel
theorem dX0_at_26 : decode cX0_at 26 = .ok (.caload, 1) := by decide +kernel
theorem dX0_at_27 : decode cX0_at 27 = .ok (.goto 4, 3) := by decide +kernel
theorem dX0_at_30 : decode cX0_at 30 = .ok (.iconst 0, 1) := by decide +kernel
theorem dX0_at_31 : decode cX0_at 31 = .ok (.ireturn, 1) := by decide +kernel
theorem dX0_removeAll_0 : decode cX0_removeAll 0 = .ok (.aload_n 0, 1) := by decide +kernel
theorem dX0_removeAll_1 : decode cX0_removeAll 1 = .ok (.iconst 0, 1) := by decide +kernel
theorem dX0_removeAll_2 : decode cX0_removeAll 2 = .ok (.putfield 15, 3) := by decide +kernel
theorem dX0_removeAll_5 : decode cX0_removeAll 5 = .ok (.return_, 1) := by decide +kernel
theorem dX1_init_0 : decode cX1_init 0 = .ok (.aload_n 0, 1) := by decide +kernel
theorem dX1_init_1 : decode cX1_init 1 = .ok (.invokespecial 3, 3) := by decide +kernel
theorem dX1_init_4 : decode cX1_init 4 = .ok (.return_, 1) := by decide +kernel
theorem dX1_add_0 : decode cX1_add 0 = .ok (.new 9, 3) := by decide +kernel
theorem dX1_add_3 : decode cX1_add 3 = .ok (.dup, 1) := by decide +kernel
theorem dX1_add_4 : decode cX1_add 4 = .ok (.iload_n 1, 1) := by decide +kernel
theorem dX1_add_5 : decode cX1_add 5 = .ok (.iload_n 2, 1) := by decide +kernel
theorem dX1_add_6 : decode cX1_add 6 = .ok (.iload_n 3, 1) := by decide +kernel
theorem dX1_add_7 : decode cX1_add 7 = .ok (.aload 4, 2) := by decide +kernel
theorem dX1_add_9 : decode cX1_add 9 = .ok (.invokespecial 11, 3) := by decide +kernel
theorem dX1_add_12 : decode cX1_add 12 = .ok (.astore 5, 2) := by decide +kernel
theorem dX1_add_14 : decode cX1_add 14 = .ok (.aload_n 0, 1) := by decide +kernel
theorem dX1_add_15 : decode cX1_add 15 = .ok (.getfield 14, 3) := by decide +kernel
theorem dX1_add_18 : decode cX1_add 18 = .ok (.ifnonnull 12, 3) := by decide +kernel
theorem dX1_add_21 : decode cX1_add 21 = .ok (.aload_n 0, 1) := by decide +kernel
theorem dX1_add_22 : decode cX1_add 22 = .ok (.aload 5, 2) := by decide +kernel
theorem dX1_add_24 : decode cX1_add 24 = .ok (.putfield 20, 3) := by decide +kernel
theorem dX1_add_27 : decode cX1_add 27 = .ok (.goto 12, 3) := by decide +kernel
theorem dX1_add_30 : decode cX1_add 30 = .ok (.aload_n 0, 1) := by decide +kernel
theorem dX1_add_31 : decode cX1_add 31 = .ok (.getfield 14, 3) := by decide +kernel
theorem dX1_add_34 : decode cX1_add 34 = .ok (.aload 5, 2) := by decide +kernel
theorem dX1_add_36 : decode cX1_add 36 = .ok (.putfield 23, 3) := by decide +kernel
theorem dX1_add_39 : decode cX1_add 39 = .ok (.aload_n 0, 1) := by decide +kernel
theorem dX1_add_40 : decode cX1_add 40 = .ok (.aload 5, 2) := by decide +kernel
theorem dX1_add_42 : decode cX1_add 42 = .ok (.putfield 14, 3) := by decide +kernel
theorem dX1_add_45 : decode cX1_add 45 = .ok (.aload 5, 2) := by decide +kernel
theorem dX1_add_47 : decode cX1_add 47 = .ok (.areturn, 1) := by decide +kernel
theorem dX1_outcomesOfRoot_0 : decode cX1_outcomesOfRoot 0 = .ok (.aload_n 0, 1) := by decide +kernel
theorem dX1_outcomesOfRoot_1 : decode cX1_outcomesOfRoot 1 = .ok (.getfield 14, 3) := by decide +kernel
theorem dX1_outcomesOfRoot_4 : decode cX1_outcomesOfRoot 4 = .ok (.ifnonnull 7, 3) := by decide +kernel
theorem dX1_outcomesOfRoot_7 : decode cX1_outcomesOfRoot 7 = .ok (.iconst 0, 1) := by decide +kernel
theorem dX1_outcomesOfRoot_8 : decode cX1_outcomesOfRoot 8 = .ok (.goto 10, 3) := by decide +kernel
theorem dX1_outcomesOfRoot_11 : decode cX1_outcomesOfRoot 11 = .ok (.aload_n 0, 1) := by decide +kernel
theorem dX1_outcomesOfRoot_12 : decode cX1_outcomesOfRoot 12 = .ok (.getfield 14, 3) := by decide +kernel
theorem dX1_outcomesOfRoot_15 : decode cX1_outcomesOfRoot 15 = .ok (.getfield 26, 3) := by decide +kernel
theorem dX1_outcomesOfRoot_18 : decode cX1_outcomesOfRoot 18 = .ok (.ireturn, 1) := by decide +kernel
theorem dX1_rootIsGood_0 : decode cX1_rootIsGood 0 = .ok (.aload_n 0, 1) := by decide +kernel
theorem dX1_rootIsGood_1 : decode cX1_rootIsGood 1 = .ok (.getfield 14, 3) := by decide +kernel
theorem dX1_rootIsGood_4 : decode cX1_rootIsGood 4 = .ok (.ifnull 17, 3) := by decide +kernel
theorem dX1_rootIsGood_7 : decode cX1_rootIsGood 7 = .ok (.aload_n 0, 1) := by decide +kernel
theorem dX1_rootIsGood_8 : decode cX1_rootIsGood 8 = .ok (.getfield 14, 3) := by decide +kernel
theorem dX1_rootIsGood_11 : decode cX1_rootIsGood 11 = .ok (.getfield 30, 3) := by decide +kernel
theorem dX1_rootIsGood_14 : decode cX1_rootIsGood 14 = .ok (.ifCond .eq 7, 3) := by decide +kernel
theorem dX1_rootIsGood_17 : decode cX1_rootIsGood 17 = .ok (.iconst 1, 1) := by decide +kernel
theorem dX1_rootIsGood_18 : decode cX1_rootIsGood 18 = .ok (.goto 4, 3) := by decide +kernel
theorem dX1_rootIsGood_21 : decode cX1_rootIsGood 21 = .ok (.iconst 0, 1) := by decide +kernel
theorem dX1_rootIsGood_22 : decode cX1_rootIsGood 22 = .ok (.ireturn, 1) := by decide +kernel
theorem dX1_rulesInIt_0 : decode cX1_rulesInIt 0 = .ok (.iconst 0, 1) := by decide +kernel
theorem dX1_rulesInIt_1 : decode cX1_rulesInIt 1 = .ok (.istore_n 1, 1) := by decide +kernel
theorem dX1_rulesInIt_2 : decode cX1_rulesInIt 2 = .ok (.aload_n 0, 1) := by decide +kernel
theorem dX1_rulesInIt_3 : decode cX1_rulesInIt 3 = .ok (.getfield 20, 3) := by decide +kernel
theorem dX1_rulesInIt_6 : decode cX1_rulesInIt 6 = .ok (.astore_n 2, 1) := by decide +kernel
theorem dX1_rulesInIt_7 : decode cX1_rulesInIt 7 = .ok (.aload_n 2, 1) := by decide +kernel
theorem dX1_rulesInIt_8 : decode cX1_rulesInIt 8 = .ok (.ifnull 28, 3) := by decide +kernel
theorem dX1_rulesInIt_11 : decode cX1_rulesInIt 11 = .ok (.aload_n 2, 1) := by decide +kernel
theorem dX1_rulesInIt_12 : decode cX1_rulesInIt 12 = .ok (.getfield 34, 3) := by decide +kernel
theorem dX1_rulesInIt_15 : decode cX1_rulesInIt 15 = .ok (.iconst 2, 1) := by decide +kernel
theorem dX1_rulesInIt_16 : decode cX1_rulesInIt 16 = .ok (.if_icmp .ne 12, 3) := by decide +kernel
theorem dX1_rulesInIt_19 : decode cX1_rulesInIt 19 = .ok (.iload_n 1, 1) := by decide +kernel
theorem dX1_rulesInIt_20 : decode cX1_rulesInIt 20 = .ok (.iconst 1, 1) := by decide +kernel
theorem dX1_rulesInIt_21 : decode cX1_rulesInIt 21 = .ok (.aload_n 2, 1) := by decide +kernel
theorem dX1_rulesInIt_22 : decode cX1_rulesInIt 22 = .ok (.getfield 37, 3) := by decide +kernel
theorem dX1_rulesInIt_25 : decode cX1_rulesInIt 25 = .ok (.ishl, 1) := by decide +kernel
theorem dX1_rulesInIt_26 : decode cX1_rulesInIt 26 = .ok (.ior, 1) := by decide +kernel
theorem dX1_rulesInIt_27 : decode cX1_rulesInIt 27 = .ok (.istore_n 1, 1) := by decide +kernel
theorem dX1_rulesInIt_28 : decode cX1_rulesInIt 28 = .ok (.aload_n 2, 1) := by decide +kernel
theorem dX1_rulesInIt_29 : decode cX1_rulesInIt 29 = .ok (.getfield 23, 3) := by decide +kernel
theorem dX1_rulesInIt_32 : decode cX1_rulesInIt 32 = .ok (.astore_n 2, 1) := by decide +kernel
theorem dX1_rulesInIt_33 : decode cX1_rulesInIt 33 = .ok (.goto (-26), 3) := by decide +kernel
theorem dX1_rulesInIt_36 : decode cX1_rulesInIt 36 = .ok (.iload_n 1, 1) := by decide +kernel
theorem dX1_rulesInIt_37 : decode cX1_rulesInIt 37 = .ok (.ireturn, 1) := by decide +kernel
theorem dX1_allGood_0 : decode cX1_allGood 0 = .ok (.aload_n 0, 1) := by decide +kernel
theorem dX1_allGood_1 : decode cX1_allGood 1 = .ok (.getfield 20, 3) := by decide +kernel
theorem dX1_allGood_4 : decode cX1_allGood 4 = .ok (.astore_n 1, 1) := by decide +kernel
theorem dX1_allGood_5 : decode cX1_allGood 5 = .ok (.aload_n 1, 1) := by decide +kernel
theorem dX1_allGood_6 : decode cX1_allGood 6 = .ok (.ifnull 20, 3) := by decide +kernel
theorem dX1_allGood_9 : decode cX1_allGood 9 = .ok (.aload_n 1, 1) := by decide +kernel
theorem dX1_allGood_10 : decode cX1_allGood 10 = .ok (.getfield 30, 3) := by decide +kernel
theorem dX1_allGood_13 : decode cX1_allGood 13 = .ok (.ifCond .ne 5, 3) := by decide +kernel
theorem dX1_allGood_16 : decode cX1_allGood 16 = .ok (.iconst 0, 1) := by decide +kernel
theorem dX1_allGood_17 : decode cX1_allGood 17 = .ok (.ireturn, 1) := by decide +kernel
theorem dX1_allGood_18 : decode cX1_allGood 18 = .ok (.aload_n 1, 1) := by decide +kernel
theorem dX1_allGood_19 : decode cX1_allGood 19 = .ok (.getfield 23, 3) := by decide +kernel
theorem dX1_allGood_22 : decode cX1_allGood 22 = .ok (.astore_n 1, 1) := by decide +kernel
theorem dX1_allGood_23 : decode cX1_allGood 23 = .ok (.goto (-18), 3) := by decide +kernel
theorem dX1_allGood_26 : decode cX1_allGood 26 = .ok (.iconst 1, 1) := by decide +kernel
theorem dX1_allGood_27 : decode cX1_allGood 27 = .ok (.ireturn, 1) := by decide +kernel
theorem dX1_forgetFindings_0 : decode cX1_forgetFindings 0 = .ok (.aload_n 0, 1) := by decide +kernel
theorem dX1_forgetFindings_1 : decode cX1_forgetFindings 1 = .ok (.getfield 20, 3) := by decide +kernel
theorem dX1_forgetFindings_4 : decode cX1_forgetFindings 4 = .ok (.astore_n 1, 1) := by decide +kernel
theorem dX1_forgetFindings_5 : decode cX1_forgetFindings 5 = .ok (.aload_n 1, 1) := by decide +kernel
theorem dX1_forgetFindings_6 : decode cX1_forgetFindings 6 = .ok (.ifnull 21, 3) := by decide +kernel
theorem dX1_forgetFindings_9 : decode cX1_forgetFindings 9 = .ok (.aload_n 1, 1) := by decide +kernel
theorem dX1_forgetFindings_10 : decode cX1_forgetFindings 10 = .ok (.iconst 0, 1) := by decide +kernel
theorem dX1_forgetFindings_11 : decode cX1_forgetFindings 11 = .ok (.putfield 26, 3) := by decide +kernel
theorem dX1_forgetFindings_14 : decode cX1_forgetFindings 14 = .ok (.aload_n 1, 1) := by decide +kernel
theorem dX1_forgetFindings_15 : decode cX1_forgetFindings 15 = .ok (.iconst 0, 1) := by decide +kernel
theorem dX1_forgetFindings_16 : decode cX1_forgetFindings 16 = .ok (.putfield 30, 3) := by decide +kernel
theorem dX1_forgetFindings_19 : decode cX1_forgetFindings 19 = .ok (.aload_n 1, 1) := by decide +kernel
theorem dX1_forgetFindings_20 : decode cX1_forgetFindings 20 = .ok (.getfield 23, 3) := by decide +kernel
theorem dX1_forgetFindings_23 : decode cX1_forgetFindings 23 = .ok (.astore_n 1, 1) := by decide +kernel
theorem dX1_forgetFindings_24 : decode cX1_forgetFindings 24 = .ok (.goto (-19), 3) := by decide +kernel
theorem dX1_forgetFindings_27 : decode cX1_forgetFindings 27 = .ok (.return_, 1) := by decide +kernel
theorem dX2_init_0 : decode cX2_init 0 = .ok (.aload_n 0, 1) := by decide +kernel
theorem dX2_init_1 : decode cX2_init 1 = .ok (.invokespecial 3, 3) := by decide +kernel
theorem dX2_init_4 : decode cX2_init 4 = .ok (.aload_n 0, 1) := by decide +kernel
theorem dX2_init_5 : decode cX2_init 5 = .ok (.bipush 6, 2) := by decide +kernel
theorem dX2_init_7 : decode cX2_init 7 = .ok (.anewarray 9, 3) := by decide +kernel
theorem dX2_init_10 : decode cX2_init 10 = .ok (.putfield 11, 3) := by decide +kernel
theorem dX2_init_13 : decode cX2_init 13 = .ok (.aload_n 0, 1) := by decide +kernel
theorem dX2_init_14 : decode cX2_init 14 = .ok (.iconst 1, 1) := by decide +kernel
theorem dX2_init_15 : decode cX2_init 15 = .ok (.putfield 17, 3) := by decide +kernel
theorem dX2_init_18 : decode cX2_init 18 = .ok (.return_, 1) := by decide +kernel
theorem dX2_verdict_0 : decode cX2_verdict 0 = .ok (.aload_n 0, 1) := by decide +kernel
theorem dX2_verdict_1 : decode cX2_verdict 1 = .ok (.getfield 17, 3) := by decide +kernel
theorem dX2_verdict_4 : decode cX2_verdict 4 = .ok (.ireturn, 1) := by decide +kernel
theorem dX2_misses_0 : decode cX2_misses 0 = .ok (.aload_n 0, 1) := by decide +kernel
theorem dX2_misses_1 : decode cX2_misses 1 = .ok (.getfield 17, 3) := by decide +kernel
theorem dX2_misses_4 : decode cX2_misses 4 = .ok (.bipush 10, 2) := by decide +kernel
theorem dX2_misses_6 : decode cX2_misses 6 = .ok (.irem, 1) := by decide +kernel
theorem dX2_misses_7 : decode cX2_misses 7 = .ok (.iconst 2, 1) := by decide +kernel
theorem dX2_misses_8 : decode cX2_misses 8 = .ok (.if_icmp .ne 7, 3) := by decide +kernel
theorem dX2_misses_11 : decode cX2_misses 11 = .ok (.iconst 1, 1) := by decide +kernel
theorem dX2_misses_12 : decode cX2_misses 12 = .ok (.goto 4, 3) := by decide +kernel
theorem dX2_misses_15 : decode cX2_misses 15 = .ok (.iconst 0, 1) := by decide +kernel
theorem dX2_misses_16 : decode cX2_misses 16 = .ok (.ireturn, 1) := by decide +kernel
theorem dX2_expressionOf_0 : decode cX2_expressionOf 0 = .ok (.iload_n 1, 1) := by decide +kernel
theorem dX2_expressionOf_1 : decode cX2_expressionOf 1 = .ok (.invokestatic 21, 3) := by decide +kernel
theorem dX2_expressionOf_4 : decode cX2_expressionOf 4 = .ok (.ifCond .eq 12, 3) := by decide +kernel
theorem dX2_expressionOf_7 : decode cX2_expressionOf 7 = .ok (.aload_n 0, 1) := by decide +kernel
theorem dX2_expressionOf_8 : decode cX2_expressionOf 8 = .ok (.getfield 11, 3) := by decide +kernel
theorem dX2_expressionOf_11 : decode cX2_expressionOf 11 = .ok (.iload_n 1, 1) := by decide +kernel
theorem dX2_expressionOf_12 : decode cX2_expressionOf 12 = .ok (.aaload, 1) := by decide +kernel
theorem dX2_expressionOf_13 : decode cX2_expressionOf 13 = .ok (.goto 4, 3) := by decide +kernel
theorem dX2_expressionOf_16 : decode cX2_expressionOf 16 = .ok (.aconst_null, 1) := by decide +kernel
theorem dX2_expressionOf_17 : decode cX2_expressionOf 17 = .ok (.areturn, 1) := by decide +kernel
theorem dX2_size_0 : decode cX2_size 0 = .ok (.iconst 0, 1) := by decide +kernel
theorem dX2_size_1 : decode cX2_size 1 = .ok (.istore_n 1, 1) := by decide +kernel
theorem dX2_size_2 : decode cX2_size 2 = .ok (.aload_n 0, 1) := by decide +kernel
theorem dX2_size_3 : decode cX2_size 3 = .ok (.getfield 11, 3) := by decide +kernel
theorem dX2_size_6 : decode cX2_size 6 = .ok (.astore_n 2, 1) := by decide +kernel
theorem dX2_size_7 : decode cX2_size 7 = .ok (.aload_n 2, 1) := by decide +kernel
theorem dX2_size_8 : decode cX2_size 8 = .ok (.arraylength, 1) := by decide +kernel
theorem dX2_size_9 : decode cX2_size 9 = .ok (.istore_n 3, 1) := by decide +kernel
theorem dX2_size_10 : decode cX2_size 10 = .ok (.iconst 0, 1) := by decide +kernel
theorem dX2_size_11 : decode cX2_size 11 = .ok (.istore 4, 2) := by decide +kernel
theorem dX2_size_13 : decode cX2_size 13 = .ok (.iload 4, 2) := by decide +kernel
theorem dX2_size_15 : decode cX2_size 15 = .ok (.iload_n 3, 1) := by decide +kernel
theorem dX2_size_16 : decode cX2_size 16 = .ok (.if_icmp .ge 23, 3) := by decide +kernel
theorem dX2_size_19 : decode cX2_size 19 = .ok (.aload_n 2, 1) := by decide +kernel
theorem dX2_size_20 : decode cX2_size 20 = .ok (.iload 4, 2) := by decide +kernel
theorem dX2_size_22 : decode cX2_size 22 = .ok (.aaload, 1) := by decide +kernel
theorem dX2_size_23 : decode cX2_size 23 = .ok (.astore 5, 2) := by decide +kernel
theorem dX2_size_25 : decode cX2_size 25 = .ok (.aload 5, 2) := by decide +kernel
theorem dX2_size_27 : decode cX2_size 27 = .ok (.ifnull 6, 3) := by decide +kernel
theorem dX2_size_30 : decode cX2_size 30 = .ok (.iinc 1 1, 3) := by decide +kernel
theorem dX2_size_33 : decode cX2_size 33 = .ok (.iinc 4 1, 3) := by decide +kernel
theorem dX2_size_36 : decode cX2_size 36 = .ok (.goto (-23), 3) := by decide +kernel
theorem dX2_size_39 : decode cX2_size 39 = .ok (.iload_n 1, 1) := by decide +kernel
theorem dX2_size_40 : decode cX2_size 40 = .ok (.ireturn, 1) := by decide +kernel
theorem dX2_put_0 : decode cX2_put 0 = .ok (.iload_n 1, 1) := by decide +kernel
theorem dX2_put_1 : decode cX2_put 1 = .ok (.invokestatic 21, 3) := by decide +kernel
theorem dX2_put_4 : decode cX2_put 4 = .ok (.ifCond .eq 18, 3) := by decide +kernel
theorem dX2_put_7 : decode cX2_put 7 = .ok (.aload_n 0, 1) := by decide +kernel
theorem dX2_put_8 : decode cX2_put 8 = .ok (.getfield 11, 3) := by decide +kernel
theorem dX2_put_11 : decode cX2_put 11 = .ok (.iload_n 1, 1) := by decide +kernel
theorem dX2_put_12 : decode cX2_put 12 = .ok (.aload_n 2, 1) := by decide +kernel
theorem dX2_put_13 : decode cX2_put 13 = .ok (.aastore, 1) := by decide +kernel
theorem dX2_put_14 : decode cX2_put 14 = .ok (.aload_n 0, 1) := by decide +kernel
theorem dX2_put_15 : decode cX2_put 15 = .ok (.aload_n 0, 1) := by decide +kernel
theorem dX2_put_16 : decode cX2_put 16 = .ok (.invokevirtual 25, 3) := by decide +kernel
theorem dX2_put_19 : decode cX2_put 19 = .ok (.putfield 17, 3) := by decide +kernel
theorem dX2_put_22 : decode cX2_put 22 = .ok (.return_, 1) := by decide +kernel
theorem dX2_examine_0 : decode cX2_examine 0 = .ok (.aload_n 0, 1) := by decide +kernel
theorem dX2_examine_1 : decode cX2_examine 1 = .ok (.invokevirtual 29, 3) := by decide +kernel
theorem dX2_examine_4 : decode cX2_examine 4 = .ok (.ifCond .ne 5, 3) := by decide +kernel
theorem dX2_examine_7 : decode cX2_examine 7 = .ok (.iconst 1, 1) := by decide +kernel
theorem dX2_examine_8 : decode cX2_examine 8 = .ok (.ireturn, 1) := by decide +kernel
theorem dX2_examine_9 : decode cX2_examine 9 = .ok (.aload_n 0, 1) := by decide +kernel
theorem dX2_examine_10 : decode cX2_examine 10 = .ok (.invokevirtual 32, 3) := by decide +kernel
theorem dX2_examine_13 : decode cX2_examine 13 = .ok (.istore_n 1, 1) := by decide +kernel
theorem dX2_examine_14 : decode cX2_examine 14 = .ok (.iload_n 1, 1) := by decide +kernel
theorem dX2_examine_15 : decode cX2_examine 15 = .ok (.iconst (-1), 1) := by decide +kernel
theorem dX2_examine_16 : decode cX2_examine 16 = .ok (.if_icmp .eq 10, 3) := by decide +kernel
theorem dX2_examine_19 : decode cX2_examine 19 = .ok (.iconst 2, 1) := by decide +kernel
theorem dX2_examine_20 : decode cX2_examine 20 = .ok (.bipush 10, 2) := by decide +kernel
theorem dX2_examine_22 : decode cX2_examine 22 = .ok (.iload_n 1, 1) := by decide +kernel
theorem dX2_examine_23 : decode cX2_examine 23 = .ok (.imul, 1) := by decide +kernel
theorem dX2_examine_24 : decode cX2_examine 24 = .ok (.iadd, 1) := by decide +kernel
theorem dX2_examine_25 : decode cX2_examine 25 = .ok (.ireturn, 1) := by decide +kernel
theorem dX2_examine_26 : decode cX2_examine 26 = .ok (.aload_n 0, 1) := by decide +kernel
theorem dX2_examine_27 : decode cX2_examine 27 = .ok (.invokevirtual 35, 3) := by decide +kernel
theorem dX2_examine_30 : decode cX2_examine 30 = .ok (.aload_n 0, 1) := by decide +kernel
theorem dX2_examine_31 : decode cX2_examine 31 = .ok (.invokevirtual 38, 3) := by decide +kernel
theorem dX2_examine_34 : decode cX2_examine 34 = .ok (.aload_n 0, 1) := by decide +kernel
theorem dX2_examine_35 : decode cX2_examine 35 = .ok (.invokevirtual 41, 3) := by decide +kernel
theorem dX2_examine_38 : decode cX2_examine 38 = .ok (.aload_n 0, 1) := by decide +kernel
theorem dX2_examine_39 : decode cX2_examine 39 = .ok (.invokevirtual 44, 3) := by decide +kernel
theorem dX2_examine_42 : decode cX2_examine 42 = .ok (.istore_n 2, 1) := by decide +kernel
theorem dX2_examine_43 : decode cX2_examine 43 = .ok (.iload_n 2, 1) := by decide +kernel
theorem dX2_examine_44 : decode cX2_examine 44 = .ok (.iconst (-1), 1) := by decide +kernel
theorem dX2_examine_45 : decode cX2_examine 45 = .ok (.if_icmp .ne 7, 3) := by decide +kernel
theorem dX2_examine_48 : decode cX2_examine 48 = .ok (.iconst 0, 1) := by decide +kernel
theorem dX2_examine_49 : decode cX2_examine 49 = .ok (.goto 9, 3) := by decide +kernel
theorem dX2_examine_52 : decode cX2_examine 52 = .ok (.iconst 3, 1) := by decide +kernel
theorem dX2_examine_53 : decode cX2_examine 53 = .ok (.bipush 10, 2) := by decide +kernel
theorem dX2_examine_55 : decode cX2_examine 55 = .ok (.iload_n 2, 1) := by decide +kernel
theorem dX2_examine_56 : decode cX2_examine 56 = .ok (.imul, 1) := by decide +kernel
theorem dX2_examine_57 : decode cX2_examine 57 = .ok (.iadd, 1) := by decide +kernel
theorem dX2_examine_58 : decode cX2_examine 58 = .ok (.ireturn, 1) := by decide +kernel
theorem dX2_lowestMissing_0 : decode cX2_lowestMissing 0 = .ok (.iconst 0, 1) := by decide +kernel
theorem dX2_lowestMissing_1 : decode cX2_lowestMissing 1 = .ok (.istore_n 1, 1) := by decide +kernel
theorem dX2_lowestMissing_2 : decode cX2_lowestMissing 2 = .ok (.aload_n 0, 1) := by decide +kernel
theorem dX2_lowestMissing_3 : decode cX2_lowestMissing 3 = .ok (.getfield 11, 3) := by decide +kernel
theorem dX2_lowestMissing_6 : decode cX2_lowestMissing 6 = .ok (.astore_n 2, 1) := by decide +kernel
theorem dX2_lowestMissing_7 : decode cX2_lowestMissing 7 = .ok (.aload_n 2, 1) := by decide +kernel
theorem dX2_lowestMissing_8 : decode cX2_lowestMissing 8 = .ok (.arraylength, 1) := by decide +kernel
theorem dX2_lowestMissing_9 : decode cX2_lowestMissing 9 = .ok (.istore_n 3, 1) := by decide +kernel
theorem dX2_lowestMissing_10 : decode cX2_lowestMissing 10 = .ok (.iconst 0, 1) := by decide +kernel
theorem dX2_lowestMissing_11 : decode cX2_lowestMissing 11 = .ok (.istore 4, 2) := by decide +kernel
theorem dX2_lowestMissing_13 : decode cX2_lowestMissing 13 = .ok (.iload 4, 2) := by decide +kernel
theorem dX2_lowestMissing_15 : decode cX2_lowestMissing 15 = .ok (.iload_n 3, 1) := by decide +kernel
theorem dX2_lowestMissing_16 : decode cX2_lowestMissing 16 = .ok (.if_icmp .ge 28, 3) := by decide +kernel
theorem dX2_lowestMissing_19 : decode cX2_lowestMissing 19 = .ok (.aload_n 2, 1) := by decide +kernel
theorem dX2_lowestMissing_20 : decode cX2_lowestMissing 20 = .ok (.iload 4, 2) := by decide +kernel
theorem dX2_lowestMissing_22 : decode cX2_lowestMissing 22 = .ok (.aaload, 1) := by decide +kernel
theorem dX2_lowestMissing_23 : decode cX2_lowestMissing 23 = .ok (.astore 5, 2) := by decide +kernel
theorem dX2_lowestMissing_25 : decode cX2_lowestMissing 25 = .ok (.aload 5, 2) := by decide +kernel
theorem dX2_lowestMissing_27 : decode cX2_lowestMissing 27 = .ok (.ifnull 11, 3) := by decide +kernel
theorem dX2_lowestMissing_30 : decode cX2_lowestMissing 30 = .ok (.iload_n 1, 1) := by decide +kernel
theorem dX2_lowestMissing_31 : decode cX2_lowestMissing 31 = .ok (.aload 5, 2) := by decide +kernel
theorem dX2_lowestMissing_33 : decode cX2_lowestMissing 33 = .ok (.invokevirtual 47, 3) := by decide +kernel
theorem dX2_lowestMissing_36 : decode cX2_lowestMissing 36 = .ok (.ior, 1) := by decide +kernel
theorem dX2_lowestMissing_37 : decode cX2_lowestMissing 37 = .ok (.istore_n 1, 1) := by decide +kernel
theorem dX2_lowestMissing_38 : decode cX2_lowestMissing 38 = .ok (.iinc 4 1, 3) := by decide +kernel
theorem dX2_lowestMissing_41 : decode cX2_lowestMissing 41 = .ok (.goto (-28), 3) := by decide +kernel
theorem dX2_lowestMissing_44 : decode cX2_lowestMissing 44 = .ok (.iconst 0, 1) := by decide +kernel
theorem dX2_lowestMissing_45 : decode cX2_lowestMissing 45 = .ok (.istore_n 2, 1) := by decide +kernel
theorem dX2_lowestMissing_46 : decode cX2_lowestMissing 46 = .ok (.iload_n 2, 1) := by decide +kernel
theorem dX2_lowestMissing_47 : decode cX2_lowestMissing 47 = .ok (.aload_n 0, 1) := by decide +kernel
theorem dX2_lowestMissing_48 : decode cX2_lowestMissing 48 = .ok (.getfield 11, 3) := by decide +kernel
theorem dX2_lowestMissing_51 : decode cX2_lowestMissing 51 = .ok (.arraylength, 1) := by decide +kernel
theorem dX2_lowestMissing_52 : decode cX2_lowestMissing 52 = .ok (.if_icmp .ge 28, 3) := by decide +kernel
theorem dX2_lowestMissing_55 : decode cX2_lowestMissing 55 = .ok (.aload_n 0, 1) := by decide +kernel
theorem dX2_lowestMissing_56 : decode cX2_lowestMissing 56 = .ok (.getfield 11, 3) := by decide +kernel
theorem dX2_lowestMissing_59 : decode cX2_lowestMissing 59 = .ok (.iload_n 2, 1) := by decide +kernel
theorem dX2_lowestMissing_60 : decode cX2_lowestMissing 60 = .ok (.aaload, 1) := by decide +kernel
theorem dX2_lowestMissing_61 : decode cX2_lowestMissing 61 = .ok (.ifnonnull 13, 3) := by decide +kernel
theorem dX2_lowestMissing_64 : decode cX2_lowestMissing 64 = .ok (.iload_n 1, 1) := by decide +kernel
theorem dX2_lowestMissing_65 : decode cX2_lowestMissing 65 = .ok (.iconst 1, 1) := by decide +kernel
theorem dX2_lowestMissing_66 : decode cX2_lowestMissing 66 = .ok (.iload_n 2, 1) := by decide +kernel
theorem dX2_lowestMissing_67 : decode cX2_lowestMissing 67 = .ok (.ishl, 1) := by decide +kernel
theorem dX2_lowestMissing_68 : decode cX2_lowestMissing 68 = .ok (.iand, 1) := by decide +kernel
theorem dX2_lowestMissing_69 : decode cX2_lowestMissing 69 = .ok (.ifCond .eq 5, 3) := by decide +kernel
theorem dX2_lowestMissing_72 : decode cX2_lowestMissing 72 = .ok (.iload_n 2, 1) := by decide +kernel
theorem dX2_lowestMissing_73 : decode cX2_lowestMissing 73 = .ok (.ireturn, 1) := by decide +kernel
theorem dX2_lowestMissing_74 : decode cX2_lowestMissing 74 = .ok (.iinc 2 1, 3) := by decide +kernel
theorem dX2_lowestMissing_77 : decode cX2_lowestMissing 77 = .ok (.goto (-31), 3) := by decide +kernel
theorem dX2_lowestMissing_80 : decode cX2_lowestMissing 80 = .ok (.iconst (-1), 1) := by decide +kernel
theorem dX2_lowestMissing_81 : decode cX2_lowestMissing 81 = .ok (.ireturn, 1) := by decide +kernel
theorem dX2_lowestNotGood_0 : decode cX2_lowestNotGood 0 = .ok (.iconst 0, 1) := by decide +kernel
theorem dX2_lowestNotGood_1 : decode cX2_lowestNotGood 1 = .ok (.istore_n 1, 1) := by decide +kernel
theorem dX2_lowestNotGood_2 : decode cX2_lowestNotGood 2 = .ok (.iload_n 1, 1) := by decide +kernel
theorem dX2_lowestNotGood_3 : decode cX2_lowestNotGood 3 = .ok (.aload_n 0, 1) := by decide +kernel
theorem dX2_lowestNotGood_4 : decode cX2_lowestNotGood 4 = .ok (.getfield 11, 3) := by decide +kernel
theorem dX2_lowestNotGood_7 : decode cX2_lowestNotGood 7 = .ok (.arraylength, 1) := by decide +kernel
theorem dX2_lowestNotGood_8 : decode cX2_lowestNotGood 8 = .ok (.if_icmp .ge 29, 3) := by decide +kernel
theorem dX2_lowestNotGood_11 : decode cX2_lowestNotGood 11 = .ok (.aload_n 0, 1) := by decide +kernel
theorem dX2_lowestNotGood_12 : decode cX2_lowestNotGood 12 = .ok (.getfield 11, 3) := by decide +kernel
theorem dX2_lowestNotGood_15 : decode cX2_lowestNotGood 15 = .ok (.iload_n 1, 1) := by decide +kernel
theorem dX2_lowestNotGood_16 : decode cX2_lowestNotGood 16 = .ok (.aaload, 1) := by decide +kernel
theorem dX2_lowestNotGood_17 : decode cX2_lowestNotGood 17 = .ok (.astore_n 2, 1) := by decide +kernel
theorem dX2_lowestNotGood_18 : decode cX2_lowestNotGood 18 = .ok (.aload_n 2, 1) := by decide +kernel
theorem dX2_lowestNotGood_19 : decode cX2_lowestNotGood 19 = .ok (.ifnull 12, 3) := by decide +kernel
theorem dX2_lowestNotGood_22 : decode cX2_lowestNotGood 22 = .ok (.aload_n 2, 1) := by decide +kernel
theorem dX2_lowestNotGood_23 : decode cX2_lowestNotGood 23 = .ok (.invokevirtual 50, 3) := by decide +kernel
theorem dX2_lowestNotGood_26 : decode cX2_lowestNotGood 26 = .ok (.ifCond .ne 5, 3) := by decide +kernel
theorem dX2_lowestNotGood_29 : decode cX2_lowestNotGood 29 = .ok (.iload_n 1, 1) := by decide +kernel
theorem dX2_lowestNotGood_30 : decode cX2_lowestNotGood 30 = .ok (.ireturn, 1) := by decide +kernel
theorem dX2_lowestNotGood_31 : decode cX2_lowestNotGood 31 = .ok (.iinc 1 1, 3) := by decide +kernel
theorem dX2_lowestNotGood_34 : decode cX2_lowestNotGood 34 = .ok (.goto (-32), 3) := by decide +kernel
theorem dX2_lowestNotGood_37 : decode cX2_lowestNotGood 37 = .ok (.iconst (-1), 1) := by decide +kernel
theorem dX2_lowestNotGood_38 : decode cX2_lowestNotGood 38 = .ok (.ireturn, 1) := by decide +kernel
theorem dX2_forgetFindings_0 : decode cX2_forgetFindings 0 = .ok (.aload_n 0, 1) := by decide +kernel
theorem dX2_forgetFindings_1 : decode cX2_forgetFindings 1 = .ok (.getfield 11, 3) := by decide +kernel
theorem dX2_forgetFindings_4 : decode cX2_forgetFindings 4 = .ok (.astore_n 1, 1) := by decide +kernel
theorem dX2_forgetFindings_5 : decode cX2_forgetFindings 5 = .ok (.aload_n 1, 1) := by decide +kernel
theorem dX2_forgetFindings_6 : decode cX2_forgetFindings 6 = .ok (.arraylength, 1) := by decide +kernel
theorem dX2_forgetFindings_7 : decode cX2_forgetFindings 7 = .ok (.istore_n 2, 1) := by decide +kernel
theorem dX2_forgetFindings_8 : decode cX2_forgetFindings 8 = .ok (.iconst 0, 1) := by decide +kernel
theorem dX2_forgetFindings_9 : decode cX2_forgetFindings 9 = .ok (.istore_n 3, 1) := by decide +kernel
theorem dX2_forgetFindings_10 : decode cX2_forgetFindings 10 = .ok (.iload_n 3, 1) := by decide +kernel
theorem dX2_forgetFindings_11 : decode cX2_forgetFindings 11 = .ok (.iload_n 2, 1) := by decide +kernel
theorem dX2_forgetFindings_12 : decode cX2_forgetFindings 12 = .ok (.if_icmp .ge 24, 3) := by decide +kernel
theorem dX2_forgetFindings_15 : decode cX2_forgetFindings 15 = .ok (.aload_n 1, 1) := by decide +kernel
theorem dX2_forgetFindings_16 : decode cX2_forgetFindings 16 = .ok (.iload_n 3, 1) := by decide +kernel
theorem dX2_forgetFindings_17 : decode cX2_forgetFindings 17 = .ok (.aaload, 1) := by decide +kernel
theorem dX2_forgetFindings_18 : decode cX2_forgetFindings 18 = .ok (.astore 4, 2) := by decide +kernel
theorem dX2_forgetFindings_20 : decode cX2_forgetFindings 20 = .ok (.aload 4, 2) := by decide +kernel
theorem dX2_forgetFindings_22 : decode cX2_forgetFindings 22 = .ok (.ifnull 8, 3) := by decide +kernel
theorem dX2_forgetFindings_25 : decode cX2_forgetFindings 25 = .ok (.aload 4, 2) := by decide +kernel
theorem dX2_forgetFindings_27 : decode cX2_forgetFindings 27 = .ok (.invokevirtual 54, 3) := by decide +kernel
theorem dX2_forgetFindings_30 : decode cX2_forgetFindings 30 = .ok (.iinc 3 1, 3) := by decide +kernel
theorem dX2_forgetFindings_33 : decode cX2_forgetFindings 33 = .ok (.goto (-23), 3) := by decide +kernel
theorem dX2_forgetFindings_36 : decode cX2_forgetFindings 36 = .ok (.return_, 1) := by decide +kernel
theorem dX2_findOutcomes_0 : decode cX2_findOutcomes 0 = .ok (.iconst 1, 1) := by decide +kernel
theorem dX2_findOutcomes_1 : decode cX2_findOutcomes 1 = .ok (.istore_n 1, 1) := by decide +kernel
theorem dX2_findOutcomes_2 : decode cX2_findOutcomes 2 = .ok (.iconst 0, 1) := by decide +kernel
theorem dX2_findOutcomes_3 : decode cX2_findOutcomes 3 = .ok (.istore_n 2, 1) := by decide +kernel
theorem dX2_findOutcomes_4 : decode cX2_findOutcomes 4 = .ok (.iload_n 2, 1) := by decide +kernel
theorem dX2_findOutcomes_5 : decode cX2_findOutcomes 5 = .ok (.bipush 19, 2) := by decide +kernel
theorem dX2_findOutcomes_7 : decode cX2_findOutcomes 7 = .ok (.if_icmp .ge 68, 3) := by decide +kernel
theorem dX2_findOutcomes_10 : decode cX2_findOutcomes 10 = .ok (.iload_n 1, 1) := by decide +kernel
theorem dX2_findOutcomes_11 : decode cX2_findOutcomes 11 = .ok (.ifCond .eq 64, 3) := by decide +kernel
theorem dX2_findOutcomes_14 : decode cX2_findOutcomes 14 = .ok (.iconst 0, 1) := by decide +kernel
theorem dX2_findOutcomes_15 : decode cX2_findOutcomes 15 = .ok (.istore_n 1, 1) := by decide +kernel
theorem dX2_findOutcomes_16 : decode cX2_findOutcomes 16 = .ok (.aload_n 0, 1) := by decide +kernel
theorem dX2_findOutcomes_17 : decode cX2_findOutcomes 17 = .ok (.getfield 11, 3) := by decide +kernel
theorem dX2_findOutcomes_20 : decode cX2_findOutcomes 20 = .ok (.astore_n 3, 1) := by decide +kernel
theorem dX2_findOutcomes_21 : decode cX2_findOutcomes 21 = .ok (.aload_n 3, 1) := by decide +kernel
theorem dX2_findOutcomes_22 : decode cX2_findOutcomes 22 = .ok (.arraylength, 1) := by decide +kernel
theorem dX2_findOutcomes_23 : decode cX2_findOutcomes 23 = .ok (.istore 4, 2) := by decide +kernel
theorem dX2_findOutcomes_25 : decode cX2_findOutcomes 25 = .ok (.iconst 0, 1) := by decide +kernel
theorem dX2_findOutcomes_26 : decode cX2_findOutcomes 26 = .ok (.istore 5, 2) := by decide +kernel
theorem dX2_findOutcomes_28 : decode cX2_findOutcomes 28 = .ok (.iload 5, 2) := by decide +kernel
theorem dX2_findOutcomes_30 : decode cX2_findOutcomes 30 = .ok (.iload 4, 2) := by decide +kernel
theorem dX2_findOutcomes_32 : decode cX2_findOutcomes 32 = .ok (.if_icmp .ge 37, 3) := by decide +kernel
theorem dX2_findOutcomes_35 : decode cX2_findOutcomes 35 = .ok (.aload_n 3, 1) := by decide +kernel
theorem dX2_findOutcomes_36 : decode cX2_findOutcomes 36 = .ok (.iload 5, 2) := by decide +kernel
theorem dX2_findOutcomes_38 : decode cX2_findOutcomes 38 = .ok (.aaload, 1) := by decide +kernel
theorem dX2_findOutcomes_39 : decode cX2_findOutcomes 39 = .ok (.astore 6, 2) := by decide +kernel
theorem dX2_findOutcomes_41 : decode cX2_findOutcomes 41 = .ok (.iload_n 1, 1) := by decide +kernel
theorem dX2_findOutcomes_42 : decode cX2_findOutcomes 42 = .ok (.aload 6, 2) := by decide +kernel
theorem dX2_findOutcomes_44 : decode cX2_findOutcomes 44 = .ok (.ifnull 16, 3) := by decide +kernel
theorem dX2_findOutcomes_47 : decode cX2_findOutcomes 47 = .ok (.aload_n 0, 1) := by decide +kernel
theorem dX2_findOutcomes_48 : decode cX2_findOutcomes 48 = .ok (.aload 6, 2) := by decide +kernel
theorem dX2_findOutcomes_50 : decode cX2_findOutcomes 50 = .ok (.invokevirtual 55, 3) := by decide +kernel
theorem dX2_findOutcomes_53 : decode cX2_findOutcomes 53 = .ok (.ifCond .eq 7, 3) := by decide +kernel
theorem dX2_findOutcomes_56 : decode cX2_findOutcomes 56 = .ok (.iconst 1, 1) := by decide +kernel
theorem dX2_findOutcomes_57 : decode cX2_findOutcomes 57 = .ok (.goto 4, 3) := by decide +kernel
theorem dX2_findOutcomes_60 : decode cX2_findOutcomes 60 = .ok (.iconst 0, 1) := by decide +kernel
theorem dX2_findOutcomes_61 : decode cX2_findOutcomes 61 = .ok (.ior, 1) := by decide +kernel
theorem dX2_findOutcomes_62 : decode cX2_findOutcomes 62 = .ok (.istore_n 1, 1) := by decide +kernel
theorem dX2_findOutcomes_63 : decode cX2_findOutcomes 63 = .ok (.iinc 5 1, 3) := by decide +kernel
theorem dX2_findOutcomes_66 : decode cX2_findOutcomes 66 = .ok (.goto (-38), 3) := by decide +kernel
theorem dX2_findOutcomes_69 : decode cX2_findOutcomes 69 = .ok (.iinc 2 1, 3) := by decide +kernel
theorem dX2_findOutcomes_72 : decode cX2_findOutcomes 72 = .ok (.goto (-68), 3) := by decide +kernel
theorem dX2_findOutcomes_75 : decode cX2_findOutcomes 75 = .ok (.return_, 1) := by decide +kernel
theorem dX2_findOutcomesIn_0 : decode cX2_findOutcomesIn 0 = .ok (.aload_n 1, 1) := by decide +kernel
theorem dX2_findOutcomesIn_1 : decode cX2_findOutcomesIn 1 = .ok (.invokevirtual 59, 3) := by decide +kernel
theorem dX2_findOutcomesIn_4 : decode cX2_findOutcomesIn 4 = .ok (.istore_n 2, 1) := by decide +kernel
theorem dX2_findOutcomesIn_5 : decode cX2_findOutcomesIn 5 = .ok (.aload_n 1, 1) := by decide +kernel
theorem dX2_findOutcomesIn_6 : decode cX2_findOutcomesIn 6 = .ok (.getfield 62, 3) := by decide +kernel
theorem dX2_findOutcomesIn_9 : decode cX2_findOutcomesIn 9 = .ok (.astore_n 3, 1) := by decide +kernel
theorem dX2_findOutcomesIn_10 : decode cX2_findOutcomesIn 10 = .ok (.aload_n 3, 1) := by decide +kernel
theorem dX2_findOutcomesIn_11 : decode cX2_findOutcomesIn 11 = .ok (.ifnull 20, 3) := by decide +kernel
theorem dX2_findOutcomesIn_14 : decode cX2_findOutcomesIn 14 = .ok (.aload_n 3, 1) := by decide +kernel
theorem dX2_findOutcomesIn_15 : decode cX2_findOutcomesIn 15 = .ok (.aload_n 0, 1) := by decide +kernel
theorem dX2_findOutcomesIn_16 : decode cX2_findOutcomesIn 16 = .ok (.aload_n 3, 1) := by decide +kernel
theorem dX2_findOutcomesIn_17 : decode cX2_findOutcomesIn 17 = .ok (.invokevirtual 66, 3) := by decide +kernel
theorem dX2_findOutcomesIn_20 : decode cX2_findOutcomesIn 20 = .ok (.putfield 70, 3) := by decide +kernel
theorem dX2_findOutcomesIn_23 : decode cX2_findOutcomesIn 23 = .ok (.aload_n 3, 1) := by decide +kernel
theorem dX2_findOutcomesIn_24 : decode cX2_findOutcomesIn 24 = .ok (.getfield 75, 3) := by decide +kernel
theorem dX2_findOutcomesIn_27 : decode cX2_findOutcomesIn 27 = .ok (.astore_n 3, 1) := by decide +kernel
theorem dX2_findOutcomesIn_28 : decode cX2_findOutcomesIn 28 = .ok (.goto (-18), 3) := by decide +kernel
theorem dX2_findOutcomesIn_31 : decode cX2_findOutcomesIn 31 = .ok (.aload_n 1, 1) := by decide +kernel
theorem dX2_findOutcomesIn_32 : decode cX2_findOutcomesIn 32 = .ok (.invokevirtual 59, 3) := by decide +kernel
theorem dX2_findOutcomesIn_35 : decode cX2_findOutcomesIn 35 = .ok (.iload_n 2, 1) := by decide +kernel
theorem dX2_findOutcomesIn_36 : decode cX2_findOutcomesIn 36 = .ok (.if_icmp .eq 7, 3) := by decide +kernel
theorem dX2_findOutcomesIn_39 : decode cX2_findOutcomesIn 39 = .ok (.iconst 1, 1) := by decide +kernel
theorem dX2_findOutcomesIn_40 : decode cX2_findOutcomesIn 40 = .ok (.goto 4, 3) := by decide +kernel
theorem dX2_findOutcomesIn_43 : decode cX2_findOutcomesIn 43 = .ok (.iconst 0, 1) := by decide +kernel
theorem dX2_findOutcomesIn_44 : decode cX2_findOutcomesIn 44 = .ok (.ireturn, 1) := by decide +kernel
theorem dX2_outcomesOf_0 : decode cX2_outcomesOf 0 = .ok (.aload_n 1, 1) := by decide +kernel
theorem dX2_outcomesOf_1 : decode cX2_outcomesOf 1 = .ok (.getfield 78, 3) := by decide +kernel
theorem dX2_outcomesOf_4 : decode cX2_outcomesOf 4 = .ok (.tableswitch 73 1 4 #[32, 35, 57, 65], 32) := by decide +kernel
theorem dX2_outcomesOf_36 : decode cX2_outcomesOf 36 = .ok (.bipush 6, 2) := by decide +kernel
theorem dX2_outcomesOf_38 : decode cX2_outcomesOf 38 = .ok (.ireturn, 1) := by decide +kernel
theorem dX2_outcomesOf_39 : decode cX2_outcomesOf 39 = .ok (.aload_n 0, 1) := by decide +kernel
theorem dX2_outcomesOf_40 : decode cX2_outcomesOf 40 = .ok (.aload_n 1, 1) := by decide +kernel
theorem dX2_outcomesOf_41 : decode cX2_outcomesOf 41 = .ok (.getfield 81, 3) := by decide +kernel
theorem dX2_outcomesOf_44 : decode cX2_outcomesOf 44 = .ok (.invokevirtual 84, 3) := by decide +kernel
theorem dX2_outcomesOf_47 : decode cX2_outcomesOf 47 = .ok (.astore_n 2, 1) := by decide +kernel
theorem dX2_outcomesOf_48 : decode cX2_outcomesOf 48 = .ok (.aload_n 2, 1) := by decide +kernel
theorem dX2_outcomesOf_49 : decode cX2_outcomesOf 49 = .ok (.ifnonnull 7, 3) := by decide +kernel
theorem dX2_outcomesOf_52 : decode cX2_outcomesOf 52 = .ok (.iconst 0, 1) := by decide +kernel
theorem dX2_outcomesOf_53 : decode cX2_outcomesOf 53 = .ok (.goto 7, 3) := by decide +kernel
theorem dX2_outcomesOf_56 : decode cX2_outcomesOf 56 = .ok (.aload_n 2, 1) := by decide +kernel
theorem dX2_outcomesOf_57 : decode cX2_outcomesOf 57 = .ok (.invokevirtual 59, 3) := by decide +kernel
theorem dX2_outcomesOf_60 : decode cX2_outcomesOf 60 = .ok (.ireturn, 1) := by decide +kernel
theorem dX2_outcomesOf_61 : decode cX2_outcomesOf 61 = .ok (.aload_n 1, 1) := by decide +kernel
theorem dX2_outcomesOf_62 : decode cX2_outcomesOf 62 = .ok (.getfield 88, 3) := by decide +kernel
theorem dX2_outcomesOf_65 : decode cX2_outcomesOf 65 = .ok (.invokestatic 91, 3) := by decide +kernel
theorem dX2_outcomesOf_68 : decode cX2_outcomesOf 68 = .ok (.ireturn, 1) := by decide +kernel
theorem dX2_outcomesOf_69 : decode cX2_outcomesOf 69 = .ok (.aload_n 1, 1) := by decide +kernel
theorem dX2_outcomesOf_70 : decode cX2_outcomesOf 70 = .ok (.getfield 88, 3) := by decide +kernel
theorem dX2_outcomesOf_73 : decode cX2_outcomesOf 73 = .ok (.invokestatic 94, 3) := by decide +kernel
theorem dX2_outcomesOf_76 : decode cX2_outcomesOf 76 = .ok (.ireturn, 1) := by decide +kernel
theorem dX2_outcomesOf_77 : decode cX2_outcomesOf 77 = .ok (.aload_n 1, 1) := by decide +kernel
theorem dX2_outcomesOf_78 : decode cX2_outcomesOf 78 = .ok (.getfield 88, 3) := by decide +kernel
theorem dX2_outcomesOf_81 : decode cX2_outcomesOf 81 = .ok (.ifnonnull 7, 3) := by decide +kernel
theorem dX2_outcomesOf_84 : decode cX2_outcomesOf 84 = .ok (.iconst 0, 1) := by decide +kernel
theorem dX2_outcomesOf_85 : decode cX2_outcomesOf 85 = .ok (.goto 17, 3) := by decide +kernel
theorem dX2_outcomesOf_88 : decode cX2_outcomesOf 88 = .ok (.aload_n 1, 1) := by decide +kernel
theorem dX2_outcomesOf_89 : decode cX2_outcomesOf 89 = .ok (.getfield 78, 3) := by decide +kernel
theorem dX2_outcomesOf_92 : decode cX2_outcomesOf 92 = .ok (.aload_n 1, 1) := by decide +kernel
theorem dX2_outcomesOf_93 : decode cX2_outcomesOf 93 = .ok (.getfield 88, 3) := by decide +kernel
theorem dX2_outcomesOf_96 : decode cX2_outcomesOf 96 = .ok (.getfield 70, 3) := by decide +kernel
theorem dX2_outcomesOf_99 : decode cX2_outcomesOf 99 = .ok (.invokestatic 97, 3) := by decide +kernel
theorem dX2_outcomesOf_102 : decode cX2_outcomesOf 102 = .ok (.ireturn, 1) := by decide +kernel
theorem dX2_outcomesOfRow_0 : decode cX2_outcomesOfRow 0 = .ok (.aload_n 0, 1) := by decide +kernel
theorem dX2_outcomesOfRow_1 : decode cX2_outcomesOfRow 1 = .ok (.ifnonnull 5, 3) := by decide +kernel
theorem dX2_outcomesOfRow_4 : decode cX2_outcomesOfRow 4 = .ok (.iconst 0, 1) := by decide +kernel
theorem dX2_outcomesOfRow_5 : decode cX2_outcomesOfRow 5 = .ok (.ireturn, 1) := by decide +kernel
theorem dX2_outcomesOfRow_6 : decode cX2_outcomesOfRow 6 = .ok (.aload_n 0, 1) := by decide +kernel
theorem dX2_outcomesOfRow_7 : decode cX2_outcomesOfRow 7 = .ok (.getfield 70, 3) := by decide +kernel
theorem dX2_outcomesOfRow_10 : decode cX2_outcomesOfRow 10 = .ok (.istore_n 1, 1) := by decide +kernel
theorem dX2_outcomesOfRow_11 : decode cX2_outcomesOfRow 11 = .ok (.aload_n 0, 1) := by decide +kernel
theorem dX2_outcomesOfRow_12 : decode cX2_outcomesOfRow 12 = .ok (.getfield 101, 3) := by decide +kernel
theorem dX2_outcomesOfRow_15 : decode cX2_outcomesOfRow 15 = .ok (.astore_n 2, 1) := by decide +kernel
theorem dX2_outcomesOfRow_16 : decode cX2_outcomesOfRow 16 = .ok (.aload_n 2, 1) := by decide +kernel
theorem dX2_outcomesOfRow_17 : decode cX2_outcomesOfRow 17 = .ok (.ifnull 20, 3) := by decide +kernel
theorem dX2_outcomesOfRow_20 : decode cX2_outcomesOfRow 20 = .ok (.iload_n 1, 1) := by decide +kernel
theorem dX2_outcomesOfRow_21 : decode cX2_outcomesOfRow 21 = .ok (.aload_n 2, 1) := by decide +kernel
theorem dX2_outcomesOfRow_22 : decode cX2_outcomesOfRow 22 = .ok (.getfield 70, 3) := by decide +kernel
theorem dX2_outcomesOfRow_25 : decode cX2_outcomesOfRow 25 = .ok (.invokestatic 104, 3) := by decide +kernel
theorem dX2_outcomesOfRow_28 : decode cX2_outcomesOfRow 28 = .ok (.istore_n 1, 1) := by decide +kernel
theorem dX2_outcomesOfRow_29 : decode cX2_outcomesOfRow 29 = .ok (.aload_n 2, 1) := by decide +kernel
theorem dX2_outcomesOfRow_30 : decode cX2_outcomesOfRow 30 = .ok (.getfield 101, 3) := by decide +kernel
theorem dX2_outcomesOfRow_33 : decode cX2_outcomesOfRow 33 = .ok (.astore_n 2, 1) := by decide +kernel
theorem dX2_outcomesOfRow_34 : decode cX2_outcomesOfRow 34 = .ok (.goto (-18), 3) := by decide +kernel
theorem dX2_outcomesOfRow_37 : decode cX2_outcomesOfRow 37 = .ok (.iload_n 1, 1) := by decide +kernel
theorem dX2_outcomesOfRow_38 : decode cX2_outcomesOfRow 38 = .ok (.ireturn, 1) := by decide +kernel
theorem dX2_joinInRow_0 : decode cX2_joinInRow 0 = .ok (.iload_n 0, 1) := by decide +kernel
theorem dX2_joinInRow_1 : decode cX2_joinInRow 1 = .ok (.iload_n 1, 1) := by decide +kernel
theorem dX2_joinInRow_2 : decode cX2_joinInRow 2 = .ok (.iand, 1) := by decide +kernel
theorem dX2_joinInRow_3 : decode cX2_joinInRow 3 = .ok (.iconst 1, 1) := by decide +kernel
theorem dX2_joinInRow_4 : decode cX2_joinInRow 4 = .ok (.iand, 1) := by decide +kernel
theorem dX2_joinInRow_5 : decode cX2_joinInRow 5 = .ok (.istore_n 2, 1) := by decide +kernel
theorem dX2_joinInRow_6 : decode cX2_joinInRow 6 = .ok (.iload_n 0, 1) := by decide +kernel
theorem dX2_joinInRow_7 : decode cX2_joinInRow 7 = .ok (.iconst 3, 1) := by decide +kernel
theorem dX2_joinInRow_8 : decode cX2_joinInRow 8 = .ok (.iand, 1) := by decide +kernel
theorem dX2_joinInRow_9 : decode cX2_joinInRow 9 = .ok (.ifCond .eq 7, 3) := by decide +kernel
theorem dX2_joinInRow_12 : decode cX2_joinInRow 12 = .ok (.iconst 1, 1) := by decide +kernel
theorem dX2_joinInRow_13 : decode cX2_joinInRow 13 = .ok (.goto 4, 3) := by decide +kernel
theorem dX2_joinInRow_16 : decode cX2_joinInRow 16 = .ok (.iconst 0, 1) := by decide +kernel
theorem dX2_joinInRow_17 : decode cX2_joinInRow 17 = .ok (.istore_n 3, 1) := by decide +kernel
theorem dX2_joinInRow_18 : decode cX2_joinInRow 18 = .ok (.iload_n 3, 1) := by decide +kernel
theorem dX2_joinInRow_19 : decode cX2_joinInRow 19 = .ok (.ifCond .eq 9, 3) := by decide +kernel
theorem dX2_joinInRow_22 : decode cX2_joinInRow 22 = .ok (.iload_n 1, 1) := by decide +kernel
theorem dX2_joinInRow_23 : decode cX2_joinInRow 23 = .ok (.iconst 2, 1) := by decide +kernel
theorem dX2_joinInRow_24 : decode cX2_joinInRow 24 = .ok (.iand, 1) := by decide +kernel
theorem dX2_joinInRow_25 : decode cX2_joinInRow 25 = .ok (.ifCond .ne 15, 3) := by decide +kernel
theorem dX2_joinInRow_28 : decode cX2_joinInRow 28 = .ok (.iload_n 0, 1) := by decide +kernel
theorem dX2_joinInRow_29 : decode cX2_joinInRow 29 = .ok (.iconst 2, 1) := by decide +kernel
theorem dX2_joinInRow_30 : decode cX2_joinInRow 30 = .ok (.iand, 1) := by decide +kernel
theorem dX2_joinInRow_31 : decode cX2_joinInRow 31 = .ok (.ifCond .eq 13, 3) := by decide +kernel
theorem dX2_joinInRow_34 : decode cX2_joinInRow 34 = .ok (.iload_n 1, 1) := by decide +kernel
theorem dX2_joinInRow_35 : decode cX2_joinInRow 35 = .ok (.iconst 1, 1) := by decide +kernel
theorem dX2_joinInRow_36 : decode cX2_joinInRow 36 = .ok (.iand, 1) := by decide +kernel
theorem dX2_joinInRow_37 : decode cX2_joinInRow 37 = .ok (.ifCond .eq 7, 3) := by decide +kernel
theorem dX2_joinInRow_40 : decode cX2_joinInRow 40 = .ok (.iconst 1, 1) := by decide +kernel
theorem dX2_joinInRow_41 : decode cX2_joinInRow 41 = .ok (.goto 4, 3) := by decide +kernel
theorem dX2_joinInRow_44 : decode cX2_joinInRow 44 = .ok (.iconst 0, 1) := by decide +kernel
theorem dX2_joinInRow_45 : decode cX2_joinInRow 45 = .ok (.istore 4, 2) := by decide +kernel
theorem dX2_joinInRow_47 : decode cX2_joinInRow 47 = .ok (.iload_n 0, 1) := by decide +kernel
theorem dX2_joinInRow_48 : decode cX2_joinInRow 48 = .ok (.iconst 4, 1) := by decide +kernel
theorem dX2_joinInRow_49 : decode cX2_joinInRow 49 = .ok (.iand, 1) := by decide +kernel
theorem dX2_joinInRow_50 : decode cX2_joinInRow 50 = .ok (.ifCond .ne 13, 3) := by decide +kernel
theorem dX2_joinInRow_53 : decode cX2_joinInRow 53 = .ok (.iload_n 3, 1) := by decide +kernel
theorem dX2_joinInRow_54 : decode cX2_joinInRow 54 = .ok (.ifCond .eq 13, 3) := by decide +kernel
theorem dX2_joinInRow_57 : decode cX2_joinInRow 57 = .ok (.iload_n 1, 1) := by decide +kernel
theorem dX2_joinInRow_58 : decode cX2_joinInRow 58 = .ok (.iconst 4, 1) := by decide +kernel
theorem dX2_joinInRow_59 : decode cX2_joinInRow 59 = .ok (.iand, 1) := by decide +kernel
theorem dX2_joinInRow_60 : decode cX2_joinInRow 60 = .ok (.ifCond .eq 7, 3) := by decide +kernel
theorem dX2_joinInRow_63 : decode cX2_joinInRow 63 = .ok (.iconst 1, 1) := by decide +kernel
theorem dX2_joinInRow_64 : decode cX2_joinInRow 64 = .ok (.goto 4, 3) := by decide +kernel
theorem dX2_joinInRow_67 : decode cX2_joinInRow 67 = .ok (.iconst 0, 1) := by decide +kernel
theorem dX2_joinInRow_68 : decode cX2_joinInRow 68 = .ok (.istore 5, 2) := by decide +kernel
theorem dX2_joinInRow_70 : decode cX2_joinInRow 70 = .ok (.iload_n 2, 1) := by decide +kernel
theorem dX2_joinInRow_71 : decode cX2_joinInRow 71 = .ok (.iload 4, 2) := by decide +kernel
theorem dX2_joinInRow_73 : decode cX2_joinInRow 73 = .ok (.ifCond .eq 7, 3) := by decide +kernel
theorem dX2_joinInRow_76 : decode cX2_joinInRow 76 = .ok (.iconst 2, 1) := by decide +kernel
theorem dX2_joinInRow_77 : decode cX2_joinInRow 77 = .ok (.goto 4, 3) := by decide +kernel
theorem dX2_joinInRow_80 : decode cX2_joinInRow 80 = .ok (.iconst 0, 1) := by decide +kernel
theorem dX2_joinInRow_81 : decode cX2_joinInRow 81 = .ok (.ior, 1) := by decide +kernel
theorem dX2_joinInRow_82 : decode cX2_joinInRow 82 = .ok (.iload 5, 2) := by decide +kernel
theorem dX2_joinInRow_84 : decode cX2_joinInRow 84 = .ok (.ifCond .eq 7, 3) := by decide +kernel
theorem dX2_joinInRow_87 : decode cX2_joinInRow 87 = .ok (.iconst 4, 1) := by decide +kernel
theorem dX2_joinInRow_88 : decode cX2_joinInRow 88 = .ok (.goto 4, 3) := by decide +kernel
theorem dX2_joinInRow_91 : decode cX2_joinInRow 91 = .ok (.iconst 0, 1) := by decide +kernel
theorem dX2_joinInRow_92 : decode cX2_joinInRow 92 = .ok (.ior, 1) := by decide +kernel
theorem dX2_joinInRow_93 : decode cX2_joinInRow 93 = .ok (.ireturn, 1) := by decide +kernel
theorem dX2_outcomesOfChoice_0 : decode cX2_outcomesOfChoice 0 = .ok (.aload_n 0, 1) := by decide +kernel
theorem dX2_outcomesOfChoice_1 : decode cX2_outcomesOfChoice 1 = .ok (.ifnonnull 5, 3) := by decide +kernel
theorem dX2_outcomesOfChoice_4 : decode cX2_outcomesOfChoice 4 = .ok (.iconst 0, 1) := by decide +kernel
theorem dX2_outcomesOfChoice_5 : decode cX2_outcomesOfChoice 5 = .ok (.ireturn, 1) := by decide +kernel
theorem dX2_outcomesOfChoice_6 : decode cX2_outcomesOfChoice 6 = .ok (.aload_n 0, 1) := by decide +kernel
theorem dX2_outcomesOfChoice_7 : decode cX2_outcomesOfChoice 7 = .ok (.getfield 70, 3) := by decide +kernel
theorem dX2_outcomesOfChoice_10 : decode cX2_outcomesOfChoice 10 = .ok (.istore_n 1, 1) := by decide +kernel
theorem dX2_outcomesOfChoice_11 : decode cX2_outcomesOfChoice 11 = .ok (.aload_n 0, 1) := by decide +kernel
theorem dX2_outcomesOfChoice_12 : decode cX2_outcomesOfChoice 12 = .ok (.getfield 101, 3) := by decide +kernel
theorem dX2_outcomesOfChoice_15 : decode cX2_outcomesOfChoice 15 = .ok (.astore_n 2, 1) := by decide +kernel
theorem dX2_outcomesOfChoice_16 : decode cX2_outcomesOfChoice 16 = .ok (.aload_n 2, 1) := by decide +kernel
theorem dX2_outcomesOfChoice_17 : decode cX2_outcomesOfChoice 17 = .ok (.ifnull 28, 3) := by decide +kernel
theorem dX2_outcomesOfChoice_20 : decode cX2_outcomesOfChoice 20 = .ok (.iload_n 1, 1) := by decide +kernel
theorem dX2_outcomesOfChoice_21 : decode cX2_outcomesOfChoice 21 = .ok (.iconst 4, 1) := by decide +kernel
theorem dX2_outcomesOfChoice_22 : decode cX2_outcomesOfChoice 22 = .ok (.invokestatic 107, 3) := by decide +kernel
theorem dX2_outcomesOfChoice_25 : decode cX2_outcomesOfChoice 25 = .ok (.ifCond .eq 12, 3) := by decide +kernel
theorem dX2_outcomesOfChoice_28 : decode cX2_outcomesOfChoice 28 = .ok (.iload_n 1, 1) := by decide +kernel
theorem dX2_outcomesOfChoice_29 : decode cX2_outcomesOfChoice 29 = .ok (.iconst 3, 1) := by decide +kernel
theorem dX2_outcomesOfChoice_30 : decode cX2_outcomesOfChoice 30 = .ok (.iand, 1) := by decide +kernel
theorem dX2_outcomesOfChoice_31 : decode cX2_outcomesOfChoice 31 = .ok (.aload_n 2, 1) := by decide +kernel
theorem dX2_outcomesOfChoice_32 : decode cX2_outcomesOfChoice 32 = .ok (.getfield 70, 3) := by decide +kernel
theorem dX2_outcomesOfChoice_35 : decode cX2_outcomesOfChoice 35 = .ok (.ior, 1) := by decide +kernel
theorem dX2_outcomesOfChoice_36 : decode cX2_outcomesOfChoice 36 = .ok (.istore_n 1, 1) := by decide +kernel
theorem dX2_outcomesOfChoice_37 : decode cX2_outcomesOfChoice 37 = .ok (.aload_n 2, 1) := by decide +kernel
theorem dX2_outcomesOfChoice_38 : decode cX2_outcomesOfChoice 38 = .ok (.getfield 101, 3) := by decide +kernel
theorem dX2_outcomesOfChoice_41 : decode cX2_outcomesOfChoice 41 = .ok (.astore_n 2, 1) := by decide +kernel
theorem dX2_outcomesOfChoice_42 : decode cX2_outcomesOfChoice 42 = .ok (.goto (-26), 3) := by decide +kernel
theorem dX2_outcomesOfChoice_45 : decode cX2_outcomesOfChoice 45 = .ok (.iload_n 1, 1) := by decide +kernel
theorem dX2_outcomesOfChoice_46 : decode cX2_outcomesOfChoice 46 = .ok (.ireturn, 1) := by decide +kernel
theorem dX2_outcomesOfSign_0 : decode cX2_outcomesOfSign 0 = .ok (.iload_n 0, 1) := by decide +kernel
theorem dX2_outcomesOfSign_1 : decode cX2_outcomesOfSign 1 = .ok (.tableswitch 138 5 9 #[35, 53, 74, 92, 110], 35) := by decide +kernel
theorem dX2_outcomesOfSign_36 : decode cX2_outcomesOfSign 36 = .ok (.iload_n 1, 1) := by decide +kernel
theorem dX2_outcomesOfSign_37 : decode cX2_outcomesOfSign 37 = .ok (.iconst 2, 1) := by decide +kernel
theorem dX2_outcomesOfSign_38 : decode cX2_outcomesOfSign 38 = .ok (.iand, 1) := by decide +kernel
theorem dX2_outcomesOfSign_39 : decode cX2_outcomesOfSign 39 = .ok (.iload_n 1, 1) := by decide +kernel
theorem dX2_outcomesOfSign_40 : decode cX2_outcomesOfSign 40 = .ok (.iconst 4, 1) := by decide +kernel
theorem dX2_outcomesOfSign_41 : decode cX2_outcomesOfSign 41 = .ok (.invokestatic 107, 3) := by decide +kernel
theorem dX2_outcomesOfSign_44 : decode cX2_outcomesOfSign 44 = .ok (.ifCond .eq 7, 3) := by decide +kernel
theorem dX2_outcomesOfSign_47 : decode cX2_outcomesOfSign 47 = .ok (.iconst 1, 1) := by decide +kernel
theorem dX2_outcomesOfSign_48 : decode cX2_outcomesOfSign 48 = .ok (.goto 4, 3) := by decide +kernel
theorem dX2_outcomesOfSign_51 : decode cX2_outcomesOfSign 51 = .ok (.iconst 0, 1) := by decide +kernel
theorem dX2_outcomesOfSign_52 : decode cX2_outcomesOfSign 52 = .ok (.ior, 1) := by decide +kernel
theorem dX2_outcomesOfSign_53 : decode cX2_outcomesOfSign 53 = .ok (.ireturn, 1) := by decide +kernel
theorem dX2_outcomesOfSign_54 : decode cX2_outcomesOfSign 54 = .ok (.iload_n 1, 1) := by decide +kernel
theorem dX2_outcomesOfSign_55 : decode cX2_outcomesOfSign 55 = .ok (.bipush 6, 2) := by decide +kernel
theorem dX2_outcomesOfSign_57 : decode cX2_outcomesOfSign 57 = .ok (.iand, 1) := by decide +kernel
theorem dX2_outcomesOfSign_58 : decode cX2_outcomesOfSign 58 = .ok (.iload_n 1, 1) := by decide +kernel
theorem dX2_outcomesOfSign_59 : decode cX2_outcomesOfSign 59 = .ok (.iconst 4, 1) := by decide +kernel
theorem dX2_outcomesOfSign_60 : decode cX2_outcomesOfSign 60 = .ok (.invokestatic 107, 3) := by decide +kernel
theorem dX2_outcomesOfSign_63 : decode cX2_outcomesOfSign 63 = .ok (.ifCond .eq 9, 3) := by decide +kernel
theorem dX2_outcomesOfSign_66 : decode cX2_outcomesOfSign 66 = .ok (.iload_n 1, 1) := by decide +kernel
theorem dX2_outcomesOfSign_67 : decode cX2_outcomesOfSign 67 = .ok (.iconst 1, 1) := by decide +kernel
theorem dX2_outcomesOfSign_68 : decode cX2_outcomesOfSign 68 = .ok (.iand, 1) := by decide +kernel
theorem dX2_outcomesOfSign_69 : decode cX2_outcomesOfSign 69 = .ok (.goto 4, 3) := by decide +kernel
theorem dX2_outcomesOfSign_72 : decode cX2_outcomesOfSign 72 = .ok (.iconst 0, 1) := by decide +kernel
theorem dX2_outcomesOfSign_73 : decode cX2_outcomesOfSign 73 = .ok (.ior, 1) := by decide +kernel
theorem dX2_outcomesOfSign_74 : decode cX2_outcomesOfSign 74 = .ok (.ireturn, 1) := by decide +kernel
theorem dX2_outcomesOfSign_75 : decode cX2_outcomesOfSign 75 = .ok (.iload_n 1, 1) := by decide +kernel
theorem dX2_outcomesOfSign_76 : decode cX2_outcomesOfSign 76 = .ok (.iconst 2, 1) := by decide +kernel
theorem dX2_outcomesOfSign_77 : decode cX2_outcomesOfSign 77 = .ok (.iand, 1) := by decide +kernel
theorem dX2_outcomesOfSign_78 : decode cX2_outcomesOfSign 78 = .ok (.iload_n 1, 1) := by decide +kernel
theorem dX2_outcomesOfSign_79 : decode cX2_outcomesOfSign 79 = .ok (.iconst 5, 1) := by decide +kernel
theorem dX2_outcomesOfSign_80 : decode cX2_outcomesOfSign 80 = .ok (.invokestatic 107, 3) := by decide +kernel
theorem dX2_outcomesOfSign_83 : decode cX2_outcomesOfSign 83 = .ok (.ifCond .eq 7, 3) := by decide +kernel
theorem dX2_outcomesOfSign_86 : decode cX2_outcomesOfSign 86 = .ok (.iconst 1, 1) := by decide +kernel
theorem dX2_outcomesOfSign_87 : decode cX2_outcomesOfSign 87 = .ok (.goto 4, 3) := by decide +kernel
theorem dX2_outcomesOfSign_90 : decode cX2_outcomesOfSign 90 = .ok (.iconst 0, 1) := by decide +kernel
theorem dX2_outcomesOfSign_91 : decode cX2_outcomesOfSign 91 = .ok (.ior, 1) := by decide +kernel
theorem dX2_outcomesOfSign_92 : decode cX2_outcomesOfSign 92 = .ok (.ireturn, 1) := by decide +kernel
theorem dX2_outcomesOfSign_93 : decode cX2_outcomesOfSign 93 = .ok (.iload_n 1, 1) := by decide +kernel
theorem dX2_outcomesOfSign_94 : decode cX2_outcomesOfSign 94 = .ok (.iconst 4, 1) := by decide +kernel
theorem dX2_outcomesOfSign_95 : decode cX2_outcomesOfSign 95 = .ok (.iand, 1) := by decide +kernel
theorem dX2_outcomesOfSign_96 : decode cX2_outcomesOfSign 96 = .ok (.iload_n 1, 1) := by decide +kernel
theorem dX2_outcomesOfSign_97 : decode cX2_outcomesOfSign 97 = .ok (.iconst 3, 1) := by decide +kernel
theorem dX2_outcomesOfSign_98 : decode cX2_outcomesOfSign 98 = .ok (.invokestatic 107, 3) := by decide +kernel
theorem dX2_outcomesOfSign_101 : decode cX2_outcomesOfSign 101 = .ok (.ifCond .eq 7, 3) := by decide +kernel
theorem dX2_outcomesOfSign_104 : decode cX2_outcomesOfSign 104 = .ok (.iconst 1, 1) := by decide +kernel
theorem dX2_outcomesOfSign_105 : decode cX2_outcomesOfSign 105 = .ok (.goto 4, 3) := by decide +kernel
theorem dX2_outcomesOfSign_108 : decode cX2_outcomesOfSign 108 = .ok (.iconst 0, 1) := by decide +kernel
theorem dX2_outcomesOfSign_109 : decode cX2_outcomesOfSign 109 = .ok (.ior, 1) := by decide +kernel
theorem dX2_outcomesOfSign_110 : decode cX2_outcomesOfSign 110 = .ok (.ireturn, 1) := by decide +kernel
theorem dX2_outcomesOfSign_111 : decode cX2_outcomesOfSign 111 = .ok (.iload_n 1, 1) := by decide +kernel
theorem dX2_outcomesOfSign_112 : decode cX2_outcomesOfSign 112 = .ok (.iconst 4, 1) := by decide +kernel
theorem dX2_outcomesOfSign_113 : decode cX2_outcomesOfSign 113 = .ok (.invokestatic 107, 3) := by decide +kernel
theorem dX2_outcomesOfSign_116 : decode cX2_outcomesOfSign 116 = .ok (.ifCond .eq 7, 3) := by decide +kernel
theorem dX2_outcomesOfSign_119 : decode cX2_outcomesOfSign 119 = .ok (.iconst 1, 1) := by decide +kernel
theorem dX2_outcomesOfSign_120 : decode cX2_outcomesOfSign 120 = .ok (.goto 4, 3) := by decide +kernel
theorem dX2_outcomesOfSign_123 : decode cX2_outcomesOfSign 123 = .ok (.iconst 0, 1) := by decide +kernel
theorem dX2_outcomesOfSign_124 : decode cX2_outcomesOfSign 124 = .ok (.iload_n 1, 1) := by decide +kernel
theorem dX2_outcomesOfSign_125 : decode cX2_outcomesOfSign 125 = .ok (.iconst 3, 1) := by decide +kernel
theorem dX2_outcomesOfSign_126 : decode cX2_outcomesOfSign 126 = .ok (.invokestatic 107, 3) := by decide +kernel
theorem dX2_outcomesOfSign_129 : decode cX2_outcomesOfSign 129 = .ok (.ifCond .eq 7, 3) := by decide +kernel
theorem dX2_outcomesOfSign_132 : decode cX2_outcomesOfSign 132 = .ok (.iconst 4, 1) := by decide +kernel
theorem dX2_outcomesOfSign_133 : decode cX2_outcomesOfSign 133 = .ok (.goto 4, 3) := by decide +kernel
theorem dX2_outcomesOfSign_136 : decode cX2_outcomesOfSign 136 = .ok (.iconst 0, 1) := by decide +kernel
theorem dX2_outcomesOfSign_137 : decode cX2_outcomesOfSign 137 = .ok (.ior, 1) := by decide +kernel
theorem dX2_outcomesOfSign_138 : decode cX2_outcomesOfSign 138 = .ok (.ireturn, 1) := by decide +kernel
theorem dX2_outcomesOfSign_139 : decode cX2_outcomesOfSign 139 = .ok (.iconst 0, 1) := by decide +kernel
theorem dX2_outcomesOfSign_140 : decode cX2_outcomesOfSign 140 = .ok (.ireturn, 1) := by decide +kernel
theorem dX2_any_0 : decode cX2_any 0 = .ok (.iload_n 0, 1) := by decide +kernel
theorem dX2_any_1 : decode cX2_any 1 = .ok (.iload_n 1, 1) := by decide +kernel
theorem dX2_any_2 : decode cX2_any 2 = .ok (.iand, 1) := by decide +kernel
theorem dX2_any_3 : decode cX2_any 3 = .ok (.ifCond .eq 7, 3) := by decide +kernel
theorem dX2_any_6 : decode cX2_any 6 = .ok (.iconst 1, 1) := by decide +kernel
theorem dX2_any_7 : decode cX2_any 7 = .ok (.goto 4, 3) := by decide +kernel
theorem dX2_any_10 : decode cX2_any 10 = .ok (.iconst 0, 1) := by decide +kernel
theorem dX2_any_11 : decode cX2_any 11 = .ok (.ireturn, 1) := by decide +kernel
theorem dX2_findGood_0 : decode cX2_findGood 0 = .ok (.iconst 1, 1) := by decide +kernel
theorem dX2_findGood_1 : decode cX2_findGood 1 = .ok (.istore_n 1, 1) := by decide +kernel
theorem dX2_findGood_2 : decode cX2_findGood 2 = .ok (.iconst 0, 1) := by decide +kernel
theorem dX2_findGood_3 : decode cX2_findGood 3 = .ok (.istore_n 2, 1) := by decide +kernel
theorem dX2_findGood_4 : decode cX2_findGood 4 = .ok (.iload_n 2, 1) := by decide +kernel
theorem dX2_findGood_5 : decode cX2_findGood 5 = .ok (.bipush 19, 2) := by decide +kernel
theorem dX2_findGood_7 : decode cX2_findGood 7 = .ok (.if_icmp .ge 68, 3) := by decide +kernel
theorem dX2_findGood_10 : decode cX2_findGood 10 = .ok (.iload_n 1, 1) := by decide +kernel
theorem dX2_findGood_11 : decode cX2_findGood 11 = .ok (.ifCond .eq 64, 3) := by decide +kernel
theorem dX2_findGood_14 : decode cX2_findGood 14 = .ok (.iconst 0, 1) := by decide +kernel
theorem dX2_findGood_15 : decode cX2_findGood 15 = .ok (.istore_n 1, 1) := by decide +kernel
theorem dX2_findGood_16 : decode cX2_findGood 16 = .ok (.aload_n 0, 1) := by decide +kernel
theorem dX2_findGood_17 : decode cX2_findGood 17 = .ok (.getfield 11, 3) := by decide +kernel
theorem dX2_findGood_20 : decode cX2_findGood 20 = .ok (.astore_n 3, 1) := by decide +kernel
theorem dX2_findGood_21 : decode cX2_findGood 21 = .ok (.aload_n 3, 1) := by decide +kernel
theorem dX2_findGood_22 : decode cX2_findGood 22 = .ok (.arraylength, 1) := by decide +kernel
theorem dX2_findGood_23 : decode cX2_findGood 23 = .ok (.istore 4, 2) := by decide +kernel
theorem dX2_findGood_25 : decode cX2_findGood 25 = .ok (.iconst 0, 1) := by decide +kernel
theorem dX2_findGood_26 : decode cX2_findGood 26 = .ok (.istore 5, 2) := by decide +kernel
theorem dX2_findGood_28 : decode cX2_findGood 28 = .ok (.iload 5, 2) := by decide +kernel
theorem dX2_findGood_30 : decode cX2_findGood 30 = .ok (.iload 4, 2) := by decide +kernel
theorem dX2_findGood_32 : decode cX2_findGood 32 = .ok (.if_icmp .ge 37, 3) := by decide +kernel
theorem dX2_findGood_35 : decode cX2_findGood 35 = .ok (.aload_n 3, 1) := by decide +kernel
theorem dX2_findGood_36 : decode cX2_findGood 36 = .ok (.iload 5, 2) := by decide +kernel
theorem dX2_findGood_38 : decode cX2_findGood 38 = .ok (.aaload, 1) := by decide +kernel
theorem dX2_findGood_39 : decode cX2_findGood 39 = .ok (.astore 6, 2) := by decide +kernel
theorem dX2_findGood_41 : decode cX2_findGood 41 = .ok (.iload_n 1, 1) := by decide +kernel
theorem dX2_findGood_42 : decode cX2_findGood 42 = .ok (.aload 6, 2) := by decide +kernel
theorem dX2_findGood_44 : decode cX2_findGood 44 = .ok (.ifnull 16, 3) := by decide +kernel
theorem dX2_findGood_47 : decode cX2_findGood 47 = .ok (.aload_n 0, 1) := by decide +kernel
theorem dX2_findGood_48 : decode cX2_findGood 48 = .ok (.aload 6, 2) := by decide +kernel
theorem dX2_findGood_50 : decode cX2_findGood 50 = .ok (.invokevirtual 111, 3) := by decide +kernel
theorem dX2_findGood_53 : decode cX2_findGood 53 = .ok (.ifCond .eq 7, 3) := by decide +kernel
theorem dX2_findGood_56 : decode cX2_findGood 56 = .ok (.iconst 1, 1) := by decide +kernel
theorem dX2_findGood_57 : decode cX2_findGood 57 = .ok (.goto 4, 3) := by decide +kernel
theorem dX2_findGood_60 : decode cX2_findGood 60 = .ok (.iconst 0, 1) := by decide +kernel
theorem dX2_findGood_61 : decode cX2_findGood 61 = .ok (.ior, 1) := by decide +kernel
theorem dX2_findGood_62 : decode cX2_findGood 62 = .ok (.istore_n 1, 1) := by decide +kernel
theorem dX2_findGood_63 : decode cX2_findGood 63 = .ok (.iinc 5 1, 3) := by decide +kernel
theorem dX2_findGood_66 : decode cX2_findGood 66 = .ok (.goto (-38), 3) := by decide +kernel
theorem dX2_findGood_69 : decode cX2_findGood 69 = .ok (.iinc 2 1, 3) := by decide +kernel
theorem dX2_findGood_72 : decode cX2_findGood 72 = .ok (.goto (-68), 3) := by decide +kernel
theorem dX2_findGood_75 : decode cX2_findGood 75 = .ok (.return_, 1) := by decide +kernel
theorem dX2_findGoodIn_0 : decode cX2_findGoodIn 0 = .ok (.aload_n 1, 1) := by decide +kernel
theorem dX2_findGoodIn_1 : decode cX2_findGoodIn 1 = .ok (.invokevirtual 114, 3) := by decide +kernel
theorem dX2_findGoodIn_4 : decode cX2_findGoodIn 4 = .ok (.istore_n 2, 1) := by decide +kernel
theorem dX2_findGoodIn_5 : decode cX2_findGoodIn 5 = .ok (.aload_n 1, 1) := by decide +kernel
theorem dX2_findGoodIn_6 : decode cX2_findGoodIn 6 = .ok (.getfield 62, 3) := by decide +kernel
theorem dX2_findGoodIn_9 : decode cX2_findGoodIn 9 = .ok (.astore_n 3, 1) := by decide +kernel
theorem dX2_findGoodIn_10 : decode cX2_findGoodIn 10 = .ok (.aload_n 3, 1) := by decide +kernel
theorem dX2_findGoodIn_11 : decode cX2_findGoodIn 11 = .ok (.ifnull 20, 3) := by decide +kernel
theorem dX2_findGoodIn_14 : decode cX2_findGoodIn 14 = .ok (.aload_n 3, 1) := by decide +kernel
theorem dX2_findGoodIn_15 : decode cX2_findGoodIn 15 = .ok (.aload_n 0, 1) := by decide +kernel
theorem dX2_findGoodIn_16 : decode cX2_findGoodIn 16 = .ok (.aload_n 3, 1) := by decide +kernel
theorem dX2_findGoodIn_17 : decode cX2_findGoodIn 17 = .ok (.invokevirtual 117, 3) := by decide +kernel
theorem dX2_findGoodIn_20 : decode cX2_findGoodIn 20 = .ok (.putfield 121, 3) := by decide +kernel
theorem dX2_findGoodIn_23 : decode cX2_findGoodIn 23 = .ok (.aload_n 3, 1) := by decide +kernel
theorem dX2_findGoodIn_24 : decode cX2_findGoodIn 24 = .ok (.getfield 75, 3) := by decide +kernel
theorem dX2_findGoodIn_27 : decode cX2_findGoodIn 27 = .ok (.astore_n 3, 1) := by decide +kernel
theorem dX2_findGoodIn_28 : decode cX2_findGoodIn 28 = .ok (.goto (-18), 3) := by decide +kernel
theorem dX2_findGoodIn_31 : decode cX2_findGoodIn 31 = .ok (.aload_n 1, 1) := by decide +kernel
theorem dX2_findGoodIn_32 : decode cX2_findGoodIn 32 = .ok (.invokevirtual 114, 3) := by decide +kernel
theorem dX2_findGoodIn_35 : decode cX2_findGoodIn 35 = .ok (.iload_n 2, 1) := by decide +kernel
theorem dX2_findGoodIn_36 : decode cX2_findGoodIn 36 = .ok (.if_icmp .eq 7, 3) := by decide +kernel
theorem dX2_findGoodIn_39 : decode cX2_findGoodIn 39 = .ok (.iconst 1, 1) := by decide +kernel
theorem dX2_findGoodIn_40 : decode cX2_findGoodIn 40 = .ok (.goto 4, 3) := by decide +kernel
theorem dX2_findGoodIn_43 : decode cX2_findGoodIn 43 = .ok (.iconst 0, 1) := by decide +kernel
theorem dX2_findGoodIn_44 : decode cX2_findGoodIn 44 = .ok (.ireturn, 1) := by decide +kernel
theorem dX2_isGood_0 : decode cX2_isGood 0 = .ok (.aload_n 1, 1) := by decide +kernel
theorem dX2_isGood_1 : decode cX2_isGood 1 = .ok (.getfield 78, 3) := by decide +kernel
theorem dX2_isGood_4 : decode cX2_isGood 4 = .ok (.tableswitch 121 1 6 #[40, 42, 68, 76, 84, 84], 40) := by decide +kernel
theorem dX2_isGood_44 : decode cX2_isGood 44 = .ok (.iconst 1, 1) := by decide +kernel
theorem dX2_isGood_45 : decode cX2_isGood 45 = .ok (.ireturn, 1) := by decide +kernel
theorem dX2_isGood_46 : decode cX2_isGood 46 = .ok (.aload_n 0, 1) := by decide +kernel
theorem dX2_isGood_47 : decode cX2_isGood 47 = .ok (.aload_n 1, 1) := by decide +kernel
theorem dX2_isGood_48 : decode cX2_isGood 48 = .ok (.getfield 81, 3) := by decide +kernel
theorem dX2_isGood_51 : decode cX2_isGood 51 = .ok (.invokevirtual 84, 3) := by decide +kernel
theorem dX2_isGood_54 : decode cX2_isGood 54 = .ok (.astore_n 2, 1) := by decide +kernel
theorem dX2_isGood_55 : decode cX2_isGood 55 = .ok (.aload_n 2, 1) := by decide +kernel
theorem dX2_isGood_56 : decode cX2_isGood 56 = .ok (.ifnull 14, 3) := by decide +kernel
theorem dX2_isGood_59 : decode cX2_isGood 59 = .ok (.aload_n 2, 1) := by decide +kernel
theorem dX2_isGood_60 : decode cX2_isGood 60 = .ok (.invokevirtual 114, 3) := by decide +kernel
theorem dX2_isGood_63 : decode cX2_isGood 63 = .ok (.ifCond .eq 7, 3) := by decide +kernel
theorem dX2_isGood_66 : decode cX2_isGood 66 = .ok (.iconst 1, 1) := by decide +kernel
theorem dX2_isGood_67 : decode cX2_isGood 67 = .ok (.goto 4, 3) := by decide +kernel
theorem dX2_isGood_70 : decode cX2_isGood 70 = .ok (.iconst 0, 1) := by decide +kernel
theorem dX2_isGood_71 : decode cX2_isGood 71 = .ok (.ireturn, 1) := by decide +kernel
theorem dX2_isGood_72 : decode cX2_isGood 72 = .ok (.aload_n 1, 1) := by decide +kernel
theorem dX2_isGood_73 : decode cX2_isGood 73 = .ok (.getfield 88, 3) := by decide +kernel
theorem dX2_isGood_76 : decode cX2_isGood 76 = .ok (.invokestatic 125, 3) := by decide +kernel
theorem dX2_isGood_79 : decode cX2_isGood 79 = .ok (.ireturn, 1) := by decide +kernel
theorem dX2_isGood_80 : decode cX2_isGood 80 = .ok (.aload_n 1, 1) := by decide +kernel
theorem dX2_isGood_81 : decode cX2_isGood 81 = .ok (.getfield 88, 3) := by decide +kernel
theorem dX2_isGood_84 : decode cX2_isGood 84 = .ok (.invokestatic 128, 3) := by decide +kernel
theorem dX2_isGood_87 : decode cX2_isGood 87 = .ok (.ireturn, 1) := by decide +kernel
theorem dX2_isGood_88 : decode cX2_isGood 88 = .ok (.aload_n 1, 1) := by decide +kernel
theorem dX2_isGood_89 : decode cX2_isGood 89 = .ok (.getfield 88, 3) := by decide +kernel
theorem dX2_isGood_92 : decode cX2_isGood 92 = .ok (.ifnull 31, 3) := by decide +kernel
theorem dX2_isGood_95 : decode cX2_isGood 95 = .ok (.aload_n 1, 1) := by decide +kernel
theorem dX2_isGood_96 : decode cX2_isGood 96 = .ok (.getfield 88, 3) := by decide +kernel
theorem dX2_isGood_99 : decode cX2_isGood 99 = .ok (.getfield 121, 3) := by decide +kernel
theorem dX2_isGood_102 : decode cX2_isGood 102 = .ok (.ifCond .eq 21, 3) := by decide +kernel
theorem dX2_isGood_105 : decode cX2_isGood 105 = .ok (.aload_n 1, 1) := by decide +kernel
theorem dX2_isGood_106 : decode cX2_isGood 106 = .ok (.getfield 88, 3) := by decide +kernel
theorem dX2_isGood_109 : decode cX2_isGood 109 = .ok (.getfield 70, 3) := by decide +kernel
theorem dX2_isGood_112 : decode cX2_isGood 112 = .ok (.iconst 1, 1) := by decide +kernel
theorem dX2_isGood_113 : decode cX2_isGood 113 = .ok (.invokestatic 107, 3) := by decide +kernel
theorem dX2_isGood_116 : decode cX2_isGood 116 = .ok (.ifCond .ne 7, 3) := by decide +kernel
theorem dX2_isGood_119 : decode cX2_isGood 119 = .ok (.iconst 1, 1) := by decide +kernel
theorem dX2_isGood_120 : decode cX2_isGood 120 = .ok (.goto 4, 3) := by decide +kernel
theorem dX2_isGood_123 : decode cX2_isGood 123 = .ok (.iconst 0, 1) := by decide +kernel
theorem dX2_isGood_124 : decode cX2_isGood 124 = .ok (.ireturn, 1) := by decide +kernel
theorem dX2_isGood_125 : decode cX2_isGood 125 = .ok (.aload_n 1, 1) := by decide +kernel
theorem dX2_isGood_126 : decode cX2_isGood 126 = .ok (.getfield 88, 3) := by decide +kernel
theorem dX2_isGood_129 : decode cX2_isGood 129 = .ok (.ifnull 17, 3) := by decide +kernel
theorem dX2_isGood_132 : decode cX2_isGood 132 = .ok (.aload_n 1, 1) := by decide +kernel
theorem dX2_isGood_133 : decode cX2_isGood 133 = .ok (.getfield 88, 3) := by decide +kernel
theorem dX2_isGood_136 : decode cX2_isGood 136 = .ok (.getfield 121, 3) := by decide +kernel
theorem dX2_isGood_139 : decode cX2_isGood 139 = .ok (.ifCond .eq 7, 3) := by decide +kernel
theorem dX2_isGood_142 : decode cX2_isGood 142 = .ok (.iconst 1, 1) := by decide +kernel
theorem dX2_isGood_143 : decode cX2_isGood 143 = .ok (.goto 4, 3) := by decide +kernel
theorem dX2_isGood_146 : decode cX2_isGood 146 = .ok (.iconst 0, 1) := by decide +kernel
theorem dX2_isGood_147 : decode cX2_isGood 147 = .ok (.ireturn, 1) := by decide +kernel
theorem dX2_isGoodRow_0 : decode cX2_isGoodRow 0 = .ok (.aload_n 0, 1) := by decide +kernel
theorem dX2_isGoodRow_1 : decode cX2_isGoodRow 1 = .ok (.astore_n 1, 1) := by decide +kernel
theorem dX2_isGoodRow_2 : decode cX2_isGoodRow 2 = .ok (.aload_n 1, 1) := by decide +kernel
theorem dX2_isGoodRow_3 : decode cX2_isGoodRow 3 = .ok (.ifnull 33, 3) := by decide +kernel
theorem dX2_isGoodRow_6 : decode cX2_isGoodRow 6 = .ok (.aload_n 1, 1) := by decide +kernel
theorem dX2_isGoodRow_7 : decode cX2_isGoodRow 7 = .ok (.getfield 121, 3) := by decide +kernel
theorem dX2_isGoodRow_10 : decode cX2_isGoodRow 10 = .ok (.ifCond .ne 5, 3) := by decide +kernel
theorem dX2_isGoodRow_13 : decode cX2_isGoodRow 13 = .ok (.iconst 0, 1) := by decide +kernel
theorem dX2_isGoodRow_14 : decode cX2_isGoodRow 14 = .ok (.ireturn, 1) := by decide +kernel
theorem dX2_isGoodRow_15 : decode cX2_isGoodRow 15 = .ok (.aload_n 1, 1) := by decide +kernel
theorem dX2_isGoodRow_16 : decode cX2_isGoodRow 16 = .ok (.getfield 70, 3) := by decide +kernel
theorem dX2_isGoodRow_19 : decode cX2_isGoodRow 19 = .ok (.iconst 1, 1) := by decide +kernel
theorem dX2_isGoodRow_20 : decode cX2_isGoodRow 20 = .ok (.invokestatic 107, 3) := by decide +kernel
theorem dX2_isGoodRow_23 : decode cX2_isGoodRow 23 = .ok (.ifCond .ne 5, 3) := by decide +kernel
theorem dX2_isGoodRow_26 : decode cX2_isGoodRow 26 = .ok (.iconst 1, 1) := by decide +kernel
theorem dX2_isGoodRow_27 : decode cX2_isGoodRow 27 = .ok (.ireturn, 1) := by decide +kernel
theorem dX2_isGoodRow_28 : decode cX2_isGoodRow 28 = .ok (.aload_n 1, 1) := by decide +kernel
theorem dX2_isGoodRow_29 : decode cX2_isGoodRow 29 = .ok (.getfield 101, 3) := by decide +kernel
theorem dX2_isGoodRow_32 : decode cX2_isGoodRow 32 = .ok (.astore_n 1, 1) := by decide +kernel
theorem dX2_isGoodRow_33 : decode cX2_isGoodRow 33 = .ok (.goto (-31), 3) := by decide +kernel
theorem dX2_isGoodRow_36 : decode cX2_isGoodRow 36 = .ok (.iconst 1, 1) := by decide +kernel
theorem dX2_isGoodRow_37 : decode cX2_isGoodRow 37 = .ok (.ireturn, 1) := by decide +kernel
theorem dX2_isGoodChoice_0 : decode cX2_isGoodChoice 0 = .ok (.aload_n 0, 1) := by decide +kernel
theorem dX2_isGoodChoice_1 : decode cX2_isGoodChoice 1 = .ok (.astore_n 1, 1) := by decide +kernel
theorem dX2_isGoodChoice_2 : decode cX2_isGoodChoice 2 = .ok (.aload_n 1, 1) := by decide +kernel
theorem dX2_isGoodChoice_3 : decode cX2_isGoodChoice 3 = .ok (.ifnull 20, 3) := by decide +kernel
theorem dX2_isGoodChoice_6 : decode cX2_isGoodChoice 6 = .ok (.aload_n 1, 1) := by decide +kernel
theorem dX2_isGoodChoice_7 : decode cX2_isGoodChoice 7 = .ok (.getfield 121, 3) := by decide +kernel
theorem dX2_isGoodChoice_10 : decode cX2_isGoodChoice 10 = .ok (.ifCond .ne 5, 3) := by decide +kernel
theorem dX2_isGoodChoice_13 : decode cX2_isGoodChoice 13 = .ok (.iconst 0, 1) := by decide +kernel
theorem dX2_isGoodChoice_14 : decode cX2_isGoodChoice 14 = .ok (.ireturn, 1) := by decide +kernel
theorem dX2_isGoodChoice_15 : decode cX2_isGoodChoice 15 = .ok (.aload_n 1, 1) := by decide +kernel
theorem dX2_isGoodChoice_16 : decode cX2_isGoodChoice 16 = .ok (.getfield 101, 3) := by decide +kernel
theorem dX2_isGoodChoice_19 : decode cX2_isGoodChoice 19 = .ok (.astore_n 1, 1) := by decide +kernel
theorem dX2_isGoodChoice_20 : decode cX2_isGoodChoice 20 = .ok (.goto (-18), 3) := by decide +kernel
theorem dX2_isGoodChoice_23 : decode cX2_isGoodChoice 23 = .ok (.iconst 1, 1) := by decide +kernel
theorem dX2_isGoodChoice_24 : decode cX2_isGoodChoice 24 = .ok (.ireturn, 1) := by decide +kernel
theorem dX3_init_0 : decode cX3_init 0 = .ok (.aload_n 0, 1) := by decide +kernel
theorem dX3_init_1 : decode cX3_init 1 = .ok (.invokespecial 3, 3) := by decide +kernel
theorem dX3_init_4 : decode cX3_init 4 = .ok (.aload_n 0, 1) := by decide +kernel
theorem dX3_init_5 : decode cX3_init 5 = .ok (.aload_n 1, 1) := by decide +kernel
theorem dX3_init_6 : decode cX3_init 6 = .ok (.putfield 9, 3) := by decide +kernel
theorem dX3_init_9 : decode cX3_init 9 = .ok (.aload_n 0, 1) := by decide +kernel
theorem dX3_init_10 : decode cX3_init 10 = .ok (.aload_n 2, 1) := by decide +kernel
theorem dX3_init_11 : decode cX3_init 11 = .ok (.putfield 15, 3) := by decide +kernel
theorem dX3_init_14 : decode cX3_init 14 = .ok (.aload_n 0, 1) := by decide +kernel
theorem dX3_init_15 : decode cX3_init 15 = .ok (.aload_n 3, 1) := by decide +kernel
theorem dX3_init_16 : decode cX3_init 16 = .ok (.putfield 19, 3) := by decide +kernel
theorem dX3_init_19 : decode cX3_init 19 = .ok (.return_, 1) := by decide +kernel
theorem dX3_begun_0 : decode cX3_begun 0 = .ok (.aload_n 0, 1) := by decide +kernel
theorem dX3_begun_1 : decode cX3_begun 1 = .ok (.getfield 23, 3) := by decide +kernel
theorem dX3_begun_4 : decode cX3_begun 4 = .ok (.ireturn, 1) := by decide +kernel
theorem dX3_remembered_0 : decode cX3_remembered 0 = .ok (.aload_n 0, 1) := by decide +kernel
theorem dX3_remembered_1 : decode cX3_remembered 1 = .ok (.getfield 27, 3) := by decide +kernel
theorem dX3_remembered_4 : decode cX3_remembered 4 = .ok (.ireturn, 1) := by decide +kernel
theorem dX3_matchRule_0 : decode cX3_matchRule 0 = .ok (.iload_n 1, 1) := by decide +kernel
theorem dX3_matchRule_1 : decode cX3_matchRule 1 = .ok (.iload_n 2, 1) := by decide +kernel
theorem dX3_matchRule_2 : decode cX3_matchRule 2 = .ok (.invokestatic 30, 3) := by decide +kernel
theorem dX3_matchRule_5 : decode cX3_matchRule 5 = .ok (.istore 4, 2) := by decide +kernel
theorem dX3_matchRule_7 : decode cX3_matchRule 7 = .ok (.aload_n 0, 1) := by decide +kernel
theorem dX3_matchRule_8 : decode cX3_matchRule 8 = .ok (.getfield 19, 3) := by decide +kernel
theorem dX3_matchRule_11 : decode cX3_matchRule 11 = .ok (.iload 4, 2) := by decide +kernel
theorem dX3_matchRule_13 : decode cX3_matchRule 13 = .ok (.invokevirtual 36, 3) := by decide +kernel
theorem dX3_matchRule_16 : decode cX3_matchRule 16 = .ok (.istore 5, 2) := by decide +kernel
theorem dX3_matchRule_18 : decode cX3_matchRule 18 = .ok (.iload 5, 2) := by decide +kernel
theorem dX3_matchRule_20 : decode cX3_matchRule 20 = .ok (.bipush (-2), 2) := by decide +kernel
theorem dX3_matchRule_22 : decode cX3_matchRule 22 = .ok (.if_icmp .eq 16, 3) := by decide +kernel
theorem dX3_matchRule_25 : decode cX3_matchRule 25 = .ok (.aload_n 0, 1) := by decide +kernel
theorem dX3_matchRule_26 : decode cX3_matchRule 26 = .ok (.dup, 1) := by decide +kernel
theorem dX3_matchRule_27 : decode cX3_matchRule 27 = .ok (.getfield 27, 3) := by decide +kernel
theorem dX3_matchRule_30 : decode cX3_matchRule 30 = .ok (.iconst 1, 1) := by decide +kernel
theorem dX3_matchRule_31 : decode cX3_matchRule 31 = .ok (.iadd, 1) := by decide +kernel
theorem dX3_matchRule_32 : decode cX3_matchRule 32 = .ok (.putfield 27, 3) := by decide +kernel
theorem dX3_matchRule_35 : decode cX3_matchRule 35 = .ok (.iload 5, 2) := by decide +kernel
theorem dX3_matchRule_37 : decode cX3_matchRule 37 = .ok (.ireturn, 1) := by decide +kernel
theorem dX3_matchRule_38 : decode cX3_matchRule 38 = .ok (.aload_n 0, 1) := by decide +kernel
theorem dX3_matchRule_39 : decode cX3_matchRule 39 = .ok (.iload_n 1, 1) := by decide +kernel
theorem dX3_matchRule_40 : decode cX3_matchRule 40 = .ok (.iload_n 2, 1) := by decide +kernel
theorem dX3_matchRule_41 : decode cX3_matchRule 41 = .ok (.iload_n 3, 1) := by decide +kernel
theorem dX3_matchRule_42 : decode cX3_matchRule 42 = .ok (.iload 4, 2) := by decide +kernel
theorem dX3_matchRule_44 : decode cX3_matchRule 44 = .ok (.invokevirtual 40, 3) := by decide +kernel
theorem dX3_matchRule_47 : decode cX3_matchRule 47 = .ok (.ireturn, 1) := by decide +kernel
theorem dX3_workOut_0 : decode cX3_workOut 0 = .ok (.iload_n 3, 1) := by decide +kernel
theorem dX3_workOut_1 : decode cX3_workOut 1 = .ok (.bipush 40, 2) := by decide +kernel
theorem dX3_workOut_3 : decode cX3_workOut 3 = .ok (.if_icmp .le 13, 3) := by decide +kernel
theorem dX3_workOut_6 : decode cX3_workOut 6 = .ok (.new 44, 3) := by decide +kernel
theorem dX3_workOut_9 : decode cX3_workOut 9 = .ok (.dup, 1) := by decide +kernel
theorem dX3_workOut_10 : decode cX3_workOut 10 = .ok (.ldc 46, 2) := by decide +kernel
theorem dX3_workOut_12 : decode cX3_workOut 12 = .ok (.invokespecial 48, 3) := by decide +kernel
theorem dX3_workOut_15 : decode cX3_workOut 15 = .ok (.athrow, 1) := by decide +kernel
theorem dX3_workOut_16 : decode cX3_workOut 16 = .ok (.aload_n 0, 1) := by decide +kernel
theorem dX3_workOut_17 : decode cX3_workOut 17 = .ok (.dup, 1) := by decide +kernel
theorem dX3_workOut_18 : decode cX3_workOut 18 = .ok (.getfield 23, 3) := by decide +kernel
theorem dX3_workOut_21 : decode cX3_workOut 21 = .ok (.iconst 1, 1) := by decide +kernel
theorem dX3_workOut_22 : decode cX3_workOut 22 = .ok (.iadd, 1) := by decide +kernel
theorem dX3_workOut_23 : decode cX3_workOut 23 = .ok (.putfield 23, 3) := by decide +kernel
theorem dX3_workOut_26 : decode cX3_workOut 26 = .ok (.aload_n 0, 1) := by decide +kernel
theorem dX3_workOut_27 : decode cX3_workOut 27 = .ok (.getfield 19, 3) := by decide +kernel
theorem dX3_workOut_30 : decode cX3_workOut 30 = .ok (.iload 4, 2) := by decide +kernel
theorem dX3_workOut_32 : decode cX3_workOut 32 = .ok (.iconst 0, 1) := by decide +kernel
theorem dX3_workOut_33 : decode cX3_workOut 33 = .ok (.invokevirtual 51, 3) := by decide +kernel
theorem dX3_workOut_36 : decode cX3_workOut 36 = .ok (.aload_n 0, 1) := by decide +kernel
theorem dX3_workOut_37 : decode cX3_workOut 37 = .ok (.getfield 9, 3) := by decide +kernel
theorem dX3_workOut_40 : decode cX3_workOut 40 = .ok (.iload_n 1, 1) := by decide +kernel
theorem dX3_workOut_41 : decode cX3_workOut 41 = .ok (.invokevirtual 55, 3) := by decide +kernel
theorem dX3_workOut_44 : decode cX3_workOut 44 = .ok (.astore 5, 2) := by decide +kernel
theorem dX3_workOut_46 : decode cX3_workOut 46 = .ok (.aload 5, 2) := by decide +kernel
theorem dX3_workOut_48 : decode cX3_workOut 48 = .ok (.ifnonnull 7, 3) := by decide +kernel
theorem dX3_workOut_51 : decode cX3_workOut 51 = .ok (.iconst (-1), 1) := by decide +kernel
theorem dX3_workOut_52 : decode cX3_workOut 52 = .ok (.goto 16, 3) := by decide +kernel
theorem dX3_workOut_55 : decode cX3_workOut 55 = .ok (.aload_n 0, 1) := by decide +kernel
theorem dX3_workOut_56 : decode cX3_workOut 56 = .ok (.aload 5, 2) := by decide +kernel
theorem dX3_workOut_58 : decode cX3_workOut 58 = .ok (.getfield 61, 3) := by decide +kernel
theorem dX3_workOut_61 : decode cX3_workOut 61 = .ok (.iload_n 2, 1) := by decide +kernel
theorem dX3_workOut_62 : decode cX3_workOut 62 = .ok (.iload_n 3, 1) := by decide +kernel
theorem dX3_workOut_63 : decode cX3_workOut 63 = .ok (.iload 4, 2) := by decide +kernel
end
section
theorem dX3_workOut_65 : decode cX3_workOut 65 = .ok (.invokevirtual 67, 3) := by decide +kernel
theorem dX3_workOut_68 : decode cX3_workOut 68 = .ok (.istore 6, 2) := by decide +kernel
theorem dX3_workOut_70 : decode cX3_workOut 70 = .ok (.aload_n 0, 1) := by decide +kernel
theorem dX3_workOut_71 : decode cX3_workOut 71 = .ok (.getfield 19, 3) := by decide +kernel
theorem dX3_workOut_74 : decode cX3_workOut 74 = .ok (.iload 4, 2) := by decide +kernel
theorem dX3_workOut_76 : decode cX3_workOut 76 = .ok (.iload 6, 2) := by decide +kernel
theorem dX3_workOut_78 : decode cX3_workOut 78 = .ok (.invokevirtual 71, 3) := by decide +kernel
theorem dX3_workOut_81 : decode cX3_workOut 81 = .ok (.iload 6, 2) := by decide +kernel
theorem dX3_workOut_83 : decode cX3_workOut 83 = .ok (.ireturn, 1) := by decide +kernel
theorem dX3_go_0 : decode cX3_go 0 = .ok (.aload_n 1, 1) := by decide +kernel
theorem dX3_go_1 : decode cX3_go 1 = .ok (.ifnonnull 5, 3) := by decide +kernel
theorem dX3_go_4 : decode cX3_go 4 = .ok (.iconst (-1), 1) := by decide +kernel
theorem dX3_go_5 : decode cX3_go 5 = .ok (.ireturn, 1) := by decide +kernel
theorem dX3_go_6 : decode cX3_go 6 = .ok (.aload_n 1, 1) := by decide +kernel
theorem dX3_go_7 : decode cX3_go 7 = .ok (.getfield 74, 3) := by decide +kernel
theorem dX3_go_10 : decode cX3_go 10 = .ok (.tableswitch 146 1 9 #[50, 57, 70, 85, 146, 146, 146, 100, 123], 50) := by decide +kernel
theorem dX3_go_60 : decode cX3_go 60 = .ok (.aload_n 0, 1) := by decide +kernel
theorem dX3_go_61 : decode cX3_go 61 = .ok (.aload_n 1, 1) := by decide +kernel
theorem dX3_go_62 : decode cX3_go 62 = .ok (.iload_n 2, 1) := by decide +kernel
theorem dX3_go_63 : decode cX3_go 63 = .ok (.invokevirtual 79, 3) := by decide +kernel
theorem dX3_go_66 : decode cX3_go 66 = .ok (.ireturn, 1) := by decide +kernel
theorem dX3_go_67 : decode cX3_go 67 = .ok (.aload_n 0, 1) := by decide +kernel
theorem dX3_go_68 : decode cX3_go 68 = .ok (.aload_n 1, 1) := by decide +kernel
theorem dX3_go_69 : decode cX3_go 69 = .ok (.getfield 83, 3) := by decide +kernel
theorem dX3_go_72 : decode cX3_go 72 = .ok (.iload_n 2, 1) := by decide +kernel
theorem dX3_go_73 : decode cX3_go 73 = .ok (.iload_n 3, 1) := by decide +kernel
theorem dX3_go_74 : decode cX3_go 74 = .ok (.iload 4, 2) := by decide +kernel
theorem dX3_go_76 : decode cX3_go 76 = .ok (.invokevirtual 86, 3) := by decide +kernel
theorem dX3_go_79 : decode cX3_go 79 = .ok (.ireturn, 1) := by decide +kernel
theorem dX3_go_80 : decode cX3_go 80 = .ok (.aload_n 0, 1) := by decide +kernel
theorem dX3_go_81 : decode cX3_go 81 = .ok (.aload_n 1, 1) := by decide +kernel
theorem dX3_go_82 : decode cX3_go 82 = .ok (.getfield 89, 3) := by decide +kernel
theorem dX3_go_85 : decode cX3_go 85 = .ok (.iload_n 2, 1) := by decide +kernel
theorem dX3_go_86 : decode cX3_go 86 = .ok (.iload_n 3, 1) := by decide +kernel
theorem dX3_go_87 : decode cX3_go 87 = .ok (.iconst 1, 1) := by decide +kernel
theorem dX3_go_88 : decode cX3_go 88 = .ok (.iadd, 1) := by decide +kernel
theorem dX3_go_89 : decode cX3_go 89 = .ok (.iload 4, 2) := by decide +kernel
theorem dX3_go_91 : decode cX3_go 91 = .ok (.invokevirtual 92, 3) := by decide +kernel
theorem dX3_go_94 : decode cX3_go 94 = .ok (.ireturn, 1) := by decide +kernel
theorem dX3_go_95 : decode cX3_go 95 = .ok (.aload_n 0, 1) := by decide +kernel
theorem dX3_go_96 : decode cX3_go 96 = .ok (.aload_n 1, 1) := by decide +kernel
theorem dX3_go_97 : decode cX3_go 97 = .ok (.getfield 89, 3) := by decide +kernel
theorem dX3_go_100 : decode cX3_go 100 = .ok (.iload_n 2, 1) := by decide +kernel
theorem dX3_go_101 : decode cX3_go 101 = .ok (.iload_n 3, 1) := by decide +kernel
theorem dX3_go_102 : decode cX3_go 102 = .ok (.iconst 1, 1) := by decide +kernel
theorem dX3_go_103 : decode cX3_go 103 = .ok (.iadd, 1) := by decide +kernel
theorem dX3_go_104 : decode cX3_go 104 = .ok (.iload 4, 2) := by decide +kernel
theorem dX3_go_106 : decode cX3_go 106 = .ok (.invokevirtual 95, 3) := by decide +kernel
theorem dX3_go_109 : decode cX3_go 109 = .ok (.ireturn, 1) := by decide +kernel
theorem dX3_go_110 : decode cX3_go 110 = .ok (.aload_n 0, 1) := by decide +kernel
theorem dX3_go_111 : decode cX3_go 111 = .ok (.aload_n 1, 1) := by decide +kernel
theorem dX3_go_112 : decode cX3_go 112 = .ok (.getfield 89, 3) := by decide +kernel
theorem dX3_go_115 : decode cX3_go 115 = .ok (.iload_n 2, 1) := by decide +kernel
theorem dX3_go_116 : decode cX3_go 116 = .ok (.iload_n 3, 1) := by decide +kernel
theorem dX3_go_117 : decode cX3_go 117 = .ok (.iconst 1, 1) := by decide +kernel
theorem dX3_go_118 : decode cX3_go 118 = .ok (.iadd, 1) := by decide +kernel
theorem dX3_go_119 : decode cX3_go 119 = .ok (.iconst (-1), 1) := by decide +kernel
theorem dX3_go_120 : decode cX3_go 120 = .ok (.invokevirtual 67, 3) := by decide +kernel
theorem dX3_go_123 : decode cX3_go 123 = .ok (.iconst (-1), 1) := by decide +kernel
theorem dX3_go_124 : decode cX3_go 124 = .ok (.if_icmp .ne 7, 3) := by decide +kernel
theorem dX3_go_127 : decode cX3_go 127 = .ok (.iconst (-1), 1) := by decide +kernel
theorem dX3_go_128 : decode cX3_go 128 = .ok (.goto 4, 3) := by decide +kernel
theorem dX3_go_131 : decode cX3_go 131 = .ok (.iload_n 2, 1) := by decide +kernel
theorem dX3_go_132 : decode cX3_go 132 = .ok (.ireturn, 1) := by decide +kernel
theorem dX3_go_133 : decode cX3_go 133 = .ok (.aload_n 0, 1) := by decide +kernel
theorem dX3_go_134 : decode cX3_go 134 = .ok (.aload_n 1, 1) := by decide +kernel
theorem dX3_go_135 : decode cX3_go 135 = .ok (.getfield 89, 3) := by decide +kernel
theorem dX3_go_138 : decode cX3_go 138 = .ok (.iload_n 2, 1) := by decide +kernel
theorem dX3_go_139 : decode cX3_go 139 = .ok (.iload_n 3, 1) := by decide +kernel
theorem dX3_go_140 : decode cX3_go 140 = .ok (.iconst 1, 1) := by decide +kernel
theorem dX3_go_141 : decode cX3_go 141 = .ok (.iadd, 1) := by decide +kernel
theorem dX3_go_142 : decode cX3_go 142 = .ok (.iconst (-1), 1) := by decide +kernel
theorem dX3_go_143 : decode cX3_go 143 = .ok (.invokevirtual 67, 3) := by decide +kernel
theorem dX3_go_146 : decode cX3_go 146 = .ok (.iconst (-1), 1) := by decide +kernel
theorem dX3_go_147 : decode cX3_go 147 = .ok (.if_icmp .ne 7, 3) := by decide +kernel
theorem dX3_go_150 : decode cX3_go 150 = .ok (.iload_n 2, 1) := by decide +kernel
theorem dX3_go_151 : decode cX3_go 151 = .ok (.goto 4, 3) := by decide +kernel
theorem dX3_go_154 : decode cX3_go 154 = .ok (.iconst (-1), 1) := by decide +kernel
theorem dX3_go_155 : decode cX3_go 155 = .ok (.ireturn, 1) := by decide +kernel
theorem dX3_go_156 : decode cX3_go 156 = .ok (.aload_n 0, 1) := by decide +kernel
theorem dX3_go_157 : decode cX3_go 157 = .ok (.aload_n 1, 1) := by decide +kernel
theorem dX3_go_158 : decode cX3_go 158 = .ok (.iload_n 2, 1) := by decide +kernel
theorem dX3_go_159 : decode cX3_go 159 = .ok (.iload_n 3, 1) := by decide +kernel
theorem dX3_go_160 : decode cX3_go 160 = .ok (.iconst 1, 1) := by decide +kernel
theorem dX3_go_161 : decode cX3_go 161 = .ok (.iadd, 1) := by decide +kernel
theorem dX3_go_162 : decode cX3_go 162 = .ok (.iload 4, 2) := by decide +kernel
theorem dX3_go_164 : decode cX3_go 164 = .ok (.invokevirtual 98, 3) := by decide +kernel
theorem dX3_go_167 : decode cX3_go 167 = .ok (.ireturn, 1) := by decide +kernel
theorem dX3_goLetter_0 : decode cX3_goLetter 0 = .ok (.aload_n 0, 1) := by decide +kernel
theorem dX3_goLetter_1 : decode cX3_goLetter 1 = .ok (.getfield 15, 3) := by decide +kernel
theorem dX3_goLetter_4 : decode cX3_goLetter 4 = .ok (.iload_n 2, 1) := by decide +kernel
theorem dX3_goLetter_5 : decode cX3_goLetter 5 = .ok (.invokevirtual 101, 3) := by decide +kernel
theorem dX3_goLetter_8 : decode cX3_goLetter 8 = .ok (.istore_n 3, 1) := by decide +kernel
theorem dX3_goLetter_9 : decode cX3_goLetter 9 = .ok (.iload_n 3, 1) := by decide +kernel
theorem dX3_goLetter_10 : decode cX3_goLetter 10 = .ok (.aload_n 1, 1) := by decide +kernel
theorem dX3_goLetter_11 : decode cX3_goLetter 11 = .ok (.getfield 83, 3) := by decide +kernel
theorem dX3_goLetter_14 : decode cX3_goLetter 14 = .ok (.if_icmp .lt 17, 3) := by decide +kernel
theorem dX3_goLetter_17 : decode cX3_goLetter 17 = .ok (.iload_n 3, 1) := by decide +kernel
theorem dX3_goLetter_18 : decode cX3_goLetter 18 = .ok (.aload_n 1, 1) := by decide +kernel
theorem dX3_goLetter_19 : decode cX3_goLetter 19 = .ok (.getfield 107, 3) := by decide +kernel
theorem dX3_goLetter_22 : decode cX3_goLetter 22 = .ok (.if_icmp .gt 9, 3) := by decide +kernel
theorem dX3_goLetter_25 : decode cX3_goLetter 25 = .ok (.iload_n 2, 1) := by decide +kernel
theorem dX3_goLetter_26 : decode cX3_goLetter 26 = .ok (.iconst 1, 1) := by decide +kernel
theorem dX3_goLetter_27 : decode cX3_goLetter 27 = .ok (.iadd, 1) := by decide +kernel
theorem dX3_goLetter_28 : decode cX3_goLetter 28 = .ok (.goto 4, 3) := by decide +kernel
theorem dX3_goLetter_31 : decode cX3_goLetter 31 = .ok (.iconst (-1), 1) := by decide +kernel
theorem dX3_goLetter_32 : decode cX3_goLetter 32 = .ok (.ireturn, 1) := by decide +kernel
theorem dX3_goRule_0 : decode cX3_goRule 0 = .ok (.aload_n 0, 1) := by decide +kernel
theorem dX3_goRule_1 : decode cX3_goRule 1 = .ok (.iload_n 1, 1) := by decide +kernel
theorem dX3_goRule_2 : decode cX3_goRule 2 = .ok (.iload_n 2, 1) := by decide +kernel
theorem dX3_goRule_3 : decode cX3_goRule 3 = .ok (.iload_n 3, 1) := by decide +kernel
theorem dX3_goRule_4 : decode cX3_goRule 4 = .ok (.iconst 2, 1) := by decide +kernel
theorem dX3_goRule_5 : decode cX3_goRule 5 = .ok (.iadd, 1) := by decide +kernel
theorem dX3_goRule_6 : decode cX3_goRule 6 = .ok (.invokevirtual 110, 3) := by decide +kernel
theorem dX3_goRule_9 : decode cX3_goRule 9 = .ok (.istore 5, 2) := by decide +kernel
theorem dX3_goRule_11 : decode cX3_goRule 11 = .ok (.iload 5, 2) := by decide +kernel
theorem dX3_goRule_13 : decode cX3_goRule 13 = .ok (.iconst (-1), 1) := by decide +kernel
theorem dX3_goRule_14 : decode cX3_goRule 14 = .ok (.if_icmp .eq 17, 3) := by decide +kernel
theorem dX3_goRule_17 : decode cX3_goRule 17 = .ok (.aload_n 0, 1) := by decide +kernel
theorem dX3_goRule_18 : decode cX3_goRule 18 = .ok (.getfield 19, 3) := by decide +kernel
theorem dX3_goRule_21 : decode cX3_goRule 21 = .ok (.iload 4, 2) := by decide +kernel
theorem dX3_goRule_23 : decode cX3_goRule 23 = .ok (.iload_n 1, 1) := by decide +kernel
theorem dX3_goRule_24 : decode cX3_goRule 24 = .ok (.iload_n 2, 1) := by decide +kernel
theorem dX3_goRule_25 : decode cX3_goRule 25 = .ok (.invokestatic 30, 3) := by decide +kernel
theorem dX3_goRule_28 : decode cX3_goRule 28 = .ok (.invokevirtual 114, 3) := by decide +kernel
theorem dX3_goRule_31 : decode cX3_goRule 31 = .ok (.iload 5, 2) := by decide +kernel
theorem dX3_goRule_33 : decode cX3_goRule 33 = .ok (.ireturn, 1) := by decide +kernel
theorem dX3_goRow_0 : decode cX3_goRow 0 = .ok (.iload_n 2, 1) := by decide +kernel
theorem dX3_goRow_1 : decode cX3_goRow 1 = .ok (.istore 5, 2) := by decide +kernel
theorem dX3_goRow_3 : decode cX3_goRow 3 = .ok (.aload_n 1, 1) := by decide +kernel
theorem dX3_goRow_4 : decode cX3_goRow 4 = .ok (.astore 6, 2) := by decide +kernel
theorem dX3_goRow_6 : decode cX3_goRow 6 = .ok (.aload 6, 2) := by decide +kernel
theorem dX3_goRow_8 : decode cX3_goRow 8 = .ok (.ifnull 32, 3) := by decide +kernel
theorem dX3_goRow_11 : decode cX3_goRow 11 = .ok (.iload 5, 2) := by decide +kernel
theorem dX3_goRow_13 : decode cX3_goRow 13 = .ok (.iconst (-1), 1) := by decide +kernel
theorem dX3_goRow_14 : decode cX3_goRow 14 = .ok (.if_icmp .eq 26, 3) := by decide +kernel
theorem dX3_goRow_17 : decode cX3_goRow 17 = .ok (.aload_n 0, 1) := by decide +kernel
theorem dX3_goRow_18 : decode cX3_goRow 18 = .ok (.aload 6, 2) := by decide +kernel
theorem dX3_goRow_20 : decode cX3_goRow 20 = .ok (.iload 5, 2) := by decide +kernel
theorem dX3_goRow_22 : decode cX3_goRow 22 = .ok (.iload_n 3, 1) := by decide +kernel
theorem dX3_goRow_23 : decode cX3_goRow 23 = .ok (.iload 4, 2) := by decide +kernel
theorem dX3_goRow_25 : decode cX3_goRow 25 = .ok (.invokevirtual 67, 3) := by decide +kernel
theorem dX3_goRow_28 : decode cX3_goRow 28 = .ok (.istore 5, 2) := by decide +kernel
theorem dX3_goRow_30 : decode cX3_goRow 30 = .ok (.aload 6, 2) := by decide +kernel
theorem dX3_goRow_32 : decode cX3_goRow 32 = .ok (.getfield 117, 3) := by decide +kernel
theorem dX3_goRow_35 : decode cX3_goRow 35 = .ok (.astore 6, 2) := by decide +kernel
theorem dX3_goRow_37 : decode cX3_goRow 37 = .ok (.goto (-31), 3) := by decide +kernel
theorem dX3_goRow_40 : decode cX3_goRow 40 = .ok (.iload 5, 2) := by decide +kernel
theorem dX3_goRow_42 : decode cX3_goRow 42 = .ok (.ireturn, 1) := by decide +kernel
theorem dX3_goChoice_0 : decode cX3_goChoice 0 = .ok (.aload_n 0, 1) := by decide +kernel
theorem dX3_goChoice_1 : decode cX3_goChoice 1 = .ok (.getfield 19, 3) := by decide +kernel
theorem dX3_goChoice_4 : decode cX3_goChoice 4 = .ok (.iload 4, 2) := by decide +kernel
theorem dX3_goChoice_6 : decode cX3_goChoice 6 = .ok (.invokevirtual 120, 3) := by decide +kernel
theorem dX3_goChoice_9 : decode cX3_goChoice 9 = .ok (.istore 5, 2) := by decide +kernel
theorem dX3_goChoice_11 : decode cX3_goChoice 11 = .ok (.aload_n 1, 1) := by decide +kernel
theorem dX3_goChoice_12 : decode cX3_goChoice 12 = .ok (.astore 6, 2) := by decide +kernel
theorem dX3_goChoice_14 : decode cX3_goChoice 14 = .ok (.aload 6, 2) := by decide +kernel
theorem dX3_goChoice_16 : decode cX3_goChoice 16 = .ok (.ifnull 45, 3) := by decide +kernel
theorem dX3_goChoice_19 : decode cX3_goChoice 19 = .ok (.aload_n 0, 1) := by decide +kernel
theorem dX3_goChoice_20 : decode cX3_goChoice 20 = .ok (.aload 6, 2) := by decide +kernel
theorem dX3_goChoice_22 : decode cX3_goChoice 22 = .ok (.iload_n 2, 1) := by decide +kernel
theorem dX3_goChoice_23 : decode cX3_goChoice 23 = .ok (.iload_n 3, 1) := by decide +kernel
theorem dX3_goChoice_24 : decode cX3_goChoice 24 = .ok (.iload 4, 2) := by decide +kernel
theorem dX3_goChoice_26 : decode cX3_goChoice 26 = .ok (.invokevirtual 67, 3) := by decide +kernel
theorem dX3_goChoice_29 : decode cX3_goChoice 29 = .ok (.istore 7, 2) := by decide +kernel
theorem dX3_goChoice_31 : decode cX3_goChoice 31 = .ok (.iload 7, 2) := by decide +kernel
theorem dX3_goChoice_33 : decode cX3_goChoice 33 = .ok (.iconst (-1), 1) := by decide +kernel
theorem dX3_goChoice_34 : decode cX3_goChoice 34 = .ok (.if_icmp .eq 6, 3) := by decide +kernel
theorem dX3_goChoice_37 : decode cX3_goChoice 37 = .ok (.iload 7, 2) := by decide +kernel
theorem dX3_goChoice_39 : decode cX3_goChoice 39 = .ok (.ireturn, 1) := by decide +kernel
theorem dX3_goChoice_40 : decode cX3_goChoice 40 = .ok (.aload_n 0, 1) := by decide +kernel
theorem dX3_goChoice_41 : decode cX3_goChoice 41 = .ok (.getfield 19, 3) := by decide +kernel
theorem dX3_goChoice_44 : decode cX3_goChoice 44 = .ok (.iload 4, 2) := by decide +kernel
theorem dX3_goChoice_46 : decode cX3_goChoice 46 = .ok (.iload 5, 2) := by decide +kernel
theorem dX3_goChoice_48 : decode cX3_goChoice 48 = .ok (.invokevirtual 51, 3) := by decide +kernel
theorem dX3_goChoice_51 : decode cX3_goChoice 51 = .ok (.aload 6, 2) := by decide +kernel
theorem dX3_goChoice_53 : decode cX3_goChoice 53 = .ok (.getfield 117, 3) := by decide +kernel
theorem dX3_goChoice_56 : decode cX3_goChoice 56 = .ok (.astore 6, 2) := by decide +kernel
theorem dX3_goChoice_58 : decode cX3_goChoice 58 = .ok (.goto (-44), 3) := by decide +kernel
theorem dX3_goChoice_61 : decode cX3_goChoice 61 = .ok (.iconst (-1), 1) := by decide +kernel
theorem dX3_goChoice_62 : decode cX3_goChoice 62 = .ok (.ireturn, 1) := by decide +kernel
theorem dX3_goRepeated_0 : decode cX3_goRepeated 0 = .ok (.aload_n 1, 1) := by decide +kernel
theorem dX3_goRepeated_1 : decode cX3_goRepeated 1 = .ok (.getfield 74, 3) := by decide +kernel
theorem dX3_goRepeated_4 : decode cX3_goRepeated 4 = .ok (.bipush 7, 2) := by decide +kernel
theorem dX3_goRepeated_6 : decode cX3_goRepeated 6 = .ok (.if_icmp .ne 7, 3) := by decide +kernel
theorem dX3_goRepeated_9 : decode cX3_goRepeated 9 = .ok (.iconst 1, 1) := by decide +kernel
theorem dX3_goRepeated_10 : decode cX3_goRepeated 10 = .ok (.goto 5, 3) := by decide +kernel
theorem dX3_goRepeated_13 : decode cX3_goRepeated 13 = .ok (.bipush 21, 2) := by decide +kernel
theorem dX3_goRepeated_15 : decode cX3_goRepeated 15 = .ok (.istore 5, 2) := by decide +kernel
theorem dX3_goRepeated_17 : decode cX3_goRepeated 17 = .ok (.aload_n 1, 1) := by decide +kernel
theorem dX3_goRepeated_18 : decode cX3_goRepeated 18 = .ok (.getfield 74, 3) := by decide +kernel
theorem dX3_goRepeated_21 : decode cX3_goRepeated 21 = .ok (.bipush 6, 2) := by decide +kernel
theorem dX3_goRepeated_23 : decode cX3_goRepeated 23 = .ok (.if_icmp .ne 7, 3) := by decide +kernel
theorem dX3_goRepeated_26 : decode cX3_goRepeated 26 = .ok (.iconst (-1), 1) := by decide +kernel
theorem dX3_goRepeated_27 : decode cX3_goRepeated 27 = .ok (.goto 4, 3) := by decide +kernel
theorem dX3_goRepeated_30 : decode cX3_goRepeated 30 = .ok (.iload_n 2, 1) := by decide +kernel
theorem dX3_goRepeated_31 : decode cX3_goRepeated 31 = .ok (.istore 6, 2) := by decide +kernel
theorem dX3_goRepeated_33 : decode cX3_goRepeated 33 = .ok (.iload_n 2, 1) := by decide +kernel
theorem dX3_goRepeated_34 : decode cX3_goRepeated 34 = .ok (.istore 7, 2) := by decide +kernel
theorem dX3_goRepeated_36 : decode cX3_goRepeated 36 = .ok (.iconst 0, 1) := by decide +kernel
theorem dX3_goRepeated_37 : decode cX3_goRepeated 37 = .ok (.istore 8, 2) := by decide +kernel
theorem dX3_goRepeated_39 : decode cX3_goRepeated 39 = .ok (.iload 8, 2) := by decide +kernel
theorem dX3_goRepeated_41 : decode cX3_goRepeated 41 = .ok (.iload 5, 2) := by decide +kernel
theorem dX3_goRepeated_43 : decode cX3_goRepeated 43 = .ok (.if_icmp .ge 63, 3) := by decide +kernel
theorem dX3_goRepeated_46 : decode cX3_goRepeated 46 = .ok (.aload_n 0, 1) := by decide +kernel
theorem dX3_goRepeated_47 : decode cX3_goRepeated 47 = .ok (.getfield 19, 3) := by decide +kernel
theorem dX3_goRepeated_50 : decode cX3_goRepeated 50 = .ok (.iload 4, 2) := by decide +kernel
theorem dX3_goRepeated_52 : decode cX3_goRepeated 52 = .ok (.invokevirtual 120, 3) := by decide +kernel
theorem dX3_goRepeated_55 : decode cX3_goRepeated 55 = .ok (.istore 9, 2) := by decide +kernel
theorem dX3_goRepeated_57 : decode cX3_goRepeated 57 = .ok (.aload_n 0, 1) := by decide +kernel
theorem dX3_goRepeated_58 : decode cX3_goRepeated 58 = .ok (.aload_n 1, 1) := by decide +kernel
theorem dX3_goRepeated_59 : decode cX3_goRepeated 59 = .ok (.getfield 89, 3) := by decide +kernel
theorem dX3_goRepeated_62 : decode cX3_goRepeated 62 = .ok (.iload 7, 2) := by decide +kernel
theorem dX3_goRepeated_64 : decode cX3_goRepeated 64 = .ok (.iload_n 3, 1) := by decide +kernel
theorem dX3_goRepeated_65 : decode cX3_goRepeated 65 = .ok (.iload 4, 2) := by decide +kernel
theorem dX3_goRepeated_67 : decode cX3_goRepeated 67 = .ok (.invokevirtual 67, 3) := by decide +kernel
theorem dX3_goRepeated_70 : decode cX3_goRepeated 70 = .ok (.istore 10, 2) := by decide +kernel
theorem dX3_goRepeated_72 : decode cX3_goRepeated 72 = .ok (.iload 10, 2) := by decide +kernel
theorem dX3_goRepeated_74 : decode cX3_goRepeated 74 = .ok (.iconst (-1), 1) := by decide +kernel
theorem dX3_goRepeated_75 : decode cX3_goRepeated 75 = .ok (.if_icmp .ne 17, 3) := by decide +kernel
theorem dX3_goRepeated_78 : decode cX3_goRepeated 78 = .ok (.aload_n 0, 1) := by decide +kernel
theorem dX3_goRepeated_79 : decode cX3_goRepeated 79 = .ok (.getfield 19, 3) := by decide +kernel
theorem dX3_goRepeated_82 : decode cX3_goRepeated 82 = .ok (.iload 4, 2) := by decide +kernel
theorem dX3_goRepeated_84 : decode cX3_goRepeated 84 = .ok (.iload 9, 2) := by decide +kernel
theorem dX3_goRepeated_86 : decode cX3_goRepeated 86 = .ok (.invokevirtual 51, 3) := by decide +kernel
theorem dX3_goRepeated_89 : decode cX3_goRepeated 89 = .ok (.goto 17, 3) := by decide +kernel
theorem dX3_goRepeated_92 : decode cX3_goRepeated 92 = .ok (.iload 10, 2) := by decide +kernel
theorem dX3_goRepeated_94 : decode cX3_goRepeated 94 = .ok (.istore 7, 2) := by decide +kernel
theorem dX3_goRepeated_96 : decode cX3_goRepeated 96 = .ok (.iload 10, 2) := by decide +kernel
theorem dX3_goRepeated_98 : decode cX3_goRepeated 98 = .ok (.istore 6, 2) := by decide +kernel
theorem dX3_goRepeated_100 : decode cX3_goRepeated 100 = .ok (.iinc 8 1, 3) := by decide +kernel
theorem dX3_goRepeated_103 : decode cX3_goRepeated 103 = .ok (.goto (-64), 3) := by decide +kernel
theorem dX3_goRepeated_106 : decode cX3_goRepeated 106 = .ok (.iload 6, 2) := by decide +kernel
theorem dX3_goRepeated_108 : decode cX3_goRepeated 108 = .ok (.ireturn, 1) := by decide +kernel
theorem dX4_init_0 : decode cX4_init 0 = .ok (.aload_n 0, 1) := by decide +kernel
theorem dX4_init_1 : decode cX4_init 1 = .ok (.invokespecial 3, 3) := by decide +kernel
theorem dX4_init_4 : decode cX4_init 4 = .ok (.aload_n 0, 1) := by decide +kernel
theorem dX4_init_5 : decode cX4_init 5 = .ok (.bipush 126, 2) := by decide +kernel
theorem dX4_init_7 : decode cX4_init 7 = .ok (.newarray .int, 2) := by decide +kernel
theorem dX4_init_9 : decode cX4_init 9 = .ok (.putfield 9, 3) := by decide +kernel
theorem dX4_init_12 : decode cX4_init 12 = .ok (.aload_n 0, 1) := by decide +kernel
theorem dX4_init_13 : decode cX4_init 13 = .ok (.bipush 126, 2) := by decide +kernel
theorem dX4_init_15 : decode cX4_init 15 = .ok (.newarray .int, 2) := by decide +kernel
theorem dX4_init_17 : decode cX4_init 17 = .ok (.putfield 15, 3) := by decide +kernel
theorem dX4_init_20 : decode cX4_init 20 = .ok (.aload_n 0, 1) := by decide +kernel
theorem dX4_init_21 : decode cX4_init 21 = .ok (.sipush 7560, 3) := by decide +kernel
theorem dX4_init_24 : decode cX4_init 24 = .ok (.newarray .byte, 2) := by decide +kernel
theorem dX4_init_26 : decode cX4_init 26 = .ok (.putfield 18, 3) := by decide +kernel
theorem dX4_init_29 : decode cX4_init 29 = .ok (.aload_n 0, 1) := by decide +kernel
theorem dX4_init_30 : decode cX4_init 30 = .ok (.getfield 9, 3) := by decide +kernel
theorem dX4_init_33 : decode cX4_init 33 = .ok (.bipush (-2), 2) := by decide +kernel
theorem dX4_init_35 : decode cX4_init 35 = .ok (.invokestatic 22, 3) := by decide +kernel
theorem dX4_init_38 : decode cX4_init 38 = .ok (.return_, 1) := by decide +kernel
theorem dX4_cellOf_0 : decode cX4_cellOf 0 = .ok (.iload_n 0, 1) := by decide +kernel
theorem dX4_cellOf_1 : decode cX4_cellOf 1 = .ok (.invokestatic 28, 3) := by decide +kernel
theorem dX4_cellOf_4 : decode cX4_cellOf 4 = .ok (.ifCond .eq 17, 3) := by decide +kernel
theorem dX4_cellOf_7 : decode cX4_cellOf 7 = .ok (.iload_n 1, 1) := by decide +kernel
theorem dX4_cellOf_8 : decode cX4_cellOf 8 = .ok (.ifCond .lt 13, 3) := by decide +kernel
theorem dX4_cellOf_11 : decode cX4_cellOf 11 = .ok (.iload_n 1, 1) := by decide +kernel
theorem dX4_cellOf_12 : decode cX4_cellOf 12 = .ok (.bipush 21, 2) := by decide +kernel
theorem dX4_cellOf_14 : decode cX4_cellOf 14 = .ok (.if_icmp .ge 7, 3) := by decide +kernel
theorem dX4_cellOf_17 : decode cX4_cellOf 17 = .ok (.iconst 1, 1) := by decide +kernel
theorem dX4_cellOf_18 : decode cX4_cellOf 18 = .ok (.goto 4, 3) := by decide +kernel
theorem dX4_cellOf_21 : decode cX4_cellOf 21 = .ok (.iconst 0, 1) := by decide +kernel
theorem dX4_cellOf_22 : decode cX4_cellOf 22 = .ok (.istore_n 2, 1) := by decide +kernel
theorem dX4_cellOf_23 : decode cX4_cellOf 23 = .ok (.iload_n 2, 1) := by decide +kernel
theorem dX4_cellOf_24 : decode cX4_cellOf 24 = .ok (.ifCond .eq 12, 3) := by decide +kernel
theorem dX4_cellOf_27 : decode cX4_cellOf 27 = .ok (.iload_n 0, 1) := by decide +kernel
theorem dX4_cellOf_28 : decode cX4_cellOf 28 = .ok (.bipush 21, 2) := by decide +kernel
theorem dX4_cellOf_30 : decode cX4_cellOf 30 = .ok (.imul, 1) := by decide +kernel
theorem dX4_cellOf_31 : decode cX4_cellOf 31 = .ok (.iload_n 1, 1) := by decide +kernel
theorem dX4_cellOf_32 : decode cX4_cellOf 32 = .ok (.iadd, 1) := by decide +kernel
theorem dX4_cellOf_33 : decode cX4_cellOf 33 = .ok (.goto 4, 3) := by decide +kernel
theorem dX4_cellOf_36 : decode cX4_cellOf 36 = .ok (.iconst (-1), 1) := by decide +kernel
theorem dX4_cellOf_37 : decode cX4_cellOf 37 = .ok (.ireturn, 1) := by decide +kernel
theorem dX4_isCell_0 : decode cX4_isCell 0 = .ok (.iload_n 0, 1) := by decide +kernel
theorem dX4_isCell_1 : decode cX4_isCell 1 = .ok (.ifCond .lt 13, 3) := by decide +kernel
theorem dX4_isCell_4 : decode cX4_isCell 4 = .ok (.iload_n 0, 1) := by decide +kernel
theorem dX4_isCell_5 : decode cX4_isCell 5 = .ok (.bipush 126, 2) := by decide +kernel
theorem dX4_isCell_7 : decode cX4_isCell 7 = .ok (.if_icmp .ge 7, 3) := by decide +kernel
theorem dX4_isCell_10 : decode cX4_isCell 10 = .ok (.iconst 1, 1) := by decide +kernel
theorem dX4_isCell_11 : decode cX4_isCell 11 = .ok (.goto 4, 3) := by decide +kernel
theorem dX4_isCell_14 : decode cX4_isCell 14 = .ok (.iconst 0, 1) := by decide +kernel
theorem dX4_isCell_15 : decode cX4_isCell 15 = .ok (.ireturn, 1) := by decide +kernel
theorem dX4_forget_0 : decode cX4_forget 0 = .ok (.aload_n 0, 1) := by decide +kernel
theorem dX4_forget_1 : decode cX4_forget 1 = .ok (.getfield 9, 3) := by decide +kernel
theorem dX4_forget_4 : decode cX4_forget 4 = .ok (.bipush (-2), 2) := by decide +kernel
theorem dX4_forget_6 : decode cX4_forget 6 = .ok (.invokestatic 22, 3) := by decide +kernel
theorem dX4_forget_9 : decode cX4_forget 9 = .ok (.return_, 1) := by decide +kernel
theorem dX4_size_0 : decode cX4_size 0 = .ok (.iconst 0, 1) := by decide +kernel
theorem dX4_size_1 : decode cX4_size 1 = .ok (.istore_n 1, 1) := by decide +kernel
theorem dX4_size_2 : decode cX4_size 2 = .ok (.aload_n 0, 1) := by decide +kernel
theorem dX4_size_3 : decode cX4_size 3 = .ok (.getfield 9, 3) := by decide +kernel
theorem dX4_size_6 : decode cX4_size 6 = .ok (.astore_n 2, 1) := by decide +kernel
theorem dX4_size_7 : decode cX4_size 7 = .ok (.aload_n 2, 1) := by decide +kernel
theorem dX4_size_8 : decode cX4_size 8 = .ok (.arraylength, 1) := by decide +kernel
theorem dX4_size_9 : decode cX4_size 9 = .ok (.istore_n 3, 1) := by decide +kernel
theorem dX4_size_10 : decode cX4_size 10 = .ok (.iconst 0, 1) := by decide +kernel
theorem dX4_size_11 : decode cX4_size 11 = .ok (.istore 4, 2) := by decide +kernel
theorem dX4_size_13 : decode cX4_size 13 = .ok (.iload 4, 2) := by decide +kernel
theorem dX4_size_15 : decode cX4_size 15 = .ok (.iload_n 3, 1) := by decide +kernel
theorem dX4_size_16 : decode cX4_size 16 = .ok (.if_icmp .ge 25, 3) := by decide +kernel
theorem dX4_size_19 : decode cX4_size 19 = .ok (.aload_n 2, 1) := by decide +kernel
theorem dX4_size_20 : decode cX4_size 20 = .ok (.iload 4, 2) := by decide +kernel
theorem dX4_size_22 : decode cX4_size 22 = .ok (.iaload, 1) := by decide +kernel
theorem dX4_size_23 : decode cX4_size 23 = .ok (.istore 5, 2) := by decide +kernel
theorem dX4_size_25 : decode cX4_size 25 = .ok (.iload 5, 2) := by decide +kernel
theorem dX4_size_27 : decode cX4_size 27 = .ok (.bipush (-2), 2) := by decide +kernel
theorem dX4_size_29 : decode cX4_size 29 = .ok (.if_icmp .eq 6, 3) := by decide +kernel
theorem dX4_size_32 : decode cX4_size 32 = .ok (.iinc 1 1, 3) := by decide +kernel
theorem dX4_size_35 : decode cX4_size 35 = .ok (.iinc 4 1, 3) := by decide +kernel
theorem dX4_size_38 : decode cX4_size 38 = .ok (.goto (-25), 3) := by decide +kernel
theorem dX4_size_41 : decode cX4_size 41 = .ok (.iload_n 1, 1) := by decide +kernel
theorem dX4_size_42 : decode cX4_size 42 = .ok (.ireturn, 1) := by decide +kernel
theorem dX4_recall_0 : decode cX4_recall 0 = .ok (.iload_n 1, 1) := by decide +kernel
theorem dX4_recall_1 : decode cX4_recall 1 = .ok (.invokestatic 32, 3) := by decide +kernel
theorem dX4_recall_4 : decode cX4_recall 4 = .ok (.ifCond .eq 12, 3) := by decide +kernel
theorem dX4_recall_7 : decode cX4_recall 7 = .ok (.aload_n 0, 1) := by decide +kernel
theorem dX4_recall_8 : decode cX4_recall 8 = .ok (.getfield 9, 3) := by decide +kernel
theorem dX4_recall_11 : decode cX4_recall 11 = .ok (.iload_n 1, 1) := by decide +kernel
theorem dX4_recall_12 : decode cX4_recall 12 = .ok (.iaload, 1) := by decide +kernel
theorem dX4_recall_13 : decode cX4_recall 13 = .ok (.goto 5, 3) := by decide +kernel
theorem dX4_recall_16 : decode cX4_recall 16 = .ok (.bipush (-2), 2) := by decide +kernel
theorem dX4_recall_18 : decode cX4_recall 18 = .ok (.ireturn, 1) := by decide +kernel
theorem dX4_keep_0 : decode cX4_keep 0 = .ok (.iload_n 1, 1) := by decide +kernel
theorem dX4_keep_1 : decode cX4_keep 1 = .ok (.invokestatic 32, 3) := by decide +kernel
theorem dX4_keep_4 : decode cX4_keep 4 = .ok (.ifCond .eq 10, 3) := by decide +kernel
theorem dX4_keep_7 : decode cX4_keep 7 = .ok (.aload_n 0, 1) := by decide +kernel
theorem dX4_keep_8 : decode cX4_keep 8 = .ok (.getfield 9, 3) := by decide +kernel
theorem dX4_keep_11 : decode cX4_keep 11 = .ok (.iload_n 1, 1) := by decide +kernel
theorem dX4_keep_12 : decode cX4_keep 12 = .ok (.iload_n 2, 1) := by decide +kernel
theorem dX4_keep_13 : decode cX4_keep 13 = .ok (.iastore, 1) := by decide +kernel
theorem dX4_keep_14 : decode cX4_keep 14 = .ok (.return_, 1) := by decide +kernel
theorem dX4_belowSize_0 : decode cX4_belowSize 0 = .ok (.iload_n 1, 1) := by decide +kernel
theorem dX4_belowSize_1 : decode cX4_belowSize 1 = .ok (.invokestatic 32, 3) := by decide +kernel
theorem dX4_belowSize_4 : decode cX4_belowSize 4 = .ok (.ifCond .eq 12, 3) := by decide +kernel
theorem dX4_belowSize_7 : decode cX4_belowSize 7 = .ok (.aload_n 0, 1) := by decide +kernel
theorem dX4_belowSize_8 : decode cX4_belowSize 8 = .ok (.getfield 15, 3) := by decide +kernel
theorem dX4_belowSize_11 : decode cX4_belowSize 11 = .ok (.iload_n 1, 1) := by decide +kernel
theorem dX4_belowSize_12 : decode cX4_belowSize 12 = .ok (.iaload, 1) := by decide +kernel
theorem dX4_belowSize_13 : decode cX4_belowSize 13 = .ok (.goto 4, 3) := by decide +kernel
theorem dX4_belowSize_16 : decode cX4_belowSize 16 = .ok (.iconst 0, 1) := by decide +kernel
theorem dX4_belowSize_17 : decode cX4_belowSize 17 = .ok (.ireturn, 1) := by decide +kernel
theorem dX4_cutBelow_0 : decode cX4_cutBelow 0 = .ok (.iload_n 1, 1) := by decide +kernel
theorem dX4_cutBelow_1 : decode cX4_cutBelow 1 = .ok (.invokestatic 32, 3) := by decide +kernel
theorem dX4_cutBelow_4 : decode cX4_cutBelow 4 = .ok (.ifCond .eq 10, 3) := by decide +kernel
theorem dX4_cutBelow_7 : decode cX4_cutBelow 7 = .ok (.aload_n 0, 1) := by decide +kernel
theorem dX4_cutBelow_8 : decode cX4_cutBelow 8 = .ok (.getfield 15, 3) := by decide +kernel
theorem dX4_cutBelow_11 : decode cX4_cutBelow 11 = .ok (.iload_n 1, 1) := by decide +kernel
theorem dX4_cutBelow_12 : decode cX4_cutBelow 12 = .ok (.iload_n 2, 1) := by decide +kernel
theorem dX4_cutBelow_13 : decode cX4_cutBelow 13 = .ok (.iastore, 1) := by decide +kernel
theorem dX4_cutBelow_14 : decode cX4_cutBelow 14 = .ok (.return_, 1) := by decide +kernel
theorem dX4_addBelow_0 : decode cX4_addBelow 0 = .ok (.iload_n 1, 1) := by decide +kernel
theorem dX4_addBelow_1 : decode cX4_addBelow 1 = .ok (.invokestatic 32, 3) := by decide +kernel
theorem dX4_addBelow_4 : decode cX4_addBelow 4 = .ok (.ifCond .eq 49, 3) := by decide +kernel
theorem dX4_addBelow_7 : decode cX4_addBelow 7 = .ok (.iload_n 2, 1) := by decide +kernel
theorem dX4_addBelow_8 : decode cX4_addBelow 8 = .ok (.invokestatic 32, 3) := by decide +kernel
theorem dX4_addBelow_11 : decode cX4_addBelow 11 = .ok (.ifCond .eq 42, 3) := by decide +kernel
theorem dX4_addBelow_14 : decode cX4_addBelow 14 = .ok (.aload_n 0, 1) := by decide +kernel
theorem dX4_addBelow_15 : decode cX4_addBelow 15 = .ok (.getfield 15, 3) := by decide +kernel
theorem dX4_addBelow_18 : decode cX4_addBelow 18 = .ok (.iload_n 1, 1) := by decide +kernel
theorem dX4_addBelow_19 : decode cX4_addBelow 19 = .ok (.iaload, 1) := by decide +kernel
theorem dX4_addBelow_20 : decode cX4_addBelow 20 = .ok (.istore_n 3, 1) := by decide +kernel
theorem dX4_addBelow_21 : decode cX4_addBelow 21 = .ok (.iload_n 3, 1) := by decide +kernel
theorem dX4_addBelow_22 : decode cX4_addBelow 22 = .ok (.ifCond .lt 22, 3) := by decide +kernel
theorem dX4_addBelow_25 : decode cX4_addBelow 25 = .ok (.iload_n 3, 1) := by decide +kernel
theorem dX4_addBelow_26 : decode cX4_addBelow 26 = .ok (.bipush 60, 2) := by decide +kernel
theorem dX4_addBelow_28 : decode cX4_addBelow 28 = .ok (.if_icmp .ge 16, 3) := by decide +kernel
theorem dX4_addBelow_31 : decode cX4_addBelow 31 = .ok (.aload_n 0, 1) := by decide +kernel
theorem dX4_addBelow_32 : decode cX4_addBelow 32 = .ok (.getfield 18, 3) := by decide +kernel
theorem dX4_addBelow_35 : decode cX4_addBelow 35 = .ok (.iload_n 1, 1) := by decide +kernel
theorem dX4_addBelow_36 : decode cX4_addBelow 36 = .ok (.bipush 60, 2) := by decide +kernel
theorem dX4_addBelow_38 : decode cX4_addBelow 38 = .ok (.imul, 1) := by decide +kernel
theorem dX4_addBelow_39 : decode cX4_addBelow 39 = .ok (.iload_n 3, 1) := by decide +kernel
theorem dX4_addBelow_40 : decode cX4_addBelow 40 = .ok (.iadd, 1) := by decide +kernel
theorem dX4_addBelow_41 : decode cX4_addBelow 41 = .ok (.iload_n 2, 1) := by decide +kernel
theorem dX4_addBelow_42 : decode cX4_addBelow 42 = .ok (.i2b, 1) := by decide +kernel
theorem dX4_addBelow_43 : decode cX4_addBelow 43 = .ok (.bastore, 1) := by decide +kernel
theorem dX4_addBelow_44 : decode cX4_addBelow 44 = .ok (.aload_n 0, 1) := by decide +kernel
theorem dX4_addBelow_45 : decode cX4_addBelow 45 = .ok (.getfield 15, 3) := by decide +kernel
theorem dX4_addBelow_48 : decode cX4_addBelow 48 = .ok (.iload_n 1, 1) := by decide +kernel
theorem dX4_addBelow_49 : decode cX4_addBelow 49 = .ok (.iload_n 3, 1) := by decide +kernel
theorem dX4_addBelow_50 : decode cX4_addBelow 50 = .ok (.iconst 1, 1) := by decide +kernel
theorem dX4_addBelow_51 : decode cX4_addBelow 51 = .ok (.iadd, 1) := by decide +kernel
theorem dX4_addBelow_52 : decode cX4_addBelow 52 = .ok (.iastore, 1) := by decide +kernel
theorem dX4_addBelow_53 : decode cX4_addBelow 53 = .ok (.return_, 1) := by decide +kernel
theorem dX4_below_0 : decode cX4_below 0 = .ok (.iload_n 1, 1) := by decide +kernel
theorem dX4_below_1 : decode cX4_below 1 = .ok (.invokestatic 32, 3) := by decide +kernel
theorem dX4_below_4 : decode cX4_below 4 = .ok (.ifCond .eq 27, 3) := by decide +kernel
theorem dX4_below_7 : decode cX4_below 7 = .ok (.iload_n 2, 1) := by decide +kernel
theorem dX4_below_8 : decode cX4_below 8 = .ok (.ifCond .lt 23, 3) := by decide +kernel
theorem dX4_below_11 : decode cX4_below 11 = .ok (.iload_n 2, 1) := by decide +kernel
theorem dX4_below_12 : decode cX4_below 12 = .ok (.bipush 60, 2) := by decide +kernel
theorem dX4_below_14 : decode cX4_below 14 = .ok (.if_icmp .ge 17, 3) := by decide +kernel
theorem dX4_below_17 : decode cX4_below 17 = .ok (.aload_n 0, 1) := by decide +kernel
theorem dX4_below_18 : decode cX4_below 18 = .ok (.getfield 18, 3) := by decide +kernel
theorem dX4_below_21 : decode cX4_below 21 = .ok (.iload_n 1, 1) := by decide +kernel
theorem dX4_below_22 : decode cX4_below 22 = .ok (.bipush 60, 2) := by decide +kernel
theorem dX4_below_24 : decode cX4_below 24 = .ok (.imul, 1) := by decide +kernel
theorem dX4_below_25 : decode cX4_below 25 = .ok (.iload_n 2, 1) := by decide +kernel
theorem dX4_below_26 : decode cX4_below 26 = .ok (.iadd, 1) := by decide +kernel
theorem dX4_below_27 : decode cX4_below 27 = .ok (.baload, 1) := by decide +kernel
theorem dX4_below_28 : decode cX4_below 28 = .ok (.goto 4, 3) := by decide +kernel
theorem dX4_below_31 : decode cX4_below 31 = .ok (.iconst (-1), 1) := by decide +kernel
theorem dX4_below_32 : decode cX4_below 32 = .ok (.ireturn, 1) := by decide +kernel
theorem dX5_init_0 : decode cX5_init 0 = .ok (.aload_n 0, 1) := by decide +kernel
theorem dX5_init_1 : decode cX5_init 1 = .ok (.invokespecial 1, 3) := by decide +kernel
theorem dX5_init_4 : decode cX5_init 4 = .ok (.aload_n 0, 1) := by decide +kernel
theorem dX5_init_5 : decode cX5_init 5 = .ok (.iload_n 1, 1) := by decide +kernel
theorem dX5_init_6 : decode cX5_init 6 = .ok (.putfield 7, 3) := by decide +kernel
theorem dX5_init_9 : decode cX5_init 9 = .ok (.aload_n 0, 1) := by decide +kernel
theorem dX5_init_10 : decode cX5_init 10 = .ok (.iload_n 2, 1) := by decide +kernel
theorem dX5_init_11 : decode cX5_init 11 = .ok (.putfield 13, 3) := by decide +kernel
theorem dX5_init_14 : decode cX5_init 14 = .ok (.aload_n 0, 1) := by decide +kernel
theorem dX5_init_15 : decode cX5_init 15 = .ok (.iload_n 3, 1) := by decide +kernel
theorem dX5_init_16 : decode cX5_init 16 = .ok (.putfield 16, 3) := by decide +kernel
theorem dX5_init_19 : decode cX5_init 19 = .ok (.aload_n 0, 1) := by decide +kernel
theorem dX5_init_20 : decode cX5_init 20 = .ok (.aload 4, 2) := by decide +kernel
theorem dX5_init_22 : decode cX5_init 22 = .ok (.putfield 19, 3) := by decide +kernel
theorem dX5_init_25 : decode cX5_init 25 = .ok (.return_, 1) := by decide +kernel
theorem dX6_init_0 : decode cX6_init 0 = .ok (.aload_n 0, 1) := by decide +kernel
theorem dX6_init_1 : decode cX6_init 1 = .ok (.invokespecial 3, 3) := by decide +kernel
theorem dX6_init_4 : decode cX6_init 4 = .ok (.aload_n 0, 1) := by decide +kernel
theorem dX6_init_5 : decode cX6_init 5 = .ok (.aload_n 1, 1) := by decide +kernel
theorem dX6_init_6 : decode cX6_init 6 = .ok (.putfield 9, 3) := by decide +kernel
theorem dX6_init_9 : decode cX6_init 9 = .ok (.aload_n 0, 1) := by decide +kernel
theorem dX6_init_10 : decode cX6_init 10 = .ok (.new 15, 3) := by decide +kernel
theorem dX6_init_13 : decode cX6_init 13 = .ok (.dup, 1) := by decide +kernel
theorem dX6_init_14 : decode cX6_init 14 = .ok (.invokespecial 17, 3) := by decide +kernel
theorem dX6_init_17 : decode cX6_init 17 = .ok (.putfield 18, 3) := by decide +kernel
theorem dX6_init_20 : decode cX6_init 20 = .ok (.return_, 1) := by decide +kernel
theorem dX6_fault_0 : decode cX6_fault 0 = .ok (.aload_n 0, 1) := by decide +kernel
theorem dX6_fault_1 : decode cX6_fault 1 = .ok (.getfield 22, 3) := by decide +kernel
theorem dX6_fault_4 : decode cX6_fault 4 = .ok (.ireturn, 1) := by decide +kernel
theorem dX6_ruleRead_0 : decode cX6_ruleRead 0 = .ok (.aload_n 0, 1) := by decide +kernel
theorem dX6_ruleRead_1 : decode cX6_ruleRead 1 = .ok (.getfield 26, 3) := by decide +kernel
theorem dX6_ruleRead_4 : decode cX6_ruleRead 4 = .ok (.ireturn, 1) := by decide +kernel
theorem dX6_read_0 : decode cX6_read 0 = .ok (.aload_n 0, 1) := by decide +kernel
theorem dX6_read_1 : decode cX6_read 1 = .ok (.iconst 0, 1) := by decide +kernel
theorem dX6_read_2 : decode cX6_read 2 = .ok (.putfield 22, 3) := by decide +kernel
theorem dX6_read_5 : decode cX6_read 5 = .ok (.aload_n 0, 1) := by decide +kernel
theorem dX6_read_6 : decode cX6_read 6 = .ok (.new 15, 3) := by decide +kernel
theorem dX6_read_9 : decode cX6_read 9 = .ok (.dup, 1) := by decide +kernel
theorem dX6_read_10 : decode cX6_read 10 = .ok (.invokespecial 17, 3) := by decide +kernel
theorem dX6_read_13 : decode cX6_read 13 = .ok (.putfield 18, 3) := by decide +kernel
theorem dX6_read_16 : decode cX6_read 16 = .ok (.aload_n 0, 1) := by decide +kernel
theorem dX6_read_17 : decode cX6_read 17 = .ok (.getfield 9, 3) := by decide +kernel
theorem dX6_read_20 : decode cX6_read 20 = .ok (.aload_n 0, 1) := by decide +kernel
theorem dX6_read_21 : decode cX6_read 21 = .ok (.getfield 22, 3) := by decide +kernel
theorem dX6_read_24 : decode cX6_read 24 = .ok (.invokevirtual 29, 3) := by decide +kernel
theorem dX6_read_27 : decode cX6_read 27 = .ok (.istore_n 1, 1) := by decide +kernel
theorem dX6_read_28 : decode cX6_read 28 = .ok (.iload_n 1, 1) := by decide +kernel
theorem dX6_read_29 : decode cX6_read 29 = .ok (.invokestatic 34, 3) := by decide +kernel
theorem dX6_read_32 : decode cX6_read 32 = .ok (.ifCond .ne 5, 3) := by decide +kernel
theorem dX6_read_35 : decode cX6_read 35 = .ok (.aconst_null, 1) := by decide +kernel
theorem dX6_read_36 : decode cX6_read 36 = .ok (.areturn, 1) := by decide +kernel
theorem dX6_read_37 : decode cX6_read 37 = .ok (.aload_n 0, 1) := by decide +kernel
theorem dX6_read_38 : decode cX6_read 38 = .ok (.iload_n 1, 1) := by decide +kernel
theorem dX6_read_39 : decode cX6_read 39 = .ok (.bipush 65, 2) := by decide +kernel
theorem dX6_read_41 : decode cX6_read 41 = .ok (.isub, 1) := by decide +kernel
theorem dX6_read_42 : decode cX6_read 42 = .ok (.putfield 26, 3) := by decide +kernel
theorem dX6_read_45 : decode cX6_read 45 = .ok (.aload_n 0, 1) := by decide +kernel
theorem dX6_read_46 : decode cX6_read 46 = .ok (.dup, 1) := by decide +kernel
theorem dX6_read_47 : decode cX6_read 47 = .ok (.getfield 22, 3) := by decide +kernel
theorem dX6_read_50 : decode cX6_read 50 = .ok (.iconst 1, 1) := by decide +kernel
theorem dX6_read_51 : decode cX6_read 51 = .ok (.iadd, 1) := by decide +kernel
theorem dX6_read_52 : decode cX6_read 52 = .ok (.putfield 22, 3) := by decide +kernel
theorem dX6_read_55 : decode cX6_read 55 = .ok (.aload_n 0, 1) := by decide +kernel
theorem dX6_read_56 : decode cX6_read 56 = .ok (.bipush 61, 2) := by decide +kernel
theorem dX6_read_58 : decode cX6_read 58 = .ok (.invokevirtual 38, 3) := by decide +kernel
theorem dX6_read_61 : decode cX6_read 61 = .ok (.ifCond .eq 25, 3) := by decide +kernel
theorem dX6_read_64 : decode cX6_read 64 = .ok (.aload_n 0, 1) := by decide +kernel
theorem dX6_read_65 : decode cX6_read 65 = .ok (.iconst 0, 1) := by decide +kernel
theorem dX6_read_66 : decode cX6_read 66 = .ok (.invokevirtual 41, 3) := by decide +kernel
theorem dX6_read_69 : decode cX6_read 69 = .ok (.ifnull 17, 3) := by decide +kernel
theorem dX6_read_72 : decode cX6_read 72 = .ok (.aload_n 0, 1) := by decide +kernel
theorem dX6_read_73 : decode cX6_read 73 = .ok (.getfield 22, 3) := by decide +kernel
theorem dX6_read_76 : decode cX6_read 76 = .ok (.aload_n 0, 1) := by decide +kernel
theorem dX6_read_77 : decode cX6_read 77 = .ok (.getfield 9, 3) := by decide +kernel
theorem dX6_read_80 : decode cX6_read 80 = .ok (.invokevirtual 45, 3) := by decide +kernel
theorem dX6_read_83 : decode cX6_read 83 = .ok (.if_icmp .ge 5, 3) := by decide +kernel
theorem dX6_read_86 : decode cX6_read 86 = .ok (.aconst_null, 1) := by decide +kernel
theorem dX6_read_87 : decode cX6_read 87 = .ok (.areturn, 1) := by decide +kernel
theorem dX6_read_88 : decode cX6_read 88 = .ok (.aload_n 0, 1) := by decide +kernel
theorem dX6_read_89 : decode cX6_read 89 = .ok (.getfield 18, 3) := by decide +kernel
theorem dX6_read_92 : decode cX6_read 92 = .ok (.areturn, 1) := by decide +kernel
theorem dX6_take_0 : decode cX6_take 0 = .ok (.aload_n 0, 1) := by decide +kernel
theorem dX6_take_1 : decode cX6_take 1 = .ok (.getfield 9, 3) := by decide +kernel
theorem dX6_take_4 : decode cX6_take 4 = .ok (.aload_n 0, 1) := by decide +kernel
theorem dX6_take_5 : decode cX6_take 5 = .ok (.getfield 22, 3) := by decide +kernel
theorem dX6_take_8 : decode cX6_take 8 = .ok (.invokevirtual 29, 3) := by decide +kernel
theorem dX6_take_11 : decode cX6_take 11 = .ok (.iload_n 1, 1) := by decide +kernel
theorem dX6_take_12 : decode cX6_take 12 = .ok (.if_icmp .eq 5, 3) := by decide +kernel
theorem dX6_take_15 : decode cX6_take 15 = .ok (.iconst 0, 1) := by decide +kernel
theorem dX6_take_16 : decode cX6_take 16 = .ok (.ireturn, 1) := by decide +kernel
theorem dX6_take_17 : decode cX6_take 17 = .ok (.aload_n 0, 1) := by decide +kernel
theorem dX6_take_18 : decode cX6_take 18 = .ok (.dup, 1) := by decide +kernel
theorem dX6_take_19 : decode cX6_take 19 = .ok (.getfield 22, 3) := by decide +kernel
theorem dX6_take_22 : decode cX6_take 22 = .ok (.iconst 1, 1) := by decide +kernel
theorem dX6_take_23 : decode cX6_take 23 = .ok (.iadd, 1) := by decide +kernel
theorem dX6_take_24 : decode cX6_take 24 = .ok (.putfield 22, 3) := by decide +kernel
theorem dX6_take_27 : decode cX6_take 27 = .ok (.iconst 1, 1) := by decide +kernel
theorem dX6_take_28 : decode cX6_take 28 = .ok (.ireturn, 1) := by decide +kernel
theorem dX6_readChoice_0 : decode cX6_readChoice 0 = .ok (.aload_n 0, 1) := by decide +kernel
theorem dX6_readChoice_1 : decode cX6_readChoice 1 = .ok (.iload_n 1, 1) := by decide +kernel
theorem dX6_readChoice_2 : decode cX6_readChoice 2 = .ok (.invokevirtual 49, 3) := by decide +kernel
theorem dX6_readChoice_5 : decode cX6_readChoice 5 = .ok (.astore_n 2, 1) := by decide +kernel
theorem dX6_readChoice_6 : decode cX6_readChoice 6 = .ok (.aload_n 2, 1) := by decide +kernel
theorem dX6_readChoice_7 : decode cX6_readChoice 7 = .ok (.astore_n 3, 1) := by decide +kernel
theorem dX6_readChoice_8 : decode cX6_readChoice 8 = .ok (.iconst 0, 1) := by decide +kernel
theorem dX6_readChoice_9 : decode cX6_readChoice 9 = .ok (.istore 4, 2) := by decide +kernel
theorem dX6_readChoice_11 : decode cX6_readChoice 11 = .ok (.iload 4, 2) := by decide +kernel
theorem dX6_readChoice_13 : decode cX6_readChoice 13 = .ok (.bipush 24, 2) := by decide +kernel
theorem dX6_readChoice_15 : decode cX6_readChoice 15 = .ok (.if_icmp .ge 38, 3) := by decide +kernel
theorem dX6_readChoice_18 : decode cX6_readChoice 18 = .ok (.aload_n 3, 1) := by decide +kernel
theorem dX6_readChoice_19 : decode cX6_readChoice 19 = .ok (.ifnull 34, 3) := by decide +kernel
theorem dX6_readChoice_22 : decode cX6_readChoice 22 = .ok (.aload_n 0, 1) := by decide +kernel
theorem dX6_readChoice_23 : decode cX6_readChoice 23 = .ok (.bipush 47, 2) := by decide +kernel
theorem dX6_readChoice_25 : decode cX6_readChoice 25 = .ok (.invokevirtual 38, 3) := by decide +kernel
theorem dX6_readChoice_28 : decode cX6_readChoice 28 = .ok (.ifCond .eq 25, 3) := by decide +kernel
theorem dX6_readChoice_31 : decode cX6_readChoice 31 = .ok (.aload_n 0, 1) := by decide +kernel
theorem dX6_readChoice_32 : decode cX6_readChoice 32 = .ok (.iload_n 1, 1) := by decide +kernel
theorem dX6_readChoice_33 : decode cX6_readChoice 33 = .ok (.invokevirtual 49, 3) := by decide +kernel
theorem dX6_readChoice_36 : decode cX6_readChoice 36 = .ok (.astore 5, 2) := by decide +kernel
theorem dX6_readChoice_38 : decode cX6_readChoice 38 = .ok (.aload_n 3, 1) := by decide +kernel
theorem dX6_readChoice_39 : decode cX6_readChoice 39 = .ok (.aload 5, 2) := by decide +kernel
theorem dX6_readChoice_41 : decode cX6_readChoice 41 = .ok (.putfield 52, 3) := by decide +kernel
theorem dX6_readChoice_44 : decode cX6_readChoice 44 = .ok (.aload 5, 2) := by decide +kernel
theorem dX6_readChoice_46 : decode cX6_readChoice 46 = .ok (.astore_n 3, 1) := by decide +kernel
theorem dX6_readChoice_47 : decode cX6_readChoice 47 = .ok (.iinc 4 1, 3) := by decide +kernel
theorem dX6_readChoice_50 : decode cX6_readChoice 50 = .ok (.goto (-39), 3) := by decide +kernel
theorem dX6_readChoice_53 : decode cX6_readChoice 53 = .ok (.aload_n 3, 1) := by decide +kernel
theorem dX6_readChoice_54 : decode cX6_readChoice 54 = .ok (.ifnull 8, 3) := by decide +kernel
theorem dX6_readChoice_57 : decode cX6_readChoice 57 = .ok (.aload_n 3, 1) := by decide +kernel
theorem dX6_readChoice_58 : decode cX6_readChoice 58 = .ok (.aload_n 2, 1) := by decide +kernel
theorem dX6_readChoice_59 : decode cX6_readChoice 59 = .ok (.if_acmp .ne 5, 3) := by decide +kernel
theorem dX6_readChoice_62 : decode cX6_readChoice 62 = .ok (.aload_n 3, 1) := by decide +kernel
theorem dX6_readChoice_63 : decode cX6_readChoice 63 = .ok (.areturn, 1) := by decide +kernel
theorem dX6_readChoice_64 : decode cX6_readChoice 64 = .ok (.aload_n 0, 1) := by decide +kernel
theorem dX6_readChoice_65 : decode cX6_readChoice 65 = .ok (.getfield 18, 3) := by decide +kernel
theorem dX6_readChoice_68 : decode cX6_readChoice 68 = .ok (.iconst 4, 1) := by decide +kernel
theorem dX6_readChoice_69 : decode cX6_readChoice 69 = .ok (.iconst 0, 1) := by decide +kernel
theorem dX6_readChoice_70 : decode cX6_readChoice 70 = .ok (.iconst 0, 1) := by decide +kernel
theorem dX6_readChoice_71 : decode cX6_readChoice 71 = .ok (.aload_n 2, 1) := by decide +kernel
theorem dX6_readChoice_72 : decode cX6_readChoice 72 = .ok (.invokevirtual 58, 3) := by decide +kernel
theorem dX6_readChoice_75 : decode cX6_readChoice 75 = .ok (.areturn, 1) := by decide +kernel
theorem dX6_readRow_0 : decode cX6_readRow 0 = .ok (.aload_n 0, 1) := by decide +kernel
theorem dX6_readRow_1 : decode cX6_readRow 1 = .ok (.iload_n 1, 1) := by decide +kernel
theorem dX6_readRow_2 : decode cX6_readRow 2 = .ok (.invokevirtual 62, 3) := by decide +kernel
theorem dX6_readRow_5 : decode cX6_readRow 5 = .ok (.astore_n 2, 1) := by decide +kernel
theorem dX6_readRow_6 : decode cX6_readRow 6 = .ok (.aload_n 2, 1) := by decide +kernel
theorem dX6_readRow_7 : decode cX6_readRow 7 = .ok (.astore_n 3, 1) := by decide +kernel
theorem dX6_readRow_8 : decode cX6_readRow 8 = .ok (.iconst 0, 1) := by decide +kernel
theorem dX6_readRow_9 : decode cX6_readRow 9 = .ok (.istore 4, 2) := by decide +kernel
theorem dX6_readRow_11 : decode cX6_readRow 11 = .ok (.iload 4, 2) := by decide +kernel
theorem dX6_readRow_13 : decode cX6_readRow 13 = .ok (.bipush 24, 2) := by decide +kernel
theorem dX6_readRow_15 : decode cX6_readRow 15 = .ok (.if_icmp .ge 46, 3) := by decide +kernel
theorem dX6_readRow_18 : decode cX6_readRow 18 = .ok (.aload_n 3, 1) := by decide +kernel
theorem dX6_readRow_19 : decode cX6_readRow 19 = .ok (.ifnull 42, 3) := by decide +kernel
theorem dX6_readRow_22 : decode cX6_readRow 22 = .ok (.aload_n 0, 1) := by decide +kernel
theorem dX6_readRow_23 : decode cX6_readRow 23 = .ok (.getfield 9, 3) := by decide +kernel
theorem dX6_readRow_26 : decode cX6_readRow 26 = .ok (.aload_n 0, 1) := by decide +kernel
theorem dX6_readRow_27 : decode cX6_readRow 27 = .ok (.getfield 22, 3) := by decide +kernel
theorem dX6_readRow_30 : decode cX6_readRow 30 = .ok (.invokevirtual 29, 3) := by decide +kernel
theorem dX6_readRow_33 : decode cX6_readRow 33 = .ok (.invokestatic 65, 3) := by decide +kernel
theorem dX6_readRow_36 : decode cX6_readRow 36 = .ok (.ifCond .eq 25, 3) := by decide +kernel
theorem dX6_readRow_39 : decode cX6_readRow 39 = .ok (.aload_n 0, 1) := by decide +kernel
theorem dX6_readRow_40 : decode cX6_readRow 40 = .ok (.iload_n 1, 1) := by decide +kernel
theorem dX6_readRow_41 : decode cX6_readRow 41 = .ok (.invokevirtual 62, 3) := by decide +kernel
theorem dX6_readRow_44 : decode cX6_readRow 44 = .ok (.astore 5, 2) := by decide +kernel
theorem dX6_readRow_46 : decode cX6_readRow 46 = .ok (.aload_n 3, 1) := by decide +kernel
theorem dX6_readRow_47 : decode cX6_readRow 47 = .ok (.aload 5, 2) := by decide +kernel
theorem dX6_readRow_49 : decode cX6_readRow 49 = .ok (.putfield 52, 3) := by decide +kernel
theorem dX6_readRow_52 : decode cX6_readRow 52 = .ok (.aload 5, 2) := by decide +kernel
theorem dX6_readRow_54 : decode cX6_readRow 54 = .ok (.astore_n 3, 1) := by decide +kernel
theorem dX6_readRow_55 : decode cX6_readRow 55 = .ok (.iinc 4 1, 3) := by decide +kernel
theorem dX6_readRow_58 : decode cX6_readRow 58 = .ok (.goto (-47), 3) := by decide +kernel
theorem dX6_readRow_61 : decode cX6_readRow 61 = .ok (.aload_n 3, 1) := by decide +kernel
theorem dX6_readRow_62 : decode cX6_readRow 62 = .ok (.ifnull 8, 3) := by decide +kernel
theorem dX6_readRow_65 : decode cX6_readRow 65 = .ok (.aload_n 3, 1) := by decide +kernel
theorem dX6_readRow_66 : decode cX6_readRow 66 = .ok (.aload_n 2, 1) := by decide +kernel
theorem dX6_readRow_67 : decode cX6_readRow 67 = .ok (.if_acmp .ne 5, 3) := by decide +kernel
theorem dX6_readRow_70 : decode cX6_readRow 70 = .ok (.aload_n 3, 1) := by decide +kernel
theorem dX6_readRow_71 : decode cX6_readRow 71 = .ok (.areturn, 1) := by decide +kernel
theorem dX6_readRow_72 : decode cX6_readRow 72 = .ok (.aload_n 0, 1) := by decide +kernel
theorem dX6_readRow_73 : decode cX6_readRow 73 = .ok (.getfield 18, 3) := by decide +kernel
theorem dX6_readRow_76 : decode cX6_readRow 76 = .ok (.iconst 3, 1) := by decide +kernel
theorem dX6_readRow_77 : decode cX6_readRow 77 = .ok (.iconst 0, 1) := by decide +kernel
theorem dX6_readRow_78 : decode cX6_readRow 78 = .ok (.iconst 0, 1) := by decide +kernel
theorem dX6_readRow_79 : decode cX6_readRow 79 = .ok (.aload_n 2, 1) := by decide +kernel
theorem dX6_readRow_80 : decode cX6_readRow 80 = .ok (.invokevirtual 58, 3) := by decide +kernel
theorem dX6_readRow_83 : decode cX6_readRow 83 = .ok (.areturn, 1) := by decide +kernel
theorem dX6_readPart_0 : decode cX6_readPart 0 = .ok (.aload_n 0, 1) := by decide +kernel
theorem dX6_readPart_1 : decode cX6_readPart 1 = .ok (.getfield 9, 3) := by decide +kernel
theorem dX6_readPart_4 : decode cX6_readPart 4 = .ok (.aload_n 0, 1) := by decide +kernel
theorem dX6_readPart_5 : decode cX6_readPart 5 = .ok (.getfield 22, 3) := by decide +kernel
theorem dX6_readPart_8 : decode cX6_readPart 8 = .ok (.invokevirtual 29, 3) := by decide +kernel
theorem dX6_readPart_11 : decode cX6_readPart 11 = .ok (.invokestatic 68, 3) := by decide +kernel
theorem dX6_readPart_14 : decode cX6_readPart 14 = .ok (.istore_n 2, 1) := by decide +kernel
theorem dX6_readPart_15 : decode cX6_readPart 15 = .ok (.iload_n 2, 1) := by decide +kernel
theorem dX6_readPart_16 : decode cX6_readPart 16 = .ok (.ifCond .eq 13, 3) := by decide +kernel
theorem dX6_readPart_19 : decode cX6_readPart 19 = .ok (.aload_n 0, 1) := by decide +kernel
theorem dX6_readPart_20 : decode cX6_readPart 20 = .ok (.dup, 1) := by decide +kernel
theorem dX6_readPart_21 : decode cX6_readPart 21 = .ok (.getfield 22, 3) := by decide +kernel
theorem dX6_readPart_24 : decode cX6_readPart 24 = .ok (.iconst 1, 1) := by decide +kernel
theorem dX6_readPart_25 : decode cX6_readPart 25 = .ok (.iadd, 1) := by decide +kernel
theorem dX6_readPart_26 : decode cX6_readPart 26 = .ok (.putfield 22, 3) := by decide +kernel
theorem dX6_readPart_29 : decode cX6_readPart 29 = .ok (.aload_n 0, 1) := by decide +kernel
theorem dX6_readPart_30 : decode cX6_readPart 30 = .ok (.iload_n 1, 1) := by decide +kernel
theorem dX6_readPart_31 : decode cX6_readPart 31 = .ok (.invokevirtual 72, 3) := by decide +kernel
theorem dX6_readPart_34 : decode cX6_readPart 34 = .ok (.astore_n 3, 1) := by decide +kernel
theorem dX6_readPart_35 : decode cX6_readPart 35 = .ok (.aload_n 3, 1) := by decide +kernel
theorem dX6_readPart_36 : decode cX6_readPart 36 = .ok (.ifnonnull 5, 3) := by decide +kernel
theorem dX6_readPart_39 : decode cX6_readPart 39 = .ok (.aconst_null, 1) := by decide +kernel
theorem dX6_readPart_40 : decode cX6_readPart 40 = .ok (.areturn, 1) := by decide +kernel
theorem dX6_readPart_41 : decode cX6_readPart 41 = .ok (.aload_n 0, 1) := by decide +kernel
theorem dX6_readPart_42 : decode cX6_readPart 42 = .ok (.getfield 9, 3) := by decide +kernel
theorem dX6_readPart_45 : decode cX6_readPart 45 = .ok (.aload_n 0, 1) := by decide +kernel
theorem dX6_readPart_46 : decode cX6_readPart 46 = .ok (.getfield 22, 3) := by decide +kernel
theorem dX6_readPart_49 : decode cX6_readPart 49 = .ok (.invokevirtual 29, 3) := by decide +kernel
theorem dX6_readPart_52 : decode cX6_readPart 52 = .ok (.invokestatic 75, 3) := by decide +kernel
theorem dX6_readPart_55 : decode cX6_readPart 55 = .ok (.istore 4, 2) := by decide +kernel
theorem dX6_readPart_57 : decode cX6_readPart 57 = .ok (.iload 4, 2) := by decide +kernel
theorem dX6_readPart_59 : decode cX6_readPart 59 = .ok (.ifCond .eq 26, 3) := by decide +kernel
theorem dX6_readPart_62 : decode cX6_readPart 62 = .ok (.aload_n 0, 1) := by decide +kernel
theorem dX6_readPart_63 : decode cX6_readPart 63 = .ok (.dup, 1) := by decide +kernel
theorem dX6_readPart_64 : decode cX6_readPart 64 = .ok (.getfield 22, 3) := by decide +kernel
theorem dX6_readPart_67 : decode cX6_readPart 67 = .ok (.iconst 1, 1) := by decide +kernel
theorem dX6_readPart_68 : decode cX6_readPart 68 = .ok (.iadd, 1) := by decide +kernel
theorem dX6_readPart_69 : decode cX6_readPart 69 = .ok (.putfield 22, 3) := by decide +kernel
theorem dX6_readPart_72 : decode cX6_readPart 72 = .ok (.aload_n 0, 1) := by decide +kernel
theorem dX6_readPart_73 : decode cX6_readPart 73 = .ok (.getfield 18, 3) := by decide +kernel
theorem dX6_readPart_76 : decode cX6_readPart 76 = .ok (.iload 4, 2) := by decide +kernel
theorem dX6_readPart_78 : decode cX6_readPart 78 = .ok (.iconst 0, 1) := by decide +kernel
theorem dX6_readPart_79 : decode cX6_readPart 79 = .ok (.iconst 0, 1) := by decide +kernel
theorem dX6_readPart_80 : decode cX6_readPart 80 = .ok (.aload_n 3, 1) := by decide +kernel
theorem dX6_readPart_81 : decode cX6_readPart 81 = .ok (.invokevirtual 58, 3) := by decide +kernel
theorem dX6_readPart_84 : decode cX6_readPart 84 = .ok (.astore_n 3, 1) := by decide +kernel
theorem dX6_readPart_85 : decode cX6_readPart 85 = .ok (.iload_n 2, 1) := by decide +kernel
theorem dX6_readPart_86 : decode cX6_readPart 86 = .ok (.ifCond .ne 7, 3) := by decide +kernel
theorem dX6_readPart_89 : decode cX6_readPart 89 = .ok (.aload_n 3, 1) := by decide +kernel
theorem dX6_readPart_90 : decode cX6_readPart 90 = .ok (.goto 14, 3) := by decide +kernel
theorem dX6_readPart_93 : decode cX6_readPart 93 = .ok (.aload_n 0, 1) := by decide +kernel
theorem dX6_readPart_94 : decode cX6_readPart 94 = .ok (.getfield 18, 3) := by decide +kernel
theorem dX6_readPart_97 : decode cX6_readPart 97 = .ok (.iload_n 2, 1) := by decide +kernel
theorem dX6_readPart_98 : decode cX6_readPart 98 = .ok (.iconst 0, 1) := by decide +kernel
theorem dX6_readPart_99 : decode cX6_readPart 99 = .ok (.iconst 0, 1) := by decide +kernel
theorem dX6_readPart_100 : decode cX6_readPart 100 = .ok (.aload_n 3, 1) := by decide +kernel
theorem dX6_readPart_101 : decode cX6_readPart 101 = .ok (.invokevirtual 58, 3) := by decide +kernel
theorem dX6_readPart_104 : decode cX6_readPart 104 = .ok (.areturn, 1) := by decide +kernel
theorem dX6_readUnit_0 : decode cX6_readUnit 0 = .ok (.aload_n 0, 1) := by decide +kernel
theorem dX6_readUnit_1 : decode cX6_readUnit 1 = .ok (.getfield 9, 3) := by decide +kernel
theorem dX6_readUnit_4 : decode cX6_readUnit 4 = .ok (.aload_n 0, 1) := by decide +kernel
theorem dX6_readUnit_5 : decode cX6_readUnit 5 = .ok (.getfield 22, 3) := by decide +kernel
theorem dX6_readUnit_8 : decode cX6_readUnit 8 = .ok (.invokevirtual 29, 3) := by decide +kernel
theorem dX6_readUnit_11 : decode cX6_readUnit 11 = .ok (.istore_n 2, 1) := by decide +kernel
theorem dX6_readUnit_12 : decode cX6_readUnit 12 = .ok (.iload_n 2, 1) := by decide +kernel
theorem dX6_readUnit_13 : decode cX6_readUnit 13 = .ok (.bipush 91, 2) := by decide +kernel
theorem dX6_readUnit_15 : decode cX6_readUnit 15 = .ok (.if_icmp .ne 8, 3) := by decide +kernel
theorem dX6_readUnit_18 : decode cX6_readUnit 18 = .ok (.aload_n 0, 1) := by decide +kernel
theorem dX6_readUnit_19 : decode cX6_readUnit 19 = .ok (.invokevirtual 78, 3) := by decide +kernel
theorem dX6_readUnit_22 : decode cX6_readUnit 22 = .ok (.areturn, 1) := by decide +kernel
theorem dX6_readUnit_23 : decode cX6_readUnit 23 = .ok (.iload_n 2, 1) := by decide +kernel
theorem dX6_readUnit_24 : decode cX6_readUnit 24 = .ok (.bipush 40, 2) := by decide +kernel
theorem dX6_readUnit_26 : decode cX6_readUnit 26 = .ok (.if_icmp .ne 20, 3) := by decide +kernel
theorem dX6_readUnit_29 : decode cX6_readUnit 29 = .ok (.iload_n 1, 1) := by decide +kernel
theorem dX6_readUnit_30 : decode cX6_readUnit 30 = .ok (.iconst 4, 1) := by decide +kernel
theorem dX6_readUnit_31 : decode cX6_readUnit 31 = .ok (.if_icmp .ge 13, 3) := by decide +kernel
theorem dX6_readUnit_34 : decode cX6_readUnit 34 = .ok (.aload_n 0, 1) := by decide +kernel
theorem dX6_readUnit_35 : decode cX6_readUnit 35 = .ok (.iload_n 1, 1) := by decide +kernel
theorem dX6_readUnit_36 : decode cX6_readUnit 36 = .ok (.iconst 1, 1) := by decide +kernel
theorem dX6_readUnit_37 : decode cX6_readUnit 37 = .ok (.iadd, 1) := by decide +kernel
theorem dX6_readUnit_38 : decode cX6_readUnit 38 = .ok (.invokevirtual 82, 3) := by decide +kernel
theorem dX6_readUnit_41 : decode cX6_readUnit 41 = .ok (.goto 4, 3) := by decide +kernel
theorem dX6_readUnit_44 : decode cX6_readUnit 44 = .ok (.aconst_null, 1) := by decide +kernel
theorem dX6_readUnit_45 : decode cX6_readUnit 45 = .ok (.areturn, 1) := by decide +kernel
theorem dX6_readUnit_46 : decode cX6_readUnit 46 = .ok (.iload_n 2, 1) := by decide +kernel
theorem dX6_readUnit_47 : decode cX6_readUnit 47 = .ok (.bipush 46, 2) := by decide +kernel
theorem dX6_readUnit_49 : decode cX6_readUnit 49 = .ok (.if_icmp .ne 27, 3) := by decide +kernel
theorem dX6_readUnit_52 : decode cX6_readUnit 52 = .ok (.aload_n 0, 1) := by decide +kernel
theorem dX6_readUnit_53 : decode cX6_readUnit 53 = .ok (.dup, 1) := by decide +kernel
theorem dX6_readUnit_54 : decode cX6_readUnit 54 = .ok (.getfield 22, 3) := by decide +kernel
theorem dX6_readUnit_57 : decode cX6_readUnit 57 = .ok (.iconst 1, 1) := by decide +kernel
theorem dX6_readUnit_58 : decode cX6_readUnit 58 = .ok (.iadd, 1) := by decide +kernel
theorem dX6_readUnit_59 : decode cX6_readUnit 59 = .ok (.putfield 22, 3) := by decide +kernel
theorem dX6_readUnit_62 : decode cX6_readUnit 62 = .ok (.aload_n 0, 1) := by decide +kernel
theorem dX6_readUnit_63 : decode cX6_readUnit 63 = .ok (.getfield 18, 3) := by decide +kernel
theorem dX6_readUnit_66 : decode cX6_readUnit 66 = .ok (.iconst 1, 1) := by decide +kernel
theorem dX6_readUnit_67 : decode cX6_readUnit 67 = .ok (.bipush 97, 2) := by decide +kernel
theorem dX6_readUnit_69 : decode cX6_readUnit 69 = .ok (.bipush 105, 2) := by decide +kernel
theorem dX6_readUnit_71 : decode cX6_readUnit 71 = .ok (.aconst_null, 1) := by decide +kernel
theorem dX6_readUnit_72 : decode cX6_readUnit 72 = .ok (.invokevirtual 58, 3) := by decide +kernel
theorem dX6_readUnit_75 : decode cX6_readUnit 75 = .ok (.areturn, 1) := by decide +kernel
theorem dX6_readUnit_76 : decode cX6_readUnit 76 = .ok (.iload_n 2, 1) := by decide +kernel
theorem dX6_readUnit_77 : decode cX6_readUnit 77 = .ok (.invokestatic 85, 3) := by decide +kernel
theorem dX6_readUnit_80 : decode cX6_readUnit 80 = .ok (.ifCond .eq 25, 3) := by decide +kernel
theorem dX6_readUnit_83 : decode cX6_readUnit 83 = .ok (.aload_n 0, 1) := by decide +kernel
theorem dX6_readUnit_84 : decode cX6_readUnit 84 = .ok (.dup, 1) := by decide +kernel
theorem dX6_readUnit_85 : decode cX6_readUnit 85 = .ok (.getfield 22, 3) := by decide +kernel
theorem dX6_readUnit_88 : decode cX6_readUnit 88 = .ok (.iconst 1, 1) := by decide +kernel
theorem dX6_readUnit_89 : decode cX6_readUnit 89 = .ok (.iadd, 1) := by decide +kernel
theorem dX6_readUnit_90 : decode cX6_readUnit 90 = .ok (.putfield 22, 3) := by decide +kernel
theorem dX6_readUnit_93 : decode cX6_readUnit 93 = .ok (.aload_n 0, 1) := by decide +kernel
theorem dX6_readUnit_94 : decode cX6_readUnit 94 = .ok (.getfield 18, 3) := by decide +kernel
theorem dX6_readUnit_97 : decode cX6_readUnit 97 = .ok (.iconst 1, 1) := by decide +kernel
theorem dX6_readUnit_98 : decode cX6_readUnit 98 = .ok (.iload_n 2, 1) := by decide +kernel
theorem dX6_readUnit_99 : decode cX6_readUnit 99 = .ok (.iload_n 2, 1) := by decide +kernel
theorem dX6_readUnit_100 : decode cX6_readUnit 100 = .ok (.aconst_null, 1) := by decide +kernel
theorem dX6_readUnit_101 : decode cX6_readUnit 101 = .ok (.invokevirtual 58, 3) := by decide +kernel
theorem dX6_readUnit_104 : decode cX6_readUnit 104 = .ok (.areturn, 1) := by decide +kernel
theorem dX6_readUnit_105 : decode cX6_readUnit 105 = .ok (.iload_n 2, 1) := by decide +kernel
theorem dX6_readUnit_106 : decode cX6_readUnit 106 = .ok (.invokestatic 34, 3) := by decide +kernel
theorem dX6_readUnit_109 : decode cX6_readUnit 109 = .ok (.ifCond .eq 28, 3) := by decide +kernel
theorem dX6_readUnit_112 : decode cX6_readUnit 112 = .ok (.aload_n 0, 1) := by decide +kernel
theorem dX6_readUnit_113 : decode cX6_readUnit 113 = .ok (.dup, 1) := by decide +kernel
theorem dX6_readUnit_114 : decode cX6_readUnit 114 = .ok (.getfield 22, 3) := by decide +kernel
theorem dX6_readUnit_117 : decode cX6_readUnit 117 = .ok (.iconst 1, 1) := by decide +kernel
theorem dX6_readUnit_118 : decode cX6_readUnit 118 = .ok (.iadd, 1) := by decide +kernel
theorem dX6_readUnit_119 : decode cX6_readUnit 119 = .ok (.putfield 22, 3) := by decide +kernel
theorem dX6_readUnit_122 : decode cX6_readUnit 122 = .ok (.aload_n 0, 1) := by decide +kernel
theorem dX6_readUnit_123 : decode cX6_readUnit 123 = .ok (.getfield 18, 3) := by decide +kernel
theorem dX6_readUnit_126 : decode cX6_readUnit 126 = .ok (.iconst 2, 1) := by decide +kernel
theorem dX6_readUnit_127 : decode cX6_readUnit 127 = .ok (.iload_n 2, 1) := by decide +kernel
theorem dX6_readUnit_128 : decode cX6_readUnit 128 = .ok (.bipush 65, 2) := by decide +kernel
theorem dX6_readUnit_130 : decode cX6_readUnit 130 = .ok (.isub, 1) := by decide +kernel
theorem dX6_readUnit_131 : decode cX6_readUnit 131 = .ok (.iconst 0, 1) := by decide +kernel
theorem dX6_readUnit_132 : decode cX6_readUnit 132 = .ok (.aconst_null, 1) := by decide +kernel
theorem dX6_readUnit_133 : decode cX6_readUnit 133 = .ok (.invokevirtual 58, 3) := by decide +kernel
theorem dX6_readUnit_136 : decode cX6_readUnit 136 = .ok (.areturn, 1) := by decide +kernel
theorem dX6_readUnit_137 : decode cX6_readUnit 137 = .ok (.aconst_null, 1) := by decide +kernel
theorem dX6_readUnit_138 : decode cX6_readUnit 138 = .ok (.areturn, 1) := by decide +kernel
theorem dX6_readGroup_0 : decode cX6_readGroup 0 = .ok (.aload_n 0, 1) := by decide +kernel
theorem dX6_readGroup_1 : decode cX6_readGroup 1 = .ok (.dup, 1) := by decide +kernel
theorem dX6_readGroup_2 : decode cX6_readGroup 2 = .ok (.getfield 22, 3) := by decide +kernel
theorem dX6_readGroup_5 : decode cX6_readGroup 5 = .ok (.iconst 1, 1) := by decide +kernel
theorem dX6_readGroup_6 : decode cX6_readGroup 6 = .ok (.iadd, 1) := by decide +kernel
theorem dX6_readGroup_7 : decode cX6_readGroup 7 = .ok (.putfield 22, 3) := by decide +kernel
theorem dX6_readGroup_10 : decode cX6_readGroup 10 = .ok (.aload_n 0, 1) := by decide +kernel
theorem dX6_readGroup_11 : decode cX6_readGroup 11 = .ok (.iload_n 1, 1) := by decide +kernel
theorem dX6_readGroup_12 : decode cX6_readGroup 12 = .ok (.invokevirtual 41, 3) := by decide +kernel
theorem dX6_readGroup_15 : decode cX6_readGroup 15 = .ok (.astore_n 2, 1) := by decide +kernel
theorem dX6_readGroup_16 : decode cX6_readGroup 16 = .ok (.aload_n 2, 1) := by decide +kernel
theorem dX6_readGroup_17 : decode cX6_readGroup 17 = .ok (.ifnull 16, 3) := by decide +kernel
theorem dX6_readGroup_20 : decode cX6_readGroup 20 = .ok (.aload_n 0, 1) := by decide +kernel
theorem dX6_readGroup_21 : decode cX6_readGroup 21 = .ok (.bipush 41, 2) := by decide +kernel
theorem dX6_readGroup_23 : decode cX6_readGroup 23 = .ok (.invokevirtual 38, 3) := by decide +kernel
theorem dX6_readGroup_26 : decode cX6_readGroup 26 = .ok (.ifCond .eq 7, 3) := by decide +kernel
theorem dX6_readGroup_29 : decode cX6_readGroup 29 = .ok (.aload_n 2, 1) := by decide +kernel
theorem dX6_readGroup_30 : decode cX6_readGroup 30 = .ok (.goto 4, 3) := by decide +kernel
theorem dX6_readGroup_33 : decode cX6_readGroup 33 = .ok (.aconst_null, 1) := by decide +kernel
theorem dX6_readGroup_34 : decode cX6_readGroup 34 = .ok (.areturn, 1) := by decide +kernel
theorem dX6_readRange_0 : decode cX6_readRange 0 = .ok (.aload_n 0, 1) := by decide +kernel
theorem dX6_readRange_1 : decode cX6_readRange 1 = .ok (.dup, 1) := by decide +kernel
theorem dX6_readRange_2 : decode cX6_readRange 2 = .ok (.getfield 22, 3) := by decide +kernel
theorem dX6_readRange_5 : decode cX6_readRange 5 = .ok (.iconst 1, 1) := by decide +kernel
theorem dX6_readRange_6 : decode cX6_readRange 6 = .ok (.iadd, 1) := by decide +kernel
theorem dX6_readRange_7 : decode cX6_readRange 7 = .ok (.putfield 22, 3) := by decide +kernel
theorem dX6_readRange_10 : decode cX6_readRange 10 = .ok (.aload_n 0, 1) := by decide +kernel
theorem dX6_readRange_11 : decode cX6_readRange 11 = .ok (.getfield 9, 3) := by decide +kernel
theorem dX6_readRange_14 : decode cX6_readRange 14 = .ok (.aload_n 0, 1) := by decide +kernel
theorem dX6_readRange_15 : decode cX6_readRange 15 = .ok (.getfield 22, 3) := by decide +kernel
theorem dX6_readRange_18 : decode cX6_readRange 18 = .ok (.invokevirtual 29, 3) := by decide +kernel
theorem dX6_readRange_21 : decode cX6_readRange 21 = .ok (.istore_n 1, 1) := by decide +kernel
theorem dX6_readRange_22 : decode cX6_readRange 22 = .ok (.iload_n 1, 1) := by decide +kernel
theorem dX6_readRange_23 : decode cX6_readRange 23 = .ok (.invokestatic 85, 3) := by decide +kernel
theorem dX6_readRange_26 : decode cX6_readRange 26 = .ok (.ifCond .ne 5, 3) := by decide +kernel
theorem dX6_readRange_29 : decode cX6_readRange 29 = .ok (.aconst_null, 1) := by decide +kernel
theorem dX6_readRange_30 : decode cX6_readRange 30 = .ok (.areturn, 1) := by decide +kernel
theorem dX6_readRange_31 : decode cX6_readRange 31 = .ok (.aload_n 0, 1) := by decide +kernel
theorem dX6_readRange_32 : decode cX6_readRange 32 = .ok (.dup, 1) := by decide +kernel
theorem dX6_readRange_33 : decode cX6_readRange 33 = .ok (.getfield 22, 3) := by decide +kernel
theorem dX6_readRange_36 : decode cX6_readRange 36 = .ok (.iconst 1, 1) := by decide +kernel
theorem dX6_readRange_37 : decode cX6_readRange 37 = .ok (.iadd, 1) := by decide +kernel
theorem dX6_readRange_38 : decode cX6_readRange 38 = .ok (.putfield 22, 3) := by decide +kernel
theorem dX6_readRange_41 : decode cX6_readRange 41 = .ok (.aload_n 0, 1) := by decide +kernel
theorem dX6_readRange_42 : decode cX6_readRange 42 = .ok (.bipush 45, 2) := by decide +kernel
theorem dX6_readRange_44 : decode cX6_readRange 44 = .ok (.invokevirtual 38, 3) := by decide +kernel
theorem dX6_readRange_47 : decode cX6_readRange 47 = .ok (.ifCond .ne 5, 3) := by decide +kernel
theorem dX6_readRange_50 : decode cX6_readRange 50 = .ok (.aconst_null, 1) := by decide +kernel
theorem dX6_readRange_51 : decode cX6_readRange 51 = .ok (.areturn, 1) := by decide +kernel
theorem dX6_readRange_52 : decode cX6_readRange 52 = .ok (.aload_n 0, 1) := by decide +kernel
theorem dX6_readRange_53 : decode cX6_readRange 53 = .ok (.getfield 9, 3) := by decide +kernel
theorem dX6_readRange_56 : decode cX6_readRange 56 = .ok (.aload_n 0, 1) := by decide +kernel
theorem dX6_readRange_57 : decode cX6_readRange 57 = .ok (.getfield 22, 3) := by decide +kernel
theorem dX6_readRange_60 : decode cX6_readRange 60 = .ok (.invokevirtual 29, 3) := by decide +kernel
theorem dX6_readRange_63 : decode cX6_readRange 63 = .ok (.istore_n 2, 1) := by decide +kernel
theorem dX6_readRange_64 : decode cX6_readRange 64 = .ok (.iload_n 2, 1) := by decide +kernel
theorem dX6_readRange_65 : decode cX6_readRange 65 = .ok (.invokestatic 85, 3) := by decide +kernel
theorem dX6_readRange_68 : decode cX6_readRange 68 = .ok (.ifCond .eq 8, 3) := by decide +kernel
theorem dX6_readRange_71 : decode cX6_readRange 71 = .ok (.iload_n 2, 1) := by decide +kernel
theorem dX6_readRange_72 : decode cX6_readRange 72 = .ok (.iload_n 1, 1) := by decide +kernel
theorem dX6_readRange_73 : decode cX6_readRange 73 = .ok (.if_icmp .ge 5, 3) := by decide +kernel
theorem dX6_readRange_76 : decode cX6_readRange 76 = .ok (.aconst_null, 1) := by decide +kernel
theorem dX6_readRange_77 : decode cX6_readRange 77 = .ok (.areturn, 1) := by decide +kernel
theorem dX6_readRange_78 : decode cX6_readRange 78 = .ok (.aload_n 0, 1) := by decide +kernel
theorem dX6_readRange_79 : decode cX6_readRange 79 = .ok (.dup, 1) := by decide +kernel
theorem dX6_readRange_80 : decode cX6_readRange 80 = .ok (.getfield 22, 3) := by decide +kernel
theorem dX6_readRange_83 : decode cX6_readRange 83 = .ok (.iconst 1, 1) := by decide +kernel
theorem dX6_readRange_84 : decode cX6_readRange 84 = .ok (.iadd, 1) := by decide +kernel
theorem dX6_readRange_85 : decode cX6_readRange 85 = .ok (.putfield 22, 3) := by decide +kernel
theorem dX6_readRange_88 : decode cX6_readRange 88 = .ok (.aload_n 0, 1) := by decide +kernel
theorem dX6_readRange_89 : decode cX6_readRange 89 = .ok (.bipush 93, 2) := by decide +kernel
theorem dX6_readRange_91 : decode cX6_readRange 91 = .ok (.invokevirtual 38, 3) := by decide +kernel
theorem dX6_readRange_94 : decode cX6_readRange 94 = .ok (.ifCond .eq 17, 3) := by decide +kernel
theorem dX6_readRange_97 : decode cX6_readRange 97 = .ok (.aload_n 0, 1) := by decide +kernel
theorem dX6_readRange_98 : decode cX6_readRange 98 = .ok (.getfield 18, 3) := by decide +kernel
theorem dX6_readRange_101 : decode cX6_readRange 101 = .ok (.iconst 1, 1) := by decide +kernel
theorem dX6_readRange_102 : decode cX6_readRange 102 = .ok (.iload_n 1, 1) := by decide +kernel
theorem dX6_readRange_103 : decode cX6_readRange 103 = .ok (.iload_n 2, 1) := by decide +kernel
theorem dX6_readRange_104 : decode cX6_readRange 104 = .ok (.aconst_null, 1) := by decide +kernel
theorem dX6_readRange_105 : decode cX6_readRange 105 = .ok (.invokevirtual 58, 3) := by decide +kernel
theorem dX6_readRange_108 : decode cX6_readRange 108 = .ok (.goto 4, 3) := by decide +kernel
theorem dX6_readRange_111 : decode cX6_readRange 111 = .ok (.aconst_null, 1) := by decide +kernel
theorem dX6_readRange_112 : decode cX6_readRange 112 = .ok (.areturn, 1) := by decide +kernel
theorem dX6_beginsPart_0 : decode cX6_beginsPart 0 = .ok (.iload_n 0, 1) := by decide +kernel
theorem dX6_beginsPart_1 : decode cX6_beginsPart 1 = .ok (.invokestatic 85, 3) := by decide +kernel
theorem dX6_beginsPart_4 : decode cX6_beginsPart 4 = .ok (.ifCond .ne 35, 3) := by decide +kernel
theorem dX6_beginsPart_7 : decode cX6_beginsPart 7 = .ok (.iload_n 0, 1) := by decide +kernel
theorem dX6_beginsPart_8 : decode cX6_beginsPart 8 = .ok (.invokestatic 34, 3) := by decide +kernel
theorem dX6_beginsPart_11 : decode cX6_beginsPart 11 = .ok (.ifCond .ne 28, 3) := by decide +kernel
theorem dX6_beginsPart_14 : decode cX6_beginsPart 14 = .ok (.iload_n 0, 1) := by decide +kernel
theorem dX6_beginsPart_15 : decode cX6_beginsPart 15 = .ok (.invokestatic 68, 3) := by decide +kernel
theorem dX6_beginsPart_18 : decode cX6_beginsPart 18 = .ok (.ifCond .ne 21, 3) := by decide +kernel
theorem dX6_beginsPart_21 : decode cX6_beginsPart 21 = .ok (.iload_n 0, 1) := by decide +kernel
theorem dX6_beginsPart_22 : decode cX6_beginsPart 22 = .ok (.bipush 46, 2) := by decide +kernel
theorem dX6_beginsPart_24 : decode cX6_beginsPart 24 = .ok (.if_icmp .eq 15, 3) := by decide +kernel
theorem dX6_beginsPart_27 : decode cX6_beginsPart 27 = .ok (.iload_n 0, 1) := by decide +kernel
theorem dX6_beginsPart_28 : decode cX6_beginsPart 28 = .ok (.bipush 91, 2) := by decide +kernel
theorem dX6_beginsPart_30 : decode cX6_beginsPart 30 = .ok (.if_icmp .eq 9, 3) := by decide +kernel
theorem dX6_beginsPart_33 : decode cX6_beginsPart 33 = .ok (.iload_n 0, 1) := by decide +kernel
theorem dX6_beginsPart_34 : decode cX6_beginsPart 34 = .ok (.bipush 40, 2) := by decide +kernel
theorem dX6_beginsPart_36 : decode cX6_beginsPart 36 = .ok (.if_icmp .ne 7, 3) := by decide +kernel
theorem dX6_beginsPart_39 : decode cX6_beginsPart 39 = .ok (.iconst 1, 1) := by decide +kernel
theorem dX6_beginsPart_40 : decode cX6_beginsPart 40 = .ok (.goto 4, 3) := by decide +kernel
theorem dX6_beginsPart_43 : decode cX6_beginsPart 43 = .ok (.iconst 0, 1) := by decide +kernel
theorem dX6_beginsPart_44 : decode cX6_beginsPart 44 = .ok (.ireturn, 1) := by decide +kernel
theorem dX6_signBefore_0 : decode cX6_signBefore 0 = .ok (.iload_n 0, 1) := by decide +kernel
theorem dX6_signBefore_1 : decode cX6_signBefore 1 = .ok (.bipush 38, 2) := by decide +kernel
theorem dX6_signBefore_3 : decode cX6_signBefore 3 = .ok (.if_icmp .ne 6, 3) := by decide +kernel
theorem dX6_signBefore_6 : decode cX6_signBefore 6 = .ok (.bipush 8, 2) := by decide +kernel
theorem dX6_signBefore_8 : decode cX6_signBefore 8 = .ok (.ireturn, 1) := by decide +kernel
theorem dX6_signBefore_9 : decode cX6_signBefore 9 = .ok (.iload_n 0, 1) := by decide +kernel
theorem dX6_signBefore_10 : decode cX6_signBefore 10 = .ok (.bipush 33, 2) := by decide +kernel
theorem dX6_signBefore_12 : decode cX6_signBefore 12 = .ok (.if_icmp .ne 8, 3) := by decide +kernel
theorem dX6_signBefore_15 : decode cX6_signBefore 15 = .ok (.bipush 9, 2) := by decide +kernel
theorem dX6_signBefore_17 : decode cX6_signBefore 17 = .ok (.goto 4, 3) := by decide +kernel
theorem dX6_signBefore_20 : decode cX6_signBefore 20 = .ok (.iconst 0, 1) := by decide +kernel
theorem dX6_signBefore_21 : decode cX6_signBefore 21 = .ok (.ireturn, 1) := by decide +kernel
theorem dX6_signBehind_0 : decode cX6_signBehind 0 = .ok (.iload_n 0, 1) := by decide +kernel
theorem dX6_signBehind_1 : decode cX6_signBehind 1 = .ok (.lookupswitch 43 #[(42, 35), (43, 37), (63, 40)], 35) := by decide +kernel
theorem dX6_signBehind_36 : decode cX6_signBehind 36 = .ok (.iconst 5, 1) := by decide +kernel
theorem dX6_signBehind_37 : decode cX6_signBehind 37 = .ok (.ireturn, 1) := by decide +kernel
theorem dX6_signBehind_38 : decode cX6_signBehind 38 = .ok (.bipush 6, 2) := by decide +kernel
theorem dX6_signBehind_40 : decode cX6_signBehind 40 = .ok (.ireturn, 1) := by decide +kernel
theorem dX6_signBehind_41 : decode cX6_signBehind 41 = .ok (.bipush 7, 2) := by decide +kernel
theorem dX6_signBehind_43 : decode cX6_signBehind 43 = .ok (.ireturn, 1) := by decide +kernel
theorem dX6_signBehind_44 : decode cX6_signBehind 44 = .ok (.iconst 0, 1) := by decide +kernel
theorem dX6_signBehind_45 : decode cX6_signBehind 45 = .ok (.ireturn, 1) := by decide +kernel
theorem dX7_init_0 : decode cX7_init 0 = .ok (.aload_n 0, 1) := by decide +kernel
theorem dX7_init_1 : decode cX7_init 1 = .ok (.invokespecial 3, 3) := by decide +kernel
theorem dX7_init_4 : decode cX7_init 4 = .ok (.aload_n 0, 1) := by decide +kernel
theorem dX7_init_5 : decode cX7_init 5 = .ok (.iconst 4, 1) := by decide +kernel
theorem dX7_init_6 : decode cX7_init 6 = .ok (.bipush 60, 2) := by decide +kernel
theorem dX7_init_8 : decode cX7_init 8 = .ok (.multianewarray 11 2, 4) := by decide +kernel
theorem dX7_init_12 : decode cX7_init 12 = .ok (.putfield 13, 3) := by decide +kernel
theorem dX7_init_15 : decode cX7_init 15 = .ok (.return_, 1) := by decide +kernel
theorem dX7_size_0 : decode cX7_size 0 = .ok (.aload_n 0, 1) := by decide +kernel
theorem dX7_size_1 : decode cX7_size 1 = .ok (.getfield 16, 3) := by decide +kernel
theorem dX7_size_4 : decode cX7_size 4 = .ok (.ireturn, 1) := by decide +kernel
theorem dX7_has_0 : decode cX7_has 0 = .ok (.iload_n 1, 1) := by decide +kernel
theorem dX7_has_1 : decode cX7_has 1 = .ok (.ifCond .lt 24, 3) := by decide +kernel
theorem dX7_has_4 : decode cX7_has 4 = .ok (.iload_n 1, 1) := by decide +kernel
theorem dX7_has_5 : decode cX7_has 5 = .ok (.aload_n 0, 1) := by decide +kernel
theorem dX7_has_6 : decode cX7_has 6 = .ok (.getfield 16, 3) := by decide +kernel
theorem dX7_has_9 : decode cX7_has 9 = .ok (.if_icmp .ge 16, 3) := by decide +kernel
theorem dX7_has_12 : decode cX7_has 12 = .ok (.iload_n 2, 1) := by decide +kernel
theorem dX7_has_13 : decode cX7_has 13 = .ok (.ifCond .lt 12, 3) := by decide +kernel
theorem dX7_has_16 : decode cX7_has 16 = .ok (.iload_n 2, 1) := by decide +kernel
theorem dX7_has_17 : decode cX7_has 17 = .ok (.iconst 4, 1) := by decide +kernel
theorem dX7_has_18 : decode cX7_has 18 = .ok (.if_icmp .ge 7, 3) := by decide +kernel
theorem dX7_has_21 : decode cX7_has 21 = .ok (.iconst 1, 1) := by decide +kernel
theorem dX7_has_22 : decode cX7_has 22 = .ok (.goto 4, 3) := by decide +kernel
theorem dX7_has_25 : decode cX7_has 25 = .ok (.iconst 0, 1) := by decide +kernel
theorem dX7_has_26 : decode cX7_has 26 = .ok (.ireturn, 1) := by decide +kernel
theorem dX7_tell_0 : decode cX7_tell 0 = .ok (.aload_n 0, 1) := by decide +kernel
theorem dX7_tell_1 : decode cX7_tell 1 = .ok (.iload_n 1, 1) := by decide +kernel
theorem dX7_tell_2 : decode cX7_tell 2 = .ok (.iload_n 2, 1) := by decide +kernel
theorem dX7_tell_3 : decode cX7_tell 3 = .ok (.invokevirtual 20, 3) := by decide +kernel
theorem dX7_tell_6 : decode cX7_tell 6 = .ok (.ifCond .eq 20, 3) := by decide +kernel
theorem dX7_tell_9 : decode cX7_tell 9 = .ok (.iload_n 1, 1) := by decide +kernel
theorem dX7_tell_10 : decode cX7_tell 10 = .ok (.bipush 60, 2) := by decide +kernel
theorem dX7_tell_12 : decode cX7_tell 12 = .ok (.if_icmp .ge 14, 3) := by decide +kernel
theorem dX7_tell_15 : decode cX7_tell 15 = .ok (.aload_n 0, 1) := by decide +kernel
theorem dX7_tell_16 : decode cX7_tell 16 = .ok (.getfield 13, 3) := by decide +kernel
theorem dX7_tell_19 : decode cX7_tell 19 = .ok (.iload_n 2, 1) := by decide +kernel
theorem dX7_tell_20 : decode cX7_tell 20 = .ok (.aaload, 1) := by decide +kernel
theorem dX7_tell_21 : decode cX7_tell 21 = .ok (.iload_n 1, 1) := by decide +kernel
theorem dX7_tell_22 : decode cX7_tell 22 = .ok (.iaload, 1) := by decide +kernel
theorem dX7_tell_23 : decode cX7_tell 23 = .ok (.goto 4, 3) := by decide +kernel
theorem dX7_tell_26 : decode cX7_tell 26 = .ok (.iconst (-1), 1) := by decide +kernel
end
section
theorem dX7_tell_27 : decode cX7_tell 27 = .ok (.ireturn, 1) := by decide +kernel
theorem dX7_fell_0 : decode cX7_fell 0 = .ok (.aload_n 0, 1) := by decide +kernel
theorem dX7_fell_1 : decode cX7_fell 1 = .ok (.iconst 0, 1) := by decide +kernel
theorem dX7_fell_2 : decode cX7_fell 2 = .ok (.putfield 16, 3) := by decide +kernel
theorem dX7_fell_5 : decode cX7_fell 5 = .ok (.return_, 1) := by decide +kernel
theorem dX7_grow_0 : decode cX7_grow 0 = .ok (.aload_n 0, 1) := by decide +kernel
theorem dX7_grow_1 : decode cX7_grow 1 = .ok (.iconst 1, 1) := by decide +kernel
theorem dX7_grow_2 : decode cX7_grow 2 = .ok (.putfield 16, 3) := by decide +kernel
theorem dX7_grow_5 : decode cX7_grow 5 = .ok (.aload_n 0, 1) := by decide +kernel
theorem dX7_grow_6 : decode cX7_grow 6 = .ok (.iconst 0, 1) := by decide +kernel
theorem dX7_grow_7 : decode cX7_grow 7 = .ok (.aload_n 1, 1) := by decide +kernel
theorem dX7_grow_8 : decode cX7_grow 8 = .ok (.iload_n 2, 1) := by decide +kernel
theorem dX7_grow_9 : decode cX7_grow 9 = .ok (.iconst 0, 1) := by decide +kernel
theorem dX7_grow_10 : decode cX7_grow 10 = .ok (.invokevirtual 24, 3) := by decide +kernel
theorem dX7_grow_13 : decode cX7_grow 13 = .ok (.iconst 0, 1) := by decide +kernel
theorem dX7_grow_14 : decode cX7_grow 14 = .ok (.istore_n 3, 1) := by decide +kernel
theorem dX7_grow_15 : decode cX7_grow 15 = .ok (.iload_n 3, 1) := by decide +kernel
theorem dX7_grow_16 : decode cX7_grow 16 = .ok (.bipush 60, 2) := by decide +kernel
theorem dX7_grow_18 : decode cX7_grow 18 = .ok (.if_icmp .ge 23, 3) := by decide +kernel
theorem dX7_grow_21 : decode cX7_grow 21 = .ok (.iload_n 3, 1) := by decide +kernel
theorem dX7_grow_22 : decode cX7_grow 22 = .ok (.aload_n 0, 1) := by decide +kernel
theorem dX7_grow_23 : decode cX7_grow 23 = .ok (.getfield 16, 3) := by decide +kernel
theorem dX7_grow_26 : decode cX7_grow 26 = .ok (.if_icmp .ge 15, 3) := by decide +kernel
theorem dX7_grow_29 : decode cX7_grow 29 = .ok (.aload_n 0, 1) := by decide +kernel
theorem dX7_grow_30 : decode cX7_grow 30 = .ok (.iload_n 3, 1) := by decide +kernel
theorem dX7_grow_31 : decode cX7_grow 31 = .ok (.aload_n 1, 1) := by decide +kernel
theorem dX7_grow_32 : decode cX7_grow 32 = .ok (.invokevirtual 28, 3) := by decide +kernel
theorem dX7_grow_35 : decode cX7_grow 35 = .ok (.iinc 3 1, 3) := by decide +kernel
theorem dX7_grow_38 : decode cX7_grow 38 = .ok (.goto (-23), 3) := by decide +kernel
theorem dX7_grow_41 : decode cX7_grow 41 = .ok (.return_, 1) := by decide +kernel
theorem dX7_putBelow_0 : decode cX7_putBelow 0 = .ok (.aload_n 0, 1) := by decide +kernel
theorem dX7_putBelow_1 : decode cX7_putBelow 1 = .ok (.iload_n 1, 1) := by decide +kernel
theorem dX7_putBelow_2 : decode cX7_putBelow 2 = .ok (.iconst 0, 1) := by decide +kernel
theorem dX7_putBelow_3 : decode cX7_putBelow 3 = .ok (.invokevirtual 32, 3) := by decide +kernel
theorem dX7_putBelow_6 : decode cX7_putBelow 6 = .ok (.aload_n 0, 1) := by decide +kernel
theorem dX7_putBelow_7 : decode cX7_putBelow 7 = .ok (.iload_n 1, 1) := by decide +kernel
theorem dX7_putBelow_8 : decode cX7_putBelow 8 = .ok (.iconst 1, 1) := by decide +kernel
theorem dX7_putBelow_9 : decode cX7_putBelow 9 = .ok (.invokevirtual 32, 3) := by decide +kernel
theorem dX7_putBelow_12 : decode cX7_putBelow 12 = .ok (.invokestatic 36, 3) := by decide +kernel
theorem dX7_putBelow_15 : decode cX7_putBelow 15 = .ok (.istore_n 3, 1) := by decide +kernel
theorem dX7_putBelow_16 : decode cX7_putBelow 16 = .ok (.aload_n 0, 1) := by decide +kernel
theorem dX7_putBelow_17 : decode cX7_putBelow 17 = .ok (.iload_n 1, 1) := by decide +kernel
theorem dX7_putBelow_18 : decode cX7_putBelow 18 = .ok (.iconst 3, 1) := by decide +kernel
theorem dX7_putBelow_19 : decode cX7_putBelow 19 = .ok (.invokevirtual 32, 3) := by decide +kernel
theorem dX7_putBelow_22 : decode cX7_putBelow 22 = .ok (.iconst 1, 1) := by decide +kernel
theorem dX7_putBelow_23 : decode cX7_putBelow 23 = .ok (.iadd, 1) := by decide +kernel
theorem dX7_putBelow_24 : decode cX7_putBelow 24 = .ok (.istore 4, 2) := by decide +kernel
theorem dX7_putBelow_26 : decode cX7_putBelow 26 = .ok (.aload_n 2, 1) := by decide +kernel
theorem dX7_putBelow_27 : decode cX7_putBelow 27 = .ok (.iload_n 3, 1) := by decide +kernel
theorem dX7_putBelow_28 : decode cX7_putBelow 28 = .ok (.invokevirtual 41, 3) := by decide +kernel
theorem dX7_putBelow_31 : decode cX7_putBelow 31 = .ok (.bipush 59, 2) := by decide +kernel
theorem dX7_putBelow_33 : decode cX7_putBelow 33 = .ok (.iload_n 1, 1) := by decide +kernel
theorem dX7_putBelow_34 : decode cX7_putBelow 34 = .ok (.isub, 1) := by decide +kernel
theorem dX7_putBelow_35 : decode cX7_putBelow 35 = .ok (.invokestatic 45, 3) := by decide +kernel
theorem dX7_putBelow_38 : decode cX7_putBelow 38 = .ok (.istore 5, 2) := by decide +kernel
theorem dX7_putBelow_40 : decode cX7_putBelow 40 = .ok (.aload_n 0, 1) := by decide +kernel
theorem dX7_putBelow_41 : decode cX7_putBelow 41 = .ok (.iload_n 1, 1) := by decide +kernel
theorem dX7_putBelow_42 : decode cX7_putBelow 42 = .ok (.iconst 1, 1) := by decide +kernel
theorem dX7_putBelow_43 : decode cX7_putBelow 43 = .ok (.iadd, 1) := by decide +kernel
theorem dX7_putBelow_44 : decode cX7_putBelow 44 = .ok (.iload 5, 2) := by decide +kernel
theorem dX7_putBelow_46 : decode cX7_putBelow 46 = .ok (.invokevirtual 50, 3) := by decide +kernel
theorem dX7_putBelow_49 : decode cX7_putBelow 49 = .ok (.iconst 0, 1) := by decide +kernel
theorem dX7_putBelow_50 : decode cX7_putBelow 50 = .ok (.istore 6, 2) := by decide +kernel
theorem dX7_putBelow_52 : decode cX7_putBelow 52 = .ok (.iload 6, 2) := by decide +kernel
theorem dX7_putBelow_54 : decode cX7_putBelow 54 = .ok (.iload 5, 2) := by decide +kernel
theorem dX7_putBelow_56 : decode cX7_putBelow 56 = .ok (.if_icmp .ge 29, 3) := by decide +kernel
theorem dX7_putBelow_59 : decode cX7_putBelow 59 = .ok (.aload_n 0, 1) := by decide +kernel
theorem dX7_putBelow_60 : decode cX7_putBelow 60 = .ok (.iload_n 1, 1) := by decide +kernel
theorem dX7_putBelow_61 : decode cX7_putBelow 61 = .ok (.iconst 1, 1) := by decide +kernel
theorem dX7_putBelow_62 : decode cX7_putBelow 62 = .ok (.iadd, 1) := by decide +kernel
theorem dX7_putBelow_63 : decode cX7_putBelow 63 = .ok (.iload 6, 2) := by decide +kernel
theorem dX7_putBelow_65 : decode cX7_putBelow 65 = .ok (.iadd, 1) := by decide +kernel
theorem dX7_putBelow_66 : decode cX7_putBelow 66 = .ok (.aload_n 2, 1) := by decide +kernel
theorem dX7_putBelow_67 : decode cX7_putBelow 67 = .ok (.aload_n 2, 1) := by decide +kernel
theorem dX7_putBelow_68 : decode cX7_putBelow 68 = .ok (.iload_n 3, 1) := by decide +kernel
theorem dX7_putBelow_69 : decode cX7_putBelow 69 = .ok (.iload 6, 2) := by decide +kernel
theorem dX7_putBelow_71 : decode cX7_putBelow 71 = .ok (.invokevirtual 54, 3) := by decide +kernel
theorem dX7_putBelow_74 : decode cX7_putBelow 74 = .ok (.iload 4, 2) := by decide +kernel
theorem dX7_putBelow_76 : decode cX7_putBelow 76 = .ok (.invokevirtual 24, 3) := by decide +kernel
theorem dX7_putBelow_79 : decode cX7_putBelow 79 = .ok (.iinc 6 1, 3) := by decide +kernel
theorem dX7_putBelow_82 : decode cX7_putBelow 82 = .ok (.goto (-30), 3) := by decide +kernel
theorem dX7_putBelow_85 : decode cX7_putBelow 85 = .ok (.return_, 1) := by decide +kernel
theorem dX7_makeRoom_0 : decode cX7_makeRoom 0 = .ok (.iload_n 1, 1) := by decide +kernel
theorem dX7_makeRoom_1 : decode cX7_makeRoom 1 = .ok (.ifCond .lt 7, 3) := by decide +kernel
theorem dX7_makeRoom_4 : decode cX7_makeRoom 4 = .ok (.iload_n 2, 1) := by decide +kernel
theorem dX7_makeRoom_5 : decode cX7_makeRoom 5 = .ok (.ifCond .gt 4, 3) := by decide +kernel
theorem dX7_makeRoom_8 : decode cX7_makeRoom 8 = .ok (.return_, 1) := by decide +kernel
theorem dX7_makeRoom_9 : decode cX7_makeRoom 9 = .ok (.aload_n 0, 1) := by decide +kernel
theorem dX7_makeRoom_10 : decode cX7_makeRoom 10 = .ok (.aload_n 0, 1) := by decide +kernel
theorem dX7_makeRoom_11 : decode cX7_makeRoom 11 = .ok (.getfield 16, 3) := by decide +kernel
theorem dX7_makeRoom_14 : decode cX7_makeRoom 14 = .ok (.iload_n 2, 1) := by decide +kernel
theorem dX7_makeRoom_15 : decode cX7_makeRoom 15 = .ok (.iadd, 1) := by decide +kernel
theorem dX7_makeRoom_16 : decode cX7_makeRoom 16 = .ok (.bipush 60, 2) := by decide +kernel
theorem dX7_makeRoom_18 : decode cX7_makeRoom 18 = .ok (.invokestatic 45, 3) := by decide +kernel
theorem dX7_makeRoom_21 : decode cX7_makeRoom 21 = .ok (.putfield 16, 3) := by decide +kernel
theorem dX7_makeRoom_24 : decode cX7_makeRoom 24 = .ok (.aload_n 0, 1) := by decide +kernel
theorem dX7_makeRoom_25 : decode cX7_makeRoom 25 = .ok (.getfield 16, 3) := by decide +kernel
theorem dX7_makeRoom_28 : decode cX7_makeRoom 28 = .ok (.iconst 1, 1) := by decide +kernel
theorem dX7_makeRoom_29 : decode cX7_makeRoom 29 = .ok (.isub, 1) := by decide +kernel
theorem dX7_makeRoom_30 : decode cX7_makeRoom 30 = .ok (.istore_n 3, 1) := by decide +kernel
theorem dX7_makeRoom_31 : decode cX7_makeRoom 31 = .ok (.iload_n 3, 1) := by decide +kernel
theorem dX7_makeRoom_32 : decode cX7_makeRoom 32 = .ok (.iload_n 1, 1) := by decide +kernel
theorem dX7_makeRoom_33 : decode cX7_makeRoom 33 = .ok (.iload_n 2, 1) := by decide +kernel
theorem dX7_makeRoom_34 : decode cX7_makeRoom 34 = .ok (.iadd, 1) := by decide +kernel
theorem dX7_makeRoom_35 : decode cX7_makeRoom 35 = .ok (.if_icmp .lt 44, 3) := by decide +kernel
theorem dX7_makeRoom_38 : decode cX7_makeRoom 38 = .ok (.iconst 0, 1) := by decide +kernel
theorem dX7_makeRoom_39 : decode cX7_makeRoom 39 = .ok (.istore 4, 2) := by decide +kernel
theorem dX7_makeRoom_41 : decode cX7_makeRoom 41 = .ok (.iload 4, 2) := by decide +kernel
theorem dX7_makeRoom_43 : decode cX7_makeRoom 43 = .ok (.iconst 4, 1) := by decide +kernel
theorem dX7_makeRoom_44 : decode cX7_makeRoom 44 = .ok (.if_icmp .ge 29, 3) := by decide +kernel
theorem dX7_makeRoom_47 : decode cX7_makeRoom 47 = .ok (.aload_n 0, 1) := by decide +kernel
theorem dX7_makeRoom_48 : decode cX7_makeRoom 48 = .ok (.getfield 13, 3) := by decide +kernel
theorem dX7_makeRoom_51 : decode cX7_makeRoom 51 = .ok (.iload 4, 2) := by decide +kernel
theorem dX7_makeRoom_53 : decode cX7_makeRoom 53 = .ok (.aaload, 1) := by decide +kernel
theorem dX7_makeRoom_54 : decode cX7_makeRoom 54 = .ok (.iload_n 3, 1) := by decide +kernel
theorem dX7_makeRoom_55 : decode cX7_makeRoom 55 = .ok (.aload_n 0, 1) := by decide +kernel
theorem dX7_makeRoom_56 : decode cX7_makeRoom 56 = .ok (.getfield 13, 3) := by decide +kernel
theorem dX7_makeRoom_59 : decode cX7_makeRoom 59 = .ok (.iload 4, 2) := by decide +kernel
theorem dX7_makeRoom_61 : decode cX7_makeRoom 61 = .ok (.aaload, 1) := by decide +kernel
theorem dX7_makeRoom_62 : decode cX7_makeRoom 62 = .ok (.iload_n 3, 1) := by decide +kernel
theorem dX7_makeRoom_63 : decode cX7_makeRoom 63 = .ok (.iload_n 2, 1) := by decide +kernel
theorem dX7_makeRoom_64 : decode cX7_makeRoom 64 = .ok (.isub, 1) := by decide +kernel
theorem dX7_makeRoom_65 : decode cX7_makeRoom 65 = .ok (.iaload, 1) := by decide +kernel
theorem dX7_makeRoom_66 : decode cX7_makeRoom 66 = .ok (.iastore, 1) := by decide +kernel
theorem dX7_makeRoom_67 : decode cX7_makeRoom 67 = .ok (.iinc 4 1, 3) := by decide +kernel
theorem dX7_makeRoom_70 : decode cX7_makeRoom 70 = .ok (.goto (-29), 3) := by decide +kernel
theorem dX7_makeRoom_73 : decode cX7_makeRoom 73 = .ok (.iinc 3 (-1), 3) := by decide +kernel
theorem dX7_makeRoom_76 : decode cX7_makeRoom 76 = .ok (.goto (-45), 3) := by decide +kernel
theorem dX7_makeRoom_79 : decode cX7_makeRoom 79 = .ok (.return_, 1) := by decide +kernel
theorem dX7_set_0 : decode cX7_set 0 = .ok (.iload_n 1, 1) := by decide +kernel
theorem dX7_set_1 : decode cX7_set 1 = .ok (.ifCond .lt 56, 3) := by decide +kernel
theorem dX7_set_4 : decode cX7_set 4 = .ok (.iload_n 1, 1) := by decide +kernel
theorem dX7_set_5 : decode cX7_set 5 = .ok (.bipush 60, 2) := by decide +kernel
theorem dX7_set_7 : decode cX7_set 7 = .ok (.if_icmp .ge 50, 3) := by decide +kernel
theorem dX7_set_10 : decode cX7_set 10 = .ok (.aload_n 0, 1) := by decide +kernel
theorem dX7_set_11 : decode cX7_set 11 = .ok (.getfield 13, 3) := by decide +kernel
theorem dX7_set_14 : decode cX7_set 14 = .ok (.iconst 0, 1) := by decide +kernel
theorem dX7_set_15 : decode cX7_set 15 = .ok (.aaload, 1) := by decide +kernel
theorem dX7_set_16 : decode cX7_set 16 = .ok (.iload_n 1, 1) := by decide +kernel
theorem dX7_set_17 : decode cX7_set 17 = .ok (.iload_n 3, 1) := by decide +kernel
theorem dX7_set_18 : decode cX7_set 18 = .ok (.bipush 21, 2) := by decide +kernel
theorem dX7_set_20 : decode cX7_set 20 = .ok (.idiv, 1) := by decide +kernel
theorem dX7_set_21 : decode cX7_set 21 = .ok (.iastore, 1) := by decide +kernel
theorem dX7_set_22 : decode cX7_set 22 = .ok (.aload_n 0, 1) := by decide +kernel
theorem dX7_set_23 : decode cX7_set 23 = .ok (.getfield 13, 3) := by decide +kernel
theorem dX7_set_26 : decode cX7_set 26 = .ok (.iconst 1, 1) := by decide +kernel
theorem dX7_set_27 : decode cX7_set 27 = .ok (.aaload, 1) := by decide +kernel
theorem dX7_set_28 : decode cX7_set 28 = .ok (.iload_n 1, 1) := by decide +kernel
theorem dX7_set_29 : decode cX7_set 29 = .ok (.iload_n 3, 1) := by decide +kernel
theorem dX7_set_30 : decode cX7_set 30 = .ok (.bipush 21, 2) := by decide +kernel
theorem dX7_set_32 : decode cX7_set 32 = .ok (.irem, 1) := by decide +kernel
theorem dX7_set_33 : decode cX7_set 33 = .ok (.iastore, 1) := by decide +kernel
theorem dX7_set_34 : decode cX7_set 34 = .ok (.aload_n 0, 1) := by decide +kernel
theorem dX7_set_35 : decode cX7_set 35 = .ok (.getfield 13, 3) := by decide +kernel
theorem dX7_set_38 : decode cX7_set 38 = .ok (.iconst 2, 1) := by decide +kernel
theorem dX7_set_39 : decode cX7_set 39 = .ok (.aaload, 1) := by decide +kernel
theorem dX7_set_40 : decode cX7_set 40 = .ok (.iload_n 1, 1) := by decide +kernel
theorem dX7_set_41 : decode cX7_set 41 = .ok (.aload_n 2, 1) := by decide +kernel
theorem dX7_set_42 : decode cX7_set 42 = .ok (.iload_n 3, 1) := by decide +kernel
theorem dX7_set_43 : decode cX7_set 43 = .ok (.invokevirtual 57, 3) := by decide +kernel
theorem dX7_set_46 : decode cX7_set 46 = .ok (.iastore, 1) := by decide +kernel
theorem dX7_set_47 : decode cX7_set 47 = .ok (.aload_n 0, 1) := by decide +kernel
theorem dX7_set_48 : decode cX7_set 48 = .ok (.getfield 13, 3) := by decide +kernel
theorem dX7_set_51 : decode cX7_set 51 = .ok (.iconst 3, 1) := by decide +kernel
theorem dX7_set_52 : decode cX7_set 52 = .ok (.aaload, 1) := by decide +kernel
theorem dX7_set_53 : decode cX7_set 53 = .ok (.iload_n 1, 1) := by decide +kernel
theorem dX7_set_54 : decode cX7_set 54 = .ok (.iload 4, 2) := by decide +kernel
theorem dX7_set_56 : decode cX7_set 56 = .ok (.iastore, 1) := by decide +kernel
theorem dX7_set_57 : decode cX7_set 57 = .ok (.return_, 1) := by decide +kernel
theorem dX8_init_0 : decode cX8_init 0 = .ok (.aload_n 0, 1) := by decide +kernel
theorem dX8_init_1 : decode cX8_init 1 = .ok (.invokespecial 3, 3) := by decide +kernel
theorem dX8_init_4 : decode cX8_init 4 = .ok (.aload_n 0, 1) := by decide +kernel
theorem dX8_init_5 : decode cX8_init 5 = .ok (.new 9, 3) := by decide +kernel
theorem dX8_init_8 : decode cX8_init 8 = .ok (.dup, 1) := by decide +kernel
theorem dX8_init_9 : decode cX8_init 9 = .ok (.bipush 24, 2) := by decide +kernel
theorem dX8_init_11 : decode cX8_init 11 = .ok (.invokespecial 11, 3) := by decide +kernel
theorem dX8_init_14 : decode cX8_init 14 = .ok (.putfield 14, 3) := by decide +kernel
theorem dX8_init_17 : decode cX8_init 17 = .ok (.aload_n 0, 1) := by decide +kernel
theorem dX8_init_18 : decode cX8_init 18 = .ok (.new 9, 3) := by decide +kernel
theorem dX8_init_21 : decode cX8_init 21 = .ok (.dup, 1) := by decide +kernel
theorem dX8_init_22 : decode cX8_init 22 = .ok (.bipush 20, 2) := by decide +kernel
theorem dX8_init_24 : decode cX8_init 24 = .ok (.invokespecial 11, 3) := by decide +kernel
theorem dX8_init_27 : decode cX8_init 27 = .ok (.putfield 18, 3) := by decide +kernel
theorem dX8_init_30 : decode cX8_init 30 = .ok (.aload_n 0, 1) := by decide +kernel
theorem dX8_init_31 : decode cX8_init 31 = .ok (.new 21, 3) := by decide +kernel
theorem dX8_init_34 : decode cX8_init 34 = .ok (.dup, 1) := by decide +kernel
theorem dX8_init_35 : decode cX8_init 35 = .ok (.aload_n 0, 1) := by decide +kernel
theorem dX8_init_36 : decode cX8_init 36 = .ok (.getfield 14, 3) := by decide +kernel
theorem dX8_init_39 : decode cX8_init 39 = .ok (.invokespecial 23, 3) := by decide +kernel
theorem dX8_init_42 : decode cX8_init 42 = .ok (.putfield 26, 3) := by decide +kernel
theorem dX8_init_45 : decode cX8_init 45 = .ok (.aload_n 0, 1) := by decide +kernel
theorem dX8_init_46 : decode cX8_init 46 = .ok (.new 30, 3) := by decide +kernel
theorem dX8_init_49 : decode cX8_init 49 = .ok (.dup, 1) := by decide +kernel
theorem dX8_init_50 : decode cX8_init 50 = .ok (.invokespecial 32, 3) := by decide +kernel
theorem dX8_init_53 : decode cX8_init 53 = .ok (.putfield 33, 3) := by decide +kernel
theorem dX8_init_56 : decode cX8_init 56 = .ok (.aload_n 0, 1) := by decide +kernel
theorem dX8_init_57 : decode cX8_init 57 = .ok (.new 37, 3) := by decide +kernel
theorem dX8_init_60 : decode cX8_init 60 = .ok (.dup, 1) := by decide +kernel
theorem dX8_init_61 : decode cX8_init 61 = .ok (.invokespecial 39, 3) := by decide +kernel
theorem dX8_init_64 : decode cX8_init 64 = .ok (.putfield 40, 3) := by decide +kernel
theorem dX8_init_67 : decode cX8_init 67 = .ok (.aload_n 0, 1) := by decide +kernel
theorem dX8_init_68 : decode cX8_init 68 = .ok (.new 44, 3) := by decide +kernel
theorem dX8_init_71 : decode cX8_init 71 = .ok (.dup, 1) := by decide +kernel
theorem dX8_init_72 : decode cX8_init 72 = .ok (.aload_n 0, 1) := by decide +kernel
theorem dX8_init_73 : decode cX8_init 73 = .ok (.getfield 33, 3) := by decide +kernel
theorem dX8_init_76 : decode cX8_init 76 = .ok (.aload_n 0, 1) := by decide +kernel
theorem dX8_init_77 : decode cX8_init 77 = .ok (.getfield 18, 3) := by decide +kernel
theorem dX8_init_80 : decode cX8_init 80 = .ok (.aload_n 0, 1) := by decide +kernel
theorem dX8_init_81 : decode cX8_init 81 = .ok (.getfield 40, 3) := by decide +kernel
theorem dX8_init_84 : decode cX8_init 84 = .ok (.invokespecial 46, 3) := by decide +kernel
theorem dX8_init_87 : decode cX8_init 87 = .ok (.putfield 49, 3) := by decide +kernel
theorem dX8_init_90 : decode cX8_init 90 = .ok (.aload_n 0, 1) := by decide +kernel
theorem dX8_init_91 : decode cX8_init 91 = .ok (.new 53, 3) := by decide +kernel
theorem dX8_init_94 : decode cX8_init 94 = .ok (.dup, 1) := by decide +kernel
theorem dX8_init_95 : decode cX8_init 95 = .ok (.invokespecial 55, 3) := by decide +kernel
theorem dX8_init_98 : decode cX8_init 98 = .ok (.putfield 56, 3) := by decide +kernel
theorem dX8_init_101 : decode cX8_init 101 = .ok (.return_, 1) := by decide +kernel
theorem dX8_type_0 : decode cX8_type 0 = .ok (.iload_n 1, 1) := by decide +kernel
theorem dX8_type_1 : decode cX8_type 1 = .ok (.invokestatic 60, 3) := by decide +kernel
theorem dX8_type_4 : decode cX8_type 4 = .ok (.ifCond .eq 18, 3) := by decide +kernel
theorem dX8_type_7 : decode cX8_type 7 = .ok (.aload_n 0, 1) := by decide +kernel
theorem dX8_type_8 : decode cX8_type 8 = .ok (.getfield 14, 3) := by decide +kernel
theorem dX8_type_11 : decode cX8_type 11 = .ok (.iload_n 1, 1) := by decide +kernel
theorem dX8_type_12 : decode cX8_type 12 = .ok (.invokevirtual 64, 3) := by decide +kernel
theorem dX8_type_15 : decode cX8_type 15 = .ok (.ifCond .eq 7, 3) := by decide +kernel
theorem dX8_type_18 : decode cX8_type 18 = .ok (.iconst 1, 1) := by decide +kernel
theorem dX8_type_19 : decode cX8_type 19 = .ok (.goto 4, 3) := by decide +kernel
theorem dX8_type_22 : decode cX8_type 22 = .ok (.iconst 0, 1) := by decide +kernel
theorem dX8_type_23 : decode cX8_type 23 = .ok (.ireturn, 1) := by decide +kernel
theorem dX8_rule_0 : decode cX8_rule 0 = .ok (.aload_n 0, 1) := by decide +kernel
theorem dX8_rule_1 : decode cX8_rule 1 = .ok (.getfield 26, 3) := by decide +kernel
theorem dX8_rule_4 : decode cX8_rule 4 = .ok (.invokevirtual 67, 3) := by decide +kernel
theorem dX8_rule_7 : decode cX8_rule 7 = .ok (.astore_n 1, 1) := by decide +kernel
theorem dX8_rule_8 : decode cX8_rule 8 = .ok (.aload_n 0, 1) := by decide +kernel
theorem dX8_rule_9 : decode cX8_rule 9 = .ok (.getfield 14, 3) := by decide +kernel
theorem dX8_rule_12 : decode cX8_rule 12 = .ok (.invokevirtual 71, 3) := by decide +kernel
theorem dX8_rule_15 : decode cX8_rule 15 = .ok (.aload_n 1, 1) := by decide +kernel
theorem dX8_rule_16 : decode cX8_rule 16 = .ok (.ifnonnull 13, 3) := by decide +kernel
theorem dX8_rule_19 : decode cX8_rule 19 = .ok (.iconst 1, 1) := by decide +kernel
theorem dX8_rule_20 : decode cX8_rule 20 = .ok (.aload_n 0, 1) := by decide +kernel
theorem dX8_rule_21 : decode cX8_rule 21 = .ok (.getfield 26, 3) := by decide +kernel
theorem dX8_rule_24 : decode cX8_rule 24 = .ok (.invokevirtual 74, 3) := by decide +kernel
theorem dX8_rule_27 : decode cX8_rule 27 = .ok (.iadd, 1) := by decide +kernel
theorem dX8_rule_28 : decode cX8_rule 28 = .ok (.ireturn, 1) := by decide +kernel
theorem dX8_rule_29 : decode cX8_rule 29 = .ok (.aload_n 0, 1) := by decide +kernel
theorem dX8_rule_30 : decode cX8_rule 30 = .ok (.getfield 33, 3) := by decide +kernel
theorem dX8_rule_33 : decode cX8_rule 33 = .ok (.aload_n 0, 1) := by decide +kernel
theorem dX8_rule_34 : decode cX8_rule 34 = .ok (.getfield 26, 3) := by decide +kernel
theorem dX8_rule_37 : decode cX8_rule 37 = .ok (.invokevirtual 78, 3) := by decide +kernel
theorem dX8_rule_40 : decode cX8_rule 40 = .ok (.aload_n 1, 1) := by decide +kernel
theorem dX8_rule_41 : decode cX8_rule 41 = .ok (.invokevirtual 81, 3) := by decide +kernel
theorem dX8_rule_44 : decode cX8_rule 44 = .ok (.aload_n 0, 1) := by decide +kernel
theorem dX8_rule_45 : decode cX8_rule 45 = .ok (.getfield 40, 3) := by decide +kernel
theorem dX8_rule_48 : decode cX8_rule 48 = .ok (.invokevirtual 85, 3) := by decide +kernel
theorem dX8_rule_51 : decode cX8_rule 51 = .ok (.iconst 0, 1) := by decide +kernel
theorem dX8_rule_52 : decode cX8_rule 52 = .ok (.ireturn, 1) := by decide +kernel
theorem dX8_drop_0 : decode cX8_drop 0 = .ok (.iload_n 1, 1) := by decide +kernel
theorem dX8_drop_1 : decode cX8_drop 1 = .ok (.invokestatic 88, 3) := by decide +kernel
theorem dX8_drop_4 : decode cX8_drop 4 = .ok (.ifCond .ne 13, 3) := by decide +kernel
theorem dX8_drop_7 : decode cX8_drop 7 = .ok (.new 92, 3) := by decide +kernel
theorem dX8_drop_10 : decode cX8_drop 10 = .ok (.dup, 1) := by decide +kernel
theorem dX8_drop_11 : decode cX8_drop 11 = .ok (.ldc 94, 2) := by decide +kernel
theorem dX8_drop_13 : decode cX8_drop 13 = .ok (.invokespecial 96, 3) := by decide +kernel
theorem dX8_drop_16 : decode cX8_drop 16 = .ok (.athrow, 1) := by decide +kernel
theorem dX8_drop_17 : decode cX8_drop 17 = .ok (.aload_n 0, 1) := by decide +kernel
theorem dX8_drop_18 : decode cX8_drop 18 = .ok (.getfield 33, 3) := by decide +kernel
theorem dX8_drop_21 : decode cX8_drop 21 = .ok (.iload_n 1, 1) := by decide +kernel
theorem dX8_drop_22 : decode cX8_drop 22 = .ok (.invokevirtual 99, 3) := by decide +kernel
theorem dX8_drop_25 : decode cX8_drop 25 = .ok (.ifnonnull 5, 3) := by decide +kernel
theorem dX8_drop_28 : decode cX8_drop 28 = .ok (.iconst 0, 1) := by decide +kernel
theorem dX8_drop_29 : decode cX8_drop 29 = .ok (.ireturn, 1) := by decide +kernel
theorem dX8_drop_30 : decode cX8_drop 30 = .ok (.aload_n 0, 1) := by decide +kernel
theorem dX8_drop_31 : decode cX8_drop 31 = .ok (.getfield 33, 3) := by decide +kernel
theorem dX8_drop_34 : decode cX8_drop 34 = .ok (.iload_n 1, 1) := by decide +kernel
theorem dX8_drop_35 : decode cX8_drop 35 = .ok (.aconst_null, 1) := by decide +kernel
theorem dX8_drop_36 : decode cX8_drop 36 = .ok (.invokevirtual 81, 3) := by decide +kernel
theorem dX8_drop_39 : decode cX8_drop 39 = .ok (.aload_n 0, 1) := by decide +kernel
theorem dX8_drop_40 : decode cX8_drop 40 = .ok (.getfield 40, 3) := by decide +kernel
theorem dX8_drop_43 : decode cX8_drop 43 = .ok (.invokevirtual 85, 3) := by decide +kernel
theorem dX8_drop_46 : decode cX8_drop 46 = .ok (.iconst 1, 1) := by decide +kernel
theorem dX8_drop_47 : decode cX8_drop 47 = .ok (.ireturn, 1) := by decide +kernel
theorem dX8_feed_0 : decode cX8_feed 0 = .ok (.iload_n 1, 1) := by decide +kernel
theorem dX8_feed_1 : decode cX8_feed 1 = .ok (.invokestatic 103, 3) := by decide +kernel
theorem dX8_feed_4 : decode cX8_feed 4 = .ok (.ifCond .ne 13, 3) := by decide +kernel
theorem dX8_feed_7 : decode cX8_feed 7 = .ok (.new 106, 3) := by decide +kernel
theorem dX8_feed_10 : decode cX8_feed 10 = .ok (.dup, 1) := by decide +kernel
theorem dX8_feed_11 : decode cX8_feed 11 = .ok (.ldc 108, 2) := by decide +kernel
theorem dX8_feed_13 : decode cX8_feed 13 = .ok (.invokespecial 110, 3) := by decide +kernel
theorem dX8_feed_16 : decode cX8_feed 16 = .ok (.athrow, 1) := by decide +kernel
theorem dX8_feed_17 : decode cX8_feed 17 = .ok (.aload_n 0, 1) := by decide +kernel
theorem dX8_feed_18 : decode cX8_feed 18 = .ok (.getfield 18, 3) := by decide +kernel
theorem dX8_feed_21 : decode cX8_feed 21 = .ok (.iload_n 1, 1) := by decide +kernel
theorem dX8_feed_22 : decode cX8_feed 22 = .ok (.invokevirtual 64, 3) := by decide +kernel
theorem dX8_feed_25 : decode cX8_feed 25 = .ok (.ifCond .ne 13, 3) := by decide +kernel
theorem dX8_feed_28 : decode cX8_feed 28 = .ok (.new 111, 3) := by decide +kernel
theorem dX8_feed_31 : decode cX8_feed 31 = .ok (.dup, 1) := by decide +kernel
theorem dX8_feed_32 : decode cX8_feed 32 = .ok (.ldc 113, 2) := by decide +kernel
theorem dX8_feed_34 : decode cX8_feed 34 = .ok (.invokespecial 115, 3) := by decide +kernel
theorem dX8_feed_37 : decode cX8_feed 37 = .ok (.athrow, 1) := by decide +kernel
theorem dX8_feed_38 : decode cX8_feed 38 = .ok (.aload_n 0, 1) := by decide +kernel
theorem dX8_feed_39 : decode cX8_feed 39 = .ok (.getfield 40, 3) := by decide +kernel
theorem dX8_feed_42 : decode cX8_feed 42 = .ok (.invokevirtual 85, 3) := by decide +kernel
theorem dX8_feed_45 : decode cX8_feed 45 = .ok (.aload_n 0, 1) := by decide +kernel
theorem dX8_feed_46 : decode cX8_feed 46 = .ok (.getfield 18, 3) := by decide +kernel
theorem dX8_feed_49 : decode cX8_feed 49 = .ok (.invokevirtual 116, 3) := by decide +kernel
theorem dX8_feed_52 : decode cX8_feed 52 = .ok (.ireturn, 1) := by decide +kernel
theorem dX8_clear_0 : decode cX8_clear 0 = .ok (.aload_n 0, 1) := by decide +kernel
theorem dX8_clear_1 : decode cX8_clear 1 = .ok (.getfield 18, 3) := by decide +kernel
theorem dX8_clear_4 : decode cX8_clear 4 = .ok (.invokevirtual 116, 3) := by decide +kernel
theorem dX8_clear_7 : decode cX8_clear 7 = .ok (.istore_n 1, 1) := by decide +kernel
theorem dX8_clear_8 : decode cX8_clear 8 = .ok (.iload_n 1, 1) := by decide +kernel
theorem dX8_clear_9 : decode cX8_clear 9 = .ok (.ifCond .le 17, 3) := by decide +kernel
theorem dX8_clear_12 : decode cX8_clear 12 = .ok (.aload_n 0, 1) := by decide +kernel
theorem dX8_clear_13 : decode cX8_clear 13 = .ok (.getfield 18, 3) := by decide +kernel
theorem dX8_clear_16 : decode cX8_clear 16 = .ok (.invokevirtual 71, 3) := by decide +kernel
theorem dX8_clear_19 : decode cX8_clear 19 = .ok (.aload_n 0, 1) := by decide +kernel
theorem dX8_clear_20 : decode cX8_clear 20 = .ok (.getfield 40, 3) := by decide +kernel
theorem dX8_clear_23 : decode cX8_clear 23 = .ok (.invokevirtual 85, 3) := by decide +kernel
theorem dX8_clear_26 : decode cX8_clear 26 = .ok (.iload_n 1, 1) := by decide +kernel
theorem dX8_clear_27 : decode cX8_clear 27 = .ok (.ireturn, 1) := by decide +kernel
theorem dX8_outcomes_0 : decode cX8_outcomes 0 = .ok (.aload_n 0, 1) := by decide +kernel
theorem dX8_outcomes_1 : decode cX8_outcomes 1 = .ok (.getfield 33, 3) := by decide +kernel
theorem dX8_outcomes_4 : decode cX8_outcomes 4 = .ok (.iload_n 1, 1) := by decide +kernel
theorem dX8_outcomes_5 : decode cX8_outcomes 5 = .ok (.invokevirtual 99, 3) := by decide +kernel
theorem dX8_outcomes_8 : decode cX8_outcomes 8 = .ok (.astore_n 2, 1) := by decide +kernel
theorem dX8_outcomes_9 : decode cX8_outcomes 9 = .ok (.aload_n 2, 1) := by decide +kernel
theorem dX8_outcomes_10 : decode cX8_outcomes 10 = .ok (.ifnonnull 13, 3) := by decide +kernel
theorem dX8_outcomes_13 : decode cX8_outcomes 13 = .ok (.new 92, 3) := by decide +kernel
theorem dX8_outcomes_16 : decode cX8_outcomes 16 = .ok (.dup, 1) := by decide +kernel
theorem dX8_outcomes_17 : decode cX8_outcomes 17 = .ok (.ldc 119, 2) := by decide +kernel
theorem dX8_outcomes_19 : decode cX8_outcomes 19 = .ok (.invokespecial 96, 3) := by decide +kernel
theorem dX8_outcomes_22 : decode cX8_outcomes 22 = .ok (.athrow, 1) := by decide +kernel
theorem dX8_outcomes_23 : decode cX8_outcomes 23 = .ok (.aload_n 0, 1) := by decide +kernel
theorem dX8_outcomes_24 : decode cX8_outcomes 24 = .ok (.getfield 33, 3) := by decide +kernel
theorem dX8_outcomes_27 : decode cX8_outcomes 27 = .ok (.invokevirtual 121, 3) := by decide +kernel
theorem dX8_outcomes_30 : decode cX8_outcomes 30 = .ok (.ifCond .eq 13, 3) := by decide +kernel
theorem dX8_outcomes_33 : decode cX8_outcomes 33 = .ok (.new 111, 3) := by decide +kernel
theorem dX8_outcomes_36 : decode cX8_outcomes 36 = .ok (.dup, 1) := by decide +kernel
theorem dX8_outcomes_37 : decode cX8_outcomes 37 = .ok (.ldc 125, 2) := by decide +kernel
theorem dX8_outcomes_39 : decode cX8_outcomes 39 = .ok (.invokespecial 115, 3) := by decide +kernel
theorem dX8_outcomes_42 : decode cX8_outcomes 42 = .ok (.athrow, 1) := by decide +kernel
theorem dX8_outcomes_43 : decode cX8_outcomes 43 = .ok (.aload_n 2, 1) := by decide +kernel
theorem dX8_outcomes_44 : decode cX8_outcomes 44 = .ok (.invokevirtual 127, 3) := by decide +kernel
theorem dX8_outcomes_47 : decode cX8_outcomes 47 = .ok (.ireturn, 1) := by decide +kernel
theorem dX8_check_0 : decode cX8_check 0 = .ok (.aload_n 0, 1) := by decide +kernel
theorem dX8_check_1 : decode cX8_check 1 = .ok (.getfield 33, 3) := by decide +kernel
theorem dX8_check_4 : decode cX8_check 4 = .ok (.invokevirtual 132, 3) := by decide +kernel
theorem dX8_check_7 : decode cX8_check 7 = .ok (.ireturn, 1) := by decide +kernel
theorem dX8_match_0 : decode cX8_match 0 = .ok (.aload_n 0, 1) := by decide +kernel
theorem dX8_match_1 : decode cX8_match 1 = .ok (.getfield 56, 3) := by decide +kernel
theorem dX8_match_4 : decode cX8_match 4 = .ok (.invokevirtual 135, 3) := by decide +kernel
theorem dX8_match_7 : decode cX8_match 7 = .ok (.aload_n 0, 1) := by decide +kernel
theorem dX8_match_8 : decode cX8_match 8 = .ok (.getfield 33, 3) := by decide +kernel
theorem dX8_match_11 : decode cX8_match 11 = .ok (.iload_n 1, 1) := by decide +kernel
theorem dX8_match_12 : decode cX8_match 12 = .ok (.invokevirtual 99, 3) := by decide +kernel
theorem dX8_match_15 : decode cX8_match 15 = .ok (.ifnonnull 13, 3) := by decide +kernel
theorem dX8_match_18 : decode cX8_match 18 = .ok (.new 92, 3) := by decide +kernel
theorem dX8_match_21 : decode cX8_match 21 = .ok (.dup, 1) := by decide +kernel
theorem dX8_match_22 : decode cX8_match 22 = .ok (.ldc 119, 2) := by decide +kernel
theorem dX8_match_24 : decode cX8_match 24 = .ok (.invokespecial 96, 3) := by decide +kernel
theorem dX8_match_27 : decode cX8_match 27 = .ok (.athrow, 1) := by decide +kernel
theorem dX8_match_28 : decode cX8_match 28 = .ok (.aload_n 0, 1) := by decide +kernel
theorem dX8_match_29 : decode cX8_match 29 = .ok (.iload_n 2, 1) := by decide +kernel
theorem dX8_match_30 : decode cX8_match 30 = .ok (.invokevirtual 138, 3) := by decide +kernel
theorem dX8_match_33 : decode cX8_match 33 = .ok (.ifCond .ne 13, 3) := by decide +kernel
theorem dX8_match_36 : decode cX8_match 36 = .ok (.new 106, 3) := by decide +kernel
theorem dX8_match_39 : decode cX8_match 39 = .ok (.dup, 1) := by decide +kernel
theorem dX8_match_40 : decode cX8_match 40 = .ok (.ldc 141, 2) := by decide +kernel
theorem dX8_match_42 : decode cX8_match 42 = .ok (.invokespecial 110, 3) := by decide +kernel
theorem dX8_match_45 : decode cX8_match 45 = .ok (.athrow, 1) := by decide +kernel
theorem dX8_match_46 : decode cX8_match 46 = .ok (.aload_n 0, 1) := by decide +kernel
theorem dX8_match_47 : decode cX8_match 47 = .ok (.getfield 33, 3) := by decide +kernel
theorem dX8_match_50 : decode cX8_match 50 = .ok (.invokevirtual 132, 3) := by decide +kernel
theorem dX8_match_53 : decode cX8_match 53 = .ok (.ifCond .eq 13, 3) := by decide +kernel
theorem dX8_match_56 : decode cX8_match 56 = .ok (.new 111, 3) := by decide +kernel
theorem dX8_match_59 : decode cX8_match 59 = .ok (.dup, 1) := by decide +kernel
theorem dX8_match_60 : decode cX8_match 60 = .ok (.ldc 143, 2) := by decide +kernel
theorem dX8_match_62 : decode cX8_match 62 = .ok (.invokespecial 115, 3) := by decide +kernel
theorem dX8_match_65 : decode cX8_match 65 = .ok (.athrow, 1) := by decide +kernel
theorem dX8_match_66 : decode cX8_match 66 = .ok (.aload_n 0, 1) := by decide +kernel
theorem dX8_match_67 : decode cX8_match 67 = .ok (.getfield 49, 3) := by decide +kernel
theorem dX8_match_70 : decode cX8_match 70 = .ok (.iload_n 1, 1) := by decide +kernel
theorem dX8_match_71 : decode cX8_match 71 = .ok (.iload_n 2, 1) := by decide +kernel
theorem dX8_match_72 : decode cX8_match 72 = .ok (.iconst 1, 1) := by decide +kernel
theorem dX8_match_73 : decode cX8_match 73 = .ok (.invokevirtual 145, 3) := by decide +kernel
theorem dX8_match_76 : decode cX8_match 76 = .ok (.istore_n 3, 1) := by decide +kernel
theorem dX8_match_77 : decode cX8_match 77 = .ok (.iload_n 3, 1) := by decide +kernel
theorem dX8_match_78 : decode cX8_match 78 = .ok (.iconst (-1), 1) := by decide +kernel
theorem dX8_match_79 : decode cX8_match 79 = .ok (.if_icmp .eq 19, 3) := by decide +kernel
theorem dX8_match_82 : decode cX8_match 82 = .ok (.aload_n 0, 1) := by decide +kernel
theorem dX8_match_83 : decode cX8_match 83 = .ok (.getfield 56, 3) := by decide +kernel
theorem dX8_match_86 : decode cX8_match 86 = .ok (.aload_n 0, 1) := by decide +kernel
theorem dX8_match_87 : decode cX8_match 87 = .ok (.getfield 40, 3) := by decide +kernel
theorem dX8_match_90 : decode cX8_match 90 = .ok (.iload_n 1, 1) := by decide +kernel
theorem dX8_match_91 : decode cX8_match 91 = .ok (.iload_n 2, 1) := by decide +kernel
theorem dX8_match_92 : decode cX8_match 92 = .ok (.invokestatic 149, 3) := by decide +kernel
theorem dX8_match_95 : decode cX8_match 95 = .ok (.invokevirtual 153, 3) := by decide +kernel
theorem dX8_match_98 : decode cX8_match 98 = .ok (.iload_n 3, 1) := by decide +kernel
theorem dX8_match_99 : decode cX8_match 99 = .ok (.ireturn, 1) := by decide +kernel
theorem dX8_memory_0 : decode cX8_memory 0 = .ok (.iload_n 1, 1) := by decide +kernel
theorem dX8_memory_1 : decode cX8_memory 1 = .ok (.invokestatic 88, 3) := by decide +kernel
theorem dX8_memory_4 : decode cX8_memory 4 = .ok (.ifCond .eq 11, 3) := by decide +kernel
theorem dX8_memory_7 : decode cX8_memory 7 = .ok (.aload_n 0, 1) := by decide +kernel
theorem dX8_memory_8 : decode cX8_memory 8 = .ok (.iload_n 2, 1) := by decide +kernel
theorem dX8_memory_9 : decode cX8_memory 9 = .ok (.invokevirtual 138, 3) := by decide +kernel
theorem dX8_memory_12 : decode cX8_memory 12 = .ok (.ifCond .ne 13, 3) := by decide +kernel
theorem dX8_memory_15 : decode cX8_memory 15 = .ok (.new 157, 3) := by decide +kernel
theorem dX8_memory_18 : decode cX8_memory 18 = .ok (.dup, 1) := by decide +kernel
theorem dX8_memory_19 : decode cX8_memory 19 = .ok (.ldc 159, 2) := by decide +kernel
theorem dX8_memory_21 : decode cX8_memory 21 = .ok (.invokespecial 161, 3) := by decide +kernel
theorem dX8_memory_24 : decode cX8_memory 24 = .ok (.athrow, 1) := by decide +kernel
theorem dX8_memory_25 : decode cX8_memory 25 = .ok (.aload_n 0, 1) := by decide +kernel
theorem dX8_memory_26 : decode cX8_memory 26 = .ok (.getfield 40, 3) := by decide +kernel
theorem dX8_memory_29 : decode cX8_memory 29 = .ok (.iload_n 1, 1) := by decide +kernel
theorem dX8_memory_30 : decode cX8_memory 30 = .ok (.iload_n 2, 1) := by decide +kernel
theorem dX8_memory_31 : decode cX8_memory 31 = .ok (.invokestatic 149, 3) := by decide +kernel
theorem dX8_memory_34 : decode cX8_memory 34 = .ok (.invokevirtual 162, 3) := by decide +kernel
theorem dX8_memory_37 : decode cX8_memory 37 = .ok (.ireturn, 1) := by decide +kernel
theorem dX8_node_0 : decode cX8_node 0 = .ok (.aload_n 0, 1) := by decide +kernel
theorem dX8_node_1 : decode cX8_node 1 = .ok (.getfield 56, 3) := by decide +kernel
theorem dX8_node_4 : decode cX8_node 4 = .ok (.iload_n 1, 1) := by decide +kernel
theorem dX8_node_5 : decode cX8_node 5 = .ok (.iload_n 2, 1) := by decide +kernel
theorem dX8_node_6 : decode cX8_node 6 = .ok (.invokevirtual 166, 3) := by decide +kernel
theorem dX8_node_9 : decode cX8_node 9 = .ok (.ifCond .ne 13, 3) := by decide +kernel
theorem dX8_node_12 : decode cX8_node 12 = .ok (.new 157, 3) := by decide +kernel
theorem dX8_node_15 : decode cX8_node 15 = .ok (.dup, 1) := by decide +kernel
theorem dX8_node_16 : decode cX8_node 16 = .ok (.ldc 170, 2) := by decide +kernel
theorem dX8_node_18 : decode cX8_node 18 = .ok (.invokespecial 161, 3) := by decide +kernel
theorem dX8_node_21 : decode cX8_node 21 = .ok (.athrow, 1) := by decide +kernel
theorem dX8_node_22 : decode cX8_node 22 = .ok (.aload_n 0, 1) := by decide +kernel
theorem dX8_node_23 : decode cX8_node 23 = .ok (.getfield 56, 3) := by decide +kernel
theorem dX8_node_26 : decode cX8_node 26 = .ok (.iload_n 1, 1) := by decide +kernel
theorem dX8_node_27 : decode cX8_node 27 = .ok (.iload_n 2, 1) := by decide +kernel
theorem dX8_node_28 : decode cX8_node 28 = .ok (.invokevirtual 172, 3) := by decide +kernel
theorem dX8_node_31 : decode cX8_node 31 = .ok (.ireturn, 1) := by decide +kernel
theorem dX8_count_0 : decode cX8_count 0 = .ok (.iload_n 1, 1) := by decide +kernel
theorem dX8_count_1 : decode cX8_count 1 = .ok (.tableswitch 87 0 5 #[39, 47, 55, 63, 71, 79], 39) := by decide +kernel
theorem dX8_count_40 : decode cX8_count 40 = .ok (.aload_n 0, 1) := by decide +kernel
theorem dX8_count_41 : decode cX8_count 41 = .ok (.getfield 33, 3) := by decide +kernel
theorem dX8_count_44 : decode cX8_count 44 = .ok (.invokevirtual 175, 3) := by decide +kernel
theorem dX8_count_47 : decode cX8_count 47 = .ok (.ireturn, 1) := by decide +kernel
theorem dX8_count_48 : decode cX8_count 48 = .ok (.aload_n 0, 1) := by decide +kernel
theorem dX8_count_49 : decode cX8_count 49 = .ok (.getfield 14, 3) := by decide +kernel
theorem dX8_count_52 : decode cX8_count 52 = .ok (.invokevirtual 116, 3) := by decide +kernel
theorem dX8_count_55 : decode cX8_count 55 = .ok (.ireturn, 1) := by decide +kernel
theorem dX8_count_56 : decode cX8_count 56 = .ok (.aload_n 0, 1) := by decide +kernel
theorem dX8_count_57 : decode cX8_count 57 = .ok (.getfield 18, 3) := by decide +kernel
theorem dX8_count_60 : decode cX8_count 60 = .ok (.invokevirtual 116, 3) := by decide +kernel
theorem dX8_count_63 : decode cX8_count 63 = .ok (.ireturn, 1) := by decide +kernel
theorem dX8_count_64 : decode cX8_count 64 = .ok (.aload_n 0, 1) := by decide +kernel
theorem dX8_count_65 : decode cX8_count 65 = .ok (.getfield 56, 3) := by decide +kernel
theorem dX8_count_68 : decode cX8_count 68 = .ok (.invokevirtual 176, 3) := by decide +kernel
theorem dX8_count_71 : decode cX8_count 71 = .ok (.ireturn, 1) := by decide +kernel
theorem dX8_count_72 : decode cX8_count 72 = .ok (.aload_n 0, 1) := by decide +kernel
theorem dX8_count_73 : decode cX8_count 73 = .ok (.getfield 49, 3) := by decide +kernel
theorem dX8_count_76 : decode cX8_count 76 = .ok (.invokevirtual 177, 3) := by decide +kernel
theorem dX8_count_79 : decode cX8_count 79 = .ok (.ireturn, 1) := by decide +kernel
theorem dX8_count_80 : decode cX8_count 80 = .ok (.aload_n 0, 1) := by decide +kernel
theorem dX8_count_81 : decode cX8_count 81 = .ok (.getfield 49, 3) := by decide +kernel
theorem dX8_count_84 : decode cX8_count 84 = .ok (.invokevirtual 180, 3) := by decide +kernel
theorem dX8_count_87 : decode cX8_count 87 = .ok (.ireturn, 1) := by decide +kernel
theorem dX8_count_88 : decode cX8_count 88 = .ok (.new 157, 3) := by decide +kernel
theorem dX8_count_91 : decode cX8_count 91 = .ok (.dup, 1) := by decide +kernel
theorem dX8_count_92 : decode cX8_count 92 = .ok (.ldc 183, 2) := by decide +kernel
theorem dX8_count_94 : decode cX8_count 94 = .ok (.invokespecial 161, 3) := by decide +kernel
theorem dX8_count_97 : decode cX8_count 97 = .ok (.athrow, 1) := by decide +kernel
theorem dX8_full_0 : decode cX8_full 0 = .ok (.aload_n 0, 1) := by decide +kernel
theorem dX8_full_1 : decode cX8_full 1 = .ok (.getfield 33, 3) := by decide +kernel
theorem dX8_full_4 : decode cX8_full 4 = .ok (.invokevirtual 175, 3) := by decide +kernel
theorem dX8_full_7 : decode cX8_full 7 = .ok (.aload_n 0, 1) := by decide +kernel
theorem dX8_full_8 : decode cX8_full 8 = .ok (.getfield 18, 3) := by decide +kernel
theorem dX8_full_11 : decode cX8_full 11 = .ok (.invokevirtual 116, 3) := by decide +kernel
theorem dX8_full_14 : decode cX8_full 14 = .ok (.iconst 1, 1) := by decide +kernel
theorem dX8_full_15 : decode cX8_full 15 = .ok (.iadd, 1) := by decide +kernel
theorem dX8_full_16 : decode cX8_full 16 = .ok (.imul, 1) := by decide +kernel
theorem dX8_full_17 : decode cX8_full 17 = .ok (.istore_n 1, 1) := by decide +kernel
theorem dX8_full_18 : decode cX8_full 18 = .ok (.iload_n 1, 1) := by decide +kernel
theorem dX8_full_19 : decode cX8_full 19 = .ok (.ifCond .gt 5, 3) := by decide +kernel
theorem dX8_full_22 : decode cX8_full 22 = .ok (.fconst 0, 1) := by decide +kernel
theorem dX8_full_23 : decode cX8_full 23 = .ok (.freturn, 1) := by decide +kernel
theorem dX8_full_24 : decode cX8_full 24 = .ok (.aload_n 0, 1) := by decide +kernel
theorem dX8_full_25 : decode cX8_full 25 = .ok (.getfield 40, 3) := by decide +kernel
theorem dX8_full_28 : decode cX8_full 28 = .ok (.invokevirtual 185, 3) := by decide +kernel
theorem dX8_full_31 : decode cX8_full 31 = .ok (.i2f, 1) := by decide +kernel
theorem dX8_full_32 : decode cX8_full 32 = .ok (.iload_n 1, 1) := by decide +kernel
theorem dX8_full_33 : decode cX8_full 33 = .ok (.i2f, 1) := by decide +kernel
theorem dX8_full_34 : decode cX8_full 34 = .ok (.fdiv, 1) := by decide +kernel
theorem dX8_full_35 : decode cX8_full 35 = .ok (.freturn, 1) := by decide +kernel
theorem dX8_isPlace_0 : decode cX8_isPlace 0 = .ok (.iload_n 1, 1) := by decide +kernel
theorem dX8_isPlace_1 : decode cX8_isPlace 1 = .ok (.ifCond .lt 18, 3) := by decide +kernel
theorem dX8_isPlace_4 : decode cX8_isPlace 4 = .ok (.iload_n 1, 1) := by decide +kernel
theorem dX8_isPlace_5 : decode cX8_isPlace 5 = .ok (.aload_n 0, 1) := by decide +kernel
theorem dX8_isPlace_6 : decode cX8_isPlace 6 = .ok (.getfield 18, 3) := by decide +kernel
theorem dX8_isPlace_9 : decode cX8_isPlace 9 = .ok (.invokevirtual 116, 3) := by decide +kernel
theorem dX8_isPlace_12 : decode cX8_isPlace 12 = .ok (.if_icmp .gt 7, 3) := by decide +kernel
theorem dX8_isPlace_15 : decode cX8_isPlace 15 = .ok (.iconst 1, 1) := by decide +kernel
theorem dX8_isPlace_16 : decode cX8_isPlace 16 = .ok (.goto 4, 3) := by decide +kernel
theorem dX8_isPlace_19 : decode cX8_isPlace 19 = .ok (.iconst 0, 1) := by decide +kernel
theorem dX8_isPlace_20 : decode cX8_isPlace 20 = .ok (.ireturn, 1) := by decide +kernel
theorem dX8_isRule_0 : decode cX8_isRule 0 = .ok (.iload_n 0, 1) := by decide +kernel
theorem dX8_isRule_1 : decode cX8_isRule 1 = .ok (.ifCond .lt 13, 3) := by decide +kernel
theorem dX8_isRule_4 : decode cX8_isRule 4 = .ok (.iload_n 0, 1) := by decide +kernel
theorem dX8_isRule_5 : decode cX8_isRule 5 = .ok (.bipush 6, 2) := by decide +kernel
theorem dX8_isRule_7 : decode cX8_isRule 7 = .ok (.if_icmp .ge 7, 3) := by decide +kernel
theorem dX8_isRule_10 : decode cX8_isRule 10 = .ok (.iconst 1, 1) := by decide +kernel
theorem dX8_isRule_11 : decode cX8_isRule 11 = .ok (.goto 4, 3) := by decide +kernel
theorem dX8_isRule_14 : decode cX8_isRule 14 = .ok (.iconst 0, 1) := by decide +kernel
theorem dX8_isRule_15 : decode cX8_isRule 15 = .ok (.ireturn, 1) := by decide +kernel
theorem dX8_isLetter_0 : decode cX8_isLetter 0 = .ok (.iload_n 0, 1) := by decide +kernel
theorem dX8_isLetter_1 : decode cX8_isLetter 1 = .ok (.bipush 97, 2) := by decide +kernel
theorem dX8_isLetter_3 : decode cX8_isLetter 3 = .ok (.if_icmp .lt 13, 3) := by decide +kernel
theorem dX8_isLetter_6 : decode cX8_isLetter 6 = .ok (.iload_n 0, 1) := by decide +kernel
theorem dX8_isLetter_7 : decode cX8_isLetter 7 = .ok (.bipush 105, 2) := by decide +kernel
theorem dX8_isLetter_9 : decode cX8_isLetter 9 = .ok (.if_icmp .gt 7, 3) := by decide +kernel
theorem dX8_isLetter_12 : decode cX8_isLetter 12 = .ok (.iconst 1, 1) := by decide +kernel
theorem dX8_isLetter_13 : decode cX8_isLetter 13 = .ok (.goto 4, 3) := by decide +kernel
theorem dX8_isLetter_16 : decode cX8_isLetter 16 = .ok (.iconst 0, 1) := by decide +kernel
theorem dX8_isLetter_17 : decode cX8_isLetter 17 = .ok (.ireturn, 1) := by decide +kernel
theorem dX8_isRuleLetter_0 : decode cX8_isRuleLetter 0 = .ok (.iload_n 0, 1) := by decide +kernel
theorem dX8_isRuleLetter_1 : decode cX8_isRuleLetter 1 = .ok (.bipush 65, 2) := by decide +kernel
theorem dX8_isRuleLetter_3 : decode cX8_isRuleLetter 3 = .ok (.if_icmp .lt 13, 3) := by decide +kernel
theorem dX8_isRuleLetter_6 : decode cX8_isRuleLetter 6 = .ok (.iload_n 0, 1) := by decide +kernel
theorem dX8_isRuleLetter_7 : decode cX8_isRuleLetter 7 = .ok (.bipush 70, 2) := by decide +kernel
theorem dX8_isRuleLetter_9 : decode cX8_isRuleLetter 9 = .ok (.if_icmp .gt 7, 3) := by decide +kernel
theorem dX8_isRuleLetter_12 : decode cX8_isRuleLetter 12 = .ok (.iconst 1, 1) := by decide +kernel
theorem dX8_isRuleLetter_13 : decode cX8_isRuleLetter 13 = .ok (.goto 4, 3) := by decide +kernel
theorem dX8_isRuleLetter_16 : decode cX8_isRuleLetter 16 = .ok (.iconst 0, 1) := by decide +kernel
theorem dX8_isRuleLetter_17 : decode cX8_isRuleLetter 17 = .ok (.ireturn, 1) := by decide +kernel
theorem dX8_standsInTexts_0 : decode cX8_standsInTexts 0 = .ok (.iload_n 0, 1) := by decide +kernel
theorem dX8_standsInTexts_1 : decode cX8_standsInTexts 1 = .ok (.invokestatic 103, 3) := by decide +kernel
theorem dX8_standsInTexts_4 : decode cX8_standsInTexts 4 = .ok (.ifCond .ne 19, 3) := by decide +kernel
theorem dX8_standsInTexts_7 : decode cX8_standsInTexts 7 = .ok (.iload_n 0, 1) := by decide +kernel
theorem dX8_standsInTexts_8 : decode cX8_standsInTexts 8 = .ok (.invokestatic 186, 3) := by decide +kernel
theorem dX8_standsInTexts_11 : decode cX8_standsInTexts 11 = .ok (.ifCond .ne 12, 3) := by decide +kernel
theorem dX8_standsInTexts_14 : decode cX8_standsInTexts 14 = .ok (.ldc 189, 2) := by decide +kernel
theorem dX8_standsInTexts_16 : decode cX8_standsInTexts 16 = .ok (.iload_n 0, 1) := by decide +kernel
theorem dX8_standsInTexts_17 : decode cX8_standsInTexts 17 = .ok (.invokevirtual 191, 3) := by decide +kernel
theorem dX8_standsInTexts_20 : decode cX8_standsInTexts 20 = .ok (.ifCond .lt 7, 3) := by decide +kernel
theorem dX8_standsInTexts_23 : decode cX8_standsInTexts 23 = .ok (.iconst 1, 1) := by decide +kernel
theorem dX8_standsInTexts_24 : decode cX8_standsInTexts 24 = .ok (.goto 4, 3) := by decide +kernel
theorem dX8_standsInTexts_27 : decode cX8_standsInTexts 27 = .ok (.iconst 0, 1) := by decide +kernel
theorem dX8_standsInTexts_28 : decode cX8_standsInTexts 28 = .ok (.ireturn, 1) := by decide +kernel
theorem dX9_init_0 : decode cX9_init 0 = .ok (.aload_n 0, 1) := by decide +kernel
theorem dX9_init_1 : decode cX9_init 1 = .ok (.invokespecial 1, 3) := by decide +kernel
theorem dX9_init_4 : decode cX9_init 4 = .ok (.aload_n 0, 1) := by decide +kernel
theorem dX9_init_5 : decode cX9_init 5 = .ok (.bipush 24, 2) := by decide +kernel
theorem dX9_init_7 : decode cX9_init 7 = .ok (.newarray .char, 2) := by decide +kernel
theorem dX9_init_9 : decode cX9_init 9 = .ok (.putfield 7, 3) := by decide +kernel
theorem dX9_init_12 : decode cX9_init 12 = .ok (.aload_n 0, 1) := by decide +kernel
theorem dX9_init_13 : decode cX9_init 13 = .ok (.bipush 20, 2) := by decide +kernel
theorem dX9_init_15 : decode cX9_init 15 = .ok (.newarray .int, 2) := by decide +kernel
theorem dX9_init_17 : decode cX9_init 17 = .ok (.putfield 13, 3) := by decide +kernel
theorem dX9_init_20 : decode cX9_init 20 = .ok (.aload_n 0, 1) := by decide +kernel
theorem dX9_init_21 : decode cX9_init 21 = .ok (.sipush 448, 3) := by decide +kernel
theorem dX9_init_24 : decode cX9_init 24 = .ok (.newarray .int, 2) := by decide +kernel
theorem dX9_init_26 : decode cX9_init 26 = .ok (.putfield 17, 3) := by decide +kernel
theorem dX9_init_29 : decode cX9_init 29 = .ok (.aload_n 0, 1) := by decide +kernel
theorem dX9_init_30 : decode cX9_init 30 = .ok (.sipush 448, 3) := by decide +kernel
theorem dX9_init_33 : decode cX9_init 33 = .ok (.newarray .int, 2) := by decide +kernel
theorem dX9_init_35 : decode cX9_init 35 = .ok (.putfield 20, 3) := by decide +kernel
theorem dX9_init_38 : decode cX9_init 38 = .ok (.aload_n 0, 1) := by decide +kernel
theorem dX9_init_39 : decode cX9_init 39 = .ok (.sipush 448, 3) := by decide +kernel
theorem dX9_init_42 : decode cX9_init 42 = .ok (.newarray .int, 2) := by decide +kernel
theorem dX9_init_44 : decode cX9_init 44 = .ok (.putfield 23, 3) := by decide +kernel
theorem dX9_init_47 : decode cX9_init 47 = .ok (.aload_n 0, 1) := by decide +kernel
theorem dX9_init_48 : decode cX9_init 48 = .ok (.sipush 448, 3) := by decide +kernel
theorem dX9_init_51 : decode cX9_init 51 = .ok (.newarray .int, 2) := by decide +kernel
theorem dX9_init_53 : decode cX9_init 53 = .ok (.putfield 26, 3) := by decide +kernel
theorem dX9_init_56 : decode cX9_init 56 = .ok (.aload_n 0, 1) := by decide +kernel
theorem dX9_init_57 : decode cX9_init 57 = .ok (.sipush 448, 3) := by decide +kernel
theorem dX9_init_60 : decode cX9_init 60 = .ok (.newarray .boolean, 2) := by decide +kernel
theorem dX9_init_62 : decode cX9_init 62 = .ok (.putfield 29, 3) := by decide +kernel
theorem dX9_init_65 : decode cX9_init 65 = .ok (.aload_n 0, 1) := by decide +kernel
theorem dX9_init_66 : decode cX9_init 66 = .ok (.bipush 7, 2) := by decide +kernel
theorem dX9_init_68 : decode cX9_init 68 = .ok (.newarray .int, 2) := by decide +kernel
theorem dX9_init_70 : decode cX9_init 70 = .ok (.putfield 33, 3) := by decide +kernel
theorem dX9_init_73 : decode cX9_init 73 = .ok (.aload_n 0, 1) := by decide +kernel
theorem dX9_init_74 : decode cX9_init 74 = .ok (.sipush 384, 3) := by decide +kernel
theorem dX9_init_77 : decode cX9_init 77 = .ok (.newarray .int, 2) := by decide +kernel
theorem dX9_init_79 : decode cX9_init 79 = .ok (.putfield 36, 3) := by decide +kernel
theorem dX9_init_82 : decode cX9_init 82 = .ok (.aload_n 0, 1) := by decide +kernel
theorem dX9_init_83 : decode cX9_init 83 = .ok (.sipush 384, 3) := by decide +kernel
theorem dX9_init_86 : decode cX9_init 86 = .ok (.newarray .boolean, 2) := by decide +kernel
theorem dX9_init_88 : decode cX9_init 88 = .ok (.putfield 39, 3) := by decide +kernel
theorem dX9_init_91 : decode cX9_init 91 = .ok (.aload_n 0, 1) := by decide +kernel
theorem dX9_init_92 : decode cX9_init 92 = .ok (.bipush 126, 2) := by decide +kernel
theorem dX9_init_94 : decode cX9_init 94 = .ok (.newarray .int, 2) := by decide +kernel
theorem dX9_init_96 : decode cX9_init 96 = .ok (.putfield 42, 3) := by decide +kernel
theorem dX9_init_99 : decode cX9_init 99 = .ok (.aload_n 0, 1) := by decide +kernel
theorem dX9_init_100 : decode cX9_init 100 = .ok (.sipush 960, 3) := by decide +kernel
theorem dX9_init_103 : decode cX9_init 103 = .ok (.newarray .int, 2) := by decide +kernel
theorem dX9_init_105 : decode cX9_init 105 = .ok (.putfield 45, 3) := by decide +kernel
theorem dX9_init_108 : decode cX9_init 108 = .ok (.aload_n 0, 1) := by decide +kernel
theorem dX9_init_109 : decode cX9_init 109 = .ok (.sipush 960, 3) := by decide +kernel
theorem dX9_init_112 : decode cX9_init 112 = .ok (.newarray .int, 2) := by decide +kernel
theorem dX9_init_114 : decode cX9_init 114 = .ok (.putfield 48, 3) := by decide +kernel
theorem dX9_init_117 : decode cX9_init 117 = .ok (.aload_n 0, 1) := by decide +kernel
theorem dX9_init_118 : decode cX9_init 118 = .ok (.sipush 960, 3) := by decide +kernel
theorem dX9_init_121 : decode cX9_init 121 = .ok (.newarray .int, 2) := by decide +kernel
theorem dX9_init_123 : decode cX9_init 123 = .ok (.putfield 51, 3) := by decide +kernel
theorem dX9_init_126 : decode cX9_init 126 = .ok (.aload_n 0, 1) := by decide +kernel
theorem dX9_init_127 : decode cX9_init 127 = .ok (.sipush 960, 3) := by decide +kernel
theorem dX9_init_130 : decode cX9_init 130 = .ok (.newarray .boolean, 2) := by decide +kernel
theorem dX9_init_132 : decode cX9_init 132 = .ok (.putfield 54, 3) := by decide +kernel
theorem dX9_init_135 : decode cX9_init 135 = .ok (.aload_n 0, 1) := by decide +kernel
theorem dX9_init_136 : decode cX9_init 136 = .ok (.sipush 960, 3) := by decide +kernel
theorem dX9_init_139 : decode cX9_init 139 = .ok (.newarray .int, 2) := by decide +kernel
theorem dX9_init_141 : decode cX9_init 141 = .ok (.putfield 57, 3) := by decide +kernel
theorem dX9_init_144 : decode cX9_init 144 = .ok (.aload_n 0, 1) := by decide +kernel
theorem dX9_init_145 : decode cX9_init 145 = .ok (.bipush 64, 2) := by decide +kernel
theorem dX9_init_147 : decode cX9_init 147 = .ok (.newarray .int, 2) := by decide +kernel
theorem dX9_init_149 : decode cX9_init 149 = .ok (.putfield 60, 3) := by decide +kernel
theorem dX9_init_152 : decode cX9_init 152 = .ok (.aload_n 0, 1) := by decide +kernel
theorem dX9_init_153 : decode cX9_init 153 = .ok (.bipush 64, 2) := by decide +kernel
theorem dX9_init_155 : decode cX9_init 155 = .ok (.newarray .int, 2) := by decide +kernel
theorem dX9_init_157 : decode cX9_init 157 = .ok (.putfield 63, 3) := by decide +kernel
theorem dX9_init_160 : decode cX9_init 160 = .ok (.aload_n 0, 1) := by decide +kernel
theorem dX9_init_161 : decode cX9_init 161 = .ok (.bipush 64, 2) := by decide +kernel
theorem dX9_init_163 : decode cX9_init 163 = .ok (.newarray .int, 2) := by decide +kernel
theorem dX9_init_165 : decode cX9_init 165 = .ok (.putfield 66, 3) := by decide +kernel
theorem dX9_init_168 : decode cX9_init 168 = .ok (.aload_n 0, 1) := by decide +kernel
theorem dX9_init_169 : decode cX9_init 169 = .ok (.bipush 60, 2) := by decide +kernel
theorem dX9_init_171 : decode cX9_init 171 = .ok (.newarray .int, 2) := by decide +kernel
theorem dX9_init_173 : decode cX9_init 173 = .ok (.putfield 69, 3) := by decide +kernel
theorem dX9_init_176 : decode cX9_init 176 = .ok (.aload_n 0, 1) := by decide +kernel
theorem dX9_init_177 : decode cX9_init 177 = .ok (.bipush 60, 2) := by decide +kernel
theorem dX9_init_179 : decode cX9_init 179 = .ok (.newarray .int, 2) := by decide +kernel
theorem dX9_init_181 : decode cX9_init 181 = .ok (.putfield 72, 3) := by decide +kernel
theorem dX9_init_184 : decode cX9_init 184 = .ok (.aload_n 0, 1) := by decide +kernel
theorem dX9_init_185 : decode cX9_init 185 = .ok (.bipush 60, 2) := by decide +kernel
theorem dX9_init_187 : decode cX9_init 187 = .ok (.newarray .int, 2) := by decide +kernel
theorem dX9_init_189 : decode cX9_init 189 = .ok (.putfield 75, 3) := by decide +kernel
theorem dX9_init_192 : decode cX9_init 192 = .ok (.aload_n 0, 1) := by decide +kernel
theorem dX9_init_193 : decode cX9_init 193 = .ok (.bipush 60, 2) := by decide +kernel
theorem dX9_init_195 : decode cX9_init 195 = .ok (.newarray .int, 2) := by decide +kernel
theorem dX9_init_197 : decode cX9_init 197 = .ok (.putfield 78, 3) := by decide +kernel
theorem dX9_init_200 : decode cX9_init 200 = .ok (.aload_n 0, 1) := by decide +kernel
theorem dX9_init_201 : decode cX9_init 201 = .ok (.bipush 64, 2) := by decide +kernel
theorem dX9_init_203 : decode cX9_init 203 = .ok (.newarray .int, 2) := by decide +kernel
theorem dX9_init_205 : decode cX9_init 205 = .ok (.putfield 81, 3) := by decide +kernel
theorem dX9_init_208 : decode cX9_init 208 = .ok (.aload_n 0, 1) := by decide +kernel
theorem dX9_init_209 : decode cX9_init 209 = .ok (.bipush 64, 2) := by decide +kernel
theorem dX9_init_211 : decode cX9_init 211 = .ok (.newarray .int, 2) := by decide +kernel
theorem dX9_init_213 : decode cX9_init 213 = .ok (.putfield 84, 3) := by decide +kernel
theorem dX9_init_216 : decode cX9_init 216 = .ok (.aload_n 0, 1) := by decide +kernel
theorem dX9_init_217 : decode cX9_init 217 = .ok (.bipush 32, 2) := by decide +kernel
theorem dX9_init_219 : decode cX9_init 219 = .ok (.newarray .int, 2) := by decide +kernel
theorem dX9_init_221 : decode cX9_init 221 = .ok (.putfield 87, 3) := by decide +kernel
theorem dX9_init_224 : decode cX9_init 224 = .ok (.aload_n 0, 1) := by decide +kernel
theorem dX9_init_225 : decode cX9_init 225 = .ok (.bipush 32, 2) := by decide +kernel
theorem dX9_init_227 : decode cX9_init 227 = .ok (.newarray .int, 2) := by decide +kernel
theorem dX9_init_229 : decode cX9_init 229 = .ok (.putfield 90, 3) := by decide +kernel
theorem dX9_init_232 : decode cX9_init 232 = .ok (.aload_n 0, 1) := by decide +kernel
theorem dX9_init_233 : decode cX9_init 233 = .ok (.bipush 8, 2) := by decide +kernel
theorem dX9_init_235 : decode cX9_init 235 = .ok (.newarray .int, 2) := by decide +kernel
theorem dX9_init_237 : decode cX9_init 237 = .ok (.putfield 93, 3) := by decide +kernel
theorem dX9_init_240 : decode cX9_init 240 = .ok (.aload_n 0, 1) := by decide +kernel
theorem dX9_init_241 : decode cX9_init 241 = .ok (.bipush 8, 2) := by decide +kernel
theorem dX9_init_243 : decode cX9_init 243 = .ok (.newarray .int, 2) := by decide +kernel
theorem dX9_init_245 : decode cX9_init 245 = .ok (.putfield 96, 3) := by decide +kernel
theorem dX9_init_248 : decode cX9_init 248 = .ok (.aload_n 0, 1) := by decide +kernel
theorem dX9_init_249 : decode cX9_init 249 = .ok (.bipush 8, 2) := by decide +kernel
theorem dX9_init_251 : decode cX9_init 251 = .ok (.newarray .char, 2) := by decide +kernel
theorem dX9_init_253 : decode cX9_init 253 = .ok (.putfield 99, 3) := by decide +kernel
theorem dX9_init_256 : decode cX9_init 256 = .ok (.aload_n 0, 1) := by decide +kernel
theorem dX9_init_257 : decode cX9_init 257 = .ok (.invokevirtual 102, 3) := by decide +kernel
theorem dX9_init_260 : decode cX9_init 260 = .ok (.return_, 1) := by decide +kernel
theorem dX9_thrown_0 : decode cX9_thrown 0 = .ok (.aload_n 0, 1) := by decide +kernel
theorem dX9_thrown_1 : decode cX9_thrown 1 = .ok (.getfield 105, 3) := by decide +kernel
theorem dX9_thrown_4 : decode cX9_thrown 4 = .ok (.ireturn, 1) := by decide +kernel
theorem dX9_fail_0 : decode cX9_fail 0 = .ok (.aload_n 0, 1) := by decide +kernel
theorem dX9_fail_1 : decode cX9_fail 1 = .ok (.iload_n 1, 1) := by decide +kernel
theorem dX9_fail_2 : decode cX9_fail 2 = .ok (.putfield 105, 3) := by decide +kernel
theorem dX9_fail_5 : decode cX9_fail 5 = .ok (.iconst 0, 1) := by decide +kernel
theorem dX9_fail_6 : decode cX9_fail 6 = .ok (.ireturn, 1) := by decide +kernel
theorem dX9_in_0 : decode cX9_in 0 = .ok (.iload_n 0, 1) := by decide +kernel
theorem dX9_in_1 : decode cX9_in 1 = .ok (.iload_n 1, 1) := by decide +kernel
theorem dX9_in_2 : decode cX9_in 2 = .ok (.if_icmp .lt 12, 3) := by decide +kernel
theorem dX9_in_5 : decode cX9_in 5 = .ok (.iload_n 0, 1) := by decide +kernel
theorem dX9_in_6 : decode cX9_in 6 = .ok (.iload_n 2, 1) := by decide +kernel
theorem dX9_in_7 : decode cX9_in 7 = .ok (.if_icmp .gt 7, 3) := by decide +kernel
theorem dX9_in_10 : decode cX9_in 10 = .ok (.iconst 1, 1) := by decide +kernel
theorem dX9_in_11 : decode cX9_in 11 = .ok (.goto 4, 3) := by decide +kernel
theorem dX9_in_14 : decode cX9_in 14 = .ok (.iconst 0, 1) := by decide +kernel
theorem dX9_in_15 : decode cX9_in 15 = .ok (.ireturn, 1) := by decide +kernel
theorem dX9_forget_0 : decode cX9_forget 0 = .ok (.iconst 0, 1) := by decide +kernel
theorem dX9_forget_1 : decode cX9_forget 1 = .ok (.istore_n 1, 1) := by decide +kernel
theorem dX9_forget_2 : decode cX9_forget 2 = .ok (.iload_n 1, 1) := by decide +kernel
theorem dX9_forget_3 : decode cX9_forget 3 = .ok (.bipush 126, 2) := by decide +kernel
theorem dX9_forget_5 : decode cX9_forget 5 = .ok (.if_icmp .ge 17, 3) := by decide +kernel
theorem dX9_forget_8 : decode cX9_forget 8 = .ok (.aload_n 0, 1) := by decide +kernel
theorem dX9_forget_9 : decode cX9_forget 9 = .ok (.getfield 42, 3) := by decide +kernel
theorem dX9_forget_12 : decode cX9_forget 12 = .ok (.iload_n 1, 1) := by decide +kernel
theorem dX9_forget_13 : decode cX9_forget 13 = .ok (.bipush (-2), 2) := by decide +kernel
theorem dX9_forget_15 : decode cX9_forget 15 = .ok (.iastore, 1) := by decide +kernel
theorem dX9_forget_16 : decode cX9_forget 16 = .ok (.iinc 1 1, 3) := by decide +kernel
theorem dX9_forget_19 : decode cX9_forget 19 = .ok (.goto (-17), 3) := by decide +kernel
theorem dX9_forget_22 : decode cX9_forget 22 = .ok (.return_, 1) := by decide +kernel
theorem dX9_hasRule_0 : decode cX9_hasRule 0 = .ok (.iload_n 1, 1) := by decide +kernel
theorem dX9_hasRule_1 : decode cX9_hasRule 1 = .ok (.iconst 0, 1) := by decide +kernel
theorem dX9_hasRule_2 : decode cX9_hasRule 2 = .ok (.iconst 5, 1) := by decide +kernel
theorem dX9_hasRule_3 : decode cX9_hasRule 3 = .ok (.invokestatic 109, 3) := by decide +kernel
theorem dX9_hasRule_6 : decode cX9_hasRule 6 = .ok (.ifCond .eq 29, 3) := by decide +kernel
theorem dX9_hasRule_9 : decode cX9_hasRule 9 = .ok (.aload_n 0, 1) := by decide +kernel
theorem dX9_hasRule_10 : decode cX9_hasRule 10 = .ok (.getfield 33, 3) := by decide +kernel
theorem dX9_hasRule_13 : decode cX9_hasRule 13 = .ok (.iload_n 1, 1) := by decide +kernel
theorem dX9_hasRule_14 : decode cX9_hasRule 14 = .ok (.iconst 0, 1) := by decide +kernel
theorem dX9_hasRule_15 : decode cX9_hasRule 15 = .ok (.iconst 5, 1) := by decide +kernel
theorem dX9_hasRule_16 : decode cX9_hasRule 16 = .ok (.invokestatic 109, 3) := by decide +kernel
theorem dX9_hasRule_19 : decode cX9_hasRule 19 = .ok (.ifCond .eq 7, 3) := by decide +kernel
theorem dX9_hasRule_22 : decode cX9_hasRule 22 = .ok (.iload_n 1, 1) := by decide +kernel
theorem dX9_hasRule_23 : decode cX9_hasRule 23 = .ok (.goto 4, 3) := by decide +kernel
theorem dX9_hasRule_26 : decode cX9_hasRule 26 = .ok (.iconst 0, 1) := by decide +kernel
theorem dX9_hasRule_27 : decode cX9_hasRule 27 = .ok (.iaload, 1) := by decide +kernel
theorem dX9_hasRule_28 : decode cX9_hasRule 28 = .ok (.ifCond .le 7, 3) := by decide +kernel
theorem dX9_hasRule_31 : decode cX9_hasRule 31 = .ok (.iconst 1, 1) := by decide +kernel
theorem dX9_hasRule_32 : decode cX9_hasRule 32 = .ok (.goto 4, 3) := by decide +kernel
theorem dX9_hasRule_35 : decode cX9_hasRule 35 = .ok (.iconst 0, 1) := by decide +kernel
theorem dX9_hasRule_36 : decode cX9_hasRule 36 = .ok (.ireturn, 1) := by decide +kernel
theorem dX9_isLetter_0 : decode cX9_isLetter 0 = .ok (.iload_n 0, 1) := by decide +kernel
theorem dX9_isLetter_1 : decode cX9_isLetter 1 = .ok (.bipush 97, 2) := by decide +kernel
theorem dX9_isLetter_3 : decode cX9_isLetter 3 = .ok (.if_icmp .lt 13, 3) := by decide +kernel
theorem dX9_isLetter_6 : decode cX9_isLetter 6 = .ok (.iload_n 0, 1) := by decide +kernel
theorem dX9_isLetter_7 : decode cX9_isLetter 7 = .ok (.bipush 105, 2) := by decide +kernel
theorem dX9_isLetter_9 : decode cX9_isLetter 9 = .ok (.if_icmp .gt 7, 3) := by decide +kernel
theorem dX9_isLetter_12 : decode cX9_isLetter 12 = .ok (.iconst 1, 1) := by decide +kernel
theorem dX9_isLetter_13 : decode cX9_isLetter 13 = .ok (.goto 4, 3) := by decide +kernel
theorem dX9_isLetter_16 : decode cX9_isLetter 16 = .ok (.iconst 0, 1) := by decide +kernel
theorem dX9_isLetter_17 : decode cX9_isLetter 17 = .ok (.ireturn, 1) := by decide +kernel
theorem dX9_isRule_0 : decode cX9_isRule 0 = .ok (.iload_n 0, 1) := by decide +kernel
theorem dX9_isRule_1 : decode cX9_isRule 1 = .ok (.bipush 65, 2) := by decide +kernel
theorem dX9_isRule_3 : decode cX9_isRule 3 = .ok (.if_icmp .lt 13, 3) := by decide +kernel
theorem dX9_isRule_6 : decode cX9_isRule 6 = .ok (.iload_n 0, 1) := by decide +kernel
theorem dX9_isRule_7 : decode cX9_isRule 7 = .ok (.bipush 70, 2) := by decide +kernel
theorem dX9_isRule_9 : decode cX9_isRule 9 = .ok (.if_icmp .gt 7, 3) := by decide +kernel
theorem dX9_isRule_12 : decode cX9_isRule 12 = .ok (.iconst 1, 1) := by decide +kernel
theorem dX9_isRule_13 : decode cX9_isRule 13 = .ok (.goto 4, 3) := by decide +kernel
theorem dX9_isRule_16 : decode cX9_isRule 16 = .ok (.iconst 0, 1) := by decide +kernel
theorem dX9_isRule_17 : decode cX9_isRule 17 = .ok (.ireturn, 1) := by decide +kernel
theorem dX9_type_0 : decode cX9_type 0 = .ok (.aload_n 0, 1) := by decide +kernel
theorem dX9_type_1 : decode cX9_type 1 = .ok (.iconst 0, 1) := by decide +kernel
theorem dX9_type_2 : decode cX9_type 2 = .ok (.putfield 105, 3) := by decide +kernel
theorem dX9_type_5 : decode cX9_type 5 = .ok (.iload_n 1, 1) := by decide +kernel
theorem dX9_type_6 : decode cX9_type 6 = .ok (.invokestatic 113, 3) := by decide +kernel
theorem dX9_type_9 : decode cX9_type 9 = .ok (.ifCond .ne 88, 3) := by decide +kernel
theorem dX9_type_12 : decode cX9_type 12 = .ok (.iload_n 1, 1) := by decide +kernel
theorem dX9_type_13 : decode cX9_type 13 = .ok (.invokestatic 117, 3) := by decide +kernel
theorem dX9_type_16 : decode cX9_type 16 = .ok (.ifCond .ne 81, 3) := by decide +kernel
theorem dX9_type_19 : decode cX9_type 19 = .ok (.iload_n 1, 1) := by decide +kernel
theorem dX9_type_20 : decode cX9_type 20 = .ok (.bipush 61, 2) := by decide +kernel
theorem dX9_type_22 : decode cX9_type 22 = .ok (.if_icmp .eq 75, 3) := by decide +kernel
theorem dX9_type_25 : decode cX9_type 25 = .ok (.iload_n 1, 1) := by decide +kernel
theorem dX9_type_26 : decode cX9_type 26 = .ok (.bipush 47, 2) := by decide +kernel
theorem dX9_type_28 : decode cX9_type 28 = .ok (.if_icmp .eq 69, 3) := by decide +kernel
theorem dX9_type_31 : decode cX9_type 31 = .ok (.iload_n 1, 1) := by decide +kernel
theorem dX9_type_32 : decode cX9_type 32 = .ok (.bipush 38, 2) := by decide +kernel
theorem dX9_type_34 : decode cX9_type 34 = .ok (.if_icmp .eq 63, 3) := by decide +kernel
theorem dX9_type_37 : decode cX9_type 37 = .ok (.iload_n 1, 1) := by decide +kernel
theorem dX9_type_38 : decode cX9_type 38 = .ok (.bipush 33, 2) := by decide +kernel
theorem dX9_type_40 : decode cX9_type 40 = .ok (.if_icmp .eq 57, 3) := by decide +kernel
theorem dX9_type_43 : decode cX9_type 43 = .ok (.iload_n 1, 1) := by decide +kernel
theorem dX9_type_44 : decode cX9_type 44 = .ok (.bipush 42, 2) := by decide +kernel
theorem dX9_type_46 : decode cX9_type 46 = .ok (.if_icmp .eq 51, 3) := by decide +kernel
theorem dX9_type_49 : decode cX9_type 49 = .ok (.iload_n 1, 1) := by decide +kernel
theorem dX9_type_50 : decode cX9_type 50 = .ok (.bipush 43, 2) := by decide +kernel
theorem dX9_type_52 : decode cX9_type 52 = .ok (.if_icmp .eq 45, 3) := by decide +kernel
theorem dX9_type_55 : decode cX9_type 55 = .ok (.iload_n 1, 1) := by decide +kernel
theorem dX9_type_56 : decode cX9_type 56 = .ok (.bipush 63, 2) := by decide +kernel
theorem dX9_type_58 : decode cX9_type 58 = .ok (.if_icmp .eq 39, 3) := by decide +kernel
theorem dX9_type_61 : decode cX9_type 61 = .ok (.iload_n 1, 1) := by decide +kernel
theorem dX9_type_62 : decode cX9_type 62 = .ok (.bipush 46, 2) := by decide +kernel
theorem dX9_type_64 : decode cX9_type 64 = .ok (.if_icmp .eq 33, 3) := by decide +kernel
theorem dX9_type_67 : decode cX9_type 67 = .ok (.iload_n 1, 1) := by decide +kernel
theorem dX9_type_68 : decode cX9_type 68 = .ok (.bipush 91, 2) := by decide +kernel
theorem dX9_type_70 : decode cX9_type 70 = .ok (.if_icmp .eq 27, 3) := by decide +kernel
theorem dX9_type_73 : decode cX9_type 73 = .ok (.iload_n 1, 1) := by decide +kernel
theorem dX9_type_74 : decode cX9_type 74 = .ok (.bipush 45, 2) := by decide +kernel
theorem dX9_type_76 : decode cX9_type 76 = .ok (.if_icmp .eq 21, 3) := by decide +kernel
theorem dX9_type_79 : decode cX9_type 79 = .ok (.iload_n 1, 1) := by decide +kernel
theorem dX9_type_80 : decode cX9_type 80 = .ok (.bipush 93, 2) := by decide +kernel
theorem dX9_type_82 : decode cX9_type 82 = .ok (.if_icmp .eq 15, 3) := by decide +kernel
theorem dX9_type_85 : decode cX9_type 85 = .ok (.iload_n 1, 1) := by decide +kernel
theorem dX9_type_86 : decode cX9_type 86 = .ok (.bipush 40, 2) := by decide +kernel
theorem dX9_type_88 : decode cX9_type 88 = .ok (.if_icmp .eq 9, 3) := by decide +kernel
theorem dX9_type_91 : decode cX9_type 91 = .ok (.iload_n 1, 1) := by decide +kernel
theorem dX9_type_92 : decode cX9_type 92 = .ok (.bipush 41, 2) := by decide +kernel
theorem dX9_type_94 : decode cX9_type 94 = .ok (.if_icmp .ne 7, 3) := by decide +kernel
theorem dX9_type_97 : decode cX9_type 97 = .ok (.iconst 1, 1) := by decide +kernel
theorem dX9_type_98 : decode cX9_type 98 = .ok (.goto 4, 3) := by decide +kernel
theorem dX9_type_101 : decode cX9_type 101 = .ok (.iconst 0, 1) := by decide +kernel
theorem dX9_type_102 : decode cX9_type 102 = .ok (.istore_n 2, 1) := by decide +kernel
theorem dX9_type_103 : decode cX9_type 103 = .ok (.iload_n 2, 1) := by decide +kernel
theorem dX9_type_104 : decode cX9_type 104 = .ok (.ifCond .eq 12, 3) := by decide +kernel
theorem dX9_type_107 : decode cX9_type 107 = .ok (.aload_n 0, 1) := by decide +kernel
theorem dX9_type_108 : decode cX9_type 108 = .ok (.getfield 120, 3) := by decide +kernel
theorem dX9_type_111 : decode cX9_type 111 = .ok (.bipush 24, 2) := by decide +kernel
theorem dX9_type_113 : decode cX9_type 113 = .ok (.if_icmp .ne 5, 3) := by decide +kernel
theorem dX9_type_116 : decode cX9_type 116 = .ok (.iconst 0, 1) := by decide +kernel
theorem dX9_type_117 : decode cX9_type 117 = .ok (.ireturn, 1) := by decide +kernel
theorem dX9_type_118 : decode cX9_type 118 = .ok (.aload_n 0, 1) := by decide +kernel
theorem dX9_type_119 : decode cX9_type 119 = .ok (.getfield 7, 3) := by decide +kernel
theorem dX9_type_122 : decode cX9_type 122 = .ok (.aload_n 0, 1) := by decide +kernel
theorem dX9_type_123 : decode cX9_type 123 = .ok (.getfield 120, 3) := by decide +kernel
theorem dX9_type_126 : decode cX9_type 126 = .ok (.iload_n 1, 1) := by decide +kernel
theorem dX9_type_127 : decode cX9_type 127 = .ok (.castore, 1) := by decide +kernel
theorem dX9_type_128 : decode cX9_type 128 = .ok (.aload_n 0, 1) := by decide +kernel
theorem dX9_type_129 : decode cX9_type 129 = .ok (.dup, 1) := by decide +kernel
theorem dX9_type_130 : decode cX9_type 130 = .ok (.getfield 120, 3) := by decide +kernel
theorem dX9_type_133 : decode cX9_type 133 = .ok (.iconst 1, 1) := by decide +kernel
theorem dX9_type_134 : decode cX9_type 134 = .ok (.iadd, 1) := by decide +kernel
theorem dX9_type_135 : decode cX9_type 135 = .ok (.putfield 120, 3) := by decide +kernel
theorem dX9_type_138 : decode cX9_type 138 = .ok (.iconst 1, 1) := by decide +kernel
theorem dX9_type_139 : decode cX9_type 139 = .ok (.ireturn, 1) := by decide +kernel
theorem dX9_look_0 : decode cX9_look 0 = .ok (.iload_n 1, 1) := by decide +kernel
theorem dX9_look_1 : decode cX9_look 1 = .ok (.aload_n 0, 1) := by decide +kernel
theorem dX9_look_2 : decode cX9_look 2 = .ok (.getfield 120, 3) := by decide +kernel
theorem dX9_look_5 : decode cX9_look 5 = .ok (.if_icmp .ge 12, 3) := by decide +kernel
theorem dX9_look_8 : decode cX9_look 8 = .ok (.aload_n 0, 1) := by decide +kernel
theorem dX9_look_9 : decode cX9_look 9 = .ok (.getfield 7, 3) := by decide +kernel
theorem dX9_look_12 : decode cX9_look 12 = .ok (.iload_n 1, 1) := by decide +kernel
theorem dX9_look_13 : decode cX9_look 13 = .ok (.caload, 1) := by decide +kernel
theorem dX9_look_14 : decode cX9_look 14 = .ok (.goto 4, 3) := by decide +kernel
theorem dX9_look_17 : decode cX9_look 17 = .ok (.iconst 0, 1) := by decide +kernel
theorem dX9_look_18 : decode cX9_look 18 = .ok (.ireturn, 1) := by decide +kernel
theorem dX9_made_0 : decode cX9_made 0 = .ok (.sipush 384, 3) := by decide +kernel
theorem dX9_made_3 : decode cX9_made 3 = .ok (.aload_n 0, 1) := by decide +kernel
theorem dX9_made_4 : decode cX9_made 4 = .ok (.getfield 33, 3) := by decide +kernel
theorem dX9_made_7 : decode cX9_made 7 = .ok (.bipush 6, 2) := by decide +kernel
theorem dX9_made_9 : decode cX9_made 9 = .ok (.iaload, 1) := by decide +kernel
theorem dX9_made_10 : decode cX9_made 10 = .ok (.iadd, 1) := by decide +kernel
theorem dX9_made_11 : decode cX9_made 11 = .ok (.istore 4, 2) := by decide +kernel
theorem dX9_made_13 : decode cX9_made 13 = .ok (.aload_n 0, 1) := by decide +kernel
theorem dX9_made_14 : decode cX9_made 14 = .ok (.getfield 17, 3) := by decide +kernel
theorem dX9_made_17 : decode cX9_made 17 = .ok (.iload 4, 2) := by decide +kernel
theorem dX9_made_19 : decode cX9_made 19 = .ok (.iload_n 1, 1) := by decide +kernel
theorem dX9_made_20 : decode cX9_made 20 = .ok (.iastore, 1) := by decide +kernel
theorem dX9_made_21 : decode cX9_made 21 = .ok (.aload_n 0, 1) := by decide +kernel
theorem dX9_made_22 : decode cX9_made 22 = .ok (.getfield 20, 3) := by decide +kernel
theorem dX9_made_25 : decode cX9_made 25 = .ok (.iload 4, 2) := by decide +kernel
theorem dX9_made_27 : decode cX9_made 27 = .ok (.iload_n 2, 1) := by decide +kernel
theorem dX9_made_28 : decode cX9_made 28 = .ok (.iastore, 1) := by decide +kernel
theorem dX9_made_29 : decode cX9_made 29 = .ok (.aload_n 0, 1) := by decide +kernel
theorem dX9_made_30 : decode cX9_made 30 = .ok (.getfield 23, 3) := by decide +kernel
theorem dX9_made_33 : decode cX9_made 33 = .ok (.iload 4, 2) := by decide +kernel
theorem dX9_made_35 : decode cX9_made 35 = .ok (.iload_n 3, 1) := by decide +kernel
theorem dX9_made_36 : decode cX9_made 36 = .ok (.iastore, 1) := by decide +kernel
theorem dX9_made_37 : decode cX9_made 37 = .ok (.aload_n 0, 1) := by decide +kernel
theorem dX9_made_38 : decode cX9_made 38 = .ok (.getfield 29, 3) := by decide +kernel
theorem dX9_made_41 : decode cX9_made 41 = .ok (.iload 4, 2) := by decide +kernel
theorem dX9_made_43 : decode cX9_made 43 = .ok (.iconst 0, 1) := by decide +kernel
theorem dX9_made_44 : decode cX9_made 44 = .ok (.bastore, 1) := by decide +kernel
theorem dX9_made_45 : decode cX9_made 45 = .ok (.aload_n 0, 1) := by decide +kernel
theorem dX9_made_46 : decode cX9_made 46 = .ok (.getfield 33, 3) := by decide +kernel
theorem dX9_made_49 : decode cX9_made 49 = .ok (.bipush 6, 2) := by decide +kernel
theorem dX9_made_51 : decode cX9_made 51 = .ok (.dup2, 1) := by decide +kernel
theorem dX9_made_52 : decode cX9_made 52 = .ok (.iaload, 1) := by decide +kernel
theorem dX9_made_53 : decode cX9_made 53 = .ok (.iconst 1, 1) := by decide +kernel
theorem dX9_made_54 : decode cX9_made 54 = .ok (.iadd, 1) := by decide +kernel
theorem dX9_made_55 : decode cX9_made 55 = .ok (.iastore, 1) := by decide +kernel
theorem dX9_made_56 : decode cX9_made 56 = .ok (.aload_n 0, 1) := by decide +kernel
theorem dX9_made_57 : decode cX9_made 57 = .ok (.getfield 33, 3) := by decide +kernel
theorem dX9_made_60 : decode cX9_made 60 = .ok (.bipush 6, 2) := by decide +kernel
theorem dX9_made_62 : decode cX9_made 62 = .ok (.iaload, 1) := by decide +kernel
theorem dX9_made_63 : decode cX9_made 63 = .ok (.iconst 1, 1) := by decide +kernel
theorem dX9_made_64 : decode cX9_made 64 = .ok (.isub, 1) := by decide +kernel
theorem dX9_made_65 : decode cX9_made 65 = .ok (.ireturn, 1) := by decide +kernel
theorem dX9_partDone_0 : decode cX9_partDone 0 = .ok (.aload_n 0, 1) := by decide +kernel
theorem dX9_partDone_1 : decode cX9_partDone 1 = .ok (.iload_n 2, 1) := by decide +kernel
theorem dX9_partDone_2 : decode cX9_partDone 2 = .ok (.invokevirtual 123, 3) := by decide +kernel
theorem dX9_partDone_5 : decode cX9_partDone 5 = .ok (.istore_n 3, 1) := by decide +kernel
theorem dX9_partDone_6 : decode cX9_partDone 6 = .ok (.iload_n 3, 1) := by decide +kernel
theorem dX9_partDone_7 : decode cX9_partDone 7 = .ok (.bipush 42, 2) := by decide +kernel
theorem dX9_partDone_9 : decode cX9_partDone 9 = .ok (.if_icmp .ne 13, 3) := by decide +kernel
theorem dX9_partDone_12 : decode cX9_partDone 12 = .ok (.aload_n 0, 1) := by decide +kernel
theorem dX9_partDone_13 : decode cX9_partDone 13 = .ok (.iconst 4, 1) := by decide +kernel
theorem dX9_partDone_14 : decode cX9_partDone 14 = .ok (.iload_n 1, 1) := by decide +kernel
theorem dX9_partDone_15 : decode cX9_partDone 15 = .ok (.iconst 0, 1) := by decide +kernel
theorem dX9_partDone_16 : decode cX9_partDone 16 = .ok (.invokevirtual 127, 3) := by decide +kernel
theorem dX9_partDone_19 : decode cX9_partDone 19 = .ok (.goto 37, 3) := by decide +kernel
theorem dX9_partDone_22 : decode cX9_partDone 22 = .ok (.iload_n 3, 1) := by decide +kernel
theorem dX9_partDone_23 : decode cX9_partDone 23 = .ok (.bipush 43, 2) := by decide +kernel
theorem dX9_partDone_25 : decode cX9_partDone 25 = .ok (.if_icmp .ne 13, 3) := by decide +kernel
theorem dX9_partDone_28 : decode cX9_partDone 28 = .ok (.aload_n 0, 1) := by decide +kernel
theorem dX9_partDone_29 : decode cX9_partDone 29 = .ok (.iconst 5, 1) := by decide +kernel
theorem dX9_partDone_30 : decode cX9_partDone 30 = .ok (.iload_n 1, 1) := by decide +kernel
theorem dX9_partDone_31 : decode cX9_partDone 31 = .ok (.iconst 0, 1) := by decide +kernel
theorem dX9_partDone_32 : decode cX9_partDone 32 = .ok (.invokevirtual 127, 3) := by decide +kernel
theorem dX9_partDone_35 : decode cX9_partDone 35 = .ok (.goto 21, 3) := by decide +kernel
theorem dX9_partDone_38 : decode cX9_partDone 38 = .ok (.iload_n 3, 1) := by decide +kernel
theorem dX9_partDone_39 : decode cX9_partDone 39 = .ok (.bipush 63, 2) := by decide +kernel
theorem dX9_partDone_41 : decode cX9_partDone 41 = .ok (.if_icmp .ne 14, 3) := by decide +kernel
theorem dX9_partDone_44 : decode cX9_partDone 44 = .ok (.aload_n 0, 1) := by decide +kernel
theorem dX9_partDone_45 : decode cX9_partDone 45 = .ok (.bipush 6, 2) := by decide +kernel
theorem dX9_partDone_47 : decode cX9_partDone 47 = .ok (.iload_n 1, 1) := by decide +kernel
theorem dX9_partDone_48 : decode cX9_partDone 48 = .ok (.iconst 0, 1) := by decide +kernel
theorem dX9_partDone_49 : decode cX9_partDone 49 = .ok (.invokevirtual 127, 3) := by decide +kernel
theorem dX9_partDone_52 : decode cX9_partDone 52 = .ok (.goto 4, 3) := by decide +kernel
theorem dX9_partDone_55 : decode cX9_partDone 55 = .ok (.iload_n 1, 1) := by decide +kernel
theorem dX9_partDone_56 : decode cX9_partDone 56 = .ok (.istore 4, 2) := by decide +kernel
theorem dX9_partDone_58 : decode cX9_partDone 58 = .ok (.aload_n 0, 1) := by decide +kernel
end
section
theorem dX9_partDone_59 : decode cX9_partDone 59 = .ok (.getfield 99, 3) := by decide +kernel
theorem dX9_partDone_62 : decode cX9_partDone 62 = .ok (.aload_n 0, 1) := by decide +kernel
theorem dX9_partDone_63 : decode cX9_partDone 63 = .ok (.getfield 131, 3) := by decide +kernel
theorem dX9_partDone_66 : decode cX9_partDone 66 = .ok (.caload, 1) := by decide +kernel
theorem dX9_partDone_67 : decode cX9_partDone 67 = .ok (.bipush 38, 2) := by decide +kernel
theorem dX9_partDone_69 : decode cX9_partDone 69 = .ok (.if_icmp .ne 15, 3) := by decide +kernel
theorem dX9_partDone_72 : decode cX9_partDone 72 = .ok (.aload_n 0, 1) := by decide +kernel
theorem dX9_partDone_73 : decode cX9_partDone 73 = .ok (.bipush 7, 2) := by decide +kernel
theorem dX9_partDone_75 : decode cX9_partDone 75 = .ok (.iload 4, 2) := by decide +kernel
theorem dX9_partDone_77 : decode cX9_partDone 77 = .ok (.iconst 0, 1) := by decide +kernel
theorem dX9_partDone_78 : decode cX9_partDone 78 = .ok (.invokevirtual 127, 3) := by decide +kernel
theorem dX9_partDone_81 : decode cX9_partDone 81 = .ok (.goto 31, 3) := by decide +kernel
theorem dX9_partDone_84 : decode cX9_partDone 84 = .ok (.aload_n 0, 1) := by decide +kernel
theorem dX9_partDone_85 : decode cX9_partDone 85 = .ok (.getfield 99, 3) := by decide +kernel
theorem dX9_partDone_88 : decode cX9_partDone 88 = .ok (.aload_n 0, 1) := by decide +kernel
theorem dX9_partDone_89 : decode cX9_partDone 89 = .ok (.getfield 131, 3) := by decide +kernel
theorem dX9_partDone_92 : decode cX9_partDone 92 = .ok (.caload, 1) := by decide +kernel
theorem dX9_partDone_93 : decode cX9_partDone 93 = .ok (.bipush 33, 2) := by decide +kernel
theorem dX9_partDone_95 : decode cX9_partDone 95 = .ok (.if_icmp .ne 15, 3) := by decide +kernel
theorem dX9_partDone_98 : decode cX9_partDone 98 = .ok (.aload_n 0, 1) := by decide +kernel
theorem dX9_partDone_99 : decode cX9_partDone 99 = .ok (.bipush 8, 2) := by decide +kernel
theorem dX9_partDone_101 : decode cX9_partDone 101 = .ok (.iload 4, 2) := by decide +kernel
theorem dX9_partDone_103 : decode cX9_partDone 103 = .ok (.iconst 0, 1) := by decide +kernel
theorem dX9_partDone_104 : decode cX9_partDone 104 = .ok (.invokevirtual 127, 3) := by decide +kernel
theorem dX9_partDone_107 : decode cX9_partDone 107 = .ok (.goto 5, 3) := by decide +kernel
theorem dX9_partDone_110 : decode cX9_partDone 110 = .ok (.iload 4, 2) := by decide +kernel
theorem dX9_partDone_112 : decode cX9_partDone 112 = .ok (.istore 4, 2) := by decide +kernel
theorem dX9_partDone_114 : decode cX9_partDone 114 = .ok (.aload_n 0, 1) := by decide +kernel
theorem dX9_partDone_115 : decode cX9_partDone 115 = .ok (.getfield 99, 3) := by decide +kernel
theorem dX9_partDone_118 : decode cX9_partDone 118 = .ok (.aload_n 0, 1) := by decide +kernel
theorem dX9_partDone_119 : decode cX9_partDone 119 = .ok (.getfield 131, 3) := by decide +kernel
theorem dX9_partDone_122 : decode cX9_partDone 122 = .ok (.iconst 0, 1) := by decide +kernel
theorem dX9_partDone_123 : decode cX9_partDone 123 = .ok (.castore, 1) := by decide +kernel
theorem dX9_partDone_124 : decode cX9_partDone 124 = .ok (.aload_n 0, 1) := by decide +kernel
theorem dX9_partDone_125 : decode cX9_partDone 125 = .ok (.getfield 87, 3) := by decide +kernel
theorem dX9_partDone_128 : decode cX9_partDone 128 = .ok (.aload_n 0, 1) := by decide +kernel
theorem dX9_partDone_129 : decode cX9_partDone 129 = .ok (.getfield 134, 3) := by decide +kernel
theorem dX9_partDone_132 : decode cX9_partDone 132 = .ok (.iload 4, 2) := by decide +kernel
theorem dX9_partDone_134 : decode cX9_partDone 134 = .ok (.iastore, 1) := by decide +kernel
theorem dX9_partDone_135 : decode cX9_partDone 135 = .ok (.aload_n 0, 1) := by decide +kernel
theorem dX9_partDone_136 : decode cX9_partDone 136 = .ok (.dup, 1) := by decide +kernel
theorem dX9_partDone_137 : decode cX9_partDone 137 = .ok (.getfield 134, 3) := by decide +kernel
theorem dX9_partDone_140 : decode cX9_partDone 140 = .ok (.iconst 1, 1) := by decide +kernel
theorem dX9_partDone_141 : decode cX9_partDone 141 = .ok (.iadd, 1) := by decide +kernel
theorem dX9_partDone_142 : decode cX9_partDone 142 = .ok (.putfield 134, 3) := by decide +kernel
theorem dX9_partDone_145 : decode cX9_partDone 145 = .ok (.iload_n 3, 1) := by decide +kernel
theorem dX9_partDone_146 : decode cX9_partDone 146 = .ok (.bipush 42, 2) := by decide +kernel
theorem dX9_partDone_148 : decode cX9_partDone 148 = .ok (.if_icmp .eq 15, 3) := by decide +kernel
theorem dX9_partDone_151 : decode cX9_partDone 151 = .ok (.iload_n 3, 1) := by decide +kernel
theorem dX9_partDone_152 : decode cX9_partDone 152 = .ok (.bipush 43, 2) := by decide +kernel
theorem dX9_partDone_154 : decode cX9_partDone 154 = .ok (.if_icmp .eq 9, 3) := by decide +kernel
theorem dX9_partDone_157 : decode cX9_partDone 157 = .ok (.iload_n 3, 1) := by decide +kernel
theorem dX9_partDone_158 : decode cX9_partDone 158 = .ok (.bipush 63, 2) := by decide +kernel
theorem dX9_partDone_160 : decode cX9_partDone 160 = .ok (.if_icmp .ne 9, 3) := by decide +kernel
theorem dX9_partDone_163 : decode cX9_partDone 163 = .ok (.iload_n 2, 1) := by decide +kernel
theorem dX9_partDone_164 : decode cX9_partDone 164 = .ok (.iconst 1, 1) := by decide +kernel
theorem dX9_partDone_165 : decode cX9_partDone 165 = .ok (.iadd, 1) := by decide +kernel
theorem dX9_partDone_166 : decode cX9_partDone 166 = .ok (.goto 4, 3) := by decide +kernel
theorem dX9_partDone_169 : decode cX9_partDone 169 = .ok (.iload_n 2, 1) := by decide +kernel
theorem dX9_partDone_170 : decode cX9_partDone 170 = .ok (.ireturn, 1) := by decide +kernel
theorem dX9_rowDone_0 : decode cX9_rowDone 0 = .ok (.aload_n 0, 1) := by decide +kernel
theorem dX9_rowDone_1 : decode cX9_rowDone 1 = .ok (.getfield 87, 3) := by decide +kernel
theorem dX9_rowDone_4 : decode cX9_rowDone 4 = .ok (.aload_n 0, 1) := by decide +kernel
theorem dX9_rowDone_5 : decode cX9_rowDone 5 = .ok (.getfield 134, 3) := by decide +kernel
theorem dX9_rowDone_8 : decode cX9_rowDone 8 = .ok (.iconst 1, 1) := by decide +kernel
theorem dX9_rowDone_9 : decode cX9_rowDone 9 = .ok (.isub, 1) := by decide +kernel
theorem dX9_rowDone_10 : decode cX9_rowDone 10 = .ok (.iaload, 1) := by decide +kernel
theorem dX9_rowDone_11 : decode cX9_rowDone 11 = .ok (.istore_n 1, 1) := by decide +kernel
theorem dX9_rowDone_12 : decode cX9_rowDone 12 = .ok (.aload_n 0, 1) := by decide +kernel
theorem dX9_rowDone_13 : decode cX9_rowDone 13 = .ok (.dup, 1) := by decide +kernel
theorem dX9_rowDone_14 : decode cX9_rowDone 14 = .ok (.getfield 134, 3) := by decide +kernel
theorem dX9_rowDone_17 : decode cX9_rowDone 17 = .ok (.iconst 1, 1) := by decide +kernel
theorem dX9_rowDone_18 : decode cX9_rowDone 18 = .ok (.isub, 1) := by decide +kernel
theorem dX9_rowDone_19 : decode cX9_rowDone 19 = .ok (.putfield 134, 3) := by decide +kernel
theorem dX9_rowDone_22 : decode cX9_rowDone 22 = .ok (.iconst 0, 1) := by decide +kernel
theorem dX9_rowDone_23 : decode cX9_rowDone 23 = .ok (.istore_n 2, 1) := by decide +kernel
theorem dX9_rowDone_24 : decode cX9_rowDone 24 = .ok (.aload_n 0, 1) := by decide +kernel
theorem dX9_rowDone_25 : decode cX9_rowDone 25 = .ok (.getfield 134, 3) := by decide +kernel
theorem dX9_rowDone_28 : decode cX9_rowDone 28 = .ok (.aload_n 0, 1) := by decide +kernel
theorem dX9_rowDone_29 : decode cX9_rowDone 29 = .ok (.getfield 93, 3) := by decide +kernel
theorem dX9_rowDone_32 : decode cX9_rowDone 32 = .ok (.aload_n 0, 1) := by decide +kernel
theorem dX9_rowDone_33 : decode cX9_rowDone 33 = .ok (.getfield 131, 3) := by decide +kernel
theorem dX9_rowDone_36 : decode cX9_rowDone 36 = .ok (.iaload, 1) := by decide +kernel
theorem dX9_rowDone_37 : decode cX9_rowDone 37 = .ok (.if_icmp .le 45, 3) := by decide +kernel
theorem dX9_rowDone_40 : decode cX9_rowDone 40 = .ok (.aload_n 0, 1) := by decide +kernel
theorem dX9_rowDone_41 : decode cX9_rowDone 41 = .ok (.dup, 1) := by decide +kernel
theorem dX9_rowDone_42 : decode cX9_rowDone 42 = .ok (.getfield 134, 3) := by decide +kernel
theorem dX9_rowDone_45 : decode cX9_rowDone 45 = .ok (.iconst 1, 1) := by decide +kernel
theorem dX9_rowDone_46 : decode cX9_rowDone 46 = .ok (.isub, 1) := by decide +kernel
theorem dX9_rowDone_47 : decode cX9_rowDone 47 = .ok (.putfield 134, 3) := by decide +kernel
theorem dX9_rowDone_50 : decode cX9_rowDone 50 = .ok (.aload_n 0, 1) := by decide +kernel
theorem dX9_rowDone_51 : decode cX9_rowDone 51 = .ok (.iconst 2, 1) := by decide +kernel
theorem dX9_rowDone_52 : decode cX9_rowDone 52 = .ok (.aload_n 0, 1) := by decide +kernel
theorem dX9_rowDone_53 : decode cX9_rowDone 53 = .ok (.getfield 87, 3) := by decide +kernel
theorem dX9_rowDone_56 : decode cX9_rowDone 56 = .ok (.aload_n 0, 1) := by decide +kernel
theorem dX9_rowDone_57 : decode cX9_rowDone 57 = .ok (.getfield 134, 3) := by decide +kernel
theorem dX9_rowDone_60 : decode cX9_rowDone 60 = .ok (.iaload, 1) := by decide +kernel
theorem dX9_rowDone_61 : decode cX9_rowDone 61 = .ok (.iload_n 1, 1) := by decide +kernel
theorem dX9_rowDone_62 : decode cX9_rowDone 62 = .ok (.invokevirtual 127, 3) := by decide +kernel
theorem dX9_rowDone_65 : decode cX9_rowDone 65 = .ok (.istore_n 1, 1) := by decide +kernel
theorem dX9_rowDone_66 : decode cX9_rowDone 66 = .ok (.aload_n 0, 1) := by decide +kernel
theorem dX9_rowDone_67 : decode cX9_rowDone 67 = .ok (.getfield 29, 3) := by decide +kernel
theorem dX9_rowDone_70 : decode cX9_rowDone 70 = .ok (.sipush 384, 3) := by decide +kernel
theorem dX9_rowDone_73 : decode cX9_rowDone 73 = .ok (.iload_n 1, 1) := by decide +kernel
theorem dX9_rowDone_74 : decode cX9_rowDone 74 = .ok (.iadd, 1) := by decide +kernel
theorem dX9_rowDone_75 : decode cX9_rowDone 75 = .ok (.iload_n 2, 1) := by decide +kernel
theorem dX9_rowDone_76 : decode cX9_rowDone 76 = .ok (.bastore, 1) := by decide +kernel
theorem dX9_rowDone_77 : decode cX9_rowDone 77 = .ok (.iconst 1, 1) := by decide +kernel
theorem dX9_rowDone_78 : decode cX9_rowDone 78 = .ok (.istore_n 2, 1) := by decide +kernel
theorem dX9_rowDone_79 : decode cX9_rowDone 79 = .ok (.goto (-55), 3) := by decide +kernel
theorem dX9_rowDone_82 : decode cX9_rowDone 82 = .ok (.aload_n 0, 1) := by decide +kernel
theorem dX9_rowDone_83 : decode cX9_rowDone 83 = .ok (.getfield 90, 3) := by decide +kernel
theorem dX9_rowDone_86 : decode cX9_rowDone 86 = .ok (.aload_n 0, 1) := by decide +kernel
theorem dX9_rowDone_87 : decode cX9_rowDone 87 = .ok (.getfield 137, 3) := by decide +kernel
theorem dX9_rowDone_90 : decode cX9_rowDone 90 = .ok (.iload_n 1, 1) := by decide +kernel
theorem dX9_rowDone_91 : decode cX9_rowDone 91 = .ok (.iastore, 1) := by decide +kernel
theorem dX9_rowDone_92 : decode cX9_rowDone 92 = .ok (.aload_n 0, 1) := by decide +kernel
theorem dX9_rowDone_93 : decode cX9_rowDone 93 = .ok (.dup, 1) := by decide +kernel
theorem dX9_rowDone_94 : decode cX9_rowDone 94 = .ok (.getfield 137, 3) := by decide +kernel
theorem dX9_rowDone_97 : decode cX9_rowDone 97 = .ok (.iconst 1, 1) := by decide +kernel
theorem dX9_rowDone_98 : decode cX9_rowDone 98 = .ok (.iadd, 1) := by decide +kernel
theorem dX9_rowDone_99 : decode cX9_rowDone 99 = .ok (.putfield 137, 3) := by decide +kernel
theorem dX9_rowDone_102 : decode cX9_rowDone 102 = .ok (.return_, 1) := by decide +kernel
theorem dX9_choiceDone_0 : decode cX9_choiceDone 0 = .ok (.aload_n 0, 1) := by decide +kernel
theorem dX9_choiceDone_1 : decode cX9_choiceDone 1 = .ok (.invokevirtual 140, 3) := by decide +kernel
theorem dX9_choiceDone_4 : decode cX9_choiceDone 4 = .ok (.aload_n 0, 1) := by decide +kernel
theorem dX9_choiceDone_5 : decode cX9_choiceDone 5 = .ok (.getfield 90, 3) := by decide +kernel
theorem dX9_choiceDone_8 : decode cX9_choiceDone 8 = .ok (.aload_n 0, 1) := by decide +kernel
theorem dX9_choiceDone_9 : decode cX9_choiceDone 9 = .ok (.getfield 137, 3) := by decide +kernel
theorem dX9_choiceDone_12 : decode cX9_choiceDone 12 = .ok (.iconst 1, 1) := by decide +kernel
theorem dX9_choiceDone_13 : decode cX9_choiceDone 13 = .ok (.isub, 1) := by decide +kernel
theorem dX9_choiceDone_14 : decode cX9_choiceDone 14 = .ok (.iaload, 1) := by decide +kernel
theorem dX9_choiceDone_15 : decode cX9_choiceDone 15 = .ok (.istore_n 1, 1) := by decide +kernel
theorem dX9_choiceDone_16 : decode cX9_choiceDone 16 = .ok (.aload_n 0, 1) := by decide +kernel
theorem dX9_choiceDone_17 : decode cX9_choiceDone 17 = .ok (.dup, 1) := by decide +kernel
theorem dX9_choiceDone_18 : decode cX9_choiceDone 18 = .ok (.getfield 137, 3) := by decide +kernel
theorem dX9_choiceDone_21 : decode cX9_choiceDone 21 = .ok (.iconst 1, 1) := by decide +kernel
theorem dX9_choiceDone_22 : decode cX9_choiceDone 22 = .ok (.isub, 1) := by decide +kernel
theorem dX9_choiceDone_23 : decode cX9_choiceDone 23 = .ok (.putfield 137, 3) := by decide +kernel
theorem dX9_choiceDone_26 : decode cX9_choiceDone 26 = .ok (.iconst 0, 1) := by decide +kernel
theorem dX9_choiceDone_27 : decode cX9_choiceDone 27 = .ok (.istore_n 2, 1) := by decide +kernel
theorem dX9_choiceDone_28 : decode cX9_choiceDone 28 = .ok (.aload_n 0, 1) := by decide +kernel
theorem dX9_choiceDone_29 : decode cX9_choiceDone 29 = .ok (.getfield 137, 3) := by decide +kernel
theorem dX9_choiceDone_32 : decode cX9_choiceDone 32 = .ok (.aload_n 0, 1) := by decide +kernel
theorem dX9_choiceDone_33 : decode cX9_choiceDone 33 = .ok (.getfield 96, 3) := by decide +kernel
theorem dX9_choiceDone_36 : decode cX9_choiceDone 36 = .ok (.aload_n 0, 1) := by decide +kernel
theorem dX9_choiceDone_37 : decode cX9_choiceDone 37 = .ok (.getfield 131, 3) := by decide +kernel
theorem dX9_choiceDone_40 : decode cX9_choiceDone 40 = .ok (.iaload, 1) := by decide +kernel
theorem dX9_choiceDone_41 : decode cX9_choiceDone 41 = .ok (.if_icmp .le 45, 3) := by decide +kernel
theorem dX9_choiceDone_44 : decode cX9_choiceDone 44 = .ok (.aload_n 0, 1) := by decide +kernel
theorem dX9_choiceDone_45 : decode cX9_choiceDone 45 = .ok (.dup, 1) := by decide +kernel
theorem dX9_choiceDone_46 : decode cX9_choiceDone 46 = .ok (.getfield 137, 3) := by decide +kernel
theorem dX9_choiceDone_49 : decode cX9_choiceDone 49 = .ok (.iconst 1, 1) := by decide +kernel
theorem dX9_choiceDone_50 : decode cX9_choiceDone 50 = .ok (.isub, 1) := by decide +kernel
theorem dX9_choiceDone_51 : decode cX9_choiceDone 51 = .ok (.putfield 137, 3) := by decide +kernel
theorem dX9_choiceDone_54 : decode cX9_choiceDone 54 = .ok (.aload_n 0, 1) := by decide +kernel
theorem dX9_choiceDone_55 : decode cX9_choiceDone 55 = .ok (.iconst 3, 1) := by decide +kernel
theorem dX9_choiceDone_56 : decode cX9_choiceDone 56 = .ok (.aload_n 0, 1) := by decide +kernel
theorem dX9_choiceDone_57 : decode cX9_choiceDone 57 = .ok (.getfield 90, 3) := by decide +kernel
theorem dX9_choiceDone_60 : decode cX9_choiceDone 60 = .ok (.aload_n 0, 1) := by decide +kernel
theorem dX9_choiceDone_61 : decode cX9_choiceDone 61 = .ok (.getfield 137, 3) := by decide +kernel
theorem dX9_choiceDone_64 : decode cX9_choiceDone 64 = .ok (.iaload, 1) := by decide +kernel
theorem dX9_choiceDone_65 : decode cX9_choiceDone 65 = .ok (.iload_n 1, 1) := by decide +kernel
theorem dX9_choiceDone_66 : decode cX9_choiceDone 66 = .ok (.invokevirtual 127, 3) := by decide +kernel
theorem dX9_choiceDone_69 : decode cX9_choiceDone 69 = .ok (.istore_n 1, 1) := by decide +kernel
theorem dX9_choiceDone_70 : decode cX9_choiceDone 70 = .ok (.aload_n 0, 1) := by decide +kernel
theorem dX9_choiceDone_71 : decode cX9_choiceDone 71 = .ok (.getfield 29, 3) := by decide +kernel
theorem dX9_choiceDone_74 : decode cX9_choiceDone 74 = .ok (.sipush 384, 3) := by decide +kernel
theorem dX9_choiceDone_77 : decode cX9_choiceDone 77 = .ok (.iload_n 1, 1) := by decide +kernel
theorem dX9_choiceDone_78 : decode cX9_choiceDone 78 = .ok (.iadd, 1) := by decide +kernel
theorem dX9_choiceDone_79 : decode cX9_choiceDone 79 = .ok (.iload_n 2, 1) := by decide +kernel
theorem dX9_choiceDone_80 : decode cX9_choiceDone 80 = .ok (.bastore, 1) := by decide +kernel
theorem dX9_choiceDone_81 : decode cX9_choiceDone 81 = .ok (.iconst 1, 1) := by decide +kernel
theorem dX9_choiceDone_82 : decode cX9_choiceDone 82 = .ok (.istore_n 2, 1) := by decide +kernel
theorem dX9_choiceDone_83 : decode cX9_choiceDone 83 = .ok (.goto (-55), 3) := by decide +kernel
theorem dX9_choiceDone_86 : decode cX9_choiceDone 86 = .ok (.iload_n 1, 1) := by decide +kernel
theorem dX9_choiceDone_87 : decode cX9_choiceDone 87 = .ok (.ireturn, 1) := by decide +kernel
theorem dX9_enter_0 : decode cX9_enter 0 = .ok (.aload_n 0, 1) := by decide +kernel
theorem dX9_enter_1 : decode cX9_enter 1 = .ok (.getfield 93, 3) := by decide +kernel
theorem dX9_enter_4 : decode cX9_enter 4 = .ok (.aload_n 0, 1) := by decide +kernel
theorem dX9_enter_5 : decode cX9_enter 5 = .ok (.getfield 131, 3) := by decide +kernel
theorem dX9_enter_8 : decode cX9_enter 8 = .ok (.aload_n 0, 1) := by decide +kernel
theorem dX9_enter_9 : decode cX9_enter 9 = .ok (.getfield 134, 3) := by decide +kernel
theorem dX9_enter_12 : decode cX9_enter 12 = .ok (.iastore, 1) := by decide +kernel
theorem dX9_enter_13 : decode cX9_enter 13 = .ok (.aload_n 0, 1) := by decide +kernel
theorem dX9_enter_14 : decode cX9_enter 14 = .ok (.getfield 96, 3) := by decide +kernel
theorem dX9_enter_17 : decode cX9_enter 17 = .ok (.aload_n 0, 1) := by decide +kernel
theorem dX9_enter_18 : decode cX9_enter 18 = .ok (.getfield 131, 3) := by decide +kernel
theorem dX9_enter_21 : decode cX9_enter 21 = .ok (.aload_n 0, 1) := by decide +kernel
theorem dX9_enter_22 : decode cX9_enter 22 = .ok (.getfield 137, 3) := by decide +kernel
theorem dX9_enter_25 : decode cX9_enter 25 = .ok (.iastore, 1) := by decide +kernel
theorem dX9_enter_26 : decode cX9_enter 26 = .ok (.aload_n 0, 1) := by decide +kernel
theorem dX9_enter_27 : decode cX9_enter 27 = .ok (.getfield 99, 3) := by decide +kernel
theorem dX9_enter_30 : decode cX9_enter 30 = .ok (.aload_n 0, 1) := by decide +kernel
theorem dX9_enter_31 : decode cX9_enter 31 = .ok (.getfield 131, 3) := by decide +kernel
theorem dX9_enter_34 : decode cX9_enter 34 = .ok (.iconst 0, 1) := by decide +kernel
theorem dX9_enter_35 : decode cX9_enter 35 = .ok (.castore, 1) := by decide +kernel
theorem dX9_enter_36 : decode cX9_enter 36 = .ok (.return_, 1) := by decide +kernel
theorem dX9_simple_0 : decode cX9_simple 0 = .ok (.aload_n 0, 1) := by decide +kernel
theorem dX9_simple_1 : decode cX9_simple 1 = .ok (.iload_n 1, 1) := by decide +kernel
theorem dX9_simple_2 : decode cX9_simple 2 = .ok (.invokevirtual 123, 3) := by decide +kernel
theorem dX9_simple_5 : decode cX9_simple 5 = .ok (.istore_n 2, 1) := by decide +kernel
theorem dX9_simple_6 : decode cX9_simple 6 = .ok (.iload_n 2, 1) := by decide +kernel
theorem dX9_simple_7 : decode cX9_simple 7 = .ok (.invokestatic 113, 3) := by decide +kernel
theorem dX9_simple_10 : decode cX9_simple 10 = .ok (.ifCond .ne 9, 3) := by decide +kernel
theorem dX9_simple_13 : decode cX9_simple 13 = .ok (.iload_n 2, 1) := by decide +kernel
theorem dX9_simple_14 : decode cX9_simple 14 = .ok (.bipush 46, 2) := by decide +kernel
theorem dX9_simple_16 : decode cX9_simple 16 = .ok (.if_icmp .ne 47, 3) := by decide +kernel
theorem dX9_simple_19 : decode cX9_simple 19 = .ok (.aload_n 0, 1) := by decide +kernel
theorem dX9_simple_20 : decode cX9_simple 20 = .ok (.iconst 0, 1) := by decide +kernel
theorem dX9_simple_21 : decode cX9_simple 21 = .ok (.iload_n 2, 1) := by decide +kernel
theorem dX9_simple_22 : decode cX9_simple 22 = .ok (.bipush 46, 2) := by decide +kernel
theorem dX9_simple_24 : decode cX9_simple 24 = .ok (.if_icmp .ne 7, 3) := by decide +kernel
theorem dX9_simple_27 : decode cX9_simple 27 = .ok (.iconst 0, 1) := by decide +kernel
theorem dX9_simple_28 : decode cX9_simple 28 = .ok (.goto 7, 3) := by decide +kernel
theorem dX9_simple_31 : decode cX9_simple 31 = .ok (.iload_n 2, 1) := by decide +kernel
theorem dX9_simple_32 : decode cX9_simple 32 = .ok (.bipush 97, 2) := by decide +kernel
theorem dX9_simple_34 : decode cX9_simple 34 = .ok (.isub, 1) := by decide +kernel
theorem dX9_simple_35 : decode cX9_simple 35 = .ok (.iload_n 2, 1) := by decide +kernel
theorem dX9_simple_36 : decode cX9_simple 36 = .ok (.bipush 46, 2) := by decide +kernel
theorem dX9_simple_38 : decode cX9_simple 38 = .ok (.if_icmp .ne 8, 3) := by decide +kernel
theorem dX9_simple_41 : decode cX9_simple 41 = .ok (.bipush 8, 2) := by decide +kernel
theorem dX9_simple_43 : decode cX9_simple 43 = .ok (.goto 7, 3) := by decide +kernel
theorem dX9_simple_46 : decode cX9_simple 46 = .ok (.iload_n 2, 1) := by decide +kernel
theorem dX9_simple_47 : decode cX9_simple 47 = .ok (.bipush 97, 2) := by decide +kernel
theorem dX9_simple_49 : decode cX9_simple 49 = .ok (.isub, 1) := by decide +kernel
theorem dX9_simple_50 : decode cX9_simple 50 = .ok (.invokevirtual 127, 3) := by decide +kernel
theorem dX9_simple_53 : decode cX9_simple 53 = .ok (.istore_n 3, 1) := by decide +kernel
theorem dX9_simple_54 : decode cX9_simple 54 = .ok (.aload_n 0, 1) := by decide +kernel
theorem dX9_simple_55 : decode cX9_simple 55 = .ok (.iload_n 3, 1) := by decide +kernel
theorem dX9_simple_56 : decode cX9_simple 56 = .ok (.iload_n 1, 1) := by decide +kernel
theorem dX9_simple_57 : decode cX9_simple 57 = .ok (.iconst 1, 1) := by decide +kernel
theorem dX9_simple_58 : decode cX9_simple 58 = .ok (.iadd, 1) := by decide +kernel
theorem dX9_simple_59 : decode cX9_simple 59 = .ok (.invokevirtual 143, 3) := by decide +kernel
theorem dX9_simple_62 : decode cX9_simple 62 = .ok (.ireturn, 1) := by decide +kernel
theorem dX9_simple_63 : decode cX9_simple 63 = .ok (.iload_n 2, 1) := by decide +kernel
theorem dX9_simple_64 : decode cX9_simple 64 = .ok (.invokestatic 117, 3) := by decide +kernel
theorem dX9_simple_67 : decode cX9_simple 67 = .ok (.ifCond .eq 21, 3) := by decide +kernel
theorem dX9_simple_70 : decode cX9_simple 70 = .ok (.aload_n 0, 1) := by decide +kernel
theorem dX9_simple_71 : decode cX9_simple 71 = .ok (.aload_n 0, 1) := by decide +kernel
theorem dX9_simple_72 : decode cX9_simple 72 = .ok (.iconst 1, 1) := by decide +kernel
theorem dX9_simple_73 : decode cX9_simple 73 = .ok (.iload_n 2, 1) := by decide +kernel
theorem dX9_simple_74 : decode cX9_simple 74 = .ok (.bipush 65, 2) := by decide +kernel
theorem dX9_simple_76 : decode cX9_simple 76 = .ok (.isub, 1) := by decide +kernel
theorem dX9_simple_77 : decode cX9_simple 77 = .ok (.iconst 0, 1) := by decide +kernel
theorem dX9_simple_78 : decode cX9_simple 78 = .ok (.invokevirtual 127, 3) := by decide +kernel
theorem dX9_simple_81 : decode cX9_simple 81 = .ok (.iload_n 1, 1) := by decide +kernel
theorem dX9_simple_82 : decode cX9_simple 82 = .ok (.iconst 1, 1) := by decide +kernel
theorem dX9_simple_83 : decode cX9_simple 83 = .ok (.iadd, 1) := by decide +kernel
theorem dX9_simple_84 : decode cX9_simple 84 = .ok (.invokevirtual 143, 3) := by decide +kernel
theorem dX9_simple_87 : decode cX9_simple 87 = .ok (.ireturn, 1) := by decide +kernel
theorem dX9_simple_88 : decode cX9_simple 88 = .ok (.iload_n 2, 1) := by decide +kernel
theorem dX9_simple_89 : decode cX9_simple 89 = .ok (.bipush 91, 2) := by decide +kernel
theorem dX9_simple_91 : decode cX9_simple 91 = .ok (.if_icmp .eq 7, 3) := by decide +kernel
theorem dX9_simple_94 : decode cX9_simple 94 = .ok (.iconst (-1), 1) := by decide +kernel
theorem dX9_simple_95 : decode cX9_simple 95 = .ok (.iload_n 1, 1) := by decide +kernel
theorem dX9_simple_96 : decode cX9_simple 96 = .ok (.isub, 1) := by decide +kernel
theorem dX9_simple_97 : decode cX9_simple 97 = .ok (.ireturn, 1) := by decide +kernel
theorem dX9_simple_98 : decode cX9_simple 98 = .ok (.aload_n 0, 1) := by decide +kernel
theorem dX9_simple_99 : decode cX9_simple 99 = .ok (.iload_n 1, 1) := by decide +kernel
theorem dX9_simple_100 : decode cX9_simple 100 = .ok (.iconst 1, 1) := by decide +kernel
theorem dX9_simple_101 : decode cX9_simple 101 = .ok (.iadd, 1) := by decide +kernel
theorem dX9_simple_102 : decode cX9_simple 102 = .ok (.invokevirtual 123, 3) := by decide +kernel
theorem dX9_simple_105 : decode cX9_simple 105 = .ok (.invokestatic 113, 3) := by decide +kernel
theorem dX9_simple_108 : decode cX9_simple 108 = .ok (.ifCond .ne 8, 3) := by decide +kernel
theorem dX9_simple_111 : decode cX9_simple 111 = .ok (.bipush (-2), 2) := by decide +kernel
theorem dX9_simple_113 : decode cX9_simple 113 = .ok (.iload_n 1, 1) := by decide +kernel
theorem dX9_simple_114 : decode cX9_simple 114 = .ok (.isub, 1) := by decide +kernel
theorem dX9_simple_115 : decode cX9_simple 115 = .ok (.ireturn, 1) := by decide +kernel
theorem dX9_simple_116 : decode cX9_simple 116 = .ok (.aload_n 0, 1) := by decide +kernel
theorem dX9_simple_117 : decode cX9_simple 117 = .ok (.iload_n 1, 1) := by decide +kernel
theorem dX9_simple_118 : decode cX9_simple 118 = .ok (.iconst 2, 1) := by decide +kernel
theorem dX9_simple_119 : decode cX9_simple 119 = .ok (.iadd, 1) := by decide +kernel
theorem dX9_simple_120 : decode cX9_simple 120 = .ok (.invokevirtual 123, 3) := by decide +kernel
theorem dX9_simple_123 : decode cX9_simple 123 = .ok (.bipush 45, 2) := by decide +kernel
theorem dX9_simple_125 : decode cX9_simple 125 = .ok (.if_icmp .eq 8, 3) := by decide +kernel
theorem dX9_simple_128 : decode cX9_simple 128 = .ok (.bipush (-3), 2) := by decide +kernel
theorem dX9_simple_130 : decode cX9_simple 130 = .ok (.iload_n 1, 1) := by decide +kernel
theorem dX9_simple_131 : decode cX9_simple 131 = .ok (.isub, 1) := by decide +kernel
theorem dX9_simple_132 : decode cX9_simple 132 = .ok (.ireturn, 1) := by decide +kernel
theorem dX9_simple_133 : decode cX9_simple 133 = .ok (.aload_n 0, 1) := by decide +kernel
theorem dX9_simple_134 : decode cX9_simple 134 = .ok (.iload_n 1, 1) := by decide +kernel
theorem dX9_simple_135 : decode cX9_simple 135 = .ok (.iconst 3, 1) := by decide +kernel
theorem dX9_simple_136 : decode cX9_simple 136 = .ok (.iadd, 1) := by decide +kernel
theorem dX9_simple_137 : decode cX9_simple 137 = .ok (.invokevirtual 123, 3) := by decide +kernel
theorem dX9_simple_140 : decode cX9_simple 140 = .ok (.invokestatic 113, 3) := by decide +kernel
theorem dX9_simple_143 : decode cX9_simple 143 = .ok (.ifCond .eq 20, 3) := by decide +kernel
theorem dX9_simple_146 : decode cX9_simple 146 = .ok (.aload_n 0, 1) := by decide +kernel
theorem dX9_simple_147 : decode cX9_simple 147 = .ok (.iload_n 1, 1) := by decide +kernel
theorem dX9_simple_148 : decode cX9_simple 148 = .ok (.iconst 3, 1) := by decide +kernel
theorem dX9_simple_149 : decode cX9_simple 149 = .ok (.iadd, 1) := by decide +kernel
theorem dX9_simple_150 : decode cX9_simple 150 = .ok (.invokevirtual 123, 3) := by decide +kernel
theorem dX9_simple_153 : decode cX9_simple 153 = .ok (.aload_n 0, 1) := by decide +kernel
theorem dX9_simple_154 : decode cX9_simple 154 = .ok (.iload_n 1, 1) := by decide +kernel
theorem dX9_simple_155 : decode cX9_simple 155 = .ok (.iconst 1, 1) := by decide +kernel
theorem dX9_simple_156 : decode cX9_simple 156 = .ok (.iadd, 1) := by decide +kernel
theorem dX9_simple_157 : decode cX9_simple 157 = .ok (.invokevirtual 123, 3) := by decide +kernel
theorem dX9_simple_160 : decode cX9_simple 160 = .ok (.if_icmp .ge 8, 3) := by decide +kernel
theorem dX9_simple_163 : decode cX9_simple 163 = .ok (.bipush (-4), 2) := by decide +kernel
theorem dX9_simple_165 : decode cX9_simple 165 = .ok (.iload_n 1, 1) := by decide +kernel
theorem dX9_simple_166 : decode cX9_simple 166 = .ok (.isub, 1) := by decide +kernel
theorem dX9_simple_167 : decode cX9_simple 167 = .ok (.ireturn, 1) := by decide +kernel
theorem dX9_simple_168 : decode cX9_simple 168 = .ok (.aload_n 0, 1) := by decide +kernel
theorem dX9_simple_169 : decode cX9_simple 169 = .ok (.iload_n 1, 1) := by decide +kernel
theorem dX9_simple_170 : decode cX9_simple 170 = .ok (.iconst 4, 1) := by decide +kernel
theorem dX9_simple_171 : decode cX9_simple 171 = .ok (.iadd, 1) := by decide +kernel
theorem dX9_simple_172 : decode cX9_simple 172 = .ok (.invokevirtual 123, 3) := by decide +kernel
theorem dX9_simple_175 : decode cX9_simple 175 = .ok (.bipush 93, 2) := by decide +kernel
theorem dX9_simple_177 : decode cX9_simple 177 = .ok (.if_icmp .eq 8, 3) := by decide +kernel
theorem dX9_simple_180 : decode cX9_simple 180 = .ok (.bipush (-5), 2) := by decide +kernel
theorem dX9_simple_182 : decode cX9_simple 182 = .ok (.iload_n 1, 1) := by decide +kernel
theorem dX9_simple_183 : decode cX9_simple 183 = .ok (.isub, 1) := by decide +kernel
theorem dX9_simple_184 : decode cX9_simple 184 = .ok (.ireturn, 1) := by decide +kernel
theorem dX9_simple_185 : decode cX9_simple 185 = .ok (.aload_n 0, 1) := by decide +kernel
theorem dX9_simple_186 : decode cX9_simple 186 = .ok (.aload_n 0, 1) := by decide +kernel
theorem dX9_simple_187 : decode cX9_simple 187 = .ok (.iconst 0, 1) := by decide +kernel
theorem dX9_simple_188 : decode cX9_simple 188 = .ok (.aload_n 0, 1) := by decide +kernel
theorem dX9_simple_189 : decode cX9_simple 189 = .ok (.iload_n 1, 1) := by decide +kernel
theorem dX9_simple_190 : decode cX9_simple 190 = .ok (.iconst 1, 1) := by decide +kernel
theorem dX9_simple_191 : decode cX9_simple 191 = .ok (.iadd, 1) := by decide +kernel
theorem dX9_simple_192 : decode cX9_simple 192 = .ok (.invokevirtual 123, 3) := by decide +kernel
theorem dX9_simple_195 : decode cX9_simple 195 = .ok (.bipush 97, 2) := by decide +kernel
theorem dX9_simple_197 : decode cX9_simple 197 = .ok (.isub, 1) := by decide +kernel
theorem dX9_simple_198 : decode cX9_simple 198 = .ok (.aload_n 0, 1) := by decide +kernel
theorem dX9_simple_199 : decode cX9_simple 199 = .ok (.iload_n 1, 1) := by decide +kernel
theorem dX9_simple_200 : decode cX9_simple 200 = .ok (.iconst 3, 1) := by decide +kernel
theorem dX9_simple_201 : decode cX9_simple 201 = .ok (.iadd, 1) := by decide +kernel
theorem dX9_simple_202 : decode cX9_simple 202 = .ok (.invokevirtual 123, 3) := by decide +kernel
theorem dX9_simple_205 : decode cX9_simple 205 = .ok (.bipush 97, 2) := by decide +kernel
theorem dX9_simple_207 : decode cX9_simple 207 = .ok (.isub, 1) := by decide +kernel
theorem dX9_simple_208 : decode cX9_simple 208 = .ok (.invokevirtual 127, 3) := by decide +kernel
theorem dX9_simple_211 : decode cX9_simple 211 = .ok (.iload_n 1, 1) := by decide +kernel
theorem dX9_simple_212 : decode cX9_simple 212 = .ok (.iconst 5, 1) := by decide +kernel
theorem dX9_simple_213 : decode cX9_simple 213 = .ok (.iadd, 1) := by decide +kernel
theorem dX9_simple_214 : decode cX9_simple 214 = .ok (.invokevirtual 143, 3) := by decide +kernel
theorem dX9_simple_217 : decode cX9_simple 217 = .ok (.ireturn, 1) := by decide +kernel
theorem dX9_read_0 : decode cX9_read 0 = .ok (.aload_n 0, 1) := by decide +kernel
theorem dX9_read_1 : decode cX9_read 1 = .ok (.getfield 33, 3) := by decide +kernel
theorem dX9_read_4 : decode cX9_read 4 = .ok (.bipush 6, 2) := by decide +kernel
theorem dX9_read_6 : decode cX9_read 6 = .ok (.iconst 0, 1) := by decide +kernel
theorem dX9_read_7 : decode cX9_read 7 = .ok (.iastore, 1) := by decide +kernel
theorem dX9_read_8 : decode cX9_read 8 = .ok (.aload_n 0, 1) := by decide +kernel
theorem dX9_read_9 : decode cX9_read 9 = .ok (.iconst 0, 1) := by decide +kernel
theorem dX9_read_10 : decode cX9_read 10 = .ok (.putfield 131, 3) := by decide +kernel
theorem dX9_read_13 : decode cX9_read 13 = .ok (.aload_n 0, 1) := by decide +kernel
theorem dX9_read_14 : decode cX9_read 14 = .ok (.iconst 0, 1) := by decide +kernel
theorem dX9_read_15 : decode cX9_read 15 = .ok (.putfield 134, 3) := by decide +kernel
theorem dX9_read_18 : decode cX9_read 18 = .ok (.aload_n 0, 1) := by decide +kernel
theorem dX9_read_19 : decode cX9_read 19 = .ok (.iconst 0, 1) := by decide +kernel
theorem dX9_read_20 : decode cX9_read 20 = .ok (.putfield 137, 3) := by decide +kernel
theorem dX9_read_23 : decode cX9_read 23 = .ok (.aload_n 0, 1) := by decide +kernel
theorem dX9_read_24 : decode cX9_read 24 = .ok (.invokevirtual 147, 3) := by decide +kernel
theorem dX9_read_27 : decode cX9_read 27 = .ok (.aload_n 0, 1) := by decide +kernel
theorem dX9_read_28 : decode cX9_read 28 = .ok (.iconst 0, 1) := by decide +kernel
theorem dX9_read_29 : decode cX9_read 29 = .ok (.invokevirtual 123, 3) := by decide +kernel
theorem dX9_read_32 : decode cX9_read 32 = .ok (.invokestatic 117, 3) := by decide +kernel
theorem dX9_read_35 : decode cX9_read 35 = .ok (.ifCond .ne 5, 3) := by decide +kernel
theorem dX9_read_38 : decode cX9_read 38 = .ok (.iconst 0, 1) := by decide +kernel
theorem dX9_read_39 : decode cX9_read 39 = .ok (.ireturn, 1) := by decide +kernel
theorem dX9_read_40 : decode cX9_read 40 = .ok (.aload_n 0, 1) := by decide +kernel
theorem dX9_read_41 : decode cX9_read 41 = .ok (.iconst 1, 1) := by decide +kernel
theorem dX9_read_42 : decode cX9_read 42 = .ok (.invokevirtual 123, 3) := by decide +kernel
theorem dX9_read_45 : decode cX9_read 45 = .ok (.bipush 61, 2) := by decide +kernel
theorem dX9_read_47 : decode cX9_read 47 = .ok (.if_icmp .eq 5, 3) := by decide +kernel
theorem dX9_read_50 : decode cX9_read 50 = .ok (.iconst 1, 1) := by decide +kernel
theorem dX9_read_51 : decode cX9_read 51 = .ok (.ireturn, 1) := by decide +kernel
theorem dX9_read_52 : decode cX9_read 52 = .ok (.iconst 2, 1) := by decide +kernel
theorem dX9_read_53 : decode cX9_read 53 = .ok (.istore_n 1, 1) := by decide +kernel
theorem dX9_read_54 : decode cX9_read 54 = .ok (.iconst 1, 1) := by decide +kernel
theorem dX9_read_55 : decode cX9_read 55 = .ok (.istore_n 2, 1) := by decide +kernel
theorem dX9_read_56 : decode cX9_read 56 = .ok (.iload_n 1, 1) := by decide +kernel
theorem dX9_read_57 : decode cX9_read 57 = .ok (.aload_n 0, 1) := by decide +kernel
theorem dX9_read_58 : decode cX9_read 58 = .ok (.getfield 120, 3) := by decide +kernel
theorem dX9_read_61 : decode cX9_read 61 = .ok (.if_icmp .ge 182, 3) := by decide +kernel
theorem dX9_read_64 : decode cX9_read 64 = .ok (.aload_n 0, 1) := by decide +kernel
theorem dX9_read_65 : decode cX9_read 65 = .ok (.iload_n 1, 1) := by decide +kernel
theorem dX9_read_66 : decode cX9_read 66 = .ok (.invokevirtual 123, 3) := by decide +kernel
theorem dX9_read_69 : decode cX9_read 69 = .ok (.istore_n 3, 1) := by decide +kernel
theorem dX9_read_70 : decode cX9_read 70 = .ok (.iload_n 3, 1) := by decide +kernel
theorem dX9_read_71 : decode cX9_read 71 = .ok (.bipush 38, 2) := by decide +kernel
theorem dX9_read_73 : decode cX9_read 73 = .ok (.if_icmp .eq 9, 3) := by decide +kernel
theorem dX9_read_76 : decode cX9_read 76 = .ok (.iload_n 3, 1) := by decide +kernel
theorem dX9_read_77 : decode cX9_read 77 = .ok (.bipush 33, 2) := by decide +kernel
theorem dX9_read_79 : decode cX9_read 79 = .ok (.if_icmp .ne 33, 3) := by decide +kernel
theorem dX9_read_82 : decode cX9_read 82 = .ok (.aload_n 0, 1) := by decide +kernel
theorem dX9_read_83 : decode cX9_read 83 = .ok (.getfield 99, 3) := by decide +kernel
theorem dX9_read_86 : decode cX9_read 86 = .ok (.aload_n 0, 1) := by decide +kernel
theorem dX9_read_87 : decode cX9_read 87 = .ok (.getfield 131, 3) := by decide +kernel
theorem dX9_read_90 : decode cX9_read 90 = .ok (.caload, 1) := by decide +kernel
theorem dX9_read_91 : decode cX9_read 91 = .ok (.ifCond .ne 21, 3) := by decide +kernel
theorem dX9_read_94 : decode cX9_read 94 = .ok (.aload_n 0, 1) := by decide +kernel
theorem dX9_read_95 : decode cX9_read 95 = .ok (.getfield 99, 3) := by decide +kernel
theorem dX9_read_98 : decode cX9_read 98 = .ok (.aload_n 0, 1) := by decide +kernel
theorem dX9_read_99 : decode cX9_read 99 = .ok (.getfield 131, 3) := by decide +kernel
theorem dX9_read_102 : decode cX9_read 102 = .ok (.iload_n 3, 1) := by decide +kernel
theorem dX9_read_103 : decode cX9_read 103 = .ok (.castore, 1) := by decide +kernel
theorem dX9_read_104 : decode cX9_read 104 = .ok (.iinc 1 1, 3) := by decide +kernel
theorem dX9_read_107 : decode cX9_read 107 = .ok (.iconst 1, 1) := by decide +kernel
theorem dX9_read_108 : decode cX9_read 108 = .ok (.istore_n 2, 1) := by decide +kernel
theorem dX9_read_109 : decode cX9_read 109 = .ok (.goto 131, 3) := by decide +kernel
theorem dX9_read_112 : decode cX9_read 112 = .ok (.iload_n 3, 1) := by decide +kernel
theorem dX9_read_113 : decode cX9_read 113 = .ok (.bipush 40, 2) := by decide +kernel
theorem dX9_read_115 : decode cX9_read 115 = .ok (.if_icmp .ne 35, 3) := by decide +kernel
theorem dX9_read_118 : decode cX9_read 118 = .ok (.aload_n 0, 1) := by decide +kernel
theorem dX9_read_119 : decode cX9_read 119 = .ok (.getfield 131, 3) := by decide +kernel
theorem dX9_read_122 : decode cX9_read 122 = .ok (.iconst 4, 1) := by decide +kernel
theorem dX9_read_123 : decode cX9_read 123 = .ok (.if_icmp .ne 5, 3) := by decide +kernel
theorem dX9_read_126 : decode cX9_read 126 = .ok (.iload_n 1, 1) := by decide +kernel
theorem dX9_read_127 : decode cX9_read 127 = .ok (.ireturn, 1) := by decide +kernel
theorem dX9_read_128 : decode cX9_read 128 = .ok (.aload_n 0, 1) := by decide +kernel
theorem dX9_read_129 : decode cX9_read 129 = .ok (.dup, 1) := by decide +kernel
theorem dX9_read_130 : decode cX9_read 130 = .ok (.getfield 131, 3) := by decide +kernel
theorem dX9_read_133 : decode cX9_read 133 = .ok (.iconst 1, 1) := by decide +kernel
theorem dX9_read_134 : decode cX9_read 134 = .ok (.iadd, 1) := by decide +kernel
theorem dX9_read_135 : decode cX9_read 135 = .ok (.putfield 131, 3) := by decide +kernel
theorem dX9_read_138 : decode cX9_read 138 = .ok (.aload_n 0, 1) := by decide +kernel
theorem dX9_read_139 : decode cX9_read 139 = .ok (.invokevirtual 147, 3) := by decide +kernel
theorem dX9_read_142 : decode cX9_read 142 = .ok (.iinc 1 1, 3) := by decide +kernel
theorem dX9_read_145 : decode cX9_read 145 = .ok (.iconst 1, 1) := by decide +kernel
theorem dX9_read_146 : decode cX9_read 146 = .ok (.istore_n 2, 1) := by decide +kernel
theorem dX9_read_147 : decode cX9_read 147 = .ok (.goto 93, 3) := by decide +kernel
theorem dX9_read_150 : decode cX9_read 150 = .ok (.iload_n 2, 1) := by decide +kernel
theorem dX9_read_151 : decode cX9_read 151 = .ok (.ifCond .ne 21, 3) := by decide +kernel
theorem dX9_read_154 : decode cX9_read 154 = .ok (.iload_n 3, 1) := by decide +kernel
theorem dX9_read_155 : decode cX9_read 155 = .ok (.bipush 47, 2) := by decide +kernel
theorem dX9_read_157 : decode cX9_read 157 = .ok (.if_icmp .ne 15, 3) := by decide +kernel
theorem dX9_read_160 : decode cX9_read 160 = .ok (.aload_n 0, 1) := by decide +kernel
theorem dX9_read_161 : decode cX9_read 161 = .ok (.invokevirtual 140, 3) := by decide +kernel
theorem dX9_read_164 : decode cX9_read 164 = .ok (.iinc 1 1, 3) := by decide +kernel
theorem dX9_read_167 : decode cX9_read 167 = .ok (.iconst 1, 1) := by decide +kernel
theorem dX9_read_168 : decode cX9_read 168 = .ok (.istore_n 2, 1) := by decide +kernel
theorem dX9_read_169 : decode cX9_read 169 = .ok (.goto 71, 3) := by decide +kernel
theorem dX9_read_172 : decode cX9_read 172 = .ok (.iload_n 2, 1) := by decide +kernel
theorem dX9_read_173 : decode cX9_read 173 = .ok (.ifCond .ne 45, 3) := by decide +kernel
theorem dX9_read_176 : decode cX9_read 176 = .ok (.iload_n 3, 1) := by decide +kernel
theorem dX9_read_177 : decode cX9_read 177 = .ok (.bipush 41, 2) := by decide +kernel
theorem dX9_read_179 : decode cX9_read 179 = .ok (.if_icmp .ne 39, 3) := by decide +kernel
theorem dX9_read_182 : decode cX9_read 182 = .ok (.aload_n 0, 1) := by decide +kernel
theorem dX9_read_183 : decode cX9_read 183 = .ok (.getfield 131, 3) := by decide +kernel
theorem dX9_read_186 : decode cX9_read 186 = .ok (.ifCond .le 32, 3) := by decide +kernel
theorem dX9_read_189 : decode cX9_read 189 = .ok (.aload_n 0, 1) := by decide +kernel
theorem dX9_read_190 : decode cX9_read 190 = .ok (.invokevirtual 150, 3) := by decide +kernel
theorem dX9_read_193 : decode cX9_read 193 = .ok (.istore 4, 2) := by decide +kernel
theorem dX9_read_195 : decode cX9_read 195 = .ok (.aload_n 0, 1) := by decide +kernel
theorem dX9_read_196 : decode cX9_read 196 = .ok (.dup, 1) := by decide +kernel
theorem dX9_read_197 : decode cX9_read 197 = .ok (.getfield 131, 3) := by decide +kernel
theorem dX9_read_200 : decode cX9_read 200 = .ok (.iconst 1, 1) := by decide +kernel
theorem dX9_read_201 : decode cX9_read 201 = .ok (.isub, 1) := by decide +kernel
theorem dX9_read_202 : decode cX9_read 202 = .ok (.putfield 131, 3) := by decide +kernel
theorem dX9_read_205 : decode cX9_read 205 = .ok (.aload_n 0, 1) := by decide +kernel
theorem dX9_read_206 : decode cX9_read 206 = .ok (.iload 4, 2) := by decide +kernel
theorem dX9_read_208 : decode cX9_read 208 = .ok (.iload_n 1, 1) := by decide +kernel
theorem dX9_read_209 : decode cX9_read 209 = .ok (.iconst 1, 1) := by decide +kernel
theorem dX9_read_210 : decode cX9_read 210 = .ok (.iadd, 1) := by decide +kernel
theorem dX9_read_211 : decode cX9_read 211 = .ok (.invokevirtual 143, 3) := by decide +kernel
theorem dX9_read_214 : decode cX9_read 214 = .ok (.istore_n 1, 1) := by decide +kernel
theorem dX9_read_215 : decode cX9_read 215 = .ok (.goto 25, 3) := by decide +kernel
theorem dX9_read_218 : decode cX9_read 218 = .ok (.aload_n 0, 1) := by decide +kernel
theorem dX9_read_219 : decode cX9_read 219 = .ok (.iload_n 1, 1) := by decide +kernel
theorem dX9_read_220 : decode cX9_read 220 = .ok (.invokevirtual 154, 3) := by decide +kernel
theorem dX9_read_223 : decode cX9_read 223 = .ok (.istore 4, 2) := by decide +kernel
theorem dX9_read_225 : decode cX9_read 225 = .ok (.iload 4, 2) := by decide +kernel
theorem dX9_read_227 : decode cX9_read 227 = .ok (.ifCond .ge 8, 3) := by decide +kernel
theorem dX9_read_230 : decode cX9_read 230 = .ok (.iconst (-1), 1) := by decide +kernel
theorem dX9_read_231 : decode cX9_read 231 = .ok (.iload 4, 2) := by decide +kernel
theorem dX9_read_233 : decode cX9_read 233 = .ok (.isub, 1) := by decide +kernel
theorem dX9_read_234 : decode cX9_read 234 = .ok (.ireturn, 1) := by decide +kernel
theorem dX9_read_235 : decode cX9_read 235 = .ok (.iload 4, 2) := by decide +kernel
theorem dX9_read_237 : decode cX9_read 237 = .ok (.istore_n 1, 1) := by decide +kernel
theorem dX9_read_238 : decode cX9_read 238 = .ok (.iconst 0, 1) := by decide +kernel
theorem dX9_read_239 : decode cX9_read 239 = .ok (.istore_n 2, 1) := by decide +kernel
theorem dX9_read_240 : decode cX9_read 240 = .ok (.goto (-184), 3) := by decide +kernel
theorem dX9_read_243 : decode cX9_read 243 = .ok (.iload_n 2, 1) := by decide +kernel
theorem dX9_read_244 : decode cX9_read 244 = .ok (.ifCond .ne 10, 3) := by decide +kernel
theorem dX9_read_247 : decode cX9_read 247 = .ok (.aload_n 0, 1) := by decide +kernel
theorem dX9_read_248 : decode cX9_read 248 = .ok (.getfield 131, 3) := by decide +kernel
theorem dX9_read_251 : decode cX9_read 251 = .ok (.ifCond .le 8, 3) := by decide +kernel
theorem dX9_read_254 : decode cX9_read 254 = .ok (.aload_n 0, 1) := by decide +kernel
theorem dX9_read_255 : decode cX9_read 255 = .ok (.getfield 120, 3) := by decide +kernel
theorem dX9_read_258 : decode cX9_read 258 = .ok (.ireturn, 1) := by decide +kernel
theorem dX9_read_259 : decode cX9_read 259 = .ok (.aload_n 0, 1) := by decide +kernel
theorem dX9_read_260 : decode cX9_read 260 = .ok (.invokevirtual 150, 3) := by decide +kernel
theorem dX9_read_263 : decode cX9_read 263 = .ok (.istore_n 3, 1) := by decide +kernel
theorem dX9_read_264 : decode cX9_read 264 = .ok (.iconst (-1), 1) := by decide +kernel
theorem dX9_read_265 : decode cX9_read 265 = .ok (.ireturn, 1) := by decide +kernel
theorem dX9_findDepths_0 : decode cX9_findDepths 0 = .ok (.aload_n 0, 1) := by decide +kernel
theorem dX9_findDepths_1 : decode cX9_findDepths 1 = .ok (.getfield 33, 3) := by decide +kernel
theorem dX9_findDepths_4 : decode cX9_findDepths 4 = .ok (.iload_n 1, 1) := by decide +kernel
theorem dX9_findDepths_5 : decode cX9_findDepths 5 = .ok (.bipush 64, 2) := by decide +kernel
theorem dX9_findDepths_7 : decode cX9_findDepths 7 = .ok (.idiv, 1) := by decide +kernel
theorem dX9_findDepths_8 : decode cX9_findDepths 8 = .ok (.iaload, 1) := by decide +kernel
theorem dX9_findDepths_9 : decode cX9_findDepths 9 = .ok (.iconst 1, 1) := by decide +kernel
theorem dX9_findDepths_10 : decode cX9_findDepths 10 = .ok (.isub, 1) := by decide +kernel
theorem dX9_findDepths_11 : decode cX9_findDepths 11 = .ok (.istore_n 2, 1) := by decide +kernel
theorem dX9_findDepths_12 : decode cX9_findDepths 12 = .ok (.aload_n 0, 1) := by decide +kernel
theorem dX9_findDepths_13 : decode cX9_findDepths 13 = .ok (.getfield 26, 3) := by decide +kernel
theorem dX9_findDepths_16 : decode cX9_findDepths 16 = .ok (.iload_n 1, 1) := by decide +kernel
theorem dX9_findDepths_17 : decode cX9_findDepths 17 = .ok (.iload_n 2, 1) := by decide +kernel
theorem dX9_findDepths_18 : decode cX9_findDepths 18 = .ok (.iadd, 1) := by decide +kernel
theorem dX9_findDepths_19 : decode cX9_findDepths 19 = .ok (.iconst 0, 1) := by decide +kernel
theorem dX9_findDepths_20 : decode cX9_findDepths 20 = .ok (.iastore, 1) := by decide +kernel
theorem dX9_findDepths_21 : decode cX9_findDepths 21 = .ok (.iload_n 1, 1) := by decide +kernel
theorem dX9_findDepths_22 : decode cX9_findDepths 22 = .ok (.iload_n 2, 1) := by decide +kernel
theorem dX9_findDepths_23 : decode cX9_findDepths 23 = .ok (.iadd, 1) := by decide +kernel
theorem dX9_findDepths_24 : decode cX9_findDepths 24 = .ok (.istore_n 3, 1) := by decide +kernel
theorem dX9_findDepths_25 : decode cX9_findDepths 25 = .ok (.iload_n 3, 1) := by decide +kernel
theorem dX9_findDepths_26 : decode cX9_findDepths 26 = .ok (.iload_n 1, 1) := by decide +kernel
theorem dX9_findDepths_27 : decode cX9_findDepths 27 = .ok (.if_icmp .lt 99, 3) := by decide +kernel
theorem dX9_findDepths_30 : decode cX9_findDepths 30 = .ok (.aload_n 0, 1) := by decide +kernel
theorem dX9_findDepths_31 : decode cX9_findDepths 31 = .ok (.getfield 17, 3) := by decide +kernel
theorem dX9_findDepths_34 : decode cX9_findDepths 34 = .ok (.iload_n 3, 1) := by decide +kernel
theorem dX9_findDepths_35 : decode cX9_findDepths 35 = .ok (.iaload, 1) := by decide +kernel
theorem dX9_findDepths_36 : decode cX9_findDepths 36 = .ok (.iconst 1, 1) := by decide +kernel
theorem dX9_findDepths_37 : decode cX9_findDepths 37 = .ok (.if_icmp .le 24, 3) := by decide +kernel
theorem dX9_findDepths_40 : decode cX9_findDepths 40 = .ok (.aload_n 0, 1) := by decide +kernel
theorem dX9_findDepths_41 : decode cX9_findDepths 41 = .ok (.getfield 26, 3) := by decide +kernel
theorem dX9_findDepths_44 : decode cX9_findDepths 44 = .ok (.iload_n 1, 1) := by decide +kernel
theorem dX9_findDepths_45 : decode cX9_findDepths 45 = .ok (.aload_n 0, 1) := by decide +kernel
theorem dX9_findDepths_46 : decode cX9_findDepths 46 = .ok (.getfield 20, 3) := by decide +kernel
theorem dX9_findDepths_49 : decode cX9_findDepths 49 = .ok (.iload_n 3, 1) := by decide +kernel
theorem dX9_findDepths_50 : decode cX9_findDepths 50 = .ok (.iaload, 1) := by decide +kernel
theorem dX9_findDepths_51 : decode cX9_findDepths 51 = .ok (.iadd, 1) := by decide +kernel
theorem dX9_findDepths_52 : decode cX9_findDepths 52 = .ok (.aload_n 0, 1) := by decide +kernel
theorem dX9_findDepths_53 : decode cX9_findDepths 53 = .ok (.getfield 26, 3) := by decide +kernel
theorem dX9_findDepths_56 : decode cX9_findDepths 56 = .ok (.iload_n 3, 1) := by decide +kernel
theorem dX9_findDepths_57 : decode cX9_findDepths 57 = .ok (.iaload, 1) := by decide +kernel
theorem dX9_findDepths_58 : decode cX9_findDepths 58 = .ok (.iconst 1, 1) := by decide +kernel
theorem dX9_findDepths_59 : decode cX9_findDepths 59 = .ok (.iadd, 1) := by decide +kernel
theorem dX9_findDepths_60 : decode cX9_findDepths 60 = .ok (.iastore, 1) := by decide +kernel
theorem dX9_findDepths_61 : decode cX9_findDepths 61 = .ok (.aload_n 0, 1) := by decide +kernel
theorem dX9_findDepths_62 : decode cX9_findDepths 62 = .ok (.getfield 17, 3) := by decide +kernel
theorem dX9_findDepths_65 : decode cX9_findDepths 65 = .ok (.iload_n 3, 1) := by decide +kernel
theorem dX9_findDepths_66 : decode cX9_findDepths 66 = .ok (.iaload, 1) := by decide +kernel
theorem dX9_findDepths_67 : decode cX9_findDepths 67 = .ok (.iconst 2, 1) := by decide +kernel
theorem dX9_findDepths_68 : decode cX9_findDepths 68 = .ok (.if_icmp .eq 13, 3) := by decide +kernel
theorem dX9_findDepths_71 : decode cX9_findDepths 71 = .ok (.aload_n 0, 1) := by decide +kernel
theorem dX9_findDepths_72 : decode cX9_findDepths 72 = .ok (.getfield 17, 3) := by decide +kernel
theorem dX9_findDepths_75 : decode cX9_findDepths 75 = .ok (.iload_n 3, 1) := by decide +kernel
theorem dX9_findDepths_76 : decode cX9_findDepths 76 = .ok (.iaload, 1) := by decide +kernel
theorem dX9_findDepths_77 : decode cX9_findDepths 77 = .ok (.iconst 3, 1) := by decide +kernel
theorem dX9_findDepths_78 : decode cX9_findDepths 78 = .ok (.if_icmp .ne 42, 3) := by decide +kernel
theorem dX9_findDepths_81 : decode cX9_findDepths 81 = .ok (.aload_n 0, 1) := by decide +kernel
theorem dX9_findDepths_82 : decode cX9_findDepths 82 = .ok (.getfield 26, 3) := by decide +kernel
theorem dX9_findDepths_85 : decode cX9_findDepths 85 = .ok (.iload_n 1, 1) := by decide +kernel
theorem dX9_findDepths_86 : decode cX9_findDepths 86 = .ok (.aload_n 0, 1) := by decide +kernel
theorem dX9_findDepths_87 : decode cX9_findDepths 87 = .ok (.getfield 23, 3) := by decide +kernel
theorem dX9_findDepths_90 : decode cX9_findDepths 90 = .ok (.iload_n 3, 1) := by decide +kernel
theorem dX9_findDepths_91 : decode cX9_findDepths 91 = .ok (.iaload, 1) := by decide +kernel
theorem dX9_findDepths_92 : decode cX9_findDepths 92 = .ok (.iadd, 1) := by decide +kernel
theorem dX9_findDepths_93 : decode cX9_findDepths 93 = .ok (.aload_n 0, 1) := by decide +kernel
theorem dX9_findDepths_94 : decode cX9_findDepths 94 = .ok (.getfield 29, 3) := by decide +kernel
theorem dX9_findDepths_97 : decode cX9_findDepths 97 = .ok (.iload_n 3, 1) := by decide +kernel
theorem dX9_findDepths_98 : decode cX9_findDepths 98 = .ok (.baload, 1) := by decide +kernel
theorem dX9_findDepths_99 : decode cX9_findDepths 99 = .ok (.ifCond .eq 12, 3) := by decide +kernel
theorem dX9_findDepths_102 : decode cX9_findDepths 102 = .ok (.aload_n 0, 1) := by decide +kernel
theorem dX9_findDepths_103 : decode cX9_findDepths 103 = .ok (.getfield 26, 3) := by decide +kernel
theorem dX9_findDepths_106 : decode cX9_findDepths 106 = .ok (.iload_n 3, 1) := by decide +kernel
theorem dX9_findDepths_107 : decode cX9_findDepths 107 = .ok (.iaload, 1) := by decide +kernel
theorem dX9_findDepths_108 : decode cX9_findDepths 108 = .ok (.goto 11, 3) := by decide +kernel
theorem dX9_findDepths_111 : decode cX9_findDepths 111 = .ok (.aload_n 0, 1) := by decide +kernel
theorem dX9_findDepths_112 : decode cX9_findDepths 112 = .ok (.getfield 26, 3) := by decide +kernel
theorem dX9_findDepths_115 : decode cX9_findDepths 115 = .ok (.iload_n 3, 1) := by decide +kernel
theorem dX9_findDepths_116 : decode cX9_findDepths 116 = .ok (.iaload, 1) := by decide +kernel
theorem dX9_findDepths_117 : decode cX9_findDepths 117 = .ok (.iconst 1, 1) := by decide +kernel
theorem dX9_findDepths_118 : decode cX9_findDepths 118 = .ok (.iadd, 1) := by decide +kernel
theorem dX9_findDepths_119 : decode cX9_findDepths 119 = .ok (.iastore, 1) := by decide +kernel
theorem dX9_findDepths_120 : decode cX9_findDepths 120 = .ok (.iinc 3 (-1), 3) := by decide +kernel
theorem dX9_findDepths_123 : decode cX9_findDepths 123 = .ok (.goto (-98), 3) := by decide +kernel
theorem dX9_findDepths_126 : decode cX9_findDepths 126 = .ok (.return_, 1) := by decide +kernel
theorem dX9_rule_0 : decode cX9_rule 0 = .ok (.aload_n 0, 1) := by decide +kernel
theorem dX9_rule_1 : decode cX9_rule 1 = .ok (.iconst 0, 1) := by decide +kernel
theorem dX9_rule_2 : decode cX9_rule 2 = .ok (.putfield 105, 3) := by decide +kernel
theorem dX9_rule_5 : decode cX9_rule 5 = .ok (.aload_n 0, 1) := by decide +kernel
theorem dX9_rule_6 : decode cX9_rule 6 = .ok (.invokevirtual 158, 3) := by decide +kernel
theorem dX9_rule_9 : decode cX9_rule 9 = .ok (.istore_n 1, 1) := by decide +kernel
theorem dX9_rule_10 : decode cX9_rule 10 = .ok (.aload_n 0, 1) := by decide +kernel
theorem dX9_rule_11 : decode cX9_rule 11 = .ok (.getfield 120, 3) := by decide +kernel
theorem dX9_rule_14 : decode cX9_rule 14 = .ok (.ifCond .le 15, 3) := by decide +kernel
theorem dX9_rule_17 : decode cX9_rule 17 = .ok (.aload_n 0, 1) := by decide +kernel
theorem dX9_rule_18 : decode cX9_rule 18 = .ok (.getfield 7, 3) := by decide +kernel
theorem dX9_rule_21 : decode cX9_rule 21 = .ok (.iconst 0, 1) := by decide +kernel
theorem dX9_rule_22 : decode cX9_rule 22 = .ok (.caload, 1) := by decide +kernel
theorem dX9_rule_23 : decode cX9_rule 23 = .ok (.bipush 65, 2) := by decide +kernel
theorem dX9_rule_25 : decode cX9_rule 25 = .ok (.isub, 1) := by decide +kernel
theorem dX9_rule_26 : decode cX9_rule 26 = .ok (.goto 4, 3) := by decide +kernel
theorem dX9_rule_29 : decode cX9_rule 29 = .ok (.iconst 0, 1) := by decide +kernel
theorem dX9_rule_30 : decode cX9_rule 30 = .ok (.istore_n 2, 1) := by decide +kernel
theorem dX9_rule_31 : decode cX9_rule 31 = .ok (.aload_n 0, 1) := by decide +kernel
theorem dX9_rule_32 : decode cX9_rule 32 = .ok (.iconst 0, 1) := by decide +kernel
theorem dX9_rule_33 : decode cX9_rule 33 = .ok (.putfield 120, 3) := by decide +kernel
theorem dX9_rule_36 : decode cX9_rule 36 = .ok (.iload_n 1, 1) := by decide +kernel
theorem dX9_rule_37 : decode cX9_rule 37 = .ok (.ifCond .lt 7, 3) := by decide +kernel
theorem dX9_rule_40 : decode cX9_rule 40 = .ok (.iconst 1, 1) := by decide +kernel
theorem dX9_rule_41 : decode cX9_rule 41 = .ok (.iload_n 1, 1) := by decide +kernel
theorem dX9_rule_42 : decode cX9_rule 42 = .ok (.iadd, 1) := by decide +kernel
theorem dX9_rule_43 : decode cX9_rule 43 = .ok (.ireturn, 1) := by decide +kernel
theorem dX9_rule_44 : decode cX9_rule 44 = .ok (.aload_n 0, 1) := by decide +kernel
theorem dX9_rule_45 : decode cX9_rule 45 = .ok (.getfield 33, 3) := by decide +kernel
theorem dX9_rule_48 : decode cX9_rule 48 = .ok (.iload_n 2, 1) := by decide +kernel
theorem dX9_rule_49 : decode cX9_rule 49 = .ok (.aload_n 0, 1) := by decide +kernel
theorem dX9_rule_50 : decode cX9_rule 50 = .ok (.getfield 33, 3) := by decide +kernel
theorem dX9_rule_53 : decode cX9_rule 53 = .ok (.bipush 6, 2) := by decide +kernel
theorem dX9_rule_55 : decode cX9_rule 55 = .ok (.iaload, 1) := by decide +kernel
theorem dX9_rule_56 : decode cX9_rule 56 = .ok (.iastore, 1) := by decide +kernel
theorem dX9_rule_57 : decode cX9_rule 57 = .ok (.iconst 0, 1) := by decide +kernel
theorem dX9_rule_58 : decode cX9_rule 58 = .ok (.istore_n 3, 1) := by decide +kernel
theorem dX9_rule_59 : decode cX9_rule 59 = .ok (.iload_n 3, 1) := by decide +kernel
theorem dX9_rule_60 : decode cX9_rule 60 = .ok (.aload_n 0, 1) := by decide +kernel
theorem dX9_rule_61 : decode cX9_rule 61 = .ok (.getfield 33, 3) := by decide +kernel
theorem dX9_rule_64 : decode cX9_rule 64 = .ok (.bipush 6, 2) := by decide +kernel
theorem dX9_rule_66 : decode cX9_rule 66 = .ok (.iaload, 1) := by decide +kernel
theorem dX9_rule_67 : decode cX9_rule 67 = .ok (.if_icmp .ge 85, 3) := by decide +kernel
theorem dX9_rule_70 : decode cX9_rule 70 = .ok (.bipush 64, 2) := by decide +kernel
theorem dX9_rule_72 : decode cX9_rule 72 = .ok (.iload_n 2, 1) := by decide +kernel
theorem dX9_rule_73 : decode cX9_rule 73 = .ok (.imul, 1) := by decide +kernel
theorem dX9_rule_74 : decode cX9_rule 74 = .ok (.iload_n 3, 1) := by decide +kernel
theorem dX9_rule_75 : decode cX9_rule 75 = .ok (.iadd, 1) := by decide +kernel
theorem dX9_rule_76 : decode cX9_rule 76 = .ok (.istore 4, 2) := by decide +kernel
theorem dX9_rule_78 : decode cX9_rule 78 = .ok (.aload_n 0, 1) := by decide +kernel
theorem dX9_rule_79 : decode cX9_rule 79 = .ok (.getfield 17, 3) := by decide +kernel
theorem dX9_rule_82 : decode cX9_rule 82 = .ok (.iload 4, 2) := by decide +kernel
theorem dX9_rule_84 : decode cX9_rule 84 = .ok (.aload_n 0, 1) := by decide +kernel
theorem dX9_rule_85 : decode cX9_rule 85 = .ok (.getfield 17, 3) := by decide +kernel
theorem dX9_rule_88 : decode cX9_rule 88 = .ok (.sipush 384, 3) := by decide +kernel
theorem dX9_rule_91 : decode cX9_rule 91 = .ok (.iload_n 3, 1) := by decide +kernel
theorem dX9_rule_92 : decode cX9_rule 92 = .ok (.iadd, 1) := by decide +kernel
theorem dX9_rule_93 : decode cX9_rule 93 = .ok (.iaload, 1) := by decide +kernel
theorem dX9_rule_94 : decode cX9_rule 94 = .ok (.iastore, 1) := by decide +kernel
theorem dX9_rule_95 : decode cX9_rule 95 = .ok (.aload_n 0, 1) := by decide +kernel
theorem dX9_rule_96 : decode cX9_rule 96 = .ok (.getfield 20, 3) := by decide +kernel
theorem dX9_rule_99 : decode cX9_rule 99 = .ok (.iload 4, 2) := by decide +kernel
theorem dX9_rule_101 : decode cX9_rule 101 = .ok (.aload_n 0, 1) := by decide +kernel
theorem dX9_rule_102 : decode cX9_rule 102 = .ok (.getfield 20, 3) := by decide +kernel
theorem dX9_rule_105 : decode cX9_rule 105 = .ok (.sipush 384, 3) := by decide +kernel
theorem dX9_rule_108 : decode cX9_rule 108 = .ok (.iload_n 3, 1) := by decide +kernel
theorem dX9_rule_109 : decode cX9_rule 109 = .ok (.iadd, 1) := by decide +kernel
theorem dX9_rule_110 : decode cX9_rule 110 = .ok (.iaload, 1) := by decide +kernel
theorem dX9_rule_111 : decode cX9_rule 111 = .ok (.iastore, 1) := by decide +kernel
theorem dX9_rule_112 : decode cX9_rule 112 = .ok (.aload_n 0, 1) := by decide +kernel
theorem dX9_rule_113 : decode cX9_rule 113 = .ok (.getfield 23, 3) := by decide +kernel
theorem dX9_rule_116 : decode cX9_rule 116 = .ok (.iload 4, 2) := by decide +kernel
theorem dX9_rule_118 : decode cX9_rule 118 = .ok (.aload_n 0, 1) := by decide +kernel
theorem dX9_rule_119 : decode cX9_rule 119 = .ok (.getfield 23, 3) := by decide +kernel
theorem dX9_rule_122 : decode cX9_rule 122 = .ok (.sipush 384, 3) := by decide +kernel
theorem dX9_rule_125 : decode cX9_rule 125 = .ok (.iload_n 3, 1) := by decide +kernel
theorem dX9_rule_126 : decode cX9_rule 126 = .ok (.iadd, 1) := by decide +kernel
theorem dX9_rule_127 : decode cX9_rule 127 = .ok (.iaload, 1) := by decide +kernel
theorem dX9_rule_128 : decode cX9_rule 128 = .ok (.iastore, 1) := by decide +kernel
theorem dX9_rule_129 : decode cX9_rule 129 = .ok (.aload_n 0, 1) := by decide +kernel
theorem dX9_rule_130 : decode cX9_rule 130 = .ok (.getfield 29, 3) := by decide +kernel
theorem dX9_rule_133 : decode cX9_rule 133 = .ok (.iload 4, 2) := by decide +kernel
theorem dX9_rule_135 : decode cX9_rule 135 = .ok (.aload_n 0, 1) := by decide +kernel
theorem dX9_rule_136 : decode cX9_rule 136 = .ok (.getfield 29, 3) := by decide +kernel
theorem dX9_rule_139 : decode cX9_rule 139 = .ok (.sipush 384, 3) := by decide +kernel
theorem dX9_rule_142 : decode cX9_rule 142 = .ok (.iload_n 3, 1) := by decide +kernel
theorem dX9_rule_143 : decode cX9_rule 143 = .ok (.iadd, 1) := by decide +kernel
theorem dX9_rule_144 : decode cX9_rule 144 = .ok (.baload, 1) := by decide +kernel
theorem dX9_rule_145 : decode cX9_rule 145 = .ok (.bastore, 1) := by decide +kernel
theorem dX9_rule_146 : decode cX9_rule 146 = .ok (.iinc 3 1, 3) := by decide +kernel
theorem dX9_rule_149 : decode cX9_rule 149 = .ok (.goto (-90), 3) := by decide +kernel
theorem dX9_rule_152 : decode cX9_rule 152 = .ok (.aload_n 0, 1) := by decide +kernel
theorem dX9_rule_153 : decode cX9_rule 153 = .ok (.bipush 64, 2) := by decide +kernel
theorem dX9_rule_155 : decode cX9_rule 155 = .ok (.iload_n 2, 1) := by decide +kernel
theorem dX9_rule_156 : decode cX9_rule 156 = .ok (.imul, 1) := by decide +kernel
theorem dX9_rule_157 : decode cX9_rule 157 = .ok (.invokevirtual 161, 3) := by decide +kernel
theorem dX9_rule_160 : decode cX9_rule 160 = .ok (.aload_n 0, 1) := by decide +kernel
theorem dX9_rule_161 : decode cX9_rule 161 = .ok (.invokevirtual 102, 3) := by decide +kernel
theorem dX9_rule_164 : decode cX9_rule 164 = .ok (.iconst 0, 1) := by decide +kernel
theorem dX9_rule_165 : decode cX9_rule 165 = .ok (.ireturn, 1) := by decide +kernel
theorem dX9_drop_0 : decode cX9_drop 0 = .ok (.aload_n 0, 1) := by decide +kernel
theorem dX9_drop_1 : decode cX9_drop 1 = .ok (.iload_n 1, 1) := by decide +kernel
theorem dX9_drop_2 : decode cX9_drop 2 = .ok (.iconst 0, 1) := by decide +kernel
theorem dX9_drop_3 : decode cX9_drop 3 = .ok (.iconst 5, 1) := by decide +kernel
theorem dX9_drop_4 : decode cX9_drop 4 = .ok (.invokestatic 109, 3) := by decide +kernel
theorem dX9_drop_7 : decode cX9_drop 7 = .ok (.ifCond .eq 7, 3) := by decide +kernel
theorem dX9_drop_10 : decode cX9_drop 10 = .ok (.iconst 0, 1) := by decide +kernel
theorem dX9_drop_11 : decode cX9_drop 11 = .ok (.goto 4, 3) := by decide +kernel
theorem dX9_drop_14 : decode cX9_drop 14 = .ok (.iconst 1, 1) := by decide +kernel
theorem dX9_drop_15 : decode cX9_drop 15 = .ok (.putfield 105, 3) := by decide +kernel
theorem dX9_drop_18 : decode cX9_drop 18 = .ok (.aload_n 0, 1) := by decide +kernel
theorem dX9_drop_19 : decode cX9_drop 19 = .ok (.getfield 105, 3) := by decide +kernel
theorem dX9_drop_22 : decode cX9_drop 22 = .ok (.ifCond .gt 12, 3) := by decide +kernel
theorem dX9_drop_25 : decode cX9_drop 25 = .ok (.aload_n 0, 1) := by decide +kernel
theorem dX9_drop_26 : decode cX9_drop 26 = .ok (.getfield 33, 3) := by decide +kernel
theorem dX9_drop_29 : decode cX9_drop 29 = .ok (.iload_n 1, 1) := by decide +kernel
theorem dX9_drop_30 : decode cX9_drop 30 = .ok (.iaload, 1) := by decide +kernel
theorem dX9_drop_31 : decode cX9_drop 31 = .ok (.ifCond .ne 5, 3) := by decide +kernel
theorem dX9_drop_34 : decode cX9_drop 34 = .ok (.iconst 0, 1) := by decide +kernel
theorem dX9_drop_35 : decode cX9_drop 35 = .ok (.ireturn, 1) := by decide +kernel
theorem dX9_drop_36 : decode cX9_drop 36 = .ok (.aload_n 0, 1) := by decide +kernel
theorem dX9_drop_37 : decode cX9_drop 37 = .ok (.getfield 33, 3) := by decide +kernel
theorem dX9_drop_40 : decode cX9_drop 40 = .ok (.iload_n 1, 1) := by decide +kernel
theorem dX9_drop_41 : decode cX9_drop 41 = .ok (.iconst 0, 1) := by decide +kernel
theorem dX9_drop_42 : decode cX9_drop 42 = .ok (.iastore, 1) := by decide +kernel
theorem dX9_drop_43 : decode cX9_drop 43 = .ok (.aload_n 0, 1) := by decide +kernel
theorem dX9_drop_44 : decode cX9_drop 44 = .ok (.invokevirtual 102, 3) := by decide +kernel
theorem dX9_drop_47 : decode cX9_drop 47 = .ok (.iconst 1, 1) := by decide +kernel
theorem dX9_drop_48 : decode cX9_drop 48 = .ok (.ireturn, 1) := by decide +kernel
theorem dX9_feed_0 : decode cX9_feed 0 = .ok (.aload_n 0, 1) := by decide +kernel
theorem dX9_feed_1 : decode cX9_feed 1 = .ok (.iconst 0, 1) := by decide +kernel
theorem dX9_feed_2 : decode cX9_feed 2 = .ok (.putfield 105, 3) := by decide +kernel
theorem dX9_feed_5 : decode cX9_feed 5 = .ok (.iload_n 1, 1) := by decide +kernel
theorem dX9_feed_6 : decode cX9_feed 6 = .ok (.invokestatic 113, 3) := by decide +kernel
theorem dX9_feed_9 : decode cX9_feed 9 = .ok (.ifCond .ne 9, 3) := by decide +kernel
theorem dX9_feed_12 : decode cX9_feed 12 = .ok (.aload_n 0, 1) := by decide +kernel
theorem dX9_feed_13 : decode cX9_feed 13 = .ok (.iconst 1, 1) := by decide +kernel
theorem dX9_feed_14 : decode cX9_feed 14 = .ok (.invokevirtual 165, 3) := by decide +kernel
theorem dX9_feed_17 : decode cX9_feed 17 = .ok (.ireturn, 1) := by decide +kernel
theorem dX9_feed_18 : decode cX9_feed 18 = .ok (.aload_n 0, 1) := by decide +kernel
theorem dX9_feed_19 : decode cX9_feed 19 = .ok (.getfield 168, 3) := by decide +kernel
theorem dX9_feed_22 : decode cX9_feed 22 = .ok (.bipush 20, 2) := by decide +kernel
theorem dX9_feed_24 : decode cX9_feed 24 = .ok (.if_icmp .ne 9, 3) := by decide +kernel
theorem dX9_feed_27 : decode cX9_feed 27 = .ok (.aload_n 0, 1) := by decide +kernel
theorem dX9_feed_28 : decode cX9_feed 28 = .ok (.iconst 2, 1) := by decide +kernel
theorem dX9_feed_29 : decode cX9_feed 29 = .ok (.invokevirtual 165, 3) := by decide +kernel
theorem dX9_feed_32 : decode cX9_feed 32 = .ok (.ireturn, 1) := by decide +kernel
theorem dX9_feed_33 : decode cX9_feed 33 = .ok (.aload_n 0, 1) := by decide +kernel
theorem dX9_feed_34 : decode cX9_feed 34 = .ok (.getfield 13, 3) := by decide +kernel
theorem dX9_feed_37 : decode cX9_feed 37 = .ok (.aload_n 0, 1) := by decide +kernel
theorem dX9_feed_38 : decode cX9_feed 38 = .ok (.getfield 168, 3) := by decide +kernel
theorem dX9_feed_41 : decode cX9_feed 41 = .ok (.iload_n 1, 1) := by decide +kernel
theorem dX9_feed_42 : decode cX9_feed 42 = .ok (.bipush 97, 2) := by decide +kernel
theorem dX9_feed_44 : decode cX9_feed 44 = .ok (.isub, 1) := by decide +kernel
theorem dX9_feed_45 : decode cX9_feed 45 = .ok (.iastore, 1) := by decide +kernel
theorem dX9_feed_46 : decode cX9_feed 46 = .ok (.aload_n 0, 1) := by decide +kernel
theorem dX9_feed_47 : decode cX9_feed 47 = .ok (.dup, 1) := by decide +kernel
theorem dX9_feed_48 : decode cX9_feed 48 = .ok (.getfield 168, 3) := by decide +kernel
theorem dX9_feed_51 : decode cX9_feed 51 = .ok (.iconst 1, 1) := by decide +kernel
theorem dX9_feed_52 : decode cX9_feed 52 = .ok (.iadd, 1) := by decide +kernel
theorem dX9_feed_53 : decode cX9_feed 53 = .ok (.putfield 168, 3) := by decide +kernel
theorem dX9_feed_56 : decode cX9_feed 56 = .ok (.aload_n 0, 1) := by decide +kernel
theorem dX9_feed_57 : decode cX9_feed 57 = .ok (.invokevirtual 102, 3) := by decide +kernel
theorem dX9_feed_60 : decode cX9_feed 60 = .ok (.aload_n 0, 1) := by decide +kernel
theorem dX9_feed_61 : decode cX9_feed 61 = .ok (.getfield 168, 3) := by decide +kernel
theorem dX9_feed_64 : decode cX9_feed 64 = .ok (.ireturn, 1) := by decide +kernel
theorem dX9_clear_0 : decode cX9_clear 0 = .ok (.aload_n 0, 1) := by decide +kernel
theorem dX9_clear_1 : decode cX9_clear 1 = .ok (.iconst 0, 1) := by decide +kernel
theorem dX9_clear_2 : decode cX9_clear 2 = .ok (.putfield 105, 3) := by decide +kernel
theorem dX9_clear_5 : decode cX9_clear 5 = .ok (.aload_n 0, 1) := by decide +kernel
theorem dX9_clear_6 : decode cX9_clear 6 = .ok (.getfield 168, 3) := by decide +kernel
theorem dX9_clear_9 : decode cX9_clear 9 = .ok (.istore_n 1, 1) := by decide +kernel
theorem dX9_clear_10 : decode cX9_clear 10 = .ok (.aload_n 0, 1) := by decide +kernel
theorem dX9_clear_11 : decode cX9_clear 11 = .ok (.iconst 0, 1) := by decide +kernel
theorem dX9_clear_12 : decode cX9_clear 12 = .ok (.putfield 168, 3) := by decide +kernel
theorem dX9_clear_15 : decode cX9_clear 15 = .ok (.iload_n 1, 1) := by decide +kernel
theorem dX9_clear_16 : decode cX9_clear 16 = .ok (.ifCond .le 7, 3) := by decide +kernel
theorem dX9_clear_19 : decode cX9_clear 19 = .ok (.aload_n 0, 1) := by decide +kernel
theorem dX9_clear_20 : decode cX9_clear 20 = .ok (.invokevirtual 102, 3) := by decide +kernel
theorem dX9_clear_23 : decode cX9_clear 23 = .ok (.iload_n 1, 1) := by decide +kernel
theorem dX9_clear_24 : decode cX9_clear 24 = .ok (.ireturn, 1) := by decide +kernel
theorem dX9_lacking_0 : decode cX9_lacking 0 = .ok (.iconst (-1), 1) := by decide +kernel
theorem dX9_lacking_1 : decode cX9_lacking 1 = .ok (.istore_n 1, 1) := by decide +kernel
theorem dX9_lacking_2 : decode cX9_lacking 2 = .ok (.iconst 0, 1) := by decide +kernel
theorem dX9_lacking_3 : decode cX9_lacking 3 = .ok (.istore_n 2, 1) := by decide +kernel
theorem dX9_lacking_4 : decode cX9_lacking 4 = .ok (.iload_n 2, 1) := by decide +kernel
theorem dX9_lacking_5 : decode cX9_lacking 5 = .ok (.bipush 6, 2) := by decide +kernel
theorem dX9_lacking_7 : decode cX9_lacking 7 = .ok (.if_icmp .ge 96, 3) := by decide +kernel
theorem dX9_lacking_10 : decode cX9_lacking 10 = .ok (.bipush 64, 2) := by decide +kernel
theorem dX9_lacking_12 : decode cX9_lacking 12 = .ok (.iload_n 2, 1) := by decide +kernel
theorem dX9_lacking_13 : decode cX9_lacking 13 = .ok (.imul, 1) := by decide +kernel
theorem dX9_lacking_14 : decode cX9_lacking 14 = .ok (.istore_n 3, 1) := by decide +kernel
theorem dX9_lacking_15 : decode cX9_lacking 15 = .ok (.iload_n 3, 1) := by decide +kernel
theorem dX9_lacking_16 : decode cX9_lacking 16 = .ok (.bipush 64, 2) := by decide +kernel
theorem dX9_lacking_18 : decode cX9_lacking 18 = .ok (.iload_n 2, 1) := by decide +kernel
theorem dX9_lacking_19 : decode cX9_lacking 19 = .ok (.imul, 1) := by decide +kernel
theorem dX9_lacking_20 : decode cX9_lacking 20 = .ok (.aload_n 0, 1) := by decide +kernel
theorem dX9_lacking_21 : decode cX9_lacking 21 = .ok (.getfield 33, 3) := by decide +kernel
theorem dX9_lacking_24 : decode cX9_lacking 24 = .ok (.iload_n 2, 1) := by decide +kernel
theorem dX9_lacking_25 : decode cX9_lacking 25 = .ok (.iaload, 1) := by decide +kernel
theorem dX9_lacking_26 : decode cX9_lacking 26 = .ok (.iadd, 1) := by decide +kernel
theorem dX9_lacking_27 : decode cX9_lacking 27 = .ok (.if_icmp .ge 70, 3) := by decide +kernel
theorem dX9_lacking_30 : decode cX9_lacking 30 = .ok (.aload_n 0, 1) := by decide +kernel
theorem dX9_lacking_31 : decode cX9_lacking 31 = .ok (.getfield 17, 3) := by decide +kernel
theorem dX9_lacking_34 : decode cX9_lacking 34 = .ok (.iload_n 3, 1) := by decide +kernel
theorem dX9_lacking_35 : decode cX9_lacking 35 = .ok (.iaload, 1) := by decide +kernel
theorem dX9_lacking_36 : decode cX9_lacking 36 = .ok (.iconst 1, 1) := by decide +kernel
theorem dX9_lacking_37 : decode cX9_lacking 37 = .ok (.if_icmp .ne 21, 3) := by decide +kernel
theorem dX9_lacking_40 : decode cX9_lacking 40 = .ok (.aload_n 0, 1) := by decide +kernel
theorem dX9_lacking_41 : decode cX9_lacking 41 = .ok (.getfield 33, 3) := by decide +kernel
theorem dX9_lacking_44 : decode cX9_lacking 44 = .ok (.aload_n 0, 1) := by decide +kernel
theorem dX9_lacking_45 : decode cX9_lacking 45 = .ok (.getfield 20, 3) := by decide +kernel
theorem dX9_lacking_48 : decode cX9_lacking 48 = .ok (.iload_n 3, 1) := by decide +kernel
theorem dX9_lacking_49 : decode cX9_lacking 49 = .ok (.iaload, 1) := by decide +kernel
theorem dX9_lacking_50 : decode cX9_lacking 50 = .ok (.iaload, 1) := by decide +kernel
theorem dX9_lacking_51 : decode cX9_lacking 51 = .ok (.ifCond .ne 7, 3) := by decide +kernel
theorem dX9_lacking_54 : decode cX9_lacking 54 = .ok (.iconst 1, 1) := by decide +kernel
theorem dX9_lacking_55 : decode cX9_lacking 55 = .ok (.goto 4, 3) := by decide +kernel
theorem dX9_lacking_58 : decode cX9_lacking 58 = .ok (.iconst 0, 1) := by decide +kernel
theorem dX9_lacking_59 : decode cX9_lacking 59 = .ok (.istore 4, 2) := by decide +kernel
theorem dX9_lacking_61 : decode cX9_lacking 61 = .ok (.iload 4, 2) := by decide +kernel
theorem dX9_lacking_63 : decode cX9_lacking 63 = .ok (.ifCond .eq 26, 3) := by decide +kernel
theorem dX9_lacking_66 : decode cX9_lacking 66 = .ok (.iload_n 1, 1) := by decide +kernel
theorem dX9_lacking_67 : decode cX9_lacking 67 = .ok (.ifCond .lt 13, 3) := by decide +kernel
theorem dX9_lacking_70 : decode cX9_lacking 70 = .ok (.aload_n 0, 1) := by decide +kernel
theorem dX9_lacking_71 : decode cX9_lacking 71 = .ok (.getfield 20, 3) := by decide +kernel
theorem dX9_lacking_74 : decode cX9_lacking 74 = .ok (.iload_n 3, 1) := by decide +kernel
theorem dX9_lacking_75 : decode cX9_lacking 75 = .ok (.iaload, 1) := by decide +kernel
theorem dX9_lacking_76 : decode cX9_lacking 76 = .ok (.iload_n 1, 1) := by decide +kernel
theorem dX9_lacking_77 : decode cX9_lacking 77 = .ok (.if_icmp .ge 12, 3) := by decide +kernel
theorem dX9_lacking_80 : decode cX9_lacking 80 = .ok (.aload_n 0, 1) := by decide +kernel
theorem dX9_lacking_81 : decode cX9_lacking 81 = .ok (.getfield 20, 3) := by decide +kernel
theorem dX9_lacking_84 : decode cX9_lacking 84 = .ok (.iload_n 3, 1) := by decide +kernel
theorem dX9_lacking_85 : decode cX9_lacking 85 = .ok (.iaload, 1) := by decide +kernel
theorem dX9_lacking_86 : decode cX9_lacking 86 = .ok (.goto 4, 3) := by decide +kernel
theorem dX9_lacking_89 : decode cX9_lacking 89 = .ok (.iload_n 1, 1) := by decide +kernel
theorem dX9_lacking_90 : decode cX9_lacking 90 = .ok (.istore_n 1, 1) := by decide +kernel
theorem dX9_lacking_91 : decode cX9_lacking 91 = .ok (.iinc 3 1, 3) := by decide +kernel
theorem dX9_lacking_94 : decode cX9_lacking 94 = .ok (.goto (-79), 3) := by decide +kernel
theorem dX9_lacking_97 : decode cX9_lacking 97 = .ok (.iinc 2 1, 3) := by decide +kernel
theorem dX9_lacking_100 : decode cX9_lacking 100 = .ok (.goto (-96), 3) := by decide +kernel
theorem dX9_lacking_103 : decode cX9_lacking 103 = .ok (.iload_n 1, 1) := by decide +kernel
theorem dX9_lacking_104 : decode cX9_lacking 104 = .ok (.ireturn, 1) := by decide +kernel
theorem dX9_bit_0 : decode cX9_bit 0 = .ok (.iload_n 0, 1) := by decide +kernel
theorem dX9_bit_1 : decode cX9_bit 1 = .ok (.ifCond .eq 7, 3) := by decide +kernel
theorem dX9_bit_4 : decode cX9_bit 4 = .ok (.iload_n 1, 1) := by decide +kernel
theorem dX9_bit_5 : decode cX9_bit 5 = .ok (.goto 4, 3) := by decide +kernel
theorem dX9_bit_8 : decode cX9_bit 8 = .ok (.iconst 0, 1) := by decide +kernel
theorem dX9_bit_9 : decode cX9_bit 9 = .ok (.ireturn, 1) := by decide +kernel
theorem dX9_has_0 : decode cX9_has 0 = .ok (.iload_n 0, 1) := by decide +kernel
theorem dX9_has_1 : decode cX9_has 1 = .ok (.iload_n 1, 1) := by decide +kernel
theorem dX9_has_2 : decode cX9_has 2 = .ok (.iand, 1) := by decide +kernel
theorem dX9_has_3 : decode cX9_has 3 = .ok (.ifCond .eq 7, 3) := by decide +kernel
theorem dX9_has_6 : decode cX9_has 6 = .ok (.iconst 1, 1) := by decide +kernel
theorem dX9_has_7 : decode cX9_has 7 = .ok (.goto 4, 3) := by decide +kernel
theorem dX9_has_10 : decode cX9_has 10 = .ok (.iconst 0, 1) := by decide +kernel
theorem dX9_has_11 : decode cX9_has 11 = .ok (.ireturn, 1) := by decide +kernel
theorem dX9_row_0 : decode cX9_row 0 = .ok (.iload_n 0, 1) := by decide +kernel
theorem dX9_row_1 : decode cX9_row 1 = .ok (.iconst 2, 1) := by decide +kernel
theorem dX9_row_2 : decode cX9_row 2 = .ok (.invokestatic 171, 3) := by decide +kernel
theorem dX9_row_5 : decode cX9_row 5 = .ok (.ifCond .eq 11, 3) := by decide +kernel
theorem dX9_row_8 : decode cX9_row 8 = .ok (.iload_n 1, 1) := by decide +kernel
theorem dX9_row_9 : decode cX9_row 9 = .ok (.iconst 3, 1) := by decide +kernel
theorem dX9_row_10 : decode cX9_row 10 = .ok (.invokestatic 171, 3) := by decide +kernel
theorem dX9_row_13 : decode cX9_row 13 = .ok (.ifCond .ne 19, 3) := by decide +kernel
theorem dX9_row_16 : decode cX9_row 16 = .ok (.iload_n 0, 1) := by decide +kernel
theorem dX9_row_17 : decode cX9_row 17 = .ok (.iconst 1, 1) := by decide +kernel
theorem dX9_row_18 : decode cX9_row 18 = .ok (.invokestatic 171, 3) := by decide +kernel
theorem dX9_row_21 : decode cX9_row 21 = .ok (.ifCond .eq 15, 3) := by decide +kernel
theorem dX9_row_24 : decode cX9_row 24 = .ok (.iload_n 1, 1) := by decide +kernel
theorem dX9_row_25 : decode cX9_row 25 = .ok (.iconst 2, 1) := by decide +kernel
theorem dX9_row_26 : decode cX9_row 26 = .ok (.invokestatic 171, 3) := by decide +kernel
theorem dX9_row_29 : decode cX9_row 29 = .ok (.ifCond .eq 7, 3) := by decide +kernel
theorem dX9_row_32 : decode cX9_row 32 = .ok (.iconst 1, 1) := by decide +kernel
theorem dX9_row_33 : decode cX9_row 33 = .ok (.goto 4, 3) := by decide +kernel
theorem dX9_row_36 : decode cX9_row 36 = .ok (.iconst 0, 1) := by decide +kernel
theorem dX9_row_37 : decode cX9_row 37 = .ok (.istore_n 2, 1) := by decide +kernel
theorem dX9_row_38 : decode cX9_row 38 = .ok (.iload_n 0, 1) := by decide +kernel
theorem dX9_row_39 : decode cX9_row 39 = .ok (.iconst 4, 1) := by decide +kernel
theorem dX9_row_40 : decode cX9_row 40 = .ok (.invokestatic 171, 3) := by decide +kernel
theorem dX9_row_43 : decode cX9_row 43 = .ok (.ifCond .ne 19, 3) := by decide +kernel
theorem dX9_row_46 : decode cX9_row 46 = .ok (.iload_n 0, 1) := by decide +kernel
theorem dX9_row_47 : decode cX9_row 47 = .ok (.iconst 3, 1) := by decide +kernel
theorem dX9_row_48 : decode cX9_row 48 = .ok (.invokestatic 171, 3) := by decide +kernel
theorem dX9_row_51 : decode cX9_row 51 = .ok (.ifCond .eq 15, 3) := by decide +kernel
theorem dX9_row_54 : decode cX9_row 54 = .ok (.iload_n 1, 1) := by decide +kernel
theorem dX9_row_55 : decode cX9_row 55 = .ok (.iconst 4, 1) := by decide +kernel
theorem dX9_row_56 : decode cX9_row 56 = .ok (.invokestatic 171, 3) := by decide +kernel
theorem dX9_row_59 : decode cX9_row 59 = .ok (.ifCond .eq 7, 3) := by decide +kernel
theorem dX9_row_62 : decode cX9_row 62 = .ok (.iconst 1, 1) := by decide +kernel
theorem dX9_row_63 : decode cX9_row 63 = .ok (.goto 4, 3) := by decide +kernel
theorem dX9_row_66 : decode cX9_row 66 = .ok (.iconst 0, 1) := by decide +kernel
theorem dX9_row_67 : decode cX9_row 67 = .ok (.istore_n 3, 1) := by decide +kernel
theorem dX9_row_68 : decode cX9_row 68 = .ok (.iload_n 0, 1) := by decide +kernel
theorem dX9_row_69 : decode cX9_row 69 = .ok (.iload_n 1, 1) := by decide +kernel
theorem dX9_row_70 : decode cX9_row 70 = .ok (.iand, 1) := by decide +kernel
theorem dX9_row_71 : decode cX9_row 71 = .ok (.iconst 1, 1) := by decide +kernel
theorem dX9_row_72 : decode cX9_row 72 = .ok (.iand, 1) := by decide +kernel
theorem dX9_row_73 : decode cX9_row 73 = .ok (.iload_n 2, 1) := by decide +kernel
theorem dX9_row_74 : decode cX9_row 74 = .ok (.iconst 2, 1) := by decide +kernel
theorem dX9_row_75 : decode cX9_row 75 = .ok (.invokestatic 175, 3) := by decide +kernel
theorem dX9_row_78 : decode cX9_row 78 = .ok (.ior, 1) := by decide +kernel
theorem dX9_row_79 : decode cX9_row 79 = .ok (.iload_n 3, 1) := by decide +kernel
theorem dX9_row_80 : decode cX9_row 80 = .ok (.iconst 4, 1) := by decide +kernel
theorem dX9_row_81 : decode cX9_row 81 = .ok (.invokestatic 175, 3) := by decide +kernel
theorem dX9_row_84 : decode cX9_row 84 = .ok (.ior, 1) := by decide +kernel
theorem dX9_row_85 : decode cX9_row 85 = .ok (.ireturn, 1) := by decide +kernel
theorem dX9_outcomeOf_0 : decode cX9_outcomeOf 0 = .ok (.aload_n 0, 1) := by decide +kernel
theorem dX9_outcomeOf_1 : decode cX9_outcomeOf 1 = .ok (.getfield 17, 3) := by decide +kernel
theorem dX9_outcomeOf_4 : decode cX9_outcomeOf 4 = .ok (.iload_n 1, 1) := by decide +kernel
theorem dX9_outcomeOf_5 : decode cX9_outcomeOf 5 = .ok (.iaload, 1) := by decide +kernel
theorem dX9_outcomeOf_6 : decode cX9_outcomeOf 6 = .ok (.ifCond .ne 6, 3) := by decide +kernel
theorem dX9_outcomeOf_9 : decode cX9_outcomeOf 9 = .ok (.bipush 6, 2) := by decide +kernel
theorem dX9_outcomeOf_11 : decode cX9_outcomeOf 11 = .ok (.ireturn, 1) := by decide +kernel
theorem dX9_outcomeOf_12 : decode cX9_outcomeOf 12 = .ok (.aload_n 0, 1) := by decide +kernel
theorem dX9_outcomeOf_13 : decode cX9_outcomeOf 13 = .ok (.getfield 17, 3) := by decide +kernel
theorem dX9_outcomeOf_16 : decode cX9_outcomeOf 16 = .ok (.iload_n 1, 1) := by decide +kernel
theorem dX9_outcomeOf_17 : decode cX9_outcomeOf 17 = .ok (.iaload, 1) := by decide +kernel
theorem dX9_outcomeOf_18 : decode cX9_outcomeOf 18 = .ok (.iconst 1, 1) := by decide +kernel
theorem dX9_outcomeOf_19 : decode cX9_outcomeOf 19 = .ok (.if_icmp .ne 42, 3) := by decide +kernel
theorem dX9_outcomeOf_22 : decode cX9_outcomeOf 22 = .ok (.aload_n 0, 1) := by decide +kernel
theorem dX9_outcomeOf_23 : decode cX9_outcomeOf 23 = .ok (.getfield 20, 3) := by decide +kernel
theorem dX9_outcomeOf_26 : decode cX9_outcomeOf 26 = .ok (.iload_n 1, 1) := by decide +kernel
theorem dX9_outcomeOf_27 : decode cX9_outcomeOf 27 = .ok (.iaload, 1) := by decide +kernel
theorem dX9_outcomeOf_28 : decode cX9_outcomeOf 28 = .ok (.istore_n 3, 1) := by decide +kernel
theorem dX9_outcomeOf_29 : decode cX9_outcomeOf 29 = .ok (.aload_n 0, 1) := by decide +kernel
theorem dX9_outcomeOf_30 : decode cX9_outcomeOf 30 = .ok (.getfield 33, 3) := by decide +kernel
theorem dX9_outcomeOf_33 : decode cX9_outcomeOf 33 = .ok (.iload_n 3, 1) := by decide +kernel
theorem dX9_outcomeOf_34 : decode cX9_outcomeOf 34 = .ok (.iaload, 1) := by decide +kernel
theorem dX9_outcomeOf_35 : decode cX9_outcomeOf 35 = .ok (.ifCond .ne 7, 3) := by decide +kernel
theorem dX9_outcomeOf_38 : decode cX9_outcomeOf 38 = .ok (.iconst 0, 1) := by decide +kernel
end
section
theorem dX9_outcomeOf_39 : decode cX9_outcomeOf 39 = .ok (.goto 21, 3) := by decide +kernel
theorem dX9_outcomeOf_42 : decode cX9_outcomeOf 42 = .ok (.aload_n 0, 1) := by decide +kernel
theorem dX9_outcomeOf_43 : decode cX9_outcomeOf 43 = .ok (.getfield 36, 3) := by decide +kernel
theorem dX9_outcomeOf_46 : decode cX9_outcomeOf 46 = .ok (.bipush 64, 2) := by decide +kernel
theorem dX9_outcomeOf_48 : decode cX9_outcomeOf 48 = .ok (.iload_n 3, 1) := by decide +kernel
theorem dX9_outcomeOf_49 : decode cX9_outcomeOf 49 = .ok (.imul, 1) := by decide +kernel
theorem dX9_outcomeOf_50 : decode cX9_outcomeOf 50 = .ok (.aload_n 0, 1) := by decide +kernel
theorem dX9_outcomeOf_51 : decode cX9_outcomeOf 51 = .ok (.getfield 33, 3) := by decide +kernel
theorem dX9_outcomeOf_54 : decode cX9_outcomeOf 54 = .ok (.iload_n 3, 1) := by decide +kernel
theorem dX9_outcomeOf_55 : decode cX9_outcomeOf 55 = .ok (.iaload, 1) := by decide +kernel
theorem dX9_outcomeOf_56 : decode cX9_outcomeOf 56 = .ok (.iadd, 1) := by decide +kernel
theorem dX9_outcomeOf_57 : decode cX9_outcomeOf 57 = .ok (.iconst 1, 1) := by decide +kernel
theorem dX9_outcomeOf_58 : decode cX9_outcomeOf 58 = .ok (.isub, 1) := by decide +kernel
theorem dX9_outcomeOf_59 : decode cX9_outcomeOf 59 = .ok (.iaload, 1) := by decide +kernel
theorem dX9_outcomeOf_60 : decode cX9_outcomeOf 60 = .ok (.ireturn, 1) := by decide +kernel
theorem dX9_outcomeOf_61 : decode cX9_outcomeOf 61 = .ok (.aload_n 0, 1) := by decide +kernel
theorem dX9_outcomeOf_62 : decode cX9_outcomeOf 62 = .ok (.getfield 36, 3) := by decide +kernel
theorem dX9_outcomeOf_65 : decode cX9_outcomeOf 65 = .ok (.iload_n 2, 1) := by decide +kernel
theorem dX9_outcomeOf_66 : decode cX9_outcomeOf 66 = .ok (.aload_n 0, 1) := by decide +kernel
theorem dX9_outcomeOf_67 : decode cX9_outcomeOf 67 = .ok (.getfield 20, 3) := by decide +kernel
theorem dX9_outcomeOf_70 : decode cX9_outcomeOf 70 = .ok (.iload_n 1, 1) := by decide +kernel
theorem dX9_outcomeOf_71 : decode cX9_outcomeOf 71 = .ok (.iaload, 1) := by decide +kernel
theorem dX9_outcomeOf_72 : decode cX9_outcomeOf 72 = .ok (.iadd, 1) := by decide +kernel
theorem dX9_outcomeOf_73 : decode cX9_outcomeOf 73 = .ok (.iaload, 1) := by decide +kernel
theorem dX9_outcomeOf_74 : decode cX9_outcomeOf 74 = .ok (.istore_n 3, 1) := by decide +kernel
theorem dX9_outcomeOf_75 : decode cX9_outcomeOf 75 = .ok (.aload_n 0, 1) := by decide +kernel
theorem dX9_outcomeOf_76 : decode cX9_outcomeOf 76 = .ok (.getfield 36, 3) := by decide +kernel
theorem dX9_outcomeOf_79 : decode cX9_outcomeOf 79 = .ok (.iload_n 2, 1) := by decide +kernel
theorem dX9_outcomeOf_80 : decode cX9_outcomeOf 80 = .ok (.aload_n 0, 1) := by decide +kernel
theorem dX9_outcomeOf_81 : decode cX9_outcomeOf 81 = .ok (.getfield 23, 3) := by decide +kernel
theorem dX9_outcomeOf_84 : decode cX9_outcomeOf 84 = .ok (.iload_n 1, 1) := by decide +kernel
theorem dX9_outcomeOf_85 : decode cX9_outcomeOf 85 = .ok (.iaload, 1) := by decide +kernel
theorem dX9_outcomeOf_86 : decode cX9_outcomeOf 86 = .ok (.iadd, 1) := by decide +kernel
theorem dX9_outcomeOf_87 : decode cX9_outcomeOf 87 = .ok (.iaload, 1) := by decide +kernel
theorem dX9_outcomeOf_88 : decode cX9_outcomeOf 88 = .ok (.istore 4, 2) := by decide +kernel
theorem dX9_outcomeOf_90 : decode cX9_outcomeOf 90 = .ok (.iload_n 3, 1) := by decide +kernel
theorem dX9_outcomeOf_91 : decode cX9_outcomeOf 91 = .ok (.iconst 4, 1) := by decide +kernel
theorem dX9_outcomeOf_92 : decode cX9_outcomeOf 92 = .ok (.invokestatic 171, 3) := by decide +kernel
theorem dX9_outcomeOf_95 : decode cX9_outcomeOf 95 = .ok (.istore 5, 2) := by decide +kernel
theorem dX9_outcomeOf_97 : decode cX9_outcomeOf 97 = .ok (.aload_n 0, 1) := by decide +kernel
theorem dX9_outcomeOf_98 : decode cX9_outcomeOf 98 = .ok (.getfield 17, 3) := by decide +kernel
theorem dX9_outcomeOf_101 : decode cX9_outcomeOf 101 = .ok (.iload_n 1, 1) := by decide +kernel
theorem dX9_outcomeOf_102 : decode cX9_outcomeOf 102 = .ok (.iaload, 1) := by decide +kernel
theorem dX9_outcomeOf_103 : decode cX9_outcomeOf 103 = .ok (.tableswitch 127 2 7 #[37, 44, 60, 71, 99, 113], 37) := by decide +kernel
theorem dX9_outcomeOf_140 : decode cX9_outcomeOf 140 = .ok (.iload_n 3, 1) := by decide +kernel
theorem dX9_outcomeOf_141 : decode cX9_outcomeOf 141 = .ok (.iload 4, 2) := by decide +kernel
theorem dX9_outcomeOf_143 : decode cX9_outcomeOf 143 = .ok (.invokestatic 179, 3) := by decide +kernel
theorem dX9_outcomeOf_146 : decode cX9_outcomeOf 146 = .ok (.ireturn, 1) := by decide +kernel
theorem dX9_outcomeOf_147 : decode cX9_outcomeOf 147 = .ok (.iload_n 3, 1) := by decide +kernel
theorem dX9_outcomeOf_148 : decode cX9_outcomeOf 148 = .ok (.iconst 3, 1) := by decide +kernel
theorem dX9_outcomeOf_149 : decode cX9_outcomeOf 149 = .ok (.iand, 1) := by decide +kernel
theorem dX9_outcomeOf_150 : decode cX9_outcomeOf 150 = .ok (.iload 5, 2) := by decide +kernel
theorem dX9_outcomeOf_152 : decode cX9_outcomeOf 152 = .ok (.ifCond .eq 8, 3) := by decide +kernel
theorem dX9_outcomeOf_155 : decode cX9_outcomeOf 155 = .ok (.iload 4, 2) := by decide +kernel
theorem dX9_outcomeOf_157 : decode cX9_outcomeOf 157 = .ok (.goto 4, 3) := by decide +kernel
theorem dX9_outcomeOf_160 : decode cX9_outcomeOf 160 = .ok (.iconst 0, 1) := by decide +kernel
theorem dX9_outcomeOf_161 : decode cX9_outcomeOf 161 = .ok (.ior, 1) := by decide +kernel
theorem dX9_outcomeOf_162 : decode cX9_outcomeOf 162 = .ok (.ireturn, 1) := by decide +kernel
theorem dX9_outcomeOf_163 : decode cX9_outcomeOf 163 = .ok (.iload_n 3, 1) := by decide +kernel
theorem dX9_outcomeOf_164 : decode cX9_outcomeOf 164 = .ok (.iconst 2, 1) := by decide +kernel
theorem dX9_outcomeOf_165 : decode cX9_outcomeOf 165 = .ok (.iand, 1) := by decide +kernel
theorem dX9_outcomeOf_166 : decode cX9_outcomeOf 166 = .ok (.iload 5, 2) := by decide +kernel
theorem dX9_outcomeOf_168 : decode cX9_outcomeOf 168 = .ok (.iconst 1, 1) := by decide +kernel
theorem dX9_outcomeOf_169 : decode cX9_outcomeOf 169 = .ok (.invokestatic 175, 3) := by decide +kernel
theorem dX9_outcomeOf_172 : decode cX9_outcomeOf 172 = .ok (.ior, 1) := by decide +kernel
theorem dX9_outcomeOf_173 : decode cX9_outcomeOf 173 = .ok (.ireturn, 1) := by decide +kernel
theorem dX9_outcomeOf_174 : decode cX9_outcomeOf 174 = .ok (.iload_n 3, 1) := by decide +kernel
theorem dX9_outcomeOf_175 : decode cX9_outcomeOf 175 = .ok (.bipush 6, 2) := by decide +kernel
theorem dX9_outcomeOf_177 : decode cX9_outcomeOf 177 = .ok (.iand, 1) := by decide +kernel
theorem dX9_outcomeOf_178 : decode cX9_outcomeOf 178 = .ok (.iload 5, 2) := by decide +kernel
theorem dX9_outcomeOf_180 : decode cX9_outcomeOf 180 = .ok (.ifCond .eq 15, 3) := by decide +kernel
theorem dX9_outcomeOf_183 : decode cX9_outcomeOf 183 = .ok (.iload_n 3, 1) := by decide +kernel
theorem dX9_outcomeOf_184 : decode cX9_outcomeOf 184 = .ok (.iconst 1, 1) := by decide +kernel
theorem dX9_outcomeOf_185 : decode cX9_outcomeOf 185 = .ok (.invokestatic 171, 3) := by decide +kernel
theorem dX9_outcomeOf_188 : decode cX9_outcomeOf 188 = .ok (.ifCond .eq 7, 3) := by decide +kernel
theorem dX9_outcomeOf_191 : decode cX9_outcomeOf 191 = .ok (.iconst 1, 1) := by decide +kernel
theorem dX9_outcomeOf_192 : decode cX9_outcomeOf 192 = .ok (.goto 4, 3) := by decide +kernel
theorem dX9_outcomeOf_195 : decode cX9_outcomeOf 195 = .ok (.iconst 0, 1) := by decide +kernel
theorem dX9_outcomeOf_196 : decode cX9_outcomeOf 196 = .ok (.iconst 1, 1) := by decide +kernel
theorem dX9_outcomeOf_197 : decode cX9_outcomeOf 197 = .ok (.invokestatic 175, 3) := by decide +kernel
theorem dX9_outcomeOf_200 : decode cX9_outcomeOf 200 = .ok (.ior, 1) := by decide +kernel
theorem dX9_outcomeOf_201 : decode cX9_outcomeOf 201 = .ok (.ireturn, 1) := by decide +kernel
theorem dX9_outcomeOf_202 : decode cX9_outcomeOf 202 = .ok (.iload_n 3, 1) := by decide +kernel
theorem dX9_outcomeOf_203 : decode cX9_outcomeOf 203 = .ok (.iconst 2, 1) := by decide +kernel
theorem dX9_outcomeOf_204 : decode cX9_outcomeOf 204 = .ok (.iand, 1) := by decide +kernel
theorem dX9_outcomeOf_205 : decode cX9_outcomeOf 205 = .ok (.iload_n 3, 1) := by decide +kernel
theorem dX9_outcomeOf_206 : decode cX9_outcomeOf 206 = .ok (.iconst 5, 1) := by decide +kernel
theorem dX9_outcomeOf_207 : decode cX9_outcomeOf 207 = .ok (.invokestatic 171, 3) := by decide +kernel
theorem dX9_outcomeOf_210 : decode cX9_outcomeOf 210 = .ok (.iconst 1, 1) := by decide +kernel
theorem dX9_outcomeOf_211 : decode cX9_outcomeOf 211 = .ok (.invokestatic 175, 3) := by decide +kernel
theorem dX9_outcomeOf_214 : decode cX9_outcomeOf 214 = .ok (.ior, 1) := by decide +kernel
theorem dX9_outcomeOf_215 : decode cX9_outcomeOf 215 = .ok (.ireturn, 1) := by decide +kernel
theorem dX9_outcomeOf_216 : decode cX9_outcomeOf 216 = .ok (.iload_n 3, 1) := by decide +kernel
theorem dX9_outcomeOf_217 : decode cX9_outcomeOf 217 = .ok (.iconst 4, 1) := by decide +kernel
theorem dX9_outcomeOf_218 : decode cX9_outcomeOf 218 = .ok (.iand, 1) := by decide +kernel
theorem dX9_outcomeOf_219 : decode cX9_outcomeOf 219 = .ok (.iload_n 3, 1) := by decide +kernel
theorem dX9_outcomeOf_220 : decode cX9_outcomeOf 220 = .ok (.iconst 3, 1) := by decide +kernel
theorem dX9_outcomeOf_221 : decode cX9_outcomeOf 221 = .ok (.invokestatic 171, 3) := by decide +kernel
theorem dX9_outcomeOf_224 : decode cX9_outcomeOf 224 = .ok (.iconst 1, 1) := by decide +kernel
theorem dX9_outcomeOf_225 : decode cX9_outcomeOf 225 = .ok (.invokestatic 175, 3) := by decide +kernel
theorem dX9_outcomeOf_228 : decode cX9_outcomeOf 228 = .ok (.ior, 1) := by decide +kernel
theorem dX9_outcomeOf_229 : decode cX9_outcomeOf 229 = .ok (.ireturn, 1) := by decide +kernel
theorem dX9_outcomeOf_230 : decode cX9_outcomeOf 230 = .ok (.iload 5, 2) := by decide +kernel
theorem dX9_outcomeOf_232 : decode cX9_outcomeOf 232 = .ok (.iconst 1, 1) := by decide +kernel
theorem dX9_outcomeOf_233 : decode cX9_outcomeOf 233 = .ok (.invokestatic 175, 3) := by decide +kernel
theorem dX9_outcomeOf_236 : decode cX9_outcomeOf 236 = .ok (.iload_n 3, 1) := by decide +kernel
theorem dX9_outcomeOf_237 : decode cX9_outcomeOf 237 = .ok (.iconst 3, 1) := by decide +kernel
theorem dX9_outcomeOf_238 : decode cX9_outcomeOf 238 = .ok (.invokestatic 171, 3) := by decide +kernel
theorem dX9_outcomeOf_241 : decode cX9_outcomeOf 241 = .ok (.iconst 4, 1) := by decide +kernel
theorem dX9_outcomeOf_242 : decode cX9_outcomeOf 242 = .ok (.invokestatic 175, 3) := by decide +kernel
theorem dX9_outcomeOf_245 : decode cX9_outcomeOf 245 = .ok (.ior, 1) := by decide +kernel
theorem dX9_outcomeOf_246 : decode cX9_outcomeOf 246 = .ok (.ireturn, 1) := by decide +kernel
theorem dX9_goodOf_0 : decode cX9_goodOf 0 = .ok (.aload_n 0, 1) := by decide +kernel
theorem dX9_goodOf_1 : decode cX9_goodOf 1 = .ok (.getfield 17, 3) := by decide +kernel
theorem dX9_goodOf_4 : decode cX9_goodOf 4 = .ok (.iload_n 1, 1) := by decide +kernel
theorem dX9_goodOf_5 : decode cX9_goodOf 5 = .ok (.iaload, 1) := by decide +kernel
theorem dX9_goodOf_6 : decode cX9_goodOf 6 = .ok (.ifCond .ne 5, 3) := by decide +kernel
theorem dX9_goodOf_9 : decode cX9_goodOf 9 = .ok (.iconst 1, 1) := by decide +kernel
theorem dX9_goodOf_10 : decode cX9_goodOf 10 = .ok (.ireturn, 1) := by decide +kernel
theorem dX9_goodOf_11 : decode cX9_goodOf 11 = .ok (.aload_n 0, 1) := by decide +kernel
theorem dX9_goodOf_12 : decode cX9_goodOf 12 = .ok (.getfield 17, 3) := by decide +kernel
theorem dX9_goodOf_15 : decode cX9_goodOf 15 = .ok (.iload_n 1, 1) := by decide +kernel
theorem dX9_goodOf_16 : decode cX9_goodOf 16 = .ok (.iaload, 1) := by decide +kernel
theorem dX9_goodOf_17 : decode cX9_goodOf 17 = .ok (.iconst 1, 1) := by decide +kernel
theorem dX9_goodOf_18 : decode cX9_goodOf 18 = .ok (.if_icmp .ne 46, 3) := by decide +kernel
theorem dX9_goodOf_21 : decode cX9_goodOf 21 = .ok (.aload_n 0, 1) := by decide +kernel
theorem dX9_goodOf_22 : decode cX9_goodOf 22 = .ok (.getfield 20, 3) := by decide +kernel
theorem dX9_goodOf_25 : decode cX9_goodOf 25 = .ok (.iload_n 1, 1) := by decide +kernel
theorem dX9_goodOf_26 : decode cX9_goodOf 26 = .ok (.iaload, 1) := by decide +kernel
theorem dX9_goodOf_27 : decode cX9_goodOf 27 = .ok (.istore_n 3, 1) := by decide +kernel
theorem dX9_goodOf_28 : decode cX9_goodOf 28 = .ok (.aload_n 0, 1) := by decide +kernel
theorem dX9_goodOf_29 : decode cX9_goodOf 29 = .ok (.getfield 33, 3) := by decide +kernel
theorem dX9_goodOf_32 : decode cX9_goodOf 32 = .ok (.iload_n 3, 1) := by decide +kernel
theorem dX9_goodOf_33 : decode cX9_goodOf 33 = .ok (.iaload, 1) := by decide +kernel
theorem dX9_goodOf_34 : decode cX9_goodOf 34 = .ok (.ifCond .le 28, 3) := by decide +kernel
theorem dX9_goodOf_37 : decode cX9_goodOf 37 = .ok (.aload_n 0, 1) := by decide +kernel
theorem dX9_goodOf_38 : decode cX9_goodOf 38 = .ok (.getfield 39, 3) := by decide +kernel
theorem dX9_goodOf_41 : decode cX9_goodOf 41 = .ok (.bipush 64, 2) := by decide +kernel
theorem dX9_goodOf_43 : decode cX9_goodOf 43 = .ok (.iload_n 3, 1) := by decide +kernel
theorem dX9_goodOf_44 : decode cX9_goodOf 44 = .ok (.imul, 1) := by decide +kernel
theorem dX9_goodOf_45 : decode cX9_goodOf 45 = .ok (.aload_n 0, 1) := by decide +kernel
theorem dX9_goodOf_46 : decode cX9_goodOf 46 = .ok (.getfield 33, 3) := by decide +kernel
theorem dX9_goodOf_49 : decode cX9_goodOf 49 = .ok (.iload_n 3, 1) := by decide +kernel
theorem dX9_goodOf_50 : decode cX9_goodOf 50 = .ok (.iaload, 1) := by decide +kernel
theorem dX9_goodOf_51 : decode cX9_goodOf 51 = .ok (.iadd, 1) := by decide +kernel
theorem dX9_goodOf_52 : decode cX9_goodOf 52 = .ok (.iconst 1, 1) := by decide +kernel
theorem dX9_goodOf_53 : decode cX9_goodOf 53 = .ok (.isub, 1) := by decide +kernel
theorem dX9_goodOf_54 : decode cX9_goodOf 54 = .ok (.baload, 1) := by decide +kernel
theorem dX9_goodOf_55 : decode cX9_goodOf 55 = .ok (.ifCond .eq 7, 3) := by decide +kernel
theorem dX9_goodOf_58 : decode cX9_goodOf 58 = .ok (.iconst 1, 1) := by decide +kernel
theorem dX9_goodOf_59 : decode cX9_goodOf 59 = .ok (.goto 4, 3) := by decide +kernel
theorem dX9_goodOf_62 : decode cX9_goodOf 62 = .ok (.iconst 0, 1) := by decide +kernel
theorem dX9_goodOf_63 : decode cX9_goodOf 63 = .ok (.ireturn, 1) := by decide +kernel
theorem dX9_goodOf_64 : decode cX9_goodOf 64 = .ok (.aload_n 0, 1) := by decide +kernel
theorem dX9_goodOf_65 : decode cX9_goodOf 65 = .ok (.getfield 39, 3) := by decide +kernel
theorem dX9_goodOf_68 : decode cX9_goodOf 68 = .ok (.iload_n 2, 1) := by decide +kernel
theorem dX9_goodOf_69 : decode cX9_goodOf 69 = .ok (.aload_n 0, 1) := by decide +kernel
theorem dX9_goodOf_70 : decode cX9_goodOf 70 = .ok (.getfield 20, 3) := by decide +kernel
theorem dX9_goodOf_73 : decode cX9_goodOf 73 = .ok (.iload_n 1, 1) := by decide +kernel
theorem dX9_goodOf_74 : decode cX9_goodOf 74 = .ok (.iaload, 1) := by decide +kernel
theorem dX9_goodOf_75 : decode cX9_goodOf 75 = .ok (.iadd, 1) := by decide +kernel
theorem dX9_goodOf_76 : decode cX9_goodOf 76 = .ok (.baload, 1) := by decide +kernel
theorem dX9_goodOf_77 : decode cX9_goodOf 77 = .ok (.istore_n 3, 1) := by decide +kernel
theorem dX9_goodOf_78 : decode cX9_goodOf 78 = .ok (.aload_n 0, 1) := by decide +kernel
theorem dX9_goodOf_79 : decode cX9_goodOf 79 = .ok (.getfield 36, 3) := by decide +kernel
theorem dX9_goodOf_82 : decode cX9_goodOf 82 = .ok (.iload_n 2, 1) := by decide +kernel
theorem dX9_goodOf_83 : decode cX9_goodOf 83 = .ok (.aload_n 0, 1) := by decide +kernel
theorem dX9_goodOf_84 : decode cX9_goodOf 84 = .ok (.getfield 20, 3) := by decide +kernel
theorem dX9_goodOf_87 : decode cX9_goodOf 87 = .ok (.iload_n 1, 1) := by decide +kernel
theorem dX9_goodOf_88 : decode cX9_goodOf 88 = .ok (.iaload, 1) := by decide +kernel
theorem dX9_goodOf_89 : decode cX9_goodOf 89 = .ok (.iadd, 1) := by decide +kernel
theorem dX9_goodOf_90 : decode cX9_goodOf 90 = .ok (.iaload, 1) := by decide +kernel
theorem dX9_goodOf_91 : decode cX9_goodOf 91 = .ok (.iconst 1, 1) := by decide +kernel
theorem dX9_goodOf_92 : decode cX9_goodOf 92 = .ok (.invokestatic 171, 3) := by decide +kernel
theorem dX9_goodOf_95 : decode cX9_goodOf 95 = .ok (.istore 4, 2) := by decide +kernel
theorem dX9_goodOf_97 : decode cX9_goodOf 97 = .ok (.aload_n 0, 1) := by decide +kernel
theorem dX9_goodOf_98 : decode cX9_goodOf 98 = .ok (.getfield 17, 3) := by decide +kernel
theorem dX9_goodOf_101 : decode cX9_goodOf 101 = .ok (.iload_n 1, 1) := by decide +kernel
theorem dX9_goodOf_102 : decode cX9_goodOf 102 = .ok (.iaload, 1) := by decide +kernel
theorem dX9_goodOf_103 : decode cX9_goodOf 103 = .ok (.tableswitch 101 2 5 #[29, 60, 86, 86], 29) := by decide +kernel
theorem dX9_goodOf_132 : decode cX9_goodOf 132 = .ok (.iload_n 3, 1) := by decide +kernel
theorem dX9_goodOf_133 : decode cX9_goodOf 133 = .ok (.ifCond .eq 28, 3) := by decide +kernel
theorem dX9_goodOf_136 : decode cX9_goodOf 136 = .ok (.iload 4, 2) := by decide +kernel
theorem dX9_goodOf_138 : decode cX9_goodOf 138 = .ok (.ifCond .eq 19, 3) := by decide +kernel
theorem dX9_goodOf_141 : decode cX9_goodOf 141 = .ok (.aload_n 0, 1) := by decide +kernel
theorem dX9_goodOf_142 : decode cX9_goodOf 142 = .ok (.getfield 39, 3) := by decide +kernel
theorem dX9_goodOf_145 : decode cX9_goodOf 145 = .ok (.iload_n 2, 1) := by decide +kernel
theorem dX9_goodOf_146 : decode cX9_goodOf 146 = .ok (.aload_n 0, 1) := by decide +kernel
theorem dX9_goodOf_147 : decode cX9_goodOf 147 = .ok (.getfield 23, 3) := by decide +kernel
theorem dX9_goodOf_150 : decode cX9_goodOf 150 = .ok (.iload_n 1, 1) := by decide +kernel
theorem dX9_goodOf_151 : decode cX9_goodOf 151 = .ok (.iaload, 1) := by decide +kernel
theorem dX9_goodOf_152 : decode cX9_goodOf 152 = .ok (.iadd, 1) := by decide +kernel
theorem dX9_goodOf_153 : decode cX9_goodOf 153 = .ok (.baload, 1) := by decide +kernel
theorem dX9_goodOf_154 : decode cX9_goodOf 154 = .ok (.ifCond .eq 7, 3) := by decide +kernel
theorem dX9_goodOf_157 : decode cX9_goodOf 157 = .ok (.iconst 1, 1) := by decide +kernel
theorem dX9_goodOf_158 : decode cX9_goodOf 158 = .ok (.goto 4, 3) := by decide +kernel
theorem dX9_goodOf_161 : decode cX9_goodOf 161 = .ok (.iconst 0, 1) := by decide +kernel
theorem dX9_goodOf_162 : decode cX9_goodOf 162 = .ok (.ireturn, 1) := by decide +kernel
theorem dX9_goodOf_163 : decode cX9_goodOf 163 = .ok (.iload_n 3, 1) := by decide +kernel
theorem dX9_goodOf_164 : decode cX9_goodOf 164 = .ok (.ifCond .eq 23, 3) := by decide +kernel
theorem dX9_goodOf_167 : decode cX9_goodOf 167 = .ok (.aload_n 0, 1) := by decide +kernel
theorem dX9_goodOf_168 : decode cX9_goodOf 168 = .ok (.getfield 39, 3) := by decide +kernel
theorem dX9_goodOf_171 : decode cX9_goodOf 171 = .ok (.iload_n 2, 1) := by decide +kernel
theorem dX9_goodOf_172 : decode cX9_goodOf 172 = .ok (.aload_n 0, 1) := by decide +kernel
theorem dX9_goodOf_173 : decode cX9_goodOf 173 = .ok (.getfield 23, 3) := by decide +kernel
theorem dX9_goodOf_176 : decode cX9_goodOf 176 = .ok (.iload_n 1, 1) := by decide +kernel
theorem dX9_goodOf_177 : decode cX9_goodOf 177 = .ok (.iaload, 1) := by decide +kernel
theorem dX9_goodOf_178 : decode cX9_goodOf 178 = .ok (.iadd, 1) := by decide +kernel
theorem dX9_goodOf_179 : decode cX9_goodOf 179 = .ok (.baload, 1) := by decide +kernel
theorem dX9_goodOf_180 : decode cX9_goodOf 180 = .ok (.ifCond .eq 7, 3) := by decide +kernel
theorem dX9_goodOf_183 : decode cX9_goodOf 183 = .ok (.iconst 1, 1) := by decide +kernel
theorem dX9_goodOf_184 : decode cX9_goodOf 184 = .ok (.goto 4, 3) := by decide +kernel
theorem dX9_goodOf_187 : decode cX9_goodOf 187 = .ok (.iconst 0, 1) := by decide +kernel
theorem dX9_goodOf_188 : decode cX9_goodOf 188 = .ok (.ireturn, 1) := by decide +kernel
theorem dX9_goodOf_189 : decode cX9_goodOf 189 = .ok (.iload_n 3, 1) := by decide +kernel
theorem dX9_goodOf_190 : decode cX9_goodOf 190 = .ok (.ifCond .eq 12, 3) := by decide +kernel
theorem dX9_goodOf_193 : decode cX9_goodOf 193 = .ok (.iload 4, 2) := by decide +kernel
theorem dX9_goodOf_195 : decode cX9_goodOf 195 = .ok (.ifCond .ne 7, 3) := by decide +kernel
theorem dX9_goodOf_198 : decode cX9_goodOf 198 = .ok (.iconst 1, 1) := by decide +kernel
theorem dX9_goodOf_199 : decode cX9_goodOf 199 = .ok (.goto 4, 3) := by decide +kernel
theorem dX9_goodOf_202 : decode cX9_goodOf 202 = .ok (.iconst 0, 1) := by decide +kernel
theorem dX9_goodOf_203 : decode cX9_goodOf 203 = .ok (.ireturn, 1) := by decide +kernel
theorem dX9_goodOf_204 : decode cX9_goodOf 204 = .ok (.iload_n 3, 1) := by decide +kernel
theorem dX9_goodOf_205 : decode cX9_goodOf 205 = .ok (.ireturn, 1) := by decide +kernel
theorem dX9_more_0 : decode cX9_more 0 = .ok (.iconst 0, 1) := by decide +kernel
theorem dX9_more_1 : decode cX9_more 1 = .ok (.istore_n 2, 1) := by decide +kernel
theorem dX9_more_2 : decode cX9_more 2 = .ok (.iconst 0, 1) := by decide +kernel
theorem dX9_more_3 : decode cX9_more 3 = .ok (.istore_n 3, 1) := by decide +kernel
theorem dX9_more_4 : decode cX9_more 4 = .ok (.iload_n 3, 1) := by decide +kernel
theorem dX9_more_5 : decode cX9_more 5 = .ok (.bipush 6, 2) := by decide +kernel
theorem dX9_more_7 : decode cX9_more 7 = .ok (.if_icmp .ge 130, 3) := by decide +kernel
theorem dX9_more_10 : decode cX9_more 10 = .ok (.bipush 64, 2) := by decide +kernel
theorem dX9_more_12 : decode cX9_more 12 = .ok (.iload_n 3, 1) := by decide +kernel
theorem dX9_more_13 : decode cX9_more 13 = .ok (.imul, 1) := by decide +kernel
theorem dX9_more_14 : decode cX9_more 14 = .ok (.istore 4, 2) := by decide +kernel
theorem dX9_more_16 : decode cX9_more 16 = .ok (.iload 4, 2) := by decide +kernel
theorem dX9_more_18 : decode cX9_more 18 = .ok (.bipush 64, 2) := by decide +kernel
theorem dX9_more_20 : decode cX9_more 20 = .ok (.iload_n 3, 1) := by decide +kernel
theorem dX9_more_21 : decode cX9_more 21 = .ok (.imul, 1) := by decide +kernel
theorem dX9_more_22 : decode cX9_more 22 = .ok (.aload_n 0, 1) := by decide +kernel
theorem dX9_more_23 : decode cX9_more 23 = .ok (.getfield 33, 3) := by decide +kernel
theorem dX9_more_26 : decode cX9_more 26 = .ok (.iload_n 3, 1) := by decide +kernel
theorem dX9_more_27 : decode cX9_more 27 = .ok (.iaload, 1) := by decide +kernel
theorem dX9_more_28 : decode cX9_more 28 = .ok (.iadd, 1) := by decide +kernel
theorem dX9_more_29 : decode cX9_more 29 = .ok (.if_icmp .ge 102, 3) := by decide +kernel
theorem dX9_more_32 : decode cX9_more 32 = .ok (.iload_n 1, 1) := by decide +kernel
theorem dX9_more_33 : decode cX9_more 33 = .ok (.ifCond .eq 49, 3) := by decide +kernel
theorem dX9_more_36 : decode cX9_more 36 = .ok (.aload_n 0, 1) := by decide +kernel
theorem dX9_more_37 : decode cX9_more 37 = .ok (.iload 4, 2) := by decide +kernel
theorem dX9_more_39 : decode cX9_more 39 = .ok (.bipush 64, 2) := by decide +kernel
theorem dX9_more_41 : decode cX9_more 41 = .ok (.iload_n 3, 1) := by decide +kernel
theorem dX9_more_42 : decode cX9_more 42 = .ok (.imul, 1) := by decide +kernel
theorem dX9_more_43 : decode cX9_more 43 = .ok (.invokevirtual 181, 3) := by decide +kernel
theorem dX9_more_46 : decode cX9_more 46 = .ok (.istore 5, 2) := by decide +kernel
theorem dX9_more_48 : decode cX9_more 48 = .ok (.iload_n 2, 1) := by decide +kernel
theorem dX9_more_49 : decode cX9_more 49 = .ok (.ifCond .ne 15, 3) := by decide +kernel
theorem dX9_more_52 : decode cX9_more 52 = .ok (.iload 5, 2) := by decide +kernel
theorem dX9_more_54 : decode cX9_more 54 = .ok (.aload_n 0, 1) := by decide +kernel
theorem dX9_more_55 : decode cX9_more 55 = .ok (.getfield 39, 3) := by decide +kernel
theorem dX9_more_58 : decode cX9_more 58 = .ok (.iload 4, 2) := by decide +kernel
theorem dX9_more_60 : decode cX9_more 60 = .ok (.baload, 1) := by decide +kernel
theorem dX9_more_61 : decode cX9_more 61 = .ok (.if_icmp .eq 7, 3) := by decide +kernel
theorem dX9_more_64 : decode cX9_more 64 = .ok (.iconst 1, 1) := by decide +kernel
theorem dX9_more_65 : decode cX9_more 65 = .ok (.goto 4, 3) := by decide +kernel
theorem dX9_more_68 : decode cX9_more 68 = .ok (.iconst 0, 1) := by decide +kernel
theorem dX9_more_69 : decode cX9_more 69 = .ok (.istore_n 2, 1) := by decide +kernel
theorem dX9_more_70 : decode cX9_more 70 = .ok (.aload_n 0, 1) := by decide +kernel
theorem dX9_more_71 : decode cX9_more 71 = .ok (.getfield 39, 3) := by decide +kernel
theorem dX9_more_74 : decode cX9_more 74 = .ok (.iload 4, 2) := by decide +kernel
theorem dX9_more_76 : decode cX9_more 76 = .ok (.iload 5, 2) := by decide +kernel
theorem dX9_more_78 : decode cX9_more 78 = .ok (.bastore, 1) := by decide +kernel
theorem dX9_more_79 : decode cX9_more 79 = .ok (.goto 46, 3) := by decide +kernel
theorem dX9_more_82 : decode cX9_more 82 = .ok (.aload_n 0, 1) := by decide +kernel
theorem dX9_more_83 : decode cX9_more 83 = .ok (.iload 4, 2) := by decide +kernel
theorem dX9_more_85 : decode cX9_more 85 = .ok (.bipush 64, 2) := by decide +kernel
theorem dX9_more_87 : decode cX9_more 87 = .ok (.iload_n 3, 1) := by decide +kernel
theorem dX9_more_88 : decode cX9_more 88 = .ok (.imul, 1) := by decide +kernel
theorem dX9_more_89 : decode cX9_more 89 = .ok (.invokevirtual 184, 3) := by decide +kernel
theorem dX9_more_92 : decode cX9_more 92 = .ok (.istore 5, 2) := by decide +kernel
theorem dX9_more_94 : decode cX9_more 94 = .ok (.iload_n 2, 1) := by decide +kernel
theorem dX9_more_95 : decode cX9_more 95 = .ok (.ifCond .ne 15, 3) := by decide +kernel
theorem dX9_more_98 : decode cX9_more 98 = .ok (.iload 5, 2) := by decide +kernel
theorem dX9_more_100 : decode cX9_more 100 = .ok (.aload_n 0, 1) := by decide +kernel
theorem dX9_more_101 : decode cX9_more 101 = .ok (.getfield 36, 3) := by decide +kernel
theorem dX9_more_104 : decode cX9_more 104 = .ok (.iload 4, 2) := by decide +kernel
theorem dX9_more_106 : decode cX9_more 106 = .ok (.iaload, 1) := by decide +kernel
theorem dX9_more_107 : decode cX9_more 107 = .ok (.if_icmp .eq 7, 3) := by decide +kernel
theorem dX9_more_110 : decode cX9_more 110 = .ok (.iconst 1, 1) := by decide +kernel
theorem dX9_more_111 : decode cX9_more 111 = .ok (.goto 4, 3) := by decide +kernel
theorem dX9_more_114 : decode cX9_more 114 = .ok (.iconst 0, 1) := by decide +kernel
theorem dX9_more_115 : decode cX9_more 115 = .ok (.istore_n 2, 1) := by decide +kernel
theorem dX9_more_116 : decode cX9_more 116 = .ok (.aload_n 0, 1) := by decide +kernel
theorem dX9_more_117 : decode cX9_more 117 = .ok (.getfield 36, 3) := by decide +kernel
theorem dX9_more_120 : decode cX9_more 120 = .ok (.iload 4, 2) := by decide +kernel
theorem dX9_more_122 : decode cX9_more 122 = .ok (.iload 5, 2) := by decide +kernel
theorem dX9_more_124 : decode cX9_more 124 = .ok (.iastore, 1) := by decide +kernel
theorem dX9_more_125 : decode cX9_more 125 = .ok (.iinc 4 1, 3) := by decide +kernel
theorem dX9_more_128 : decode cX9_more 128 = .ok (.goto (-112), 3) := by decide +kernel
theorem dX9_more_131 : decode cX9_more 131 = .ok (.iinc 3 1, 3) := by decide +kernel
theorem dX9_more_134 : decode cX9_more 134 = .ok (.goto (-130), 3) := by decide +kernel
theorem dX9_more_137 : decode cX9_more 137 = .ok (.iload_n 2, 1) := by decide +kernel
theorem dX9_more_138 : decode cX9_more 138 = .ok (.ireturn, 1) := by decide +kernel
theorem dX9_study_0 : decode cX9_study 0 = .ok (.iconst 0, 1) := by decide +kernel
theorem dX9_study_1 : decode cX9_study 1 = .ok (.istore_n 1, 1) := by decide +kernel
theorem dX9_study_2 : decode cX9_study 2 = .ok (.iload_n 1, 1) := by decide +kernel
theorem dX9_study_3 : decode cX9_study 3 = .ok (.sipush 384, 3) := by decide +kernel
theorem dX9_study_6 : decode cX9_study 6 = .ok (.if_icmp .ge 23, 3) := by decide +kernel
theorem dX9_study_9 : decode cX9_study 9 = .ok (.aload_n 0, 1) := by decide +kernel
theorem dX9_study_10 : decode cX9_study 10 = .ok (.getfield 36, 3) := by decide +kernel
theorem dX9_study_13 : decode cX9_study 13 = .ok (.iload_n 1, 1) := by decide +kernel
theorem dX9_study_14 : decode cX9_study 14 = .ok (.iconst 0, 1) := by decide +kernel
theorem dX9_study_15 : decode cX9_study 15 = .ok (.iastore, 1) := by decide +kernel
theorem dX9_study_16 : decode cX9_study 16 = .ok (.aload_n 0, 1) := by decide +kernel
theorem dX9_study_17 : decode cX9_study 17 = .ok (.getfield 39, 3) := by decide +kernel
theorem dX9_study_20 : decode cX9_study 20 = .ok (.iload_n 1, 1) := by decide +kernel
theorem dX9_study_21 : decode cX9_study 21 = .ok (.iconst 0, 1) := by decide +kernel
theorem dX9_study_22 : decode cX9_study 22 = .ok (.bastore, 1) := by decide +kernel
theorem dX9_study_23 : decode cX9_study 23 = .ok (.iinc 1 1, 3) := by decide +kernel
theorem dX9_study_26 : decode cX9_study 26 = .ok (.goto (-24), 3) := by decide +kernel
theorem dX9_study_29 : decode cX9_study 29 = .ok (.iconst 1, 1) := by decide +kernel
theorem dX9_study_30 : decode cX9_study 30 = .ok (.istore_n 1, 1) := by decide +kernel
theorem dX9_study_31 : decode cX9_study 31 = .ok (.iload_n 1, 1) := by decide +kernel
theorem dX9_study_32 : decode cX9_study 32 = .ok (.ifCond .eq 12, 3) := by decide +kernel
theorem dX9_study_35 : decode cX9_study 35 = .ok (.aload_n 0, 1) := by decide +kernel
theorem dX9_study_36 : decode cX9_study 36 = .ok (.iconst 0, 1) := by decide +kernel
theorem dX9_study_37 : decode cX9_study 37 = .ok (.invokevirtual 187, 3) := by decide +kernel
theorem dX9_study_40 : decode cX9_study 40 = .ok (.istore_n 1, 1) := by decide +kernel
theorem dX9_study_41 : decode cX9_study 41 = .ok (.goto (-10), 3) := by decide +kernel
theorem dX9_study_44 : decode cX9_study 44 = .ok (.iconst 1, 1) := by decide +kernel
theorem dX9_study_45 : decode cX9_study 45 = .ok (.istore_n 1, 1) := by decide +kernel
theorem dX9_study_46 : decode cX9_study 46 = .ok (.iload_n 1, 1) := by decide +kernel
theorem dX9_study_47 : decode cX9_study 47 = .ok (.ifCond .eq 12, 3) := by decide +kernel
theorem dX9_study_50 : decode cX9_study 50 = .ok (.aload_n 0, 1) := by decide +kernel
theorem dX9_study_51 : decode cX9_study 51 = .ok (.iconst 1, 1) := by decide +kernel
theorem dX9_study_52 : decode cX9_study 52 = .ok (.invokevirtual 187, 3) := by decide +kernel
theorem dX9_study_55 : decode cX9_study 55 = .ok (.istore_n 1, 1) := by decide +kernel
theorem dX9_study_56 : decode cX9_study 56 = .ok (.goto (-10), 3) := by decide +kernel
theorem dX9_study_59 : decode cX9_study 59 = .ok (.return_, 1) := by decide +kernel
theorem dX9_outcomes_0 : decode cX9_outcomes 0 = .ok (.aload_n 0, 1) := by decide +kernel
theorem dX9_outcomes_1 : decode cX9_outcomes 1 = .ok (.aload_n 0, 1) := by decide +kernel
theorem dX9_outcomes_2 : decode cX9_outcomes 2 = .ok (.iload_n 1, 1) := by decide +kernel
theorem dX9_outcomes_3 : decode cX9_outcomes 3 = .ok (.invokevirtual 191, 3) := by decide +kernel
theorem dX9_outcomes_6 : decode cX9_outcomes 6 = .ok (.ifCond .ne 7, 3) := by decide +kernel
theorem dX9_outcomes_9 : decode cX9_outcomes 9 = .ok (.iconst 1, 1) := by decide +kernel
theorem dX9_outcomes_10 : decode cX9_outcomes 10 = .ok (.goto 15, 3) := by decide +kernel
theorem dX9_outcomes_13 : decode cX9_outcomes 13 = .ok (.aload_n 0, 1) := by decide +kernel
theorem dX9_outcomes_14 : decode cX9_outcomes 14 = .ok (.invokevirtual 195, 3) := by decide +kernel
theorem dX9_outcomes_17 : decode cX9_outcomes 17 = .ok (.ifCond .lt 7, 3) := by decide +kernel
theorem dX9_outcomes_20 : decode cX9_outcomes 20 = .ok (.iconst 2, 1) := by decide +kernel
theorem dX9_outcomes_21 : decode cX9_outcomes 21 = .ok (.goto 4, 3) := by decide +kernel
theorem dX9_outcomes_24 : decode cX9_outcomes 24 = .ok (.iconst 0, 1) := by decide +kernel
theorem dX9_outcomes_25 : decode cX9_outcomes 25 = .ok (.putfield 105, 3) := by decide +kernel
theorem dX9_outcomes_28 : decode cX9_outcomes 28 = .ok (.aload_n 0, 1) := by decide +kernel
theorem dX9_outcomes_29 : decode cX9_outcomes 29 = .ok (.getfield 105, 3) := by decide +kernel
theorem dX9_outcomes_32 : decode cX9_outcomes 32 = .ok (.ifCond .le 5, 3) := by decide +kernel
theorem dX9_outcomes_35 : decode cX9_outcomes 35 = .ok (.iconst 0, 1) := by decide +kernel
theorem dX9_outcomes_36 : decode cX9_outcomes 36 = .ok (.ireturn, 1) := by decide +kernel
theorem dX9_outcomes_37 : decode cX9_outcomes 37 = .ok (.aload_n 0, 1) := by decide +kernel
theorem dX9_outcomes_38 : decode cX9_outcomes 38 = .ok (.invokevirtual 198, 3) := by decide +kernel
theorem dX9_outcomes_41 : decode cX9_outcomes 41 = .ok (.aload_n 0, 1) := by decide +kernel
theorem dX9_outcomes_42 : decode cX9_outcomes 42 = .ok (.getfield 36, 3) := by decide +kernel
theorem dX9_outcomes_45 : decode cX9_outcomes 45 = .ok (.bipush 64, 2) := by decide +kernel
theorem dX9_outcomes_47 : decode cX9_outcomes 47 = .ok (.iload_n 1, 1) := by decide +kernel
theorem dX9_outcomes_48 : decode cX9_outcomes 48 = .ok (.imul, 1) := by decide +kernel
theorem dX9_outcomes_49 : decode cX9_outcomes 49 = .ok (.aload_n 0, 1) := by decide +kernel
theorem dX9_outcomes_50 : decode cX9_outcomes 50 = .ok (.getfield 33, 3) := by decide +kernel
theorem dX9_outcomes_53 : decode cX9_outcomes 53 = .ok (.iload_n 1, 1) := by decide +kernel
theorem dX9_outcomes_54 : decode cX9_outcomes 54 = .ok (.iaload, 1) := by decide +kernel
theorem dX9_outcomes_55 : decode cX9_outcomes 55 = .ok (.iadd, 1) := by decide +kernel
theorem dX9_outcomes_56 : decode cX9_outcomes 56 = .ok (.iconst 1, 1) := by decide +kernel
theorem dX9_outcomes_57 : decode cX9_outcomes 57 = .ok (.isub, 1) := by decide +kernel
theorem dX9_outcomes_58 : decode cX9_outcomes 58 = .ok (.iaload, 1) := by decide +kernel
theorem dX9_outcomes_59 : decode cX9_outcomes 59 = .ok (.ireturn, 1) := by decide +kernel
theorem dX9_rules_0 : decode cX9_rules 0 = .ok (.iconst 0, 1) := by decide +kernel
theorem dX9_rules_1 : decode cX9_rules 1 = .ok (.istore_n 1, 1) := by decide +kernel
theorem dX9_rules_2 : decode cX9_rules 2 = .ok (.iconst 0, 1) := by decide +kernel
theorem dX9_rules_3 : decode cX9_rules 3 = .ok (.istore_n 2, 1) := by decide +kernel
theorem dX9_rules_4 : decode cX9_rules 4 = .ok (.iload_n 2, 1) := by decide +kernel
theorem dX9_rules_5 : decode cX9_rules 5 = .ok (.bipush 6, 2) := by decide +kernel
theorem dX9_rules_7 : decode cX9_rules 7 = .ok (.if_icmp .ge 26, 3) := by decide +kernel
theorem dX9_rules_10 : decode cX9_rules 10 = .ok (.aload_n 0, 1) := by decide +kernel
theorem dX9_rules_11 : decode cX9_rules 11 = .ok (.getfield 33, 3) := by decide +kernel
theorem dX9_rules_14 : decode cX9_rules 14 = .ok (.iload_n 2, 1) := by decide +kernel
theorem dX9_rules_15 : decode cX9_rules 15 = .ok (.iaload, 1) := by decide +kernel
theorem dX9_rules_16 : decode cX9_rules 16 = .ok (.ifCond .le 9, 3) := by decide +kernel
theorem dX9_rules_19 : decode cX9_rules 19 = .ok (.iload_n 1, 1) := by decide +kernel
theorem dX9_rules_20 : decode cX9_rules 20 = .ok (.iconst 1, 1) := by decide +kernel
theorem dX9_rules_21 : decode cX9_rules 21 = .ok (.iadd, 1) := by decide +kernel
theorem dX9_rules_22 : decode cX9_rules 22 = .ok (.goto 4, 3) := by decide +kernel
theorem dX9_rules_25 : decode cX9_rules 25 = .ok (.iload_n 1, 1) := by decide +kernel
theorem dX9_rules_26 : decode cX9_rules 26 = .ok (.istore_n 1, 1) := by decide +kernel
theorem dX9_rules_27 : decode cX9_rules 27 = .ok (.iinc 2 1, 3) := by decide +kernel
theorem dX9_rules_30 : decode cX9_rules 30 = .ok (.goto (-26), 3) := by decide +kernel
theorem dX9_rules_33 : decode cX9_rules 33 = .ok (.iload_n 1, 1) := by decide +kernel
theorem dX9_rules_34 : decode cX9_rules 34 = .ok (.ireturn, 1) := by decide +kernel
theorem dX9_fault_0 : decode cX9_fault 0 = .ok (.aload_n 0, 1) := by decide +kernel
theorem dX9_fault_1 : decode cX9_fault 1 = .ok (.invokevirtual 201, 3) := by decide +kernel
theorem dX9_fault_4 : decode cX9_fault 4 = .ok (.ifCond .ne 5, 3) := by decide +kernel
theorem dX9_fault_7 : decode cX9_fault 7 = .ok (.iconst 1, 1) := by decide +kernel
theorem dX9_fault_8 : decode cX9_fault 8 = .ok (.ireturn, 1) := by decide +kernel
theorem dX9_fault_9 : decode cX9_fault 9 = .ok (.aload_n 0, 1) := by decide +kernel
theorem dX9_fault_10 : decode cX9_fault 10 = .ok (.invokevirtual 195, 3) := by decide +kernel
theorem dX9_fault_13 : decode cX9_fault 13 = .ok (.istore_n 1, 1) := by decide +kernel
theorem dX9_fault_14 : decode cX9_fault 14 = .ok (.iload_n 1, 1) := by decide +kernel
theorem dX9_fault_15 : decode cX9_fault 15 = .ok (.ifCond .lt 10, 3) := by decide +kernel
theorem dX9_fault_18 : decode cX9_fault 18 = .ok (.iconst 2, 1) := by decide +kernel
theorem dX9_fault_19 : decode cX9_fault 19 = .ok (.bipush 10, 2) := by decide +kernel
theorem dX9_fault_21 : decode cX9_fault 21 = .ok (.iload_n 1, 1) := by decide +kernel
theorem dX9_fault_22 : decode cX9_fault 22 = .ok (.imul, 1) := by decide +kernel
theorem dX9_fault_23 : decode cX9_fault 23 = .ok (.iadd, 1) := by decide +kernel
theorem dX9_fault_24 : decode cX9_fault 24 = .ok (.ireturn, 1) := by decide +kernel
theorem dX9_fault_25 : decode cX9_fault 25 = .ok (.aload_n 0, 1) := by decide +kernel
theorem dX9_fault_26 : decode cX9_fault 26 = .ok (.invokevirtual 198, 3) := by decide +kernel
theorem dX9_fault_29 : decode cX9_fault 29 = .ok (.iconst 0, 1) := by decide +kernel
theorem dX9_fault_30 : decode cX9_fault 30 = .ok (.istore_n 2, 1) := by decide +kernel
theorem dX9_fault_31 : decode cX9_fault 31 = .ok (.iload_n 2, 1) := by decide +kernel
theorem dX9_fault_32 : decode cX9_fault 32 = .ok (.bipush 6, 2) := by decide +kernel
theorem dX9_fault_34 : decode cX9_fault 34 = .ok (.if_icmp .ge 51, 3) := by decide +kernel
theorem dX9_fault_37 : decode cX9_fault 37 = .ok (.bipush 64, 2) := by decide +kernel
theorem dX9_fault_39 : decode cX9_fault 39 = .ok (.iload_n 2, 1) := by decide +kernel
theorem dX9_fault_40 : decode cX9_fault 40 = .ok (.imul, 1) := by decide +kernel
theorem dX9_fault_41 : decode cX9_fault 41 = .ok (.istore_n 3, 1) := by decide +kernel
theorem dX9_fault_42 : decode cX9_fault 42 = .ok (.iload_n 3, 1) := by decide +kernel
theorem dX9_fault_43 : decode cX9_fault 43 = .ok (.bipush 64, 2) := by decide +kernel
theorem dX9_fault_45 : decode cX9_fault 45 = .ok (.iload_n 2, 1) := by decide +kernel
theorem dX9_fault_46 : decode cX9_fault 46 = .ok (.imul, 1) := by decide +kernel
theorem dX9_fault_47 : decode cX9_fault 47 = .ok (.aload_n 0, 1) := by decide +kernel
theorem dX9_fault_48 : decode cX9_fault 48 = .ok (.getfield 33, 3) := by decide +kernel
theorem dX9_fault_51 : decode cX9_fault 51 = .ok (.iload_n 2, 1) := by decide +kernel
theorem dX9_fault_52 : decode cX9_fault 52 = .ok (.iaload, 1) := by decide +kernel
theorem dX9_fault_53 : decode cX9_fault 53 = .ok (.iadd, 1) := by decide +kernel
theorem dX9_fault_54 : decode cX9_fault 54 = .ok (.if_icmp .ge 25, 3) := by decide +kernel
theorem dX9_fault_57 : decode cX9_fault 57 = .ok (.aload_n 0, 1) := by decide +kernel
theorem dX9_fault_58 : decode cX9_fault 58 = .ok (.getfield 39, 3) := by decide +kernel
theorem dX9_fault_61 : decode cX9_fault 61 = .ok (.iload_n 3, 1) := by decide +kernel
theorem dX9_fault_62 : decode cX9_fault 62 = .ok (.baload, 1) := by decide +kernel
theorem dX9_fault_63 : decode cX9_fault 63 = .ok (.ifCond .ne 10, 3) := by decide +kernel
theorem dX9_fault_66 : decode cX9_fault 66 = .ok (.iconst 3, 1) := by decide +kernel
theorem dX9_fault_67 : decode cX9_fault 67 = .ok (.bipush 10, 2) := by decide +kernel
theorem dX9_fault_69 : decode cX9_fault 69 = .ok (.iload_n 2, 1) := by decide +kernel
theorem dX9_fault_70 : decode cX9_fault 70 = .ok (.imul, 1) := by decide +kernel
theorem dX9_fault_71 : decode cX9_fault 71 = .ok (.iadd, 1) := by decide +kernel
theorem dX9_fault_72 : decode cX9_fault 72 = .ok (.ireturn, 1) := by decide +kernel
theorem dX9_fault_73 : decode cX9_fault 73 = .ok (.iinc 3 1, 3) := by decide +kernel
theorem dX9_fault_76 : decode cX9_fault 76 = .ok (.goto (-34), 3) := by decide +kernel
theorem dX9_fault_79 : decode cX9_fault 79 = .ok (.iinc 2 1, 3) := by decide +kernel
theorem dX9_fault_82 : decode cX9_fault 82 = .ok (.goto (-51), 3) := by decide +kernel
theorem dX9_fault_85 : decode cX9_fault 85 = .ok (.iconst 0, 1) := by decide +kernel
theorem dX9_fault_86 : decode cX9_fault 86 = .ok (.ireturn, 1) := by decide +kernel
theorem dX9_check_0 : decode cX9_check 0 = .ok (.aload_n 0, 1) := by decide +kernel
theorem dX9_check_1 : decode cX9_check 1 = .ok (.iconst 0, 1) := by decide +kernel
theorem dX9_check_2 : decode cX9_check 2 = .ok (.putfield 105, 3) := by decide +kernel
theorem dX9_check_5 : decode cX9_check 5 = .ok (.aload_n 0, 1) := by decide +kernel
theorem dX9_check_6 : decode cX9_check 6 = .ok (.invokevirtual 204, 3) := by decide +kernel
theorem dX9_check_9 : decode cX9_check 9 = .ok (.ireturn, 1) := by decide +kernel
theorem dX9_push_0 : decode cX9_push 0 = .ok (.aload_n 0, 1) := by decide +kernel
theorem dX9_push_1 : decode cX9_push 1 = .ok (.getfield 45, 3) := by decide +kernel
theorem dX9_push_4 : decode cX9_push 4 = .ok (.aload_n 0, 1) := by decide +kernel
theorem dX9_push_5 : decode cX9_push 5 = .ok (.getfield 207, 3) := by decide +kernel
theorem dX9_push_8 : decode cX9_push 8 = .ok (.iload_n 1, 1) := by decide +kernel
theorem dX9_push_9 : decode cX9_push 9 = .ok (.iastore, 1) := by decide +kernel
theorem dX9_push_10 : decode cX9_push 10 = .ok (.aload_n 0, 1) := by decide +kernel
theorem dX9_push_11 : decode cX9_push 11 = .ok (.getfield 48, 3) := by decide +kernel
theorem dX9_push_14 : decode cX9_push 14 = .ok (.aload_n 0, 1) := by decide +kernel
theorem dX9_push_15 : decode cX9_push 15 = .ok (.getfield 207, 3) := by decide +kernel
theorem dX9_push_18 : decode cX9_push 18 = .ok (.iload_n 2, 1) := by decide +kernel
theorem dX9_push_19 : decode cX9_push 19 = .ok (.iastore, 1) := by decide +kernel
theorem dX9_push_20 : decode cX9_push 20 = .ok (.aload_n 0, 1) := by decide +kernel
theorem dX9_push_21 : decode cX9_push 21 = .ok (.getfield 51, 3) := by decide +kernel
theorem dX9_push_24 : decode cX9_push 24 = .ok (.aload_n 0, 1) := by decide +kernel
theorem dX9_push_25 : decode cX9_push 25 = .ok (.getfield 207, 3) := by decide +kernel
theorem dX9_push_28 : decode cX9_push 28 = .ok (.aload_n 0, 1) := by decide +kernel
theorem dX9_push_29 : decode cX9_push 29 = .ok (.getfield 210, 3) := by decide +kernel
theorem dX9_push_32 : decode cX9_push 32 = .ok (.iastore, 1) := by decide +kernel
theorem dX9_push_33 : decode cX9_push 33 = .ok (.aload_n 0, 1) := by decide +kernel
theorem dX9_push_34 : decode cX9_push 34 = .ok (.getfield 54, 3) := by decide +kernel
theorem dX9_push_37 : decode cX9_push 37 = .ok (.aload_n 0, 1) := by decide +kernel
theorem dX9_push_38 : decode cX9_push 38 = .ok (.getfield 207, 3) := by decide +kernel
theorem dX9_push_41 : decode cX9_push 41 = .ok (.iconst 0, 1) := by decide +kernel
theorem dX9_push_42 : decode cX9_push 42 = .ok (.bastore, 1) := by decide +kernel
theorem dX9_push_43 : decode cX9_push 43 = .ok (.aload_n 0, 1) := by decide +kernel
theorem dX9_push_44 : decode cX9_push 44 = .ok (.dup, 1) := by decide +kernel
theorem dX9_push_45 : decode cX9_push 45 = .ok (.getfield 207, 3) := by decide +kernel
theorem dX9_push_48 : decode cX9_push 48 = .ok (.iconst 1, 1) := by decide +kernel
theorem dX9_push_49 : decode cX9_push 49 = .ok (.iadd, 1) := by decide +kernel
theorem dX9_push_50 : decode cX9_push 50 = .ok (.putfield 207, 3) := by decide +kernel
theorem dX9_push_53 : decode cX9_push 53 = .ok (.return_, 1) := by decide +kernel
theorem dX9_record_0 : decode cX9_record 0 = .ok (.aload_n 0, 1) := by decide +kernel
theorem dX9_record_1 : decode cX9_record 1 = .ok (.getfield 210, 3) := by decide +kernel
theorem dX9_record_4 : decode cX9_record 4 = .ok (.bipush 64, 2) := by decide +kernel
theorem dX9_record_6 : decode cX9_record 6 = .ok (.if_icmp .ge 33, 3) := by decide +kernel
theorem dX9_record_9 : decode cX9_record 9 = .ok (.aload_n 0, 1) := by decide +kernel
theorem dX9_record_10 : decode cX9_record 10 = .ok (.getfield 60, 3) := by decide +kernel
theorem dX9_record_13 : decode cX9_record 13 = .ok (.aload_n 0, 1) := by decide +kernel
theorem dX9_record_14 : decode cX9_record 14 = .ok (.getfield 210, 3) := by decide +kernel
theorem dX9_record_17 : decode cX9_record 17 = .ok (.iload_n 1, 1) := by decide +kernel
theorem dX9_record_18 : decode cX9_record 18 = .ok (.iastore, 1) := by decide +kernel
theorem dX9_record_19 : decode cX9_record 19 = .ok (.aload_n 0, 1) := by decide +kernel
theorem dX9_record_20 : decode cX9_record 20 = .ok (.getfield 63, 3) := by decide +kernel
theorem dX9_record_23 : decode cX9_record 23 = .ok (.aload_n 0, 1) := by decide +kernel
theorem dX9_record_24 : decode cX9_record 24 = .ok (.getfield 210, 3) := by decide +kernel
theorem dX9_record_27 : decode cX9_record 27 = .ok (.iload_n 2, 1) := by decide +kernel
theorem dX9_record_28 : decode cX9_record 28 = .ok (.iastore, 1) := by decide +kernel
theorem dX9_record_29 : decode cX9_record 29 = .ok (.aload_n 0, 1) := by decide +kernel
theorem dX9_record_30 : decode cX9_record 30 = .ok (.getfield 66, 3) := by decide +kernel
theorem dX9_record_33 : decode cX9_record 33 = .ok (.aload_n 0, 1) := by decide +kernel
theorem dX9_record_34 : decode cX9_record 34 = .ok (.getfield 210, 3) := by decide +kernel
theorem dX9_record_37 : decode cX9_record 37 = .ok (.iload_n 3, 1) := by decide +kernel
theorem dX9_record_38 : decode cX9_record 38 = .ok (.iastore, 1) := by decide +kernel
theorem dX9_record_39 : decode cX9_record 39 = .ok (.aload_n 0, 1) := by decide +kernel
theorem dX9_record_40 : decode cX9_record 40 = .ok (.dup, 1) := by decide +kernel
theorem dX9_record_41 : decode cX9_record 41 = .ok (.getfield 210, 3) := by decide +kernel
theorem dX9_record_44 : decode cX9_record 44 = .ok (.iconst 1, 1) := by decide +kernel
theorem dX9_record_45 : decode cX9_record 45 = .ok (.iadd, 1) := by decide +kernel
theorem dX9_record_46 : decode cX9_record 46 = .ok (.putfield 210, 3) := by decide +kernel
theorem dX9_record_49 : decode cX9_record 49 = .ok (.return_, 1) := by decide +kernel
theorem dX9_ask_0 : decode cX9_ask 0 = .ok (.aload_n 0, 1) := by decide +kernel
theorem dX9_ask_1 : decode cX9_ask 1 = .ok (.getfield 17, 3) := by decide +kernel
theorem dX9_ask_4 : decode cX9_ask 4 = .ok (.iload_n 1, 1) := by decide +kernel
theorem dX9_ask_5 : decode cX9_ask 5 = .ok (.iaload, 1) := by decide +kernel
theorem dX9_ask_6 : decode cX9_ask 6 = .ok (.ifCond .ne 43, 3) := by decide +kernel
theorem dX9_ask_9 : decode cX9_ask 9 = .ok (.iload_n 2, 1) := by decide +kernel
theorem dX9_ask_10 : decode cX9_ask 10 = .ok (.aload_n 0, 1) := by decide +kernel
theorem dX9_ask_11 : decode cX9_ask 11 = .ok (.getfield 168, 3) := by decide +kernel
theorem dX9_ask_14 : decode cX9_ask 14 = .ok (.if_icmp .ge 33, 3) := by decide +kernel
theorem dX9_ask_17 : decode cX9_ask 17 = .ok (.aload_n 0, 1) := by decide +kernel
theorem dX9_ask_18 : decode cX9_ask 18 = .ok (.getfield 13, 3) := by decide +kernel
theorem dX9_ask_21 : decode cX9_ask 21 = .ok (.iload_n 2, 1) := by decide +kernel
theorem dX9_ask_22 : decode cX9_ask 22 = .ok (.iaload, 1) := by decide +kernel
theorem dX9_ask_23 : decode cX9_ask 23 = .ok (.aload_n 0, 1) := by decide +kernel
theorem dX9_ask_24 : decode cX9_ask 24 = .ok (.getfield 20, 3) := by decide +kernel
theorem dX9_ask_27 : decode cX9_ask 27 = .ok (.iload_n 1, 1) := by decide +kernel
theorem dX9_ask_28 : decode cX9_ask 28 = .ok (.iaload, 1) := by decide +kernel
theorem dX9_ask_29 : decode cX9_ask 29 = .ok (.aload_n 0, 1) := by decide +kernel
theorem dX9_ask_30 : decode cX9_ask 30 = .ok (.getfield 23, 3) := by decide +kernel
theorem dX9_ask_33 : decode cX9_ask 33 = .ok (.iload_n 1, 1) := by decide +kernel
theorem dX9_ask_34 : decode cX9_ask 34 = .ok (.iaload, 1) := by decide +kernel
theorem dX9_ask_35 : decode cX9_ask 35 = .ok (.invokestatic 109, 3) := by decide +kernel
theorem dX9_ask_38 : decode cX9_ask 38 = .ok (.ifCond .eq 9, 3) := by decide +kernel
theorem dX9_ask_41 : decode cX9_ask 41 = .ok (.iload_n 2, 1) := by decide +kernel
theorem dX9_ask_42 : decode cX9_ask 42 = .ok (.iconst 1, 1) := by decide +kernel
theorem dX9_ask_43 : decode cX9_ask 43 = .ok (.iadd, 1) := by decide +kernel
theorem dX9_ask_44 : decode cX9_ask 44 = .ok (.goto 4, 3) := by decide +kernel
theorem dX9_ask_47 : decode cX9_ask 47 = .ok (.iconst (-1), 1) := by decide +kernel
theorem dX9_ask_48 : decode cX9_ask 48 = .ok (.ireturn, 1) := by decide +kernel
theorem dX9_ask_49 : decode cX9_ask 49 = .ok (.aload_n 0, 1) := by decide +kernel
theorem dX9_ask_50 : decode cX9_ask 50 = .ok (.getfield 17, 3) := by decide +kernel
theorem dX9_ask_53 : decode cX9_ask 53 = .ok (.iload_n 1, 1) := by decide +kernel
theorem dX9_ask_54 : decode cX9_ask 54 = .ok (.iaload, 1) := by decide +kernel
theorem dX9_ask_55 : decode cX9_ask 55 = .ok (.iconst 1, 1) := by decide +kernel
theorem dX9_ask_56 : decode cX9_ask 56 = .ok (.if_icmp .eq 12, 3) := by decide +kernel
theorem dX9_ask_59 : decode cX9_ask 59 = .ok (.aload_n 0, 1) := by decide +kernel
theorem dX9_ask_60 : decode cX9_ask 60 = .ok (.iload_n 1, 1) := by decide +kernel
theorem dX9_ask_61 : decode cX9_ask 61 = .ok (.iload_n 2, 1) := by decide +kernel
theorem dX9_ask_62 : decode cX9_ask 62 = .ok (.invokevirtual 213, 3) := by decide +kernel
theorem dX9_ask_65 : decode cX9_ask 65 = .ok (.bipush (-2), 2) := by decide +kernel
theorem dX9_ask_67 : decode cX9_ask 67 = .ok (.ireturn, 1) := by decide +kernel
theorem dX9_ask_68 : decode cX9_ask 68 = .ok (.aload_n 0, 1) := by decide +kernel
theorem dX9_ask_69 : decode cX9_ask 69 = .ok (.getfield 20, 3) := by decide +kernel
theorem dX9_ask_72 : decode cX9_ask 72 = .ok (.iload_n 1, 1) := by decide +kernel
theorem dX9_ask_73 : decode cX9_ask 73 = .ok (.iaload, 1) := by decide +kernel
theorem dX9_ask_74 : decode cX9_ask 74 = .ok (.istore_n 3, 1) := by decide +kernel
theorem dX9_ask_75 : decode cX9_ask 75 = .ok (.aload_n 0, 1) := by decide +kernel
theorem dX9_ask_76 : decode cX9_ask 76 = .ok (.getfield 42, 3) := by decide +kernel
theorem dX9_ask_79 : decode cX9_ask 79 = .ok (.bipush 21, 2) := by decide +kernel
theorem dX9_ask_81 : decode cX9_ask 81 = .ok (.iload_n 3, 1) := by decide +kernel
theorem dX9_ask_82 : decode cX9_ask 82 = .ok (.imul, 1) := by decide +kernel
theorem dX9_ask_83 : decode cX9_ask 83 = .ok (.iload_n 2, 1) := by decide +kernel
theorem dX9_ask_84 : decode cX9_ask 84 = .ok (.iadd, 1) := by decide +kernel
theorem dX9_ask_85 : decode cX9_ask 85 = .ok (.iaload, 1) := by decide +kernel
theorem dX9_ask_86 : decode cX9_ask 86 = .ok (.istore 4, 2) := by decide +kernel
theorem dX9_ask_88 : decode cX9_ask 88 = .ok (.aload_n 0, 1) := by decide +kernel
theorem dX9_ask_89 : decode cX9_ask 89 = .ok (.getfield 217, 3) := by decide +kernel
theorem dX9_ask_92 : decode cX9_ask 92 = .ok (.ifCond .eq 19, 3) := by decide +kernel
theorem dX9_ask_95 : decode cX9_ask 95 = .ok (.iload 4, 2) := by decide +kernel
theorem dX9_ask_97 : decode cX9_ask 97 = .ok (.ifCond .lt 11, 3) := by decide +kernel
theorem dX9_ask_100 : decode cX9_ask 100 = .ok (.aload_n 0, 1) := by decide +kernel
theorem dX9_ask_101 : decode cX9_ask 101 = .ok (.iload_n 3, 1) := by decide +kernel
theorem dX9_ask_102 : decode cX9_ask 102 = .ok (.iload_n 2, 1) := by decide +kernel
theorem dX9_ask_103 : decode cX9_ask 103 = .ok (.iload 4, 2) := by decide +kernel
theorem dX9_ask_105 : decode cX9_ask 105 = .ok (.invokevirtual 221, 3) := by decide +kernel
theorem dX9_ask_108 : decode cX9_ask 108 = .ok (.iload 4, 2) := by decide +kernel
theorem dX9_ask_110 : decode cX9_ask 110 = .ok (.ireturn, 1) := by decide +kernel
theorem dX9_ask_111 : decode cX9_ask 111 = .ok (.iload 4, 2) := by decide +kernel
theorem dX9_ask_113 : decode cX9_ask 113 = .ok (.bipush (-2), 2) := by decide +kernel
theorem dX9_ask_115 : decode cX9_ask 115 = .ok (.if_icmp .eq 16, 3) := by decide +kernel
theorem dX9_ask_118 : decode cX9_ask 118 = .ok (.aload_n 0, 1) := by decide +kernel
theorem dX9_ask_119 : decode cX9_ask 119 = .ok (.dup, 1) := by decide +kernel
theorem dX9_ask_120 : decode cX9_ask 120 = .ok (.getfield 225, 3) := by decide +kernel
theorem dX9_ask_123 : decode cX9_ask 123 = .ok (.iconst 1, 1) := by decide +kernel
theorem dX9_ask_124 : decode cX9_ask 124 = .ok (.iadd, 1) := by decide +kernel
theorem dX9_ask_125 : decode cX9_ask 125 = .ok (.putfield 225, 3) := by decide +kernel
theorem dX9_ask_128 : decode cX9_ask 128 = .ok (.iload 4, 2) := by decide +kernel
theorem dX9_ask_130 : decode cX9_ask 130 = .ok (.ireturn, 1) := by decide +kernel
theorem dX9_ask_131 : decode cX9_ask 131 = .ok (.aload_n 0, 1) := by decide +kernel
theorem dX9_ask_132 : decode cX9_ask 132 = .ok (.getfield 228, 3) := by decide +kernel
theorem dX9_ask_135 : decode cX9_ask 135 = .ok (.aload_n 0, 1) := by decide +kernel
theorem dX9_ask_136 : decode cX9_ask 136 = .ok (.getfield 26, 3) := by decide +kernel
theorem dX9_ask_139 : decode cX9_ask 139 = .ok (.iload_n 1, 1) := by decide +kernel
theorem dX9_ask_140 : decode cX9_ask 140 = .ok (.iaload, 1) := by decide +kernel
theorem dX9_ask_141 : decode cX9_ask 141 = .ok (.iadd, 1) := by decide +kernel
theorem dX9_ask_142 : decode cX9_ask 142 = .ok (.iconst 2, 1) := by decide +kernel
theorem dX9_ask_143 : decode cX9_ask 143 = .ok (.iadd, 1) := by decide +kernel
theorem dX9_ask_144 : decode cX9_ask 144 = .ok (.bipush 40, 2) := by decide +kernel
theorem dX9_ask_146 : decode cX9_ask 146 = .ok (.if_icmp .le 6, 3) := by decide +kernel
theorem dX9_ask_149 : decode cX9_ask 149 = .ok (.bipush (-3), 2) := by decide +kernel
theorem dX9_ask_151 : decode cX9_ask 151 = .ok (.ireturn, 1) := by decide +kernel
theorem dX9_ask_152 : decode cX9_ask 152 = .ok (.aload_n 0, 1) := by decide +kernel
theorem dX9_ask_153 : decode cX9_ask 153 = .ok (.dup, 1) := by decide +kernel
theorem dX9_ask_154 : decode cX9_ask 154 = .ok (.getfield 231, 3) := by decide +kernel
theorem dX9_ask_157 : decode cX9_ask 157 = .ok (.iconst 1, 1) := by decide +kernel
theorem dX9_ask_158 : decode cX9_ask 158 = .ok (.iadd, 1) := by decide +kernel
theorem dX9_ask_159 : decode cX9_ask 159 = .ok (.putfield 231, 3) := by decide +kernel
theorem dX9_ask_162 : decode cX9_ask 162 = .ok (.aload_n 0, 1) := by decide +kernel
theorem dX9_ask_163 : decode cX9_ask 163 = .ok (.iload_n 1, 1) := by decide +kernel
theorem dX9_ask_164 : decode cX9_ask 164 = .ok (.iload_n 2, 1) := by decide +kernel
theorem dX9_ask_165 : decode cX9_ask 165 = .ok (.invokevirtual 213, 3) := by decide +kernel
theorem dX9_ask_168 : decode cX9_ask 168 = .ok (.aload_n 0, 1) := by decide +kernel
theorem dX9_ask_169 : decode cX9_ask 169 = .ok (.getfield 57, 3) := by decide +kernel
theorem dX9_ask_172 : decode cX9_ask 172 = .ok (.aload_n 0, 1) := by decide +kernel
theorem dX9_ask_173 : decode cX9_ask 173 = .ok (.getfield 207, 3) := by decide +kernel
theorem dX9_ask_176 : decode cX9_ask 176 = .ok (.iconst 1, 1) := by decide +kernel
theorem dX9_ask_177 : decode cX9_ask 177 = .ok (.isub, 1) := by decide +kernel
theorem dX9_ask_178 : decode cX9_ask 178 = .ok (.aload_n 0, 1) := by decide +kernel
theorem dX9_ask_179 : decode cX9_ask 179 = .ok (.getfield 228, 3) := by decide +kernel
theorem dX9_ask_182 : decode cX9_ask 182 = .ok (.iastore, 1) := by decide +kernel
theorem dX9_ask_183 : decode cX9_ask 183 = .ok (.aload_n 0, 1) := by decide +kernel
theorem dX9_ask_184 : decode cX9_ask 184 = .ok (.aload_n 0, 1) := by decide +kernel
theorem dX9_ask_185 : decode cX9_ask 185 = .ok (.getfield 228, 3) := by decide +kernel
theorem dX9_ask_188 : decode cX9_ask 188 = .ok (.aload_n 0, 1) := by decide +kernel
theorem dX9_ask_189 : decode cX9_ask 189 = .ok (.getfield 26, 3) := by decide +kernel
theorem dX9_ask_192 : decode cX9_ask 192 = .ok (.iload_n 1, 1) := by decide +kernel
theorem dX9_ask_193 : decode cX9_ask 193 = .ok (.iaload, 1) := by decide +kernel
theorem dX9_ask_194 : decode cX9_ask 194 = .ok (.iadd, 1) := by decide +kernel
theorem dX9_ask_195 : decode cX9_ask 195 = .ok (.iconst 2, 1) := by decide +kernel
theorem dX9_ask_196 : decode cX9_ask 196 = .ok (.iadd, 1) := by decide +kernel
theorem dX9_ask_197 : decode cX9_ask 197 = .ok (.putfield 228, 3) := by decide +kernel
theorem dX9_ask_200 : decode cX9_ask 200 = .ok (.bipush (-2), 2) := by decide +kernel
theorem dX9_ask_202 : decode cX9_ask 202 = .ok (.ireturn, 1) := by decide +kernel
theorem dX9_base_0 : decode cX9_base 0 = .ok (.iload_n 0, 1) := by decide +kernel
theorem dX9_base_1 : decode cX9_base 1 = .ok (.bipush 64, 2) := by decide +kernel
theorem dX9_base_3 : decode cX9_base 3 = .ok (.idiv, 1) := by decide +kernel
theorem dX9_base_4 : decode cX9_base 4 = .ok (.bipush 64, 2) := by decide +kernel
theorem dX9_base_6 : decode cX9_base 6 = .ok (.imul, 1) := by decide +kernel
theorem dX9_base_7 : decode cX9_base 7 = .ok (.ireturn, 1) := by decide +kernel
theorem dX9_wanted_0 : decode cX9_wanted 0 = .ok (.aload_n 0, 1) := by decide +kernel
theorem dX9_wanted_1 : decode cX9_wanted 1 = .ok (.getfield 45, 3) := by decide +kernel
theorem dX9_wanted_4 : decode cX9_wanted 4 = .ok (.aload_n 0, 1) := by decide +kernel
theorem dX9_wanted_5 : decode cX9_wanted 5 = .ok (.getfield 207, 3) := by decide +kernel
theorem dX9_wanted_8 : decode cX9_wanted 8 = .ok (.iconst 1, 1) := by decide +kernel
theorem dX9_wanted_9 : decode cX9_wanted 9 = .ok (.isub, 1) := by decide +kernel
theorem dX9_wanted_10 : decode cX9_wanted 10 = .ok (.iaload, 1) := by decide +kernel
theorem dX9_wanted_11 : decode cX9_wanted 11 = .ok (.istore_n 1, 1) := by decide +kernel
theorem dX9_wanted_12 : decode cX9_wanted 12 = .ok (.aload_n 0, 1) := by decide +kernel
theorem dX9_wanted_13 : decode cX9_wanted 13 = .ok (.getfield 17, 3) := by decide +kernel
theorem dX9_wanted_16 : decode cX9_wanted 16 = .ok (.iload_n 1, 1) := by decide +kernel
theorem dX9_wanted_17 : decode cX9_wanted 17 = .ok (.iaload, 1) := by decide +kernel
theorem dX9_wanted_18 : decode cX9_wanted 18 = .ok (.iconst 1, 1) := by decide +kernel
theorem dX9_wanted_19 : decode cX9_wanted 19 = .ok (.if_icmp .ne 29, 3) := by decide +kernel
theorem dX9_wanted_22 : decode cX9_wanted 22 = .ok (.bipush 64, 2) := by decide +kernel
theorem dX9_wanted_24 : decode cX9_wanted 24 = .ok (.aload_n 0, 1) := by decide +kernel
theorem dX9_wanted_25 : decode cX9_wanted 25 = .ok (.getfield 20, 3) := by decide +kernel
theorem dX9_wanted_28 : decode cX9_wanted 28 = .ok (.iload_n 1, 1) := by decide +kernel
theorem dX9_wanted_29 : decode cX9_wanted 29 = .ok (.iaload, 1) := by decide +kernel
theorem dX9_wanted_30 : decode cX9_wanted 30 = .ok (.imul, 1) := by decide +kernel
theorem dX9_wanted_31 : decode cX9_wanted 31 = .ok (.aload_n 0, 1) := by decide +kernel
theorem dX9_wanted_32 : decode cX9_wanted 32 = .ok (.getfield 33, 3) := by decide +kernel
theorem dX9_wanted_35 : decode cX9_wanted 35 = .ok (.aload_n 0, 1) := by decide +kernel
theorem dX9_wanted_36 : decode cX9_wanted 36 = .ok (.getfield 20, 3) := by decide +kernel
theorem dX9_wanted_39 : decode cX9_wanted 39 = .ok (.iload_n 1, 1) := by decide +kernel
theorem dX9_wanted_40 : decode cX9_wanted 40 = .ok (.iaload, 1) := by decide +kernel
theorem dX9_wanted_41 : decode cX9_wanted 41 = .ok (.iaload, 1) := by decide +kernel
theorem dX9_wanted_42 : decode cX9_wanted 42 = .ok (.iadd, 1) := by decide +kernel
theorem dX9_wanted_43 : decode cX9_wanted 43 = .ok (.iconst 1, 1) := by decide +kernel
theorem dX9_wanted_44 : decode cX9_wanted 44 = .ok (.isub, 1) := by decide +kernel
theorem dX9_wanted_45 : decode cX9_wanted 45 = .ok (.goto 14, 3) := by decide +kernel
theorem dX9_wanted_48 : decode cX9_wanted 48 = .ok (.iload_n 1, 1) := by decide +kernel
theorem dX9_wanted_49 : decode cX9_wanted 49 = .ok (.invokestatic 234, 3) := by decide +kernel
theorem dX9_wanted_52 : decode cX9_wanted 52 = .ok (.aload_n 0, 1) := by decide +kernel
theorem dX9_wanted_53 : decode cX9_wanted 53 = .ok (.getfield 20, 3) := by decide +kernel
theorem dX9_wanted_56 : decode cX9_wanted 56 = .ok (.iload_n 1, 1) := by decide +kernel
theorem dX9_wanted_57 : decode cX9_wanted 57 = .ok (.iaload, 1) := by decide +kernel
theorem dX9_wanted_58 : decode cX9_wanted 58 = .ok (.iadd, 1) := by decide +kernel
theorem dX9_wanted_59 : decode cX9_wanted 59 = .ok (.ireturn, 1) := by decide +kernel
theorem dX9_answer_0 : decode cX9_answer 0 = .ok (.aload_n 0, 1) := by decide +kernel
theorem dX9_answer_1 : decode cX9_answer 1 = .ok (.getfield 45, 3) := by decide +kernel
theorem dX9_answer_4 : decode cX9_answer 4 = .ok (.aload_n 0, 1) := by decide +kernel
theorem dX9_answer_5 : decode cX9_answer 5 = .ok (.getfield 207, 3) := by decide +kernel
theorem dX9_answer_8 : decode cX9_answer 8 = .ok (.iconst 1, 1) := by decide +kernel
theorem dX9_answer_9 : decode cX9_answer 9 = .ok (.isub, 1) := by decide +kernel
theorem dX9_answer_10 : decode cX9_answer 10 = .ok (.iaload, 1) := by decide +kernel
theorem dX9_answer_11 : decode cX9_answer 11 = .ok (.istore_n 2, 1) := by decide +kernel
theorem dX9_answer_12 : decode cX9_answer 12 = .ok (.aload_n 0, 1) := by decide +kernel
theorem dX9_answer_13 : decode cX9_answer 13 = .ok (.getfield 48, 3) := by decide +kernel
theorem dX9_answer_16 : decode cX9_answer 16 = .ok (.aload_n 0, 1) := by decide +kernel
theorem dX9_answer_17 : decode cX9_answer 17 = .ok (.getfield 207, 3) := by decide +kernel
theorem dX9_answer_20 : decode cX9_answer 20 = .ok (.iconst 1, 1) := by decide +kernel
theorem dX9_answer_21 : decode cX9_answer 21 = .ok (.isub, 1) := by decide +kernel
theorem dX9_answer_22 : decode cX9_answer 22 = .ok (.iaload, 1) := by decide +kernel
theorem dX9_answer_23 : decode cX9_answer 23 = .ok (.istore_n 3, 1) := by decide +kernel
theorem dX9_answer_24 : decode cX9_answer 24 = .ok (.iload_n 1, 1) := by decide +kernel
theorem dX9_answer_25 : decode cX9_answer 25 = .ok (.ifCond .ge 7, 3) := by decide +kernel
theorem dX9_answer_28 : decode cX9_answer 28 = .ok (.iconst 1, 1) := by decide +kernel
theorem dX9_answer_29 : decode cX9_answer 29 = .ok (.goto 4, 3) := by decide +kernel
theorem dX9_answer_32 : decode cX9_answer 32 = .ok (.iconst 0, 1) := by decide +kernel
theorem dX9_answer_33 : decode cX9_answer 33 = .ok (.istore 4, 2) := by decide +kernel
theorem dX9_answer_35 : decode cX9_answer 35 = .ok (.iload 4, 2) := by decide +kernel
theorem dX9_answer_37 : decode cX9_answer 37 = .ok (.ifCond .eq 23, 3) := by decide +kernel
theorem dX9_answer_40 : decode cX9_answer 40 = .ok (.aload_n 0, 1) := by decide +kernel
theorem dX9_answer_41 : decode cX9_answer 41 = .ok (.getfield 17, 3) := by decide +kernel
theorem dX9_answer_44 : decode cX9_answer 44 = .ok (.iload_n 2, 1) := by decide +kernel
theorem dX9_answer_45 : decode cX9_answer 45 = .ok (.iaload, 1) := by decide +kernel
theorem dX9_answer_46 : decode cX9_answer 46 = .ok (.iconst 1, 1) := by decide +kernel
theorem dX9_answer_47 : decode cX9_answer 47 = .ok (.if_icmp .eq 13, 3) := by decide +kernel
theorem dX9_answer_50 : decode cX9_answer 50 = .ok (.aload_n 0, 1) := by decide +kernel
theorem dX9_answer_51 : decode cX9_answer 51 = .ok (.getfield 17, 3) := by decide +kernel
theorem dX9_answer_54 : decode cX9_answer 54 = .ok (.iload_n 2, 1) := by decide +kernel
theorem dX9_answer_55 : decode cX9_answer 55 = .ok (.iaload, 1) := by decide +kernel
theorem dX9_answer_56 : decode cX9_answer 56 = .ok (.iconst 2, 1) := by decide +kernel
theorem dX9_answer_57 : decode cX9_answer 57 = .ok (.if_icmp .ne 25, 3) := by decide +kernel
theorem dX9_answer_60 : decode cX9_answer 60 = .ok (.aload_n 0, 1) := by decide +kernel
theorem dX9_answer_61 : decode cX9_answer 61 = .ok (.getfield 17, 3) := by decide +kernel
theorem dX9_answer_64 : decode cX9_answer 64 = .ok (.iload_n 2, 1) := by decide +kernel
theorem dX9_answer_65 : decode cX9_answer 65 = .ok (.iaload, 1) := by decide +kernel
theorem dX9_answer_66 : decode cX9_answer 66 = .ok (.bipush 7, 2) := by decide +kernel
theorem dX9_answer_68 : decode cX9_answer 68 = .ok (.if_icmp .eq 14, 3) := by decide +kernel
theorem dX9_answer_71 : decode cX9_answer 71 = .ok (.aload_n 0, 1) := by decide +kernel
theorem dX9_answer_72 : decode cX9_answer 72 = .ok (.getfield 17, 3) := by decide +kernel
theorem dX9_answer_75 : decode cX9_answer 75 = .ok (.iload_n 2, 1) := by decide +kernel
theorem dX9_answer_76 : decode cX9_answer 76 = .ok (.iaload, 1) := by decide +kernel
theorem dX9_answer_77 : decode cX9_answer 77 = .ok (.bipush 8, 2) := by decide +kernel
theorem dX9_answer_79 : decode cX9_answer 79 = .ok (.if_icmp .ne 18, 3) := by decide +kernel
theorem dX9_answer_82 : decode cX9_answer 82 = .ok (.aload_n 0, 1) := by decide +kernel
theorem dX9_answer_83 : decode cX9_answer 83 = .ok (.aload_n 0, 1) := by decide +kernel
theorem dX9_answer_84 : decode cX9_answer 84 = .ok (.getfield 51, 3) := by decide +kernel
theorem dX9_answer_87 : decode cX9_answer 87 = .ok (.aload_n 0, 1) := by decide +kernel
theorem dX9_answer_88 : decode cX9_answer 88 = .ok (.getfield 207, 3) := by decide +kernel
theorem dX9_answer_91 : decode cX9_answer 91 = .ok (.iconst 1, 1) := by decide +kernel
theorem dX9_answer_92 : decode cX9_answer 92 = .ok (.isub, 1) := by decide +kernel
theorem dX9_answer_93 : decode cX9_answer 93 = .ok (.iaload, 1) := by decide +kernel
theorem dX9_answer_94 : decode cX9_answer 94 = .ok (.putfield 210, 3) := by decide +kernel
theorem dX9_answer_97 : decode cX9_answer 97 = .ok (.aload_n 0, 1) := by decide +kernel
theorem dX9_answer_98 : decode cX9_answer 98 = .ok (.getfield 17, 3) := by decide +kernel
theorem dX9_answer_101 : decode cX9_answer 101 = .ok (.iload_n 2, 1) := by decide +kernel
theorem dX9_answer_102 : decode cX9_answer 102 = .ok (.iaload, 1) := by decide +kernel
theorem dX9_answer_103 : decode cX9_answer 103 = .ok (.tableswitch 136 1 8 #[45, 79, 91, 136, 136, 103, 114, 125], 45) := by decide +kernel
theorem dX9_answer_148 : decode cX9_answer 148 = .ok (.aload_n 0, 1) := by decide +kernel
theorem dX9_answer_149 : decode cX9_answer 149 = .ok (.getfield 42, 3) := by decide +kernel
theorem dX9_answer_152 : decode cX9_answer 152 = .ok (.bipush 21, 2) := by decide +kernel
theorem dX9_answer_154 : decode cX9_answer 154 = .ok (.aload_n 0, 1) := by decide +kernel
theorem dX9_answer_155 : decode cX9_answer 155 = .ok (.getfield 20, 3) := by decide +kernel
theorem dX9_answer_158 : decode cX9_answer 158 = .ok (.iload_n 2, 1) := by decide +kernel
theorem dX9_answer_159 : decode cX9_answer 159 = .ok (.iaload, 1) := by decide +kernel
theorem dX9_answer_160 : decode cX9_answer 160 = .ok (.imul, 1) := by decide +kernel
theorem dX9_answer_161 : decode cX9_answer 161 = .ok (.iload_n 3, 1) := by decide +kernel
theorem dX9_answer_162 : decode cX9_answer 162 = .ok (.iadd, 1) := by decide +kernel
theorem dX9_answer_163 : decode cX9_answer 163 = .ok (.iload_n 1, 1) := by decide +kernel
theorem dX9_answer_164 : decode cX9_answer 164 = .ok (.iastore, 1) := by decide +kernel
theorem dX9_answer_165 : decode cX9_answer 165 = .ok (.aload_n 0, 1) := by decide +kernel
theorem dX9_answer_166 : decode cX9_answer 166 = .ok (.aload_n 0, 1) := by decide +kernel
theorem dX9_answer_167 : decode cX9_answer 167 = .ok (.getfield 57, 3) := by decide +kernel
theorem dX9_answer_170 : decode cX9_answer 170 = .ok (.aload_n 0, 1) := by decide +kernel
theorem dX9_answer_171 : decode cX9_answer 171 = .ok (.getfield 207, 3) := by decide +kernel
theorem dX9_answer_174 : decode cX9_answer 174 = .ok (.iconst 1, 1) := by decide +kernel
theorem dX9_answer_175 : decode cX9_answer 175 = .ok (.isub, 1) := by decide +kernel
theorem dX9_answer_176 : decode cX9_answer 176 = .ok (.iaload, 1) := by decide +kernel
theorem dX9_answer_177 : decode cX9_answer 177 = .ok (.putfield 228, 3) := by decide +kernel
theorem dX9_answer_180 : decode cX9_answer 180 = .ok (.iload_n 1, 1) := by decide +kernel
theorem dX9_answer_181 : decode cX9_answer 181 = .ok (.ireturn, 1) := by decide +kernel
theorem dX9_answer_182 : decode cX9_answer 182 = .ok (.iload 4, 2) := by decide +kernel
theorem dX9_answer_184 : decode cX9_answer 184 = .ok (.ifCond .eq 7, 3) := by decide +kernel
theorem dX9_answer_187 : decode cX9_answer 187 = .ok (.iconst (-1), 1) := by decide +kernel
theorem dX9_answer_188 : decode cX9_answer 188 = .ok (.goto 5, 3) := by decide +kernel
theorem dX9_answer_191 : decode cX9_answer 191 = .ok (.bipush (-2), 2) := by decide +kernel
theorem dX9_answer_193 : decode cX9_answer 193 = .ok (.ireturn, 1) := by decide +kernel
theorem dX9_answer_194 : decode cX9_answer 194 = .ok (.iload 4, 2) := by decide +kernel
theorem dX9_answer_196 : decode cX9_answer 196 = .ok (.ifCond .eq 8, 3) := by decide +kernel
theorem dX9_answer_199 : decode cX9_answer 199 = .ok (.bipush (-2), 2) := by decide +kernel
theorem dX9_answer_201 : decode cX9_answer 201 = .ok (.goto 4, 3) := by decide +kernel
theorem dX9_answer_204 : decode cX9_answer 204 = .ok (.iload_n 1, 1) := by decide +kernel
theorem dX9_answer_205 : decode cX9_answer 205 = .ok (.ireturn, 1) := by decide +kernel
theorem dX9_answer_206 : decode cX9_answer 206 = .ok (.iload 4, 2) := by decide +kernel
theorem dX9_answer_208 : decode cX9_answer 208 = .ok (.ifCond .eq 7, 3) := by decide +kernel
theorem dX9_answer_211 : decode cX9_answer 211 = .ok (.iload_n 3, 1) := by decide +kernel
theorem dX9_answer_212 : decode cX9_answer 212 = .ok (.goto 4, 3) := by decide +kernel
theorem dX9_answer_215 : decode cX9_answer 215 = .ok (.iload_n 1, 1) := by decide +kernel
theorem dX9_answer_216 : decode cX9_answer 216 = .ok (.ireturn, 1) := by decide +kernel
theorem dX9_answer_217 : decode cX9_answer 217 = .ok (.iload 4, 2) := by decide +kernel
theorem dX9_answer_219 : decode cX9_answer 219 = .ok (.ifCond .eq 7, 3) := by decide +kernel
theorem dX9_answer_222 : decode cX9_answer 222 = .ok (.iconst (-1), 1) := by decide +kernel
theorem dX9_answer_223 : decode cX9_answer 223 = .ok (.goto 4, 3) := by decide +kernel
theorem dX9_answer_226 : decode cX9_answer 226 = .ok (.iload_n 3, 1) := by decide +kernel
theorem dX9_answer_227 : decode cX9_answer 227 = .ok (.ireturn, 1) := by decide +kernel
theorem dX9_answer_228 : decode cX9_answer 228 = .ok (.iload 4, 2) := by decide +kernel
theorem dX9_answer_230 : decode cX9_answer 230 = .ok (.ifCond .eq 7, 3) := by decide +kernel
theorem dX9_answer_233 : decode cX9_answer 233 = .ok (.iload_n 3, 1) := by decide +kernel
theorem dX9_answer_234 : decode cX9_answer 234 = .ok (.goto 4, 3) := by decide +kernel
theorem dX9_answer_237 : decode cX9_answer 237 = .ok (.iconst (-1), 1) := by decide +kernel
theorem dX9_answer_238 : decode cX9_answer 238 = .ok (.ireturn, 1) := by decide +kernel
theorem dX9_answer_239 : decode cX9_answer 239 = .ok (.iload 4, 2) := by decide +kernel
theorem dX9_answer_241 : decode cX9_answer 241 = .ok (.ifCond .ne 8, 3) := by decide +kernel
theorem dX9_answer_244 : decode cX9_answer 244 = .ok (.bipush (-2), 2) := by decide +kernel
theorem dX9_answer_246 : decode cX9_answer 246 = .ok (.goto 32, 3) := by decide +kernel
theorem dX9_answer_249 : decode cX9_answer 249 = .ok (.aload_n 0, 1) := by decide +kernel
theorem dX9_answer_250 : decode cX9_answer 250 = .ok (.getfield 17, 3) := by decide +kernel
theorem dX9_answer_253 : decode cX9_answer 253 = .ok (.iload_n 2, 1) := by decide +kernel
theorem dX9_answer_254 : decode cX9_answer 254 = .ok (.iaload, 1) := by decide +kernel
theorem dX9_answer_255 : decode cX9_answer 255 = .ok (.iconst 5, 1) := by decide +kernel
theorem dX9_answer_256 : decode cX9_answer 256 = .ok (.if_icmp .ne 21, 3) := by decide +kernel
theorem dX9_answer_259 : decode cX9_answer 259 = .ok (.aload_n 0, 1) := by decide +kernel
theorem dX9_answer_260 : decode cX9_answer 260 = .ok (.getfield 54, 3) := by decide +kernel
theorem dX9_answer_263 : decode cX9_answer 263 = .ok (.aload_n 0, 1) := by decide +kernel
theorem dX9_answer_264 : decode cX9_answer 264 = .ok (.getfield 207, 3) := by decide +kernel
theorem dX9_answer_267 : decode cX9_answer 267 = .ok (.iconst 1, 1) := by decide +kernel
theorem dX9_answer_268 : decode cX9_answer 268 = .ok (.isub, 1) := by decide +kernel
theorem dX9_answer_269 : decode cX9_answer 269 = .ok (.baload, 1) := by decide +kernel
theorem dX9_answer_270 : decode cX9_answer 270 = .ok (.ifCond .ne 7, 3) := by decide +kernel
theorem dX9_answer_273 : decode cX9_answer 273 = .ok (.iconst (-1), 1) := by decide +kernel
theorem dX9_answer_274 : decode cX9_answer 274 = .ok (.goto 4, 3) := by decide +kernel
theorem dX9_answer_277 : decode cX9_answer 277 = .ok (.iload_n 3, 1) := by decide +kernel
theorem dX9_answer_278 : decode cX9_answer 278 = .ok (.ireturn, 1) := by decide +kernel
theorem dX9_run_0 : decode cX9_run 0 = .ok (.aload_n 0, 1) := by decide +kernel
theorem dX9_run_1 : decode cX9_run 1 = .ok (.iconst 0, 1) := by decide +kernel
theorem dX9_run_2 : decode cX9_run 2 = .ok (.putfield 207, 3) := by decide +kernel
theorem dX9_run_5 : decode cX9_run 5 = .ok (.aload_n 0, 1) := by decide +kernel
theorem dX9_run_6 : decode cX9_run 6 = .ok (.iconst (-1), 1) := by decide +kernel
theorem dX9_run_7 : decode cX9_run 7 = .ok (.putfield 228, 3) := by decide +kernel
theorem dX9_run_10 : decode cX9_run 10 = .ok (.aload_n 0, 1) := by decide +kernel
theorem dX9_run_11 : decode cX9_run 11 = .ok (.iconst 0, 1) := by decide +kernel
theorem dX9_run_12 : decode cX9_run 12 = .ok (.putfield 210, 3) := by decide +kernel
theorem dX9_run_15 : decode cX9_run 15 = .ok (.iload_n 1, 1) := by decide +kernel
theorem dX9_run_16 : decode cX9_run 16 = .ok (.istore_n 3, 1) := by decide +kernel
theorem dX9_run_17 : decode cX9_run 17 = .ok (.iload_n 2, 1) := by decide +kernel
theorem dX9_run_18 : decode cX9_run 18 = .ok (.istore 4, 2) := by decide +kernel
theorem dX9_run_20 : decode cX9_run 20 = .ok (.aload_n 0, 1) := by decide +kernel
theorem dX9_run_21 : decode cX9_run 21 = .ok (.iload_n 3, 1) := by decide +kernel
theorem dX9_run_22 : decode cX9_run 22 = .ok (.iload 4, 2) := by decide +kernel
theorem dX9_run_24 : decode cX9_run 24 = .ok (.invokevirtual 237, 3) := by decide +kernel
theorem dX9_run_27 : decode cX9_run 27 = .ok (.istore 5, 2) := by decide +kernel
theorem dX9_run_29 : decode cX9_run 29 = .ok (.iload 5, 2) := by decide +kernel
theorem dX9_run_31 : decode cX9_run 31 = .ok (.bipush (-2), 2) := by decide +kernel
theorem dX9_run_33 : decode cX9_run 33 = .ok (.if_icmp .eq 17, 3) := by decide +kernel
theorem dX9_run_36 : decode cX9_run 36 = .ok (.aload_n 0, 1) := by decide +kernel
theorem dX9_run_37 : decode cX9_run 37 = .ok (.getfield 207, 3) := by decide +kernel
theorem dX9_run_40 : decode cX9_run 40 = .ok (.ifCond .le 220, 3) := by decide +kernel
theorem dX9_run_43 : decode cX9_run 43 = .ok (.iload 5, 2) := by decide +kernel
theorem dX9_run_45 : decode cX9_run 45 = .ok (.bipush (-3), 2) := by decide +kernel
theorem dX9_run_47 : decode cX9_run 47 = .ok (.if_icmp .eq 213, 3) := by decide +kernel
theorem dX9_run_50 : decode cX9_run 50 = .ok (.iload 5, 2) := by decide +kernel
theorem dX9_run_52 : decode cX9_run 52 = .ok (.bipush (-2), 2) := by decide +kernel
theorem dX9_run_54 : decode cX9_run 54 = .ok (.if_icmp .ne 33, 3) := by decide +kernel
theorem dX9_run_57 : decode cX9_run 57 = .ok (.aload_n 0, 1) := by decide +kernel
theorem dX9_run_58 : decode cX9_run 58 = .ok (.invokevirtual 240, 3) := by decide +kernel
theorem dX9_run_61 : decode cX9_run 61 = .ok (.istore_n 3, 1) := by decide +kernel
theorem dX9_run_62 : decode cX9_run 62 = .ok (.aload_n 0, 1) := by decide +kernel
theorem dX9_run_63 : decode cX9_run 63 = .ok (.getfield 48, 3) := by decide +kernel
theorem dX9_run_66 : decode cX9_run 66 = .ok (.aload_n 0, 1) := by decide +kernel
theorem dX9_run_67 : decode cX9_run 67 = .ok (.getfield 207, 3) := by decide +kernel
theorem dX9_run_70 : decode cX9_run 70 = .ok (.iconst 1, 1) := by decide +kernel
theorem dX9_run_71 : decode cX9_run 71 = .ok (.isub, 1) := by decide +kernel
theorem dX9_run_72 : decode cX9_run 72 = .ok (.iaload, 1) := by decide +kernel
theorem dX9_run_73 : decode cX9_run 73 = .ok (.istore 4, 2) := by decide +kernel
theorem dX9_run_75 : decode cX9_run 75 = .ok (.aload_n 0, 1) := by decide +kernel
theorem dX9_run_76 : decode cX9_run 76 = .ok (.iload_n 3, 1) := by decide +kernel
theorem dX9_run_77 : decode cX9_run 77 = .ok (.iload 4, 2) := by decide +kernel
theorem dX9_run_79 : decode cX9_run 79 = .ok (.invokevirtual 237, 3) := by decide +kernel
theorem dX9_run_82 : decode cX9_run 82 = .ok (.istore 5, 2) := by decide +kernel
theorem dX9_run_84 : decode cX9_run 84 = .ok (.goto (-55), 3) := by decide +kernel
theorem dX9_run_87 : decode cX9_run 87 = .ok (.aload_n 0, 1) := by decide +kernel
theorem dX9_run_88 : decode cX9_run 88 = .ok (.getfield 45, 3) := by decide +kernel
theorem dX9_run_91 : decode cX9_run 91 = .ok (.aload_n 0, 1) := by decide +kernel
theorem dX9_run_92 : decode cX9_run 92 = .ok (.getfield 207, 3) := by decide +kernel
theorem dX9_run_95 : decode cX9_run 95 = .ok (.iconst 1, 1) := by decide +kernel
theorem dX9_run_96 : decode cX9_run 96 = .ok (.isub, 1) := by decide +kernel
theorem dX9_run_97 : decode cX9_run 97 = .ok (.iaload, 1) := by decide +kernel
theorem dX9_run_98 : decode cX9_run 98 = .ok (.istore 6, 2) := by decide +kernel
theorem dX9_run_100 : decode cX9_run 100 = .ok (.iload 5, 2) := by decide +kernel
theorem dX9_run_102 : decode cX9_run 102 = .ok (.istore 7, 2) := by decide +kernel
theorem dX9_run_104 : decode cX9_run 104 = .ok (.aload_n 0, 1) := by decide +kernel
theorem dX9_run_105 : decode cX9_run 105 = .ok (.iload 7, 2) := by decide +kernel
theorem dX9_run_107 : decode cX9_run 107 = .ok (.invokevirtual 243, 3) := by decide +kernel
theorem dX9_run_110 : decode cX9_run 110 = .ok (.istore 5, 2) := by decide +kernel
theorem dX9_run_112 : decode cX9_run 112 = .ok (.iload 5, 2) := by decide +kernel
theorem dX9_run_114 : decode cX9_run 114 = .ok (.bipush (-2), 2) := by decide +kernel
theorem dX9_run_116 : decode cX9_run 116 = .ok (.if_icmp .eq 16, 3) := by decide +kernel
theorem dX9_run_119 : decode cX9_run 119 = .ok (.aload_n 0, 1) := by decide +kernel
theorem dX9_run_120 : decode cX9_run 120 = .ok (.dup, 1) := by decide +kernel
theorem dX9_run_121 : decode cX9_run 121 = .ok (.getfield 207, 3) := by decide +kernel
theorem dX9_run_124 : decode cX9_run 124 = .ok (.iconst 1, 1) := by decide +kernel
theorem dX9_run_125 : decode cX9_run 125 = .ok (.isub, 1) := by decide +kernel
theorem dX9_run_126 : decode cX9_run 126 = .ok (.putfield 207, 3) := by decide +kernel
theorem dX9_run_129 : decode cX9_run 129 = .ok (.goto 128, 3) := by decide +kernel
theorem dX9_run_132 : decode cX9_run 132 = .ok (.aload_n 0, 1) := by decide +kernel
theorem dX9_run_133 : decode cX9_run 133 = .ok (.getfield 17, 3) := by decide +kernel
theorem dX9_run_136 : decode cX9_run 136 = .ok (.iload 6, 2) := by decide +kernel
theorem dX9_run_138 : decode cX9_run 138 = .ok (.iaload, 1) := by decide +kernel
theorem dX9_run_139 : decode cX9_run 139 = .ok (.iconst 4, 1) := by decide +kernel
theorem dX9_run_140 : decode cX9_run 140 = .ok (.if_icmp .eq 14, 3) := by decide +kernel
theorem dX9_run_143 : decode cX9_run 143 = .ok (.aload_n 0, 1) := by decide +kernel
theorem dX9_run_144 : decode cX9_run 144 = .ok (.getfield 17, 3) := by decide +kernel
end
section
theorem dX9_run_147 : decode cX9_run 147 = .ok (.iload 6, 2) := by decide +kernel
theorem dX9_run_149 : decode cX9_run 149 = .ok (.iaload, 1) := by decide +kernel
theorem dX9_run_150 : decode cX9_run 150 = .ok (.iconst 5, 1) := by decide +kernel
theorem dX9_run_151 : decode cX9_run 151 = .ok (.if_icmp .ne 46, 3) := by decide +kernel
theorem dX9_run_154 : decode cX9_run 154 = .ok (.aload_n 0, 1) := by decide +kernel
theorem dX9_run_155 : decode cX9_run 155 = .ok (.getfield 48, 3) := by decide +kernel
theorem dX9_run_158 : decode cX9_run 158 = .ok (.aload_n 0, 1) := by decide +kernel
theorem dX9_run_159 : decode cX9_run 159 = .ok (.getfield 207, 3) := by decide +kernel
theorem dX9_run_162 : decode cX9_run 162 = .ok (.iconst 1, 1) := by decide +kernel
theorem dX9_run_163 : decode cX9_run 163 = .ok (.isub, 1) := by decide +kernel
theorem dX9_run_164 : decode cX9_run 164 = .ok (.iload 7, 2) := by decide +kernel
theorem dX9_run_166 : decode cX9_run 166 = .ok (.iastore, 1) := by decide +kernel
theorem dX9_run_167 : decode cX9_run 167 = .ok (.aload_n 0, 1) := by decide +kernel
theorem dX9_run_168 : decode cX9_run 168 = .ok (.getfield 51, 3) := by decide +kernel
theorem dX9_run_171 : decode cX9_run 171 = .ok (.aload_n 0, 1) := by decide +kernel
theorem dX9_run_172 : decode cX9_run 172 = .ok (.getfield 207, 3) := by decide +kernel
theorem dX9_run_175 : decode cX9_run 175 = .ok (.iconst 1, 1) := by decide +kernel
theorem dX9_run_176 : decode cX9_run 176 = .ok (.isub, 1) := by decide +kernel
theorem dX9_run_177 : decode cX9_run 177 = .ok (.aload_n 0, 1) := by decide +kernel
theorem dX9_run_178 : decode cX9_run 178 = .ok (.getfield 210, 3) := by decide +kernel
theorem dX9_run_181 : decode cX9_run 181 = .ok (.iastore, 1) := by decide +kernel
theorem dX9_run_182 : decode cX9_run 182 = .ok (.aload_n 0, 1) := by decide +kernel
theorem dX9_run_183 : decode cX9_run 183 = .ok (.getfield 54, 3) := by decide +kernel
theorem dX9_run_186 : decode cX9_run 186 = .ok (.aload_n 0, 1) := by decide +kernel
theorem dX9_run_187 : decode cX9_run 187 = .ok (.getfield 207, 3) := by decide +kernel
theorem dX9_run_190 : decode cX9_run 190 = .ok (.iconst 1, 1) := by decide +kernel
theorem dX9_run_191 : decode cX9_run 191 = .ok (.isub, 1) := by decide +kernel
theorem dX9_run_192 : decode cX9_run 192 = .ok (.iconst 1, 1) := by decide +kernel
theorem dX9_run_193 : decode cX9_run 193 = .ok (.bastore, 1) := by decide +kernel
theorem dX9_run_194 : decode cX9_run 194 = .ok (.goto 63, 3) := by decide +kernel
theorem dX9_run_197 : decode cX9_run 197 = .ok (.aload_n 0, 1) := by decide +kernel
theorem dX9_run_198 : decode cX9_run 198 = .ok (.getfield 17, 3) := by decide +kernel
theorem dX9_run_201 : decode cX9_run 201 = .ok (.iload 6, 2) := by decide +kernel
theorem dX9_run_203 : decode cX9_run 203 = .ok (.iaload, 1) := by decide +kernel
theorem dX9_run_204 : decode cX9_run 204 = .ok (.iconst 2, 1) := by decide +kernel
theorem dX9_run_205 : decode cX9_run 205 = .ok (.if_icmp .ne 8, 3) := by decide +kernel
theorem dX9_run_208 : decode cX9_run 208 = .ok (.iload 7, 2) := by decide +kernel
theorem dX9_run_210 : decode cX9_run 210 = .ok (.goto 14, 3) := by decide +kernel
theorem dX9_run_213 : decode cX9_run 213 = .ok (.aload_n 0, 1) := by decide +kernel
theorem dX9_run_214 : decode cX9_run 214 = .ok (.getfield 48, 3) := by decide +kernel
theorem dX9_run_217 : decode cX9_run 217 = .ok (.aload_n 0, 1) := by decide +kernel
theorem dX9_run_218 : decode cX9_run 218 = .ok (.getfield 207, 3) := by decide +kernel
theorem dX9_run_221 : decode cX9_run 221 = .ok (.iconst 1, 1) := by decide +kernel
theorem dX9_run_222 : decode cX9_run 222 = .ok (.isub, 1) := by decide +kernel
theorem dX9_run_223 : decode cX9_run 223 = .ok (.iaload, 1) := by decide +kernel
theorem dX9_run_224 : decode cX9_run 224 = .ok (.istore 4, 2) := by decide +kernel
theorem dX9_run_226 : decode cX9_run 226 = .ok (.aload_n 0, 1) := by decide +kernel
theorem dX9_run_227 : decode cX9_run 227 = .ok (.dup, 1) := by decide +kernel
theorem dX9_run_228 : decode cX9_run 228 = .ok (.getfield 207, 3) := by decide +kernel
theorem dX9_run_231 : decode cX9_run 231 = .ok (.iconst 1, 1) := by decide +kernel
theorem dX9_run_232 : decode cX9_run 232 = .ok (.isub, 1) := by decide +kernel
theorem dX9_run_233 : decode cX9_run 233 = .ok (.putfield 207, 3) := by decide +kernel
theorem dX9_run_236 : decode cX9_run 236 = .ok (.aload_n 0, 1) := by decide +kernel
theorem dX9_run_237 : decode cX9_run 237 = .ok (.iload 6, 2) := by decide +kernel
theorem dX9_run_239 : decode cX9_run 239 = .ok (.invokestatic 234, 3) := by decide +kernel
theorem dX9_run_242 : decode cX9_run 242 = .ok (.aload_n 0, 1) := by decide +kernel
theorem dX9_run_243 : decode cX9_run 243 = .ok (.getfield 23, 3) := by decide +kernel
theorem dX9_run_246 : decode cX9_run 246 = .ok (.iload 6, 2) := by decide +kernel
theorem dX9_run_248 : decode cX9_run 248 = .ok (.iaload, 1) := by decide +kernel
theorem dX9_run_249 : decode cX9_run 249 = .ok (.iadd, 1) := by decide +kernel
theorem dX9_run_250 : decode cX9_run 250 = .ok (.iload 4, 2) := by decide +kernel
theorem dX9_run_252 : decode cX9_run 252 = .ok (.invokevirtual 237, 3) := by decide +kernel
theorem dX9_run_255 : decode cX9_run 255 = .ok (.istore 5, 2) := by decide +kernel
theorem dX9_run_257 : decode cX9_run 257 = .ok (.goto (-228), 3) := by decide +kernel
theorem dX9_run_260 : decode cX9_run 260 = .ok (.iload 5, 2) := by decide +kernel
theorem dX9_run_262 : decode cX9_run 262 = .ok (.ireturn, 1) := by decide +kernel
theorem dX9_keep_0 : decode cX9_keep 0 = .ok (.aload_n 0, 1) := by decide +kernel
theorem dX9_keep_1 : decode cX9_keep 1 = .ok (.getfield 69, 3) := by decide +kernel
theorem dX9_keep_4 : decode cX9_keep 4 = .ok (.aload_n 0, 1) := by decide +kernel
theorem dX9_keep_5 : decode cX9_keep 5 = .ok (.getfield 246, 3) := by decide +kernel
theorem dX9_keep_8 : decode cX9_keep 8 = .ok (.iload_n 1, 1) := by decide +kernel
theorem dX9_keep_9 : decode cX9_keep 9 = .ok (.iastore, 1) := by decide +kernel
theorem dX9_keep_10 : decode cX9_keep 10 = .ok (.aload_n 0, 1) := by decide +kernel
theorem dX9_keep_11 : decode cX9_keep 11 = .ok (.getfield 72, 3) := by decide +kernel
theorem dX9_keep_14 : decode cX9_keep 14 = .ok (.aload_n 0, 1) := by decide +kernel
theorem dX9_keep_15 : decode cX9_keep 15 = .ok (.getfield 246, 3) := by decide +kernel
theorem dX9_keep_18 : decode cX9_keep 18 = .ok (.iload_n 2, 1) := by decide +kernel
theorem dX9_keep_19 : decode cX9_keep 19 = .ok (.iastore, 1) := by decide +kernel
theorem dX9_keep_20 : decode cX9_keep 20 = .ok (.aload_n 0, 1) := by decide +kernel
theorem dX9_keep_21 : decode cX9_keep 21 = .ok (.getfield 75, 3) := by decide +kernel
theorem dX9_keep_24 : decode cX9_keep 24 = .ok (.aload_n 0, 1) := by decide +kernel
theorem dX9_keep_25 : decode cX9_keep 25 = .ok (.getfield 246, 3) := by decide +kernel
theorem dX9_keep_28 : decode cX9_keep 28 = .ok (.iload_n 3, 1) := by decide +kernel
theorem dX9_keep_29 : decode cX9_keep 29 = .ok (.iastore, 1) := by decide +kernel
theorem dX9_keep_30 : decode cX9_keep 30 = .ok (.aload_n 0, 1) := by decide +kernel
theorem dX9_keep_31 : decode cX9_keep 31 = .ok (.getfield 78, 3) := by decide +kernel
theorem dX9_keep_34 : decode cX9_keep 34 = .ok (.aload_n 0, 1) := by decide +kernel
theorem dX9_keep_35 : decode cX9_keep 35 = .ok (.getfield 246, 3) := by decide +kernel
theorem dX9_keep_38 : decode cX9_keep 38 = .ok (.iload 4, 2) := by decide +kernel
theorem dX9_keep_40 : decode cX9_keep 40 = .ok (.iastore, 1) := by decide +kernel
theorem dX9_keep_41 : decode cX9_keep 41 = .ok (.aload_n 0, 1) := by decide +kernel
theorem dX9_keep_42 : decode cX9_keep 42 = .ok (.getfield 81, 3) := by decide +kernel
theorem dX9_keep_45 : decode cX9_keep 45 = .ok (.iload 4, 2) := by decide +kernel
theorem dX9_keep_47 : decode cX9_keep 47 = .ok (.aload_n 0, 1) := by decide +kernel
theorem dX9_keep_48 : decode cX9_keep 48 = .ok (.getfield 246, 3) := by decide +kernel
theorem dX9_keep_51 : decode cX9_keep 51 = .ok (.iastore, 1) := by decide +kernel
theorem dX9_keep_52 : decode cX9_keep 52 = .ok (.aload_n 0, 1) := by decide +kernel
theorem dX9_keep_53 : decode cX9_keep 53 = .ok (.getfield 84, 3) := by decide +kernel
theorem dX9_keep_56 : decode cX9_keep 56 = .ok (.iload 4, 2) := by decide +kernel
theorem dX9_keep_58 : decode cX9_keep 58 = .ok (.iconst 0, 1) := by decide +kernel
theorem dX9_keep_59 : decode cX9_keep 59 = .ok (.iastore, 1) := by decide +kernel
theorem dX9_keep_60 : decode cX9_keep 60 = .ok (.aload_n 0, 1) := by decide +kernel
theorem dX9_keep_61 : decode cX9_keep 61 = .ok (.dup, 1) := by decide +kernel
theorem dX9_keep_62 : decode cX9_keep 62 = .ok (.getfield 246, 3) := by decide +kernel
theorem dX9_keep_65 : decode cX9_keep 65 = .ok (.iconst 1, 1) := by decide +kernel
theorem dX9_keep_66 : decode cX9_keep 66 = .ok (.iadd, 1) := by decide +kernel
theorem dX9_keep_67 : decode cX9_keep 67 = .ok (.putfield 246, 3) := by decide +kernel
theorem dX9_keep_70 : decode cX9_keep 70 = .ok (.return_, 1) := by decide +kernel
theorem dX9_grow_0 : decode cX9_grow 0 = .ok (.aload_n 0, 1) := by decide +kernel
theorem dX9_grow_1 : decode cX9_grow 1 = .ok (.iconst 1, 1) := by decide +kernel
theorem dX9_grow_2 : decode cX9_grow 2 = .ok (.putfield 217, 3) := by decide +kernel
theorem dX9_grow_5 : decode cX9_grow 5 = .ok (.aload_n 0, 1) := by decide +kernel
theorem dX9_grow_6 : decode cX9_grow 6 = .ok (.iload_n 1, 1) := by decide +kernel
theorem dX9_grow_7 : decode cX9_grow 7 = .ok (.iload_n 2, 1) := by decide +kernel
theorem dX9_grow_8 : decode cX9_grow 8 = .ok (.iload_n 3, 1) := by decide +kernel
theorem dX9_grow_9 : decode cX9_grow 9 = .ok (.iconst 0, 1) := by decide +kernel
theorem dX9_grow_10 : decode cX9_grow 10 = .ok (.invokevirtual 249, 3) := by decide +kernel
theorem dX9_grow_13 : decode cX9_grow 13 = .ok (.iconst 0, 1) := by decide +kernel
theorem dX9_grow_14 : decode cX9_grow 14 = .ok (.istore 4, 2) := by decide +kernel
theorem dX9_grow_16 : decode cX9_grow 16 = .ok (.iload 4, 2) := by decide +kernel
theorem dX9_grow_18 : decode cX9_grow 18 = .ok (.ifCond .lt 134, 3) := by decide +kernel
theorem dX9_grow_21 : decode cX9_grow 21 = .ok (.aload_n 0, 1) := by decide +kernel
theorem dX9_grow_22 : decode cX9_grow 22 = .ok (.getfield 246, 3) := by decide +kernel
theorem dX9_grow_25 : decode cX9_grow 25 = .ok (.bipush 60, 2) := by decide +kernel
theorem dX9_grow_27 : decode cX9_grow 27 = .ok (.if_icmp .ge 125, 3) := by decide +kernel
theorem dX9_grow_30 : decode cX9_grow 30 = .ok (.aload_n 0, 1) := by decide +kernel
theorem dX9_grow_31 : decode cX9_grow 31 = .ok (.getfield 81, 3) := by decide +kernel
theorem dX9_grow_34 : decode cX9_grow 34 = .ok (.iload 4, 2) := by decide +kernel
theorem dX9_grow_36 : decode cX9_grow 36 = .ok (.iaload, 1) := by decide +kernel
theorem dX9_grow_37 : decode cX9_grow 37 = .ok (.istore 5, 2) := by decide +kernel
theorem dX9_grow_39 : decode cX9_grow 39 = .ok (.aload_n 0, 1) := by decide +kernel
theorem dX9_grow_40 : decode cX9_grow 40 = .ok (.bipush 64, 2) := by decide +kernel
theorem dX9_grow_42 : decode cX9_grow 42 = .ok (.aload_n 0, 1) := by decide +kernel
theorem dX9_grow_43 : decode cX9_grow 43 = .ok (.getfield 69, 3) := by decide +kernel
theorem dX9_grow_46 : decode cX9_grow 46 = .ok (.iload 5, 2) := by decide +kernel
theorem dX9_grow_48 : decode cX9_grow 48 = .ok (.iaload, 1) := by decide +kernel
theorem dX9_grow_49 : decode cX9_grow 49 = .ok (.imul, 1) := by decide +kernel
theorem dX9_grow_50 : decode cX9_grow 50 = .ok (.aload_n 0, 1) := by decide +kernel
theorem dX9_grow_51 : decode cX9_grow 51 = .ok (.getfield 33, 3) := by decide +kernel
theorem dX9_grow_54 : decode cX9_grow 54 = .ok (.aload_n 0, 1) := by decide +kernel
theorem dX9_grow_55 : decode cX9_grow 55 = .ok (.getfield 69, 3) := by decide +kernel
theorem dX9_grow_58 : decode cX9_grow 58 = .ok (.iload 5, 2) := by decide +kernel
theorem dX9_grow_60 : decode cX9_grow 60 = .ok (.iaload, 1) := by decide +kernel
theorem dX9_grow_61 : decode cX9_grow 61 = .ok (.iaload, 1) := by decide +kernel
theorem dX9_grow_62 : decode cX9_grow 62 = .ok (.iadd, 1) := by decide +kernel
theorem dX9_grow_63 : decode cX9_grow 63 = .ok (.iconst 1, 1) := by decide +kernel
theorem dX9_grow_64 : decode cX9_grow 64 = .ok (.isub, 1) := by decide +kernel
theorem dX9_grow_65 : decode cX9_grow 65 = .ok (.aload_n 0, 1) := by decide +kernel
theorem dX9_grow_66 : decode cX9_grow 66 = .ok (.getfield 72, 3) := by decide +kernel
theorem dX9_grow_69 : decode cX9_grow 69 = .ok (.iload 5, 2) := by decide +kernel
theorem dX9_grow_71 : decode cX9_grow 71 = .ok (.iaload, 1) := by decide +kernel
theorem dX9_grow_72 : decode cX9_grow 72 = .ok (.invokevirtual 253, 3) := by decide +kernel
theorem dX9_grow_75 : decode cX9_grow 75 = .ok (.istore 6, 2) := by decide +kernel
theorem dX9_grow_77 : decode cX9_grow 77 = .ok (.aload_n 0, 1) := by decide +kernel
theorem dX9_grow_78 : decode cX9_grow 78 = .ok (.getfield 84, 3) := by decide +kernel
theorem dX9_grow_81 : decode cX9_grow 81 = .ok (.iload 4, 2) := by decide +kernel
theorem dX9_grow_83 : decode cX9_grow 83 = .ok (.iaload, 1) := by decide +kernel
theorem dX9_grow_84 : decode cX9_grow 84 = .ok (.istore 7, 2) := by decide +kernel
theorem dX9_grow_86 : decode cX9_grow 86 = .ok (.iload 7, 2) := by decide +kernel
theorem dX9_grow_88 : decode cX9_grow 88 = .ok (.aload_n 0, 1) := by decide +kernel
theorem dX9_grow_89 : decode cX9_grow 89 = .ok (.getfield 210, 3) := by decide +kernel
theorem dX9_grow_92 : decode cX9_grow 92 = .ok (.if_icmp .ge 54, 3) := by decide +kernel
theorem dX9_grow_95 : decode cX9_grow 95 = .ok (.iload 7, 2) := by decide +kernel
theorem dX9_grow_97 : decode cX9_grow 97 = .ok (.bipush 64, 2) := by decide +kernel
theorem dX9_grow_99 : decode cX9_grow 99 = .ok (.if_icmp .ge 47, 3) := by decide +kernel
theorem dX9_grow_102 : decode cX9_grow 102 = .ok (.aload_n 0, 1) := by decide +kernel
theorem dX9_grow_103 : decode cX9_grow 103 = .ok (.getfield 84, 3) := by decide +kernel
theorem dX9_grow_106 : decode cX9_grow 106 = .ok (.iload 4, 2) := by decide +kernel
theorem dX9_grow_108 : decode cX9_grow 108 = .ok (.dup2, 1) := by decide +kernel
theorem dX9_grow_109 : decode cX9_grow 109 = .ok (.iaload, 1) := by decide +kernel
theorem dX9_grow_110 : decode cX9_grow 110 = .ok (.iconst 1, 1) := by decide +kernel
theorem dX9_grow_111 : decode cX9_grow 111 = .ok (.iadd, 1) := by decide +kernel
theorem dX9_grow_112 : decode cX9_grow 112 = .ok (.iastore, 1) := by decide +kernel
theorem dX9_grow_113 : decode cX9_grow 113 = .ok (.iinc 4 1, 3) := by decide +kernel
theorem dX9_grow_116 : decode cX9_grow 116 = .ok (.aload_n 0, 1) := by decide +kernel
theorem dX9_grow_117 : decode cX9_grow 117 = .ok (.aload_n 0, 1) := by decide +kernel
theorem dX9_grow_118 : decode cX9_grow 118 = .ok (.getfield 60, 3) := by decide +kernel
theorem dX9_grow_121 : decode cX9_grow 121 = .ok (.iload 7, 2) := by decide +kernel
theorem dX9_grow_123 : decode cX9_grow 123 = .ok (.iaload, 1) := by decide +kernel
theorem dX9_grow_124 : decode cX9_grow 124 = .ok (.aload_n 0, 1) := by decide +kernel
theorem dX9_grow_125 : decode cX9_grow 125 = .ok (.getfield 63, 3) := by decide +kernel
theorem dX9_grow_128 : decode cX9_grow 128 = .ok (.iload 7, 2) := by decide +kernel
theorem dX9_grow_130 : decode cX9_grow 130 = .ok (.iaload, 1) := by decide +kernel
theorem dX9_grow_131 : decode cX9_grow 131 = .ok (.aload_n 0, 1) := by decide +kernel
theorem dX9_grow_132 : decode cX9_grow 132 = .ok (.getfield 66, 3) := by decide +kernel
theorem dX9_grow_135 : decode cX9_grow 135 = .ok (.iload 7, 2) := by decide +kernel
theorem dX9_grow_137 : decode cX9_grow 137 = .ok (.iaload, 1) := by decide +kernel
theorem dX9_grow_138 : decode cX9_grow 138 = .ok (.iload 4, 2) := by decide +kernel
theorem dX9_grow_140 : decode cX9_grow 140 = .ok (.invokevirtual 249, 3) := by decide +kernel
theorem dX9_grow_143 : decode cX9_grow 143 = .ok (.goto 6, 3) := by decide +kernel
theorem dX9_grow_146 : decode cX9_grow 146 = .ok (.iinc 4 (-1), 3) := by decide +kernel
theorem dX9_grow_149 : decode cX9_grow 149 = .ok (.goto (-133), 3) := by decide +kernel
theorem dX9_grow_152 : decode cX9_grow 152 = .ok (.aload_n 0, 1) := by decide +kernel
theorem dX9_grow_153 : decode cX9_grow 153 = .ok (.iconst 0, 1) := by decide +kernel
theorem dX9_grow_154 : decode cX9_grow 154 = .ok (.putfield 217, 3) := by decide +kernel
theorem dX9_grow_157 : decode cX9_grow 157 = .ok (.return_, 1) := by decide +kernel
theorem dX9_match_0 : decode cX9_match 0 = .ok (.aload_n 0, 1) := by decide +kernel
theorem dX9_match_1 : decode cX9_match 1 = .ok (.iconst 0, 1) := by decide +kernel
theorem dX9_match_2 : decode cX9_match 2 = .ok (.putfield 246, 3) := by decide +kernel
theorem dX9_match_5 : decode cX9_match 5 = .ok (.aload_n 0, 1) := by decide +kernel
theorem dX9_match_6 : decode cX9_match 6 = .ok (.aload_n 0, 1) := by decide +kernel
theorem dX9_match_7 : decode cX9_match 7 = .ok (.iload_n 1, 1) := by decide +kernel
theorem dX9_match_8 : decode cX9_match 8 = .ok (.invokevirtual 191, 3) := by decide +kernel
theorem dX9_match_11 : decode cX9_match 11 = .ok (.ifCond .ne 7, 3) := by decide +kernel
theorem dX9_match_14 : decode cX9_match 14 = .ok (.iconst 1, 1) := by decide +kernel
theorem dX9_match_15 : decode cX9_match 15 = .ok (.goto 31, 3) := by decide +kernel
theorem dX9_match_18 : decode cX9_match 18 = .ok (.iload_n 2, 1) := by decide +kernel
theorem dX9_match_19 : decode cX9_match 19 = .ok (.iconst 0, 1) := by decide +kernel
theorem dX9_match_20 : decode cX9_match 20 = .ok (.aload_n 0, 1) := by decide +kernel
theorem dX9_match_21 : decode cX9_match 21 = .ok (.getfield 168, 3) := by decide +kernel
theorem dX9_match_24 : decode cX9_match 24 = .ok (.invokestatic 109, 3) := by decide +kernel
theorem dX9_match_27 : decode cX9_match 27 = .ok (.ifCond .ne 7, 3) := by decide +kernel
theorem dX9_match_30 : decode cX9_match 30 = .ok (.iconst 2, 1) := by decide +kernel
theorem dX9_match_31 : decode cX9_match 31 = .ok (.goto 15, 3) := by decide +kernel
theorem dX9_match_34 : decode cX9_match 34 = .ok (.aload_n 0, 1) := by decide +kernel
theorem dX9_match_35 : decode cX9_match 35 = .ok (.invokevirtual 204, 3) := by decide +kernel
theorem dX9_match_38 : decode cX9_match 38 = .ok (.ifCond .eq 7, 3) := by decide +kernel
theorem dX9_match_41 : decode cX9_match 41 = .ok (.iconst 3, 1) := by decide +kernel
theorem dX9_match_42 : decode cX9_match 42 = .ok (.goto 4, 3) := by decide +kernel
theorem dX9_match_45 : decode cX9_match 45 = .ok (.iconst 0, 1) := by decide +kernel
theorem dX9_match_46 : decode cX9_match 46 = .ok (.putfield 105, 3) := by decide +kernel
theorem dX9_match_49 : decode cX9_match 49 = .ok (.aload_n 0, 1) := by decide +kernel
theorem dX9_match_50 : decode cX9_match 50 = .ok (.getfield 105, 3) := by decide +kernel
theorem dX9_match_53 : decode cX9_match 53 = .ok (.ifCond .le 5, 3) := by decide +kernel
theorem dX9_match_56 : decode cX9_match 56 = .ok (.iconst 0, 1) := by decide +kernel
theorem dX9_match_57 : decode cX9_match 57 = .ok (.ireturn, 1) := by decide +kernel
theorem dX9_match_58 : decode cX9_match 58 = .ok (.aload_n 0, 1) := by decide +kernel
theorem dX9_match_59 : decode cX9_match 59 = .ok (.getfield 17, 3) := by decide +kernel
theorem dX9_match_62 : decode cX9_match 62 = .ok (.sipush 447, 3) := by decide +kernel
theorem dX9_match_65 : decode cX9_match 65 = .ok (.iconst 1, 1) := by decide +kernel
theorem dX9_match_66 : decode cX9_match 66 = .ok (.iastore, 1) := by decide +kernel
theorem dX9_match_67 : decode cX9_match 67 = .ok (.aload_n 0, 1) := by decide +kernel
theorem dX9_match_68 : decode cX9_match 68 = .ok (.getfield 20, 3) := by decide +kernel
theorem dX9_match_71 : decode cX9_match 71 = .ok (.sipush 447, 3) := by decide +kernel
theorem dX9_match_74 : decode cX9_match 74 = .ok (.iload_n 1, 1) := by decide +kernel
theorem dX9_match_75 : decode cX9_match 75 = .ok (.iastore, 1) := by decide +kernel
theorem dX9_match_76 : decode cX9_match 76 = .ok (.aload_n 0, 1) := by decide +kernel
theorem dX9_match_77 : decode cX9_match 77 = .ok (.sipush 447, 3) := by decide +kernel
theorem dX9_match_80 : decode cX9_match 80 = .ok (.iload_n 2, 1) := by decide +kernel
theorem dX9_match_81 : decode cX9_match 81 = .ok (.invokevirtual 253, 3) := by decide +kernel
theorem dX9_match_84 : decode cX9_match 84 = .ok (.istore_n 3, 1) := by decide +kernel
theorem dX9_match_85 : decode cX9_match 85 = .ok (.iload_n 3, 1) := by decide +kernel
theorem dX9_match_86 : decode cX9_match 86 = .ok (.bipush (-3), 2) := by decide +kernel
theorem dX9_match_88 : decode cX9_match 88 = .ok (.if_icmp .ne 9, 3) := by decide +kernel
theorem dX9_match_91 : decode cX9_match 91 = .ok (.aload_n 0, 1) := by decide +kernel
theorem dX9_match_92 : decode cX9_match 92 = .ok (.iconst 3, 1) := by decide +kernel
theorem dX9_match_93 : decode cX9_match 93 = .ok (.invokevirtual 165, 3) := by decide +kernel
theorem dX9_match_96 : decode cX9_match 96 = .ok (.ireturn, 1) := by decide +kernel
theorem dX9_match_97 : decode cX9_match 97 = .ok (.iload_n 3, 1) := by decide +kernel
theorem dX9_match_98 : decode cX9_match 98 = .ok (.ifCond .lt 10, 3) := by decide +kernel
theorem dX9_match_101 : decode cX9_match 101 = .ok (.aload_n 0, 1) := by decide +kernel
theorem dX9_match_102 : decode cX9_match 102 = .ok (.iload_n 1, 1) := by decide +kernel
theorem dX9_match_103 : decode cX9_match 103 = .ok (.iload_n 2, 1) := by decide +kernel
theorem dX9_match_104 : decode cX9_match 104 = .ok (.iload_n 3, 1) := by decide +kernel
theorem dX9_match_105 : decode cX9_match 105 = .ok (.invokevirtual 256, 3) := by decide +kernel
theorem dX9_match_108 : decode cX9_match 108 = .ok (.iload_n 3, 1) := by decide +kernel
theorem dX9_match_109 : decode cX9_match 109 = .ok (.ireturn, 1) := by decide +kernel
theorem dX9_memory_0 : decode cX9_memory 0 = .ok (.aload_n 0, 1) := by decide +kernel
theorem dX9_memory_1 : decode cX9_memory 1 = .ok (.iload_n 1, 1) := by decide +kernel
theorem dX9_memory_2 : decode cX9_memory 2 = .ok (.iconst 0, 1) := by decide +kernel
theorem dX9_memory_3 : decode cX9_memory 3 = .ok (.iconst 5, 1) := by decide +kernel
theorem dX9_memory_4 : decode cX9_memory 4 = .ok (.invokestatic 109, 3) := by decide +kernel
theorem dX9_memory_7 : decode cX9_memory 7 = .ok (.ifCond .eq 19, 3) := by decide +kernel
theorem dX9_memory_10 : decode cX9_memory 10 = .ok (.iload_n 2, 1) := by decide +kernel
theorem dX9_memory_11 : decode cX9_memory 11 = .ok (.iconst 0, 1) := by decide +kernel
theorem dX9_memory_12 : decode cX9_memory 12 = .ok (.aload_n 0, 1) := by decide +kernel
theorem dX9_memory_13 : decode cX9_memory 13 = .ok (.getfield 168, 3) := by decide +kernel
theorem dX9_memory_16 : decode cX9_memory 16 = .ok (.invokestatic 109, 3) := by decide +kernel
theorem dX9_memory_19 : decode cX9_memory 19 = .ok (.ifCond .eq 7, 3) := by decide +kernel
theorem dX9_memory_22 : decode cX9_memory 22 = .ok (.iconst 0, 1) := by decide +kernel
theorem dX9_memory_23 : decode cX9_memory 23 = .ok (.goto 4, 3) := by decide +kernel
theorem dX9_memory_26 : decode cX9_memory 26 = .ok (.iconst 1, 1) := by decide +kernel
theorem dX9_memory_27 : decode cX9_memory 27 = .ok (.putfield 105, 3) := by decide +kernel
theorem dX9_memory_30 : decode cX9_memory 30 = .ok (.aload_n 0, 1) := by decide +kernel
theorem dX9_memory_31 : decode cX9_memory 31 = .ok (.getfield 105, 3) := by decide +kernel
theorem dX9_memory_34 : decode cX9_memory 34 = .ok (.ifCond .le 7, 3) := by decide +kernel
theorem dX9_memory_37 : decode cX9_memory 37 = .ok (.iconst 0, 1) := by decide +kernel
theorem dX9_memory_38 : decode cX9_memory 38 = .ok (.goto 14, 3) := by decide +kernel
theorem dX9_memory_41 : decode cX9_memory 41 = .ok (.aload_n 0, 1) := by decide +kernel
theorem dX9_memory_42 : decode cX9_memory 42 = .ok (.getfield 42, 3) := by decide +kernel
theorem dX9_memory_45 : decode cX9_memory 45 = .ok (.bipush 21, 2) := by decide +kernel
theorem dX9_memory_47 : decode cX9_memory 47 = .ok (.iload_n 1, 1) := by decide +kernel
theorem dX9_memory_48 : decode cX9_memory 48 = .ok (.imul, 1) := by decide +kernel
theorem dX9_memory_49 : decode cX9_memory 49 = .ok (.iload_n 2, 1) := by decide +kernel
theorem dX9_memory_50 : decode cX9_memory 50 = .ok (.iadd, 1) := by decide +kernel
theorem dX9_memory_51 : decode cX9_memory 51 = .ok (.iaload, 1) := by decide +kernel
theorem dX9_memory_52 : decode cX9_memory 52 = .ok (.ireturn, 1) := by decide +kernel
theorem dX9_node_0 : decode cX9_node 0 = .ok (.aload_n 0, 1) := by decide +kernel
theorem dX9_node_1 : decode cX9_node 1 = .ok (.iload_n 1, 1) := by decide +kernel
theorem dX9_node_2 : decode cX9_node 2 = .ok (.iconst 0, 1) := by decide +kernel
theorem dX9_node_3 : decode cX9_node 3 = .ok (.aload_n 0, 1) := by decide +kernel
theorem dX9_node_4 : decode cX9_node 4 = .ok (.getfield 246, 3) := by decide +kernel
theorem dX9_node_7 : decode cX9_node 7 = .ok (.iconst 1, 1) := by decide +kernel
theorem dX9_node_8 : decode cX9_node 8 = .ok (.isub, 1) := by decide +kernel
theorem dX9_node_9 : decode cX9_node 9 = .ok (.invokestatic 109, 3) := by decide +kernel
theorem dX9_node_12 : decode cX9_node 12 = .ok (.ifCond .eq 16, 3) := by decide +kernel
theorem dX9_node_15 : decode cX9_node 15 = .ok (.iload_n 2, 1) := by decide +kernel
theorem dX9_node_16 : decode cX9_node 16 = .ok (.iconst 0, 1) := by decide +kernel
theorem dX9_node_17 : decode cX9_node 17 = .ok (.iconst 3, 1) := by decide +kernel
theorem dX9_node_18 : decode cX9_node 18 = .ok (.invokestatic 109, 3) := by decide +kernel
theorem dX9_node_21 : decode cX9_node 21 = .ok (.ifCond .eq 7, 3) := by decide +kernel
theorem dX9_node_24 : decode cX9_node 24 = .ok (.iconst 0, 1) := by decide +kernel
theorem dX9_node_25 : decode cX9_node 25 = .ok (.goto 4, 3) := by decide +kernel
theorem dX9_node_28 : decode cX9_node 28 = .ok (.iconst 1, 1) := by decide +kernel
theorem dX9_node_29 : decode cX9_node 29 = .ok (.putfield 105, 3) := by decide +kernel
theorem dX9_node_32 : decode cX9_node 32 = .ok (.aload_n 0, 1) := by decide +kernel
theorem dX9_node_33 : decode cX9_node 33 = .ok (.getfield 105, 3) := by decide +kernel
theorem dX9_node_36 : decode cX9_node 36 = .ok (.ifCond .le 5, 3) := by decide +kernel
theorem dX9_node_39 : decode cX9_node 39 = .ok (.iconst 0, 1) := by decide +kernel
theorem dX9_node_40 : decode cX9_node 40 = .ok (.ireturn, 1) := by decide +kernel
theorem dX9_node_41 : decode cX9_node 41 = .ok (.iload_n 2, 1) := by decide +kernel
theorem dX9_node_42 : decode cX9_node 42 = .ok (.ifCond .ne 12, 3) := by decide +kernel
theorem dX9_node_45 : decode cX9_node 45 = .ok (.aload_n 0, 1) := by decide +kernel
theorem dX9_node_46 : decode cX9_node 46 = .ok (.getfield 69, 3) := by decide +kernel
theorem dX9_node_49 : decode cX9_node 49 = .ok (.iload_n 1, 1) := by decide +kernel
theorem dX9_node_50 : decode cX9_node 50 = .ok (.iaload, 1) := by decide +kernel
theorem dX9_node_51 : decode cX9_node 51 = .ok (.goto 37, 3) := by decide +kernel
theorem dX9_node_54 : decode cX9_node 54 = .ok (.iload_n 2, 1) := by decide +kernel
theorem dX9_node_55 : decode cX9_node 55 = .ok (.iconst 1, 1) := by decide +kernel
theorem dX9_node_56 : decode cX9_node 56 = .ok (.if_icmp .ne 12, 3) := by decide +kernel
theorem dX9_node_59 : decode cX9_node 59 = .ok (.aload_n 0, 1) := by decide +kernel
theorem dX9_node_60 : decode cX9_node 60 = .ok (.getfield 72, 3) := by decide +kernel
theorem dX9_node_63 : decode cX9_node 63 = .ok (.iload_n 1, 1) := by decide +kernel
theorem dX9_node_64 : decode cX9_node 64 = .ok (.iaload, 1) := by decide +kernel
theorem dX9_node_65 : decode cX9_node 65 = .ok (.goto 23, 3) := by decide +kernel
theorem dX9_node_68 : decode cX9_node 68 = .ok (.iload_n 2, 1) := by decide +kernel
theorem dX9_node_69 : decode cX9_node 69 = .ok (.iconst 2, 1) := by decide +kernel
theorem dX9_node_70 : decode cX9_node 70 = .ok (.if_icmp .ne 12, 3) := by decide +kernel
theorem dX9_node_73 : decode cX9_node 73 = .ok (.aload_n 0, 1) := by decide +kernel
theorem dX9_node_74 : decode cX9_node 74 = .ok (.getfield 75, 3) := by decide +kernel
theorem dX9_node_77 : decode cX9_node 77 = .ok (.iload_n 1, 1) := by decide +kernel
theorem dX9_node_78 : decode cX9_node 78 = .ok (.iaload, 1) := by decide +kernel
theorem dX9_node_79 : decode cX9_node 79 = .ok (.goto 9, 3) := by decide +kernel
theorem dX9_node_82 : decode cX9_node 82 = .ok (.aload_n 0, 1) := by decide +kernel
theorem dX9_node_83 : decode cX9_node 83 = .ok (.getfield 78, 3) := by decide +kernel
theorem dX9_node_86 : decode cX9_node 86 = .ok (.iload_n 1, 1) := by decide +kernel
theorem dX9_node_87 : decode cX9_node 87 = .ok (.iaload, 1) := by decide +kernel
theorem dX9_node_88 : decode cX9_node 88 = .ok (.ireturn, 1) := by decide +kernel
theorem dX9_count_0 : decode cX9_count 0 = .ok (.aload_n 0, 1) := by decide +kernel
theorem dX9_count_1 : decode cX9_count 1 = .ok (.iload_n 1, 1) := by decide +kernel
theorem dX9_count_2 : decode cX9_count 2 = .ok (.iconst 0, 1) := by decide +kernel
theorem dX9_count_3 : decode cX9_count 3 = .ok (.iconst 5, 1) := by decide +kernel
theorem dX9_count_4 : decode cX9_count 4 = .ok (.invokestatic 109, 3) := by decide +kernel
theorem dX9_count_7 : decode cX9_count 7 = .ok (.ifCond .eq 7, 3) := by decide +kernel
theorem dX9_count_10 : decode cX9_count 10 = .ok (.iconst 0, 1) := by decide +kernel
theorem dX9_count_11 : decode cX9_count 11 = .ok (.goto 4, 3) := by decide +kernel
theorem dX9_count_14 : decode cX9_count 14 = .ok (.iconst 1, 1) := by decide +kernel
theorem dX9_count_15 : decode cX9_count 15 = .ok (.putfield 105, 3) := by decide +kernel
theorem dX9_count_18 : decode cX9_count 18 = .ok (.iload_n 1, 1) := by decide +kernel
theorem dX9_count_19 : decode cX9_count 19 = .ok (.tableswitch 67 0 5 #[37, 42, 47, 52, 57, 62], 37) := by decide +kernel
theorem dX9_count_56 : decode cX9_count 56 = .ok (.aload_n 0, 1) := by decide +kernel
theorem dX9_count_57 : decode cX9_count 57 = .ok (.invokevirtual 201, 3) := by decide +kernel
theorem dX9_count_60 : decode cX9_count 60 = .ok (.ireturn, 1) := by decide +kernel
theorem dX9_count_61 : decode cX9_count 61 = .ok (.aload_n 0, 1) := by decide +kernel
theorem dX9_count_62 : decode cX9_count 62 = .ok (.getfield 120, 3) := by decide +kernel
theorem dX9_count_65 : decode cX9_count 65 = .ok (.ireturn, 1) := by decide +kernel
theorem dX9_count_66 : decode cX9_count 66 = .ok (.aload_n 0, 1) := by decide +kernel
theorem dX9_count_67 : decode cX9_count 67 = .ok (.getfield 168, 3) := by decide +kernel
theorem dX9_count_70 : decode cX9_count 70 = .ok (.ireturn, 1) := by decide +kernel
theorem dX9_count_71 : decode cX9_count 71 = .ok (.aload_n 0, 1) := by decide +kernel
theorem dX9_count_72 : decode cX9_count 72 = .ok (.getfield 246, 3) := by decide +kernel
theorem dX9_count_75 : decode cX9_count 75 = .ok (.ireturn, 1) := by decide +kernel
theorem dX9_count_76 : decode cX9_count 76 = .ok (.aload_n 0, 1) := by decide +kernel
theorem dX9_count_77 : decode cX9_count 77 = .ok (.getfield 231, 3) := by decide +kernel
theorem dX9_count_80 : decode cX9_count 80 = .ok (.ireturn, 1) := by decide +kernel
theorem dX9_count_81 : decode cX9_count 81 = .ok (.aload_n 0, 1) := by decide +kernel
theorem dX9_count_82 : decode cX9_count 82 = .ok (.getfield 225, 3) := by decide +kernel
theorem dX9_count_85 : decode cX9_count 85 = .ok (.ireturn, 1) := by decide +kernel
theorem dX9_count_86 : decode cX9_count 86 = .ok (.iconst 0, 1) := by decide +kernel
theorem dX9_count_87 : decode cX9_count 87 = .ok (.ireturn, 1) := by decide +kernel
theorem dX9_full_0 : decode cX9_full 0 = .ok (.aload_n 0, 1) := by decide +kernel
theorem dX9_full_1 : decode cX9_full 1 = .ok (.iconst 0, 1) := by decide +kernel
theorem dX9_full_2 : decode cX9_full 2 = .ok (.putfield 105, 3) := by decide +kernel
theorem dX9_full_5 : decode cX9_full 5 = .ok (.iconst 0, 1) := by decide +kernel
theorem dX9_full_6 : decode cX9_full 6 = .ok (.istore_n 1, 1) := by decide +kernel
theorem dX9_full_7 : decode cX9_full 7 = .ok (.iconst 0, 1) := by decide +kernel
theorem dX9_full_8 : decode cX9_full 8 = .ok (.istore_n 2, 1) := by decide +kernel
theorem dX9_full_9 : decode cX9_full 9 = .ok (.iload_n 2, 1) := by decide +kernel
theorem dX9_full_10 : decode cX9_full 10 = .ok (.bipush 126, 2) := by decide +kernel
theorem dX9_full_12 : decode cX9_full 12 = .ok (.if_icmp .ge 28, 3) := by decide +kernel
theorem dX9_full_15 : decode cX9_full 15 = .ok (.aload_n 0, 1) := by decide +kernel
theorem dX9_full_16 : decode cX9_full 16 = .ok (.getfield 42, 3) := by decide +kernel
theorem dX9_full_19 : decode cX9_full 19 = .ok (.iload_n 2, 1) := by decide +kernel
theorem dX9_full_20 : decode cX9_full 20 = .ok (.iaload, 1) := by decide +kernel
theorem dX9_full_21 : decode cX9_full 21 = .ok (.bipush (-2), 2) := by decide +kernel
theorem dX9_full_23 : decode cX9_full 23 = .ok (.if_icmp .eq 9, 3) := by decide +kernel
theorem dX9_full_26 : decode cX9_full 26 = .ok (.iload_n 1, 1) := by decide +kernel
theorem dX9_full_27 : decode cX9_full 27 = .ok (.iconst 1, 1) := by decide +kernel
theorem dX9_full_28 : decode cX9_full 28 = .ok (.iadd, 1) := by decide +kernel
theorem dX9_full_29 : decode cX9_full 29 = .ok (.goto 4, 3) := by decide +kernel
theorem dX9_full_32 : decode cX9_full 32 = .ok (.iload_n 1, 1) := by decide +kernel
theorem dX9_full_33 : decode cX9_full 33 = .ok (.istore_n 1, 1) := by decide +kernel
theorem dX9_full_34 : decode cX9_full 34 = .ok (.iinc 2 1, 3) := by decide +kernel
theorem dX9_full_37 : decode cX9_full 37 = .ok (.goto (-28), 3) := by decide +kernel
theorem dX9_full_40 : decode cX9_full 40 = .ok (.aload_n 0, 1) := by decide +kernel
theorem dX9_full_41 : decode cX9_full 41 = .ok (.invokevirtual 201, 3) := by decide +kernel
theorem dX9_full_44 : decode cX9_full 44 = .ok (.ifCond .ne 5, 3) := by decide +kernel
theorem dX9_full_47 : decode cX9_full 47 = .ok (.fconst 0, 1) := by decide +kernel
theorem dX9_full_48 : decode cX9_full 48 = .ok (.freturn, 1) := by decide +kernel
theorem dX9_full_49 : decode cX9_full 49 = .ok (.iload_n 1, 1) := by decide +kernel
theorem dX9_full_50 : decode cX9_full 50 = .ok (.i2f, 1) := by decide +kernel
theorem dX9_full_51 : decode cX9_full 51 = .ok (.fstore_n 2, 1) := by decide +kernel
theorem dX9_full_52 : decode cX9_full 52 = .ok (.aload_n 0, 1) := by decide +kernel
theorem dX9_full_53 : decode cX9_full 53 = .ok (.invokevirtual 201, 3) := by decide +kernel
theorem dX9_full_56 : decode cX9_full 56 = .ok (.aload_n 0, 1) := by decide +kernel
theorem dX9_full_57 : decode cX9_full 57 = .ok (.getfield 168, 3) := by decide +kernel
theorem dX9_full_60 : decode cX9_full 60 = .ok (.iconst 1, 1) := by decide +kernel
theorem dX9_full_61 : decode cX9_full 61 = .ok (.iadd, 1) := by decide +kernel
theorem dX9_full_62 : decode cX9_full 62 = .ok (.imul, 1) := by decide +kernel
theorem dX9_full_63 : decode cX9_full 63 = .ok (.i2f, 1) := by decide +kernel
theorem dX9_full_64 : decode cX9_full 64 = .ok (.fstore_n 3, 1) := by decide +kernel
theorem dX9_full_65 : decode cX9_full 65 = .ok (.fload_n 2, 1) := by decide +kernel
theorem dX9_full_66 : decode cX9_full 66 = .ok (.fload_n 3, 1) := by decide +kernel
theorem dX9_full_67 : decode cX9_full 67 = .ok (.fdiv, 1) := by decide +kernel
theorem dX9_full_68 : decode cX9_full 68 = .ok (.freturn, 1) := by decide +kernel
theorem dJ9_max_7cf53_0 : decode cJ9_max_7cf53 0 = .ok (.iload_n 0, 1) := by decide +kernel
theorem dJ9_max_7cf53_1 : decode cJ9_max_7cf53 1 = .ok (.iload_n 1, 1) := by decide +kernel
theorem dJ9_max_7cf53_2 : decode cJ9_max_7cf53 2 = .ok (.if_icmp .lt 7, 3) := by decide +kernel
theorem dJ9_max_7cf53_5 : decode cJ9_max_7cf53 5 = .ok (.iload_n 0, 1) := by decide +kernel
theorem dJ9_max_7cf53_6 : decode cJ9_max_7cf53 6 = .ok (.goto 4, 3) := by decide +kernel
theorem dJ9_max_7cf53_9 : decode cJ9_max_7cf53 9 = .ok (.iload_n 1, 1) := by decide +kernel
theorem dJ9_max_7cf53_10 : decode cJ9_max_7cf53 10 = .ok (.ireturn, 1) := by decide +kernel
theorem dJ9_min_7cf53_0 : decode cJ9_min_7cf53 0 = .ok (.iload_n 0, 1) := by decide +kernel
theorem dJ9_min_7cf53_1 : decode cJ9_min_7cf53 1 = .ok (.iload_n 1, 1) := by decide +kernel
theorem dJ9_min_7cf53_2 : decode cJ9_min_7cf53 2 = .ok (.if_icmp .gt 7, 3) := by decide +kernel
theorem dJ9_min_7cf53_5 : decode cJ9_min_7cf53 5 = .ok (.iload_n 0, 1) := by decide +kernel
theorem dJ9_min_7cf53_6 : decode cJ9_min_7cf53 6 = .ok (.goto 4, 3) := by decide +kernel
theorem dJ9_min_7cf53_9 : decode cJ9_min_7cf53 9 = .ok (.iload_n 1, 1) := by decide +kernel
theorem dJ9_min_7cf53_10 : decode cJ9_min_7cf53 10 = .ok (.ireturn, 1) := by decide +kernel
theorem dJ0_length_8abf5_0 : decode cJ0_length_8abf5 0 = .ok (.aload_n 0, 1) := by decide +kernel
theorem dJ0_length_8abf5_1 : decode cJ0_length_8abf5 1 = .ok (.getfield 9, 3) := by decide +kernel
theorem dJ0_length_8abf5_4 : decode cJ0_length_8abf5 4 = .ok (.arraylength, 1) := by decide +kernel
theorem dJ0_length_8abf5_5 : decode cJ0_length_8abf5 5 = .ok (.aload_n 0, 1) := by decide +kernel
theorem dJ0_length_8abf5_6 : decode cJ0_length_8abf5 6 = .ok (.invokevirtual 335, 3) := by decide +kernel
theorem dJ0_length_8abf5_9 : decode cJ0_length_8abf5 9 = .ok (.ishr, 1) := by decide +kernel
theorem dJ0_length_8abf5_10 : decode cJ0_length_8abf5 10 = .ok (.ireturn, 1) := by decide +kernel
theorem dJ0_indexOf_0f7a4_0 : decode cJ0_indexOf_0f7a4 0 = .ok (.aload_n 0, 1) := by decide +kernel
theorem dJ0_indexOf_0f7a4_1 : decode cJ0_indexOf_0f7a4 1 = .ok (.iload_n 1, 1) := by decide +kernel
theorem dJ0_indexOf_0f7a4_2 : decode cJ0_indexOf_0f7a4 2 = .ok (.iconst 0, 1) := by decide +kernel
theorem dJ0_indexOf_0f7a4_3 : decode cJ0_indexOf_0f7a4 3 = .ok (.invokevirtual 633, 3) := by decide +kernel
theorem dJ0_indexOf_0f7a4_6 : decode cJ0_indexOf_0f7a4 6 = .ok (.ireturn, 1) := by decide +kernel
theorem dJ0_indexOf_7cf53_0 : decode cJ0_indexOf_7cf53 0 = .ok (.aload_n 0, 1) := by decide +kernel
theorem dJ0_indexOf_7cf53_1 : decode cJ0_indexOf_7cf53 1 = .ok (.invokevirtual 492, 3) := by decide +kernel
theorem dJ0_indexOf_7cf53_4 : decode cJ0_indexOf_7cf53 4 = .ok (.ifCond .eq 19, 3) := by decide +kernel
theorem dJ0_indexOf_7cf53_7 : decode cJ0_indexOf_7cf53 7 = .ok (.aload_n 0, 1) := by decide +kernel
theorem dJ0_indexOf_7cf53_8 : decode cJ0_indexOf_7cf53 8 = .ok (.getfield 9, 3) := by decide +kernel
theorem dJ0_indexOf_7cf53_11 : decode cJ0_indexOf_7cf53 11 = .ok (.iload_n 1, 1) := by decide +kernel
theorem dJ0_indexOf_7cf53_12 : decode cJ0_indexOf_7cf53 12 = .ok (.iload_n 2, 1) := by decide +kernel
theorem dJ0_indexOf_7cf53_13 : decode cJ0_indexOf_7cf53 13 = .ok (.aload_n 0, 1) := by decide +kernel
theorem dJ0_indexOf_7cf53_14 : decode cJ0_indexOf_7cf53 14 = .ok (.invokevirtual 505, 3) := by decide +kernel
theorem dJ0_indexOf_7cf53_17 : decode cJ0_indexOf_7cf53 17 = .ok (.invokestatic 637, 3) := by decide +kernel
theorem dJ0_indexOf_7cf53_20 : decode cJ0_indexOf_7cf53 20 = .ok (.goto 16, 3) := by decide +kernel
theorem dJ0_indexOf_7cf53_23 : decode cJ0_indexOf_7cf53 23 = .ok (.aload_n 0, 1) := by decide +kernel
theorem dJ0_indexOf_7cf53_24 : decode cJ0_indexOf_7cf53 24 = .ok (.getfield 9, 3) := by decide +kernel
theorem dJ0_indexOf_7cf53_27 : decode cJ0_indexOf_7cf53 27 = .ok (.iload_n 1, 1) := by decide +kernel
theorem dJ0_indexOf_7cf53_28 : decode cJ0_indexOf_7cf53 28 = .ok (.iload_n 2, 1) := by decide +kernel
theorem dJ0_indexOf_7cf53_29 : decode cJ0_indexOf_7cf53 29 = .ok (.aload_n 0, 1) := by decide +kernel
theorem dJ0_indexOf_7cf53_30 : decode cJ0_indexOf_7cf53 30 = .ok (.invokevirtual 505, 3) := by decide +kernel
theorem dJ0_indexOf_7cf53_33 : decode cJ0_indexOf_7cf53 33 = .ok (.invokestatic 640, 3) := by decide +kernel
theorem dJ0_indexOf_7cf53_36 : decode cJ0_indexOf_7cf53 36 = .ok (.ireturn, 1) := by decide +kernel
theorem dJ0_coder_7d493_0 : decode cJ0_coder_7d493 0 = .ok (.getstatic 38, 3) := by decide +kernel
theorem dJ0_coder_7d493_3 : decode cJ0_coder_7d493 3 = .ok (.ifCond .eq 10, 3) := by decide +kernel
theorem dJ0_coder_7d493_6 : decode cJ0_coder_7d493 6 = .ok (.aload_n 0, 1) := by decide +kernel
theorem dJ0_coder_7d493_7 : decode cJ0_coder_7d493 7 = .ok (.getfield 15, 3) := by decide +kernel
theorem dJ0_coder_7d493_10 : decode cJ0_coder_7d493 10 = .ok (.goto 4, 3) := by decide +kernel
theorem dJ0_coder_7d493_13 : decode cJ0_coder_7d493 13 = .ok (.iconst 1, 1) := by decide +kernel
theorem dJ0_coder_7d493_14 : decode cJ0_coder_7d493 14 = .ok (.ireturn, 1) := by decide +kernel
theorem dJ0_isLatin1_aae02_0 : decode cJ0_isLatin1_aae02 0 = .ok (.getstatic 38, 3) := by decide +kernel
theorem dJ0_isLatin1_aae02_3 : decode cJ0_isLatin1_aae02 3 = .ok (.ifCond .eq 14, 3) := by decide +kernel
theorem dJ0_isLatin1_aae02_6 : decode cJ0_isLatin1_aae02 6 = .ok (.aload_n 0, 1) := by decide +kernel
theorem dJ0_isLatin1_aae02_7 : decode cJ0_isLatin1_aae02 7 = .ok (.getfield 15, 3) := by decide +kernel
theorem dJ0_isLatin1_aae02_10 : decode cJ0_isLatin1_aae02 10 = .ok (.ifCond .ne 7, 3) := by decide +kernel
theorem dJ0_isLatin1_aae02_13 : decode cJ0_isLatin1_aae02 13 = .ok (.iconst 1, 1) := by decide +kernel
theorem dJ0_isLatin1_aae02_14 : decode cJ0_isLatin1_aae02 14 = .ok (.goto 4, 3) := by decide +kernel
theorem dJ0_isLatin1_aae02_17 : decode cJ0_isLatin1_aae02 17 = .ok (.iconst 0, 1) := by decide +kernel
theorem dJ0_isLatin1_aae02_18 : decode cJ0_isLatin1_aae02 18 = .ok (.ireturn, 1) := by decide +kernel
theorem dJ0_checkBoundsBeginEnd_23922_0 : decode cJ0_checkBoundsBeginEnd_23922 0 = .ok (.iload_n 0, 1) := by decide +kernel
theorem dJ0_checkBoundsBeginEnd_23922_1 : decode cJ0_checkBoundsBeginEnd_23922 1 = .ok (.iload_n 1, 1) := by decide +kernel
theorem dJ0_checkBoundsBeginEnd_23922_2 : decode cJ0_checkBoundsBeginEnd_23922 2 = .ok (.iload_n 2, 1) := by decide +kernel
theorem dJ0_checkBoundsBeginEnd_23922_3 : decode cJ0_checkBoundsBeginEnd_23922 3 = .ok (.getstatic 1053, 3) := by decide +kernel
theorem dJ0_checkBoundsBeginEnd_23922_6 : decode cJ0_checkBoundsBeginEnd_23922 6 = .ok (.invokestatic 1062, 3) := by decide +kernel
theorem dJ0_checkBoundsBeginEnd_23922_9 : decode cJ0_checkBoundsBeginEnd_23922 9 = .ok (.pop, 1) := by decide +kernel
theorem dJ0_checkBoundsBeginEnd_23922_10 : decode cJ0_checkBoundsBeginEnd_23922 10 = .ok (.return_, 1) := by decide +kernel
theorem dJ1_canEncode_9a6ad_0 : decode cJ1_canEncode_9a6ad 0 = .ok (.iload_n 0, 1) := by decide +kernel
theorem dJ1_canEncode_9a6ad_1 : decode cJ1_canEncode_9a6ad 1 = .ok (.ifCond .lt 14, 3) := by decide +kernel
theorem dJ1_canEncode_9a6ad_4 : decode cJ1_canEncode_9a6ad 4 = .ok (.iload_n 0, 1) := by decide +kernel
theorem dJ1_canEncode_9a6ad_5 : decode cJ1_canEncode_9a6ad 5 = .ok (.sipush 255, 3) := by decide +kernel
theorem dJ1_canEncode_9a6ad_8 : decode cJ1_canEncode_9a6ad 8 = .ok (.if_icmp .gt 7, 3) := by decide +kernel
theorem dJ1_canEncode_9a6ad_11 : decode cJ1_canEncode_9a6ad 11 = .ok (.iconst 1, 1) := by decide +kernel
theorem dJ1_canEncode_9a6ad_12 : decode cJ1_canEncode_9a6ad 12 = .ok (.goto 4, 3) := by decide +kernel
theorem dJ1_canEncode_9a6ad_15 : decode cJ1_canEncode_9a6ad 15 = .ok (.iconst 0, 1) := by decide +kernel
theorem dJ1_canEncode_9a6ad_16 : decode cJ1_canEncode_9a6ad 16 = .ok (.ireturn, 1) := by decide +kernel
theorem dJ1_indexOf_4cfef_0 : decode cJ1_indexOf_4cfef 0 = .ok (.iload_n 1, 1) := by decide +kernel
theorem dJ1_indexOf_4cfef_1 : decode cJ1_indexOf_4cfef 1 = .ok (.invokestatic 88, 3) := by decide +kernel
theorem dJ1_indexOf_4cfef_4 : decode cJ1_indexOf_4cfef 4 = .ok (.ifCond .ne 5, 3) := by decide +kernel
theorem dJ1_indexOf_4cfef_7 : decode cJ1_indexOf_4cfef 7 = .ok (.iconst (-1), 1) := by decide +kernel
theorem dJ1_indexOf_4cfef_8 : decode cJ1_indexOf_4cfef 8 = .ok (.ireturn, 1) := by decide +kernel
theorem dJ1_indexOf_4cfef_9 : decode cJ1_indexOf_4cfef 9 = .ok (.iload_n 2, 1) := by decide +kernel
theorem dJ1_indexOf_4cfef_10 : decode cJ1_indexOf_4cfef 10 = .ok (.iconst 0, 1) := by decide +kernel
theorem dJ1_indexOf_4cfef_11 : decode cJ1_indexOf_4cfef 11 = .ok (.invokestatic 92, 3) := by decide +kernel
theorem dJ1_indexOf_4cfef_14 : decode cJ1_indexOf_4cfef 14 = .ok (.istore_n 2, 1) := by decide +kernel
theorem dJ1_indexOf_4cfef_15 : decode cJ1_indexOf_4cfef 15 = .ok (.iload_n 3, 1) := by decide +kernel
theorem dJ1_indexOf_4cfef_16 : decode cJ1_indexOf_4cfef 16 = .ok (.aload_n 0, 1) := by decide +kernel
theorem dJ1_indexOf_4cfef_17 : decode cJ1_indexOf_4cfef 17 = .ok (.arraylength, 1) := by decide +kernel
theorem dJ1_indexOf_4cfef_18 : decode cJ1_indexOf_4cfef 18 = .ok (.invokestatic 38, 3) := by decide +kernel
theorem dJ1_indexOf_4cfef_21 : decode cJ1_indexOf_4cfef 21 = .ok (.istore_n 3, 1) := by decide +kernel
theorem dJ1_indexOf_4cfef_22 : decode cJ1_indexOf_4cfef 22 = .ok (.iload_n 2, 1) := by decide +kernel
theorem dJ1_indexOf_4cfef_23 : decode cJ1_indexOf_4cfef 23 = .ok (.iload_n 3, 1) := by decide +kernel
theorem dJ1_indexOf_4cfef_24 : decode cJ1_indexOf_4cfef 24 = .ok (.if_icmp .lt 5, 3) := by decide +kernel
theorem dJ1_indexOf_4cfef_27 : decode cJ1_indexOf_4cfef 27 = .ok (.iconst (-1), 1) := by decide +kernel
theorem dJ1_indexOf_4cfef_28 : decode cJ1_indexOf_4cfef 28 = .ok (.ireturn, 1) := by decide +kernel
theorem dJ1_indexOf_4cfef_29 : decode cJ1_indexOf_4cfef 29 = .ok (.aload_n 0, 1) := by decide +kernel
theorem dJ1_indexOf_4cfef_30 : decode cJ1_indexOf_4cfef 30 = .ok (.iload_n 1, 1) := by decide +kernel
theorem dJ1_indexOf_4cfef_31 : decode cJ1_indexOf_4cfef 31 = .ok (.iload_n 2, 1) := by decide +kernel
theorem dJ1_indexOf_4cfef_32 : decode cJ1_indexOf_4cfef 32 = .ok (.iload_n 3, 1) := by decide +kernel
theorem dJ1_indexOf_4cfef_33 : decode cJ1_indexOf_4cfef 33 = .ok (.invokestatic 95, 3) := by decide +kernel
theorem dJ1_indexOf_4cfef_36 : decode cJ1_indexOf_4cfef 36 = .ok (.ireturn, 1) := by decide +kernel
theorem dJ1_indexOfChar_4cfef_0 : decode cJ1_indexOfChar_4cfef 0 = .ok (.iload_n 1, 1) := by decide +kernel
theorem dJ1_indexOfChar_4cfef_1 : decode cJ1_indexOfChar_4cfef 1 = .ok (.i2b, 1) := by decide +kernel
theorem dJ1_indexOfChar_4cfef_2 : decode cJ1_indexOfChar_4cfef 2 = .ok (.istore 4, 2) := by decide +kernel
theorem dJ1_indexOfChar_4cfef_4 : decode cJ1_indexOfChar_4cfef 4 = .ok (.iload_n 2, 1) := by decide +kernel
theorem dJ1_indexOfChar_4cfef_5 : decode cJ1_indexOfChar_4cfef 5 = .ok (.istore 5, 2) := by decide +kernel
theorem dJ1_indexOfChar_4cfef_7 : decode cJ1_indexOfChar_4cfef 7 = .ok (.iload 5, 2) := by decide +kernel
theorem dJ1_indexOfChar_4cfef_9 : decode cJ1_indexOfChar_4cfef 9 = .ok (.iload_n 3, 1) := by decide +kernel
theorem dJ1_indexOfChar_4cfef_10 : decode cJ1_indexOfChar_4cfef 10 = .ok (.if_icmp .ge 21, 3) := by decide +kernel
theorem dJ1_indexOfChar_4cfef_13 : decode cJ1_indexOfChar_4cfef 13 = .ok (.aload_n 0, 1) := by decide +kernel
theorem dJ1_indexOfChar_4cfef_14 : decode cJ1_indexOfChar_4cfef 14 = .ok (.iload 5, 2) := by decide +kernel
theorem dJ1_indexOfChar_4cfef_16 : decode cJ1_indexOfChar_4cfef 16 = .ok (.baload, 1) := by decide +kernel
theorem dJ1_indexOfChar_4cfef_17 : decode cJ1_indexOfChar_4cfef 17 = .ok (.iload 4, 2) := by decide +kernel
theorem dJ1_indexOfChar_4cfef_19 : decode cJ1_indexOfChar_4cfef 19 = .ok (.if_icmp .ne 6, 3) := by decide +kernel
theorem dJ1_indexOfChar_4cfef_22 : decode cJ1_indexOfChar_4cfef 22 = .ok (.iload 5, 2) := by decide +kernel
theorem dJ1_indexOfChar_4cfef_24 : decode cJ1_indexOfChar_4cfef 24 = .ok (.ireturn, 1) := by decide +kernel
theorem dJ1_indexOfChar_4cfef_25 : decode cJ1_indexOfChar_4cfef 25 = .ok (.iinc 5 1, 3) := by decide +kernel
theorem dJ1_indexOfChar_4cfef_28 : decode cJ1_indexOfChar_4cfef 28 = .ok (.goto (-21), 3) := by decide +kernel
theorem dJ1_indexOfChar_4cfef_31 : decode cJ1_indexOfChar_4cfef 31 = .ok (.iconst (-1), 1) := by decide +kernel
theorem dJ1_indexOfChar_4cfef_32 : decode cJ1_indexOfChar_4cfef 32 = .ok (.ireturn, 1) := by decide +kernel
theorem dJ7_fill_53178_0 : decode cJ7_fill_53178 0 = .ok (.iconst 0, 1) := by decide +kernel
theorem dJ7_fill_53178_1 : decode cJ7_fill_53178 1 = .ok (.istore_n 2, 1) := by decide +kernel
theorem dJ7_fill_53178_2 : decode cJ7_fill_53178 2 = .ok (.aload_n 0, 1) := by decide +kernel
theorem dJ7_fill_53178_3 : decode cJ7_fill_53178 3 = .ok (.arraylength, 1) := by decide +kernel
theorem dJ7_fill_53178_4 : decode cJ7_fill_53178 4 = .ok (.istore_n 3, 1) := by decide +kernel
theorem dJ7_fill_53178_5 : decode cJ7_fill_53178 5 = .ok (.iload_n 2, 1) := by decide +kernel
theorem dJ7_fill_53178_6 : decode cJ7_fill_53178 6 = .ok (.iload_n 3, 1) := by decide +kernel
theorem dJ7_fill_53178_7 : decode cJ7_fill_53178 7 = .ok (.if_icmp .ge 13, 3) := by decide +kernel
theorem dJ7_fill_53178_10 : decode cJ7_fill_53178 10 = .ok (.aload_n 0, 1) := by decide +kernel
theorem dJ7_fill_53178_11 : decode cJ7_fill_53178 11 = .ok (.iload_n 2, 1) := by decide +kernel
theorem dJ7_fill_53178_12 : decode cJ7_fill_53178 12 = .ok (.iload_n 1, 1) := by decide +kernel
theorem dJ7_fill_53178_13 : decode cJ7_fill_53178 13 = .ok (.iastore, 1) := by decide +kernel
theorem dJ7_fill_53178_14 : decode cJ7_fill_53178 14 = .ok (.iinc 2 1, 3) := by decide +kernel
theorem dJ7_fill_53178_17 : decode cJ7_fill_53178 17 = .ok (.goto (-12), 3) := by decide +kernel
theorem dJ7_fill_53178_20 : decode cJ7_fill_53178 20 = .ok (.return_, 1) := by decide +kernel
theorem dL_drop_0 : decode cL_drop 0 = .ok (.aload_n 2, 1) := by decide +kernel
theorem dL_drop_1 : decode cL_drop 1 = .ok (.iconst 0, 1) := by decide +kernel
theorem dL_drop_2 : decode cL_drop 2 = .ok (.aload_n 0, 1) := by decide +kernel
theorem dL_drop_3 : decode cL_drop 3 = .ok (.iload_n 1, 1) := by decide +kernel
theorem dL_drop_4 : decode cL_drop 4 = .ok (.invokevirtual 7, 3) := by decide +kernel
theorem dL_drop_7 : decode cL_drop 7 = .ok (.ifCond .eq 7, 3) := by decide +kernel
theorem dL_drop_10 : decode cL_drop 10 = .ok (.lconst 1, 1) := by decide +kernel
theorem dL_drop_11 : decode cL_drop 11 = .ok (.goto 4, 3) := by decide +kernel
theorem dL_drop_14 : decode cL_drop 14 = .ok (.lconst 0, 1) := by decide +kernel
theorem dL_drop_15 : decode cL_drop 15 = .ok (.lastore, 1) := by decide +kernel
theorem dL_drop_16 : decode cL_drop 16 = .ok (.goto 6, 3) := by decide +kernel
theorem dL_drop_19 : decode cL_drop 19 = .ok (.astore_n 3, 1) := by decide +kernel
theorem dL_drop_20 : decode cL_drop 20 = .ok (.iconst 1, 1) := by decide +kernel
theorem dL_drop_21 : decode cL_drop 21 = .ok (.ireturn, 1) := by decide +kernel
theorem dL_drop_22 : decode cL_drop 22 = .ok (.iconst 0, 1) := by decide +kernel
theorem dL_drop_23 : decode cL_drop 23 = .ok (.ireturn, 1) := by decide +kernel
theorem dL_feed_0 : decode cL_feed 0 = .ok (.aload_n 2, 1) := by decide +kernel
theorem dL_feed_1 : decode cL_feed 1 = .ok (.iconst 0, 1) := by decide +kernel
theorem dL_feed_2 : decode cL_feed 2 = .ok (.aload_n 0, 1) := by decide +kernel
theorem dL_feed_3 : decode cL_feed 3 = .ok (.iload_n 1, 1) := by decide +kernel
theorem dL_feed_4 : decode cL_feed 4 = .ok (.invokevirtual 15, 3) := by decide +kernel
theorem dL_feed_7 : decode cL_feed 7 = .ok (.i2l, 1) := by decide +kernel
theorem dL_feed_8 : decode cL_feed 8 = .ok (.lastore, 1) := by decide +kernel
theorem dL_feed_9 : decode cL_feed 9 = .ok (.goto 9, 3) := by decide +kernel
theorem dL_feed_12 : decode cL_feed 12 = .ok (.astore_n 3, 1) := by decide +kernel
theorem dL_feed_13 : decode cL_feed 13 = .ok (.iconst 1, 1) := by decide +kernel
theorem dL_feed_14 : decode cL_feed 14 = .ok (.ireturn, 1) := by decide +kernel
theorem dL_feed_15 : decode cL_feed 15 = .ok (.astore_n 3, 1) := by decide +kernel
theorem dL_feed_16 : decode cL_feed 16 = .ok (.iconst 2, 1) := by decide +kernel
theorem dL_feed_17 : decode cL_feed 17 = .ok (.ireturn, 1) := by decide +kernel
theorem dL_feed_18 : decode cL_feed 18 = .ok (.iconst 0, 1) := by decide +kernel
theorem dL_feed_19 : decode cL_feed 19 = .ok (.ireturn, 1) := by decide +kernel
theorem dL_outcomes_0 : decode cL_outcomes 0 = .ok (.aload_n 2, 1) := by decide +kernel
theorem dL_outcomes_1 : decode cL_outcomes 1 = .ok (.iconst 0, 1) := by decide +kernel
theorem dL_outcomes_2 : decode cL_outcomes 2 = .ok (.aload_n 0, 1) := by decide +kernel
theorem dL_outcomes_3 : decode cL_outcomes 3 = .ok (.iload_n 1, 1) := by decide +kernel
theorem dL_outcomes_4 : decode cL_outcomes 4 = .ok (.invokevirtual 23, 3) := by decide +kernel
theorem dL_outcomes_7 : decode cL_outcomes 7 = .ok (.i2l, 1) := by decide +kernel
theorem dL_outcomes_8 : decode cL_outcomes 8 = .ok (.lastore, 1) := by decide +kernel
theorem dL_outcomes_9 : decode cL_outcomes 9 = .ok (.goto 9, 3) := by decide +kernel
theorem dL_outcomes_12 : decode cL_outcomes 12 = .ok (.astore_n 3, 1) := by decide +kernel
theorem dL_outcomes_13 : decode cL_outcomes 13 = .ok (.iconst 1, 1) := by decide +kernel
theorem dL_outcomes_14 : decode cL_outcomes 14 = .ok (.ireturn, 1) := by decide +kernel
theorem dL_outcomes_15 : decode cL_outcomes 15 = .ok (.astore_n 3, 1) := by decide +kernel
theorem dL_outcomes_16 : decode cL_outcomes 16 = .ok (.iconst 2, 1) := by decide +kernel
theorem dL_outcomes_17 : decode cL_outcomes 17 = .ok (.ireturn, 1) := by decide +kernel
theorem dL_outcomes_18 : decode cL_outcomes 18 = .ok (.iconst 0, 1) := by decide +kernel
theorem dL_outcomes_19 : decode cL_outcomes 19 = .ok (.ireturn, 1) := by decide +kernel
theorem dL_match_0 : decode cL_match 0 = .ok (.aload_n 3, 1) := by decide +kernel
theorem dL_match_1 : decode cL_match 1 = .ok (.iconst 0, 1) := by decide +kernel
theorem dL_match_2 : decode cL_match 2 = .ok (.aload_n 0, 1) := by decide +kernel
theorem dL_match_3 : decode cL_match 3 = .ok (.iload_n 1, 1) := by decide +kernel
theorem dL_match_4 : decode cL_match 4 = .ok (.iload_n 2, 1) := by decide +kernel
theorem dL_match_5 : decode cL_match 5 = .ok (.invokevirtual 27, 3) := by decide +kernel
theorem dL_match_8 : decode cL_match 8 = .ok (.i2l, 1) := by decide +kernel
theorem dL_match_9 : decode cL_match 9 = .ok (.lastore, 1) := by decide +kernel
theorem dL_match_10 : decode cL_match 10 = .ok (.goto 15, 3) := by decide +kernel
theorem dL_match_13 : decode cL_match 13 = .ok (.astore 4, 2) := by decide +kernel
theorem dL_match_15 : decode cL_match 15 = .ok (.iconst 1, 1) := by decide +kernel
theorem dL_match_16 : decode cL_match 16 = .ok (.ireturn, 1) := by decide +kernel
theorem dL_match_17 : decode cL_match 17 = .ok (.astore 4, 2) := by decide +kernel
theorem dL_match_19 : decode cL_match 19 = .ok (.iconst 2, 1) := by decide +kernel
theorem dL_match_20 : decode cL_match 20 = .ok (.ireturn, 1) := by decide +kernel
theorem dL_match_21 : decode cL_match 21 = .ok (.astore 4, 2) := by decide +kernel
theorem dL_match_23 : decode cL_match 23 = .ok (.iconst 3, 1) := by decide +kernel
theorem dL_match_24 : decode cL_match 24 = .ok (.ireturn, 1) := by decide +kernel
theorem dL_match_25 : decode cL_match 25 = .ok (.iconst 0, 1) := by decide +kernel
theorem dL_match_26 : decode cL_match 26 = .ok (.ireturn, 1) := by decide +kernel
theorem dL_memory_0 : decode cL_memory 0 = .ok (.aload_n 3, 1) := by decide +kernel
theorem dL_memory_1 : decode cL_memory 1 = .ok (.iconst 0, 1) := by decide +kernel
theorem dL_memory_2 : decode cL_memory 2 = .ok (.aload_n 0, 1) := by decide +kernel
theorem dL_memory_3 : decode cL_memory 3 = .ok (.iload_n 1, 1) := by decide +kernel
theorem dL_memory_4 : decode cL_memory 4 = .ok (.iload_n 2, 1) := by decide +kernel
theorem dL_memory_5 : decode cL_memory 5 = .ok (.invokevirtual 31, 3) := by decide +kernel
theorem dL_memory_8 : decode cL_memory 8 = .ok (.i2l, 1) := by decide +kernel
theorem dL_memory_9 : decode cL_memory 9 = .ok (.lastore, 1) := by decide +kernel
theorem dL_memory_10 : decode cL_memory 10 = .ok (.goto 7, 3) := by decide +kernel
theorem dL_memory_13 : decode cL_memory 13 = .ok (.astore 4, 2) := by decide +kernel
theorem dL_memory_15 : decode cL_memory 15 = .ok (.iconst 1, 1) := by decide +kernel
theorem dL_memory_16 : decode cL_memory 16 = .ok (.ireturn, 1) := by decide +kernel
theorem dL_memory_17 : decode cL_memory 17 = .ok (.iconst 0, 1) := by decide +kernel
theorem dL_memory_18 : decode cL_memory 18 = .ok (.ireturn, 1) := by decide +kernel
theorem dL_node_0 : decode cL_node 0 = .ok (.aload_n 3, 1) := by decide +kernel
theorem dL_node_1 : decode cL_node 1 = .ok (.iconst 0, 1) := by decide +kernel
theorem dL_node_2 : decode cL_node 2 = .ok (.aload_n 0, 1) := by decide +kernel
theorem dL_node_3 : decode cL_node 3 = .ok (.iload_n 1, 1) := by decide +kernel
theorem dL_node_4 : decode cL_node 4 = .ok (.iload_n 2, 1) := by decide +kernel
theorem dL_node_5 : decode cL_node 5 = .ok (.invokevirtual 36, 3) := by decide +kernel
theorem dL_node_8 : decode cL_node 8 = .ok (.i2l, 1) := by decide +kernel
theorem dL_node_9 : decode cL_node 9 = .ok (.lastore, 1) := by decide +kernel
theorem dL_node_10 : decode cL_node 10 = .ok (.goto 7, 3) := by decide +kernel
theorem dL_node_13 : decode cL_node 13 = .ok (.astore 4, 2) := by decide +kernel
theorem dL_node_15 : decode cL_node 15 = .ok (.iconst 1, 1) := by decide +kernel
theorem dL_node_16 : decode cL_node 16 = .ok (.ireturn, 1) := by decide +kernel
theorem dL_node_17 : decode cL_node 17 = .ok (.iconst 0, 1) := by decide +kernel
theorem dL_node_18 : decode cL_node 18 = .ok (.ireturn, 1) := by decide +kernel
theorem dL_count_0 : decode cL_count 0 = .ok (.aload_n 2, 1) := by decide +kernel
theorem dL_count_1 : decode cL_count 1 = .ok (.iconst 0, 1) := by decide +kernel
theorem dL_count_2 : decode cL_count 2 = .ok (.aload_n 0, 1) := by decide +kernel
theorem dL_count_3 : decode cL_count 3 = .ok (.iload_n 1, 1) := by decide +kernel
theorem dL_count_4 : decode cL_count 4 = .ok (.invokevirtual 39, 3) := by decide +kernel
theorem dL_count_7 : decode cL_count 7 = .ok (.i2l, 1) := by decide +kernel
theorem dL_count_8 : decode cL_count 8 = .ok (.lastore, 1) := by decide +kernel
theorem dL_count_9 : decode cL_count 9 = .ok (.goto 6, 3) := by decide +kernel
theorem dL_count_12 : decode cL_count 12 = .ok (.astore_n 3, 1) := by decide +kernel
theorem dL_count_13 : decode cL_count 13 = .ok (.iconst 1, 1) := by decide +kernel
theorem dL_count_14 : decode cL_count 14 = .ok (.ireturn, 1) := by decide +kernel
theorem dL_count_15 : decode cL_count 15 = .ok (.iconst 0, 1) := by decide +kernel
theorem dL_count_16 : decode cL_count 16 = .ok (.ireturn, 1) := by decide +kernel
theorem dL_law_0 : decode cL_law 0 = .ok (.new 8, 3) := by decide +kernel
theorem dL_law_3 : decode cL_law 3 = .ok (.dup, 1) := by decide +kernel
theorem dL_law_4 : decode cL_law 4 = .ok (.invokespecial 42, 3) := by decide +kernel
theorem dL_law_7 : decode cL_law 7 = .ok (.astore_n 1, 1) := by decide +kernel
theorem dL_law_8 : decode cL_law 8 = .ok (.new 43, 3) := by decide +kernel
theorem dL_law_11 : decode cL_law 11 = .ok (.dup, 1) := by decide +kernel
theorem dL_law_12 : decode cL_law 12 = .ok (.invokespecial 45, 3) := by decide +kernel
theorem dL_law_15 : decode cL_law 15 = .ok (.astore_n 2, 1) := by decide +kernel
theorem dL_law_16 : decode cL_law 16 = .ok (.iconst 1, 1) := by decide +kernel
theorem dL_law_17 : decode cL_law 17 = .ok (.newarray .long, 2) := by decide +kernel
theorem dL_law_19 : decode cL_law 19 = .ok (.astore_n 3, 1) := by decide +kernel
theorem dL_law_20 : decode cL_law 20 = .ok (.iconst 0, 1) := by decide +kernel
theorem dL_law_21 : decode cL_law 21 = .ok (.istore 4, 2) := by decide +kernel
theorem dL_law_23 : decode cL_law 23 = .ok (.iload 4, 2) := by decide +kernel
theorem dL_law_25 : decode cL_law 25 = .ok (.aload_n 0, 1) := by decide +kernel
theorem dL_law_26 : decode cL_law 26 = .ok (.arraylength, 1) := by decide +kernel
theorem dL_law_27 : decode cL_law 27 = .ok (.iconst 3, 1) := by decide +kernel
theorem dL_law_28 : decode cL_law 28 = .ok (.isub, 1) := by decide +kernel
theorem dL_law_29 : decode cL_law 29 = .ok (.if_icmp .gt 623, 3) := by decide +kernel
theorem dL_law_32 : decode cL_law 32 = .ok (.aload_n 0, 1) := by decide +kernel
theorem dL_law_33 : decode cL_law 33 = .ok (.iload 4, 2) := by decide +kernel
theorem dL_law_35 : decode cL_law 35 = .ok (.iaload, 1) := by decide +kernel
theorem dL_law_36 : decode cL_law 36 = .ok (.bipush 15, 2) := by decide +kernel
theorem dL_law_38 : decode cL_law 38 = .ok (.iand, 1) := by decide +kernel
theorem dL_law_39 : decode cL_law 39 = .ok (.tableswitch 607 0 11 #[61, 88, 101, 164, 222, 235, 291, 304, 372, 440, 508, 564], 61) := by decide +kernel
theorem dL_law_100 : decode cL_law 100 = .ok (.aload_n 1, 1) := by decide +kernel
theorem dL_law_101 : decode cL_law 101 = .ok (.aload_n 0, 1) := by decide +kernel
theorem dL_law_102 : decode cL_law 102 = .ok (.iload 4, 2) := by decide +kernel
theorem dL_law_104 : decode cL_law 104 = .ok (.iconst 1, 1) := by decide +kernel
theorem dL_law_105 : decode cL_law 105 = .ok (.iadd, 1) := by decide +kernel
theorem dL_law_106 : decode cL_law 106 = .ok (.iaload, 1) := by decide +kernel
theorem dL_law_107 : decode cL_law 107 = .ok (.i2c, 1) := by decide +kernel
theorem dL_law_108 : decode cL_law 108 = .ok (.invokevirtual 46, 3) := by decide +kernel
theorem dL_law_111 : decode cL_law 111 = .ok (.aload_n 2, 1) := by decide +kernel
theorem dL_law_112 : decode cL_law 112 = .ok (.aload_n 0, 1) := by decide +kernel
theorem dL_law_113 : decode cL_law 113 = .ok (.iload 4, 2) := by decide +kernel
theorem dL_law_115 : decode cL_law 115 = .ok (.iconst 1, 1) := by decide +kernel
theorem dL_law_116 : decode cL_law 116 = .ok (.iadd, 1) := by decide +kernel
theorem dL_law_117 : decode cL_law 117 = .ok (.iaload, 1) := by decide +kernel
theorem dL_law_118 : decode cL_law 118 = .ok (.i2c, 1) := by decide +kernel
theorem dL_law_119 : decode cL_law 119 = .ok (.invokevirtual 50, 3) := by decide +kernel
theorem dL_law_122 : decode cL_law 122 = .ok (.if_icmp .eq 524, 3) := by decide +kernel
theorem dL_law_125 : decode cL_law 125 = .ok (.iconst 0, 1) := by decide +kernel
theorem dL_law_126 : decode cL_law 126 = .ok (.ireturn, 1) := by decide +kernel
theorem dL_law_127 : decode cL_law 127 = .ok (.aload_n 1, 1) := by decide +kernel
theorem dL_law_128 : decode cL_law 128 = .ok (.invokevirtual 51, 3) := by decide +kernel
theorem dL_law_131 : decode cL_law 131 = .ok (.aload_n 2, 1) := by decide +kernel
theorem dL_law_132 : decode cL_law 132 = .ok (.invokevirtual 55, 3) := by decide +kernel
theorem dL_law_135 : decode cL_law 135 = .ok (.if_icmp .eq 511, 3) := by decide +kernel
theorem dL_law_138 : decode cL_law 138 = .ok (.iconst 0, 1) := by decide +kernel
theorem dL_law_139 : decode cL_law 139 = .ok (.ireturn, 1) := by decide +kernel
theorem dL_law_140 : decode cL_law 140 = .ok (.aload_n 1, 1) := by decide +kernel
theorem dL_law_141 : decode cL_law 141 = .ok (.aload_n 0, 1) := by decide +kernel
theorem dL_law_142 : decode cL_law 142 = .ok (.iload 4, 2) := by decide +kernel
theorem dL_law_144 : decode cL_law 144 = .ok (.iconst 1, 1) := by decide +kernel
theorem dL_law_145 : decode cL_law 145 = .ok (.iadd, 1) := by decide +kernel
theorem dL_law_146 : decode cL_law 146 = .ok (.iaload, 1) := by decide +kernel
theorem dL_law_147 : decode cL_law 147 = .ok (.aload_n 3, 1) := by decide +kernel
theorem dL_law_148 : decode cL_law 148 = .ok (.invokestatic 56, 3) := by decide +kernel
theorem dL_law_151 : decode cL_law 151 = .ok (.istore 5, 2) := by decide +kernel
theorem dL_law_153 : decode cL_law 153 = .ok (.aload_n 2, 1) := by decide +kernel
theorem dL_law_154 : decode cL_law 154 = .ok (.aload_n 0, 1) := by decide +kernel
theorem dL_law_155 : decode cL_law 155 = .ok (.iload 4, 2) := by decide +kernel
theorem dL_law_157 : decode cL_law 157 = .ok (.iconst 1, 1) := by decide +kernel
theorem dL_law_158 : decode cL_law 158 = .ok (.iadd, 1) := by decide +kernel
theorem dL_law_159 : decode cL_law 159 = .ok (.iaload, 1) := by decide +kernel
theorem dL_law_160 : decode cL_law 160 = .ok (.invokevirtual 61, 3) := by decide +kernel
theorem dL_law_163 : decode cL_law 163 = .ok (.istore 6, 2) := by decide +kernel
theorem dL_law_165 : decode cL_law 165 = .ok (.aload_n 2, 1) := by decide +kernel
theorem dL_law_166 : decode cL_law 166 = .ok (.invokevirtual 62, 3) := by decide +kernel
theorem dL_law_169 : decode cL_law 169 = .ok (.iload 5, 2) := by decide +kernel
theorem dL_law_171 : decode cL_law 171 = .ok (.if_icmp .eq 5, 3) := by decide +kernel
theorem dL_law_174 : decode cL_law 174 = .ok (.iconst 0, 1) := by decide +kernel
theorem dL_law_175 : decode cL_law 175 = .ok (.ireturn, 1) := by decide +kernel
theorem dL_law_176 : decode cL_law 176 = .ok (.iload 5, 2) := by decide +kernel
theorem dL_law_178 : decode cL_law 178 = .ok (.ifCond .ne 22, 3) := by decide +kernel
theorem dL_law_181 : decode cL_law 181 = .ok (.aload_n 3, 1) := by decide +kernel
theorem dL_law_182 : decode cL_law 182 = .ok (.iconst 0, 1) := by decide +kernel
theorem dL_law_183 : decode cL_law 183 = .ok (.laload, 1) := by decide +kernel
theorem dL_law_184 : decode cL_law 184 = .ok (.iload 6, 2) := by decide +kernel
theorem dL_law_186 : decode cL_law 186 = .ok (.ifCond .eq 7, 3) := by decide +kernel
theorem dL_law_189 : decode cL_law 189 = .ok (.lconst 1, 1) := by decide +kernel
theorem dL_law_190 : decode cL_law 190 = .ok (.goto 4, 3) := by decide +kernel
theorem dL_law_193 : decode cL_law 193 = .ok (.lconst 0, 1) := by decide +kernel
theorem dL_law_194 : decode cL_law 194 = .ok (.lcmp, 1) := by decide +kernel
theorem dL_law_195 : decode cL_law 195 = .ok (.ifCond .eq 5, 3) := by decide +kernel
theorem dL_law_198 : decode cL_law 198 = .ok (.iconst 0, 1) := by decide +kernel
theorem dL_law_199 : decode cL_law 199 = .ok (.ireturn, 1) := by decide +kernel
theorem dL_law_200 : decode cL_law 200 = .ok (.goto 446, 3) := by decide +kernel
theorem dL_law_203 : decode cL_law 203 = .ok (.aload_n 1, 1) := by decide +kernel
theorem dL_law_204 : decode cL_law 204 = .ok (.aload_n 0, 1) := by decide +kernel
theorem dL_law_205 : decode cL_law 205 = .ok (.iload 4, 2) := by decide +kernel
theorem dL_law_207 : decode cL_law 207 = .ok (.iconst 1, 1) := by decide +kernel
theorem dL_law_208 : decode cL_law 208 = .ok (.iadd, 1) := by decide +kernel
theorem dL_law_209 : decode cL_law 209 = .ok (.iaload, 1) := by decide +kernel
theorem dL_law_210 : decode cL_law 210 = .ok (.i2c, 1) := by decide +kernel
theorem dL_law_211 : decode cL_law 211 = .ok (.aload_n 3, 1) := by decide +kernel
theorem dL_law_212 : decode cL_law 212 = .ok (.invokestatic 65, 3) := by decide +kernel
theorem dL_law_215 : decode cL_law 215 = .ok (.istore 5, 2) := by decide +kernel
theorem dL_law_217 : decode cL_law 217 = .ok (.aload_n 2, 1) := by decide +kernel
theorem dL_law_218 : decode cL_law 218 = .ok (.aload_n 0, 1) := by decide +kernel
theorem dL_law_219 : decode cL_law 219 = .ok (.iload 4, 2) := by decide +kernel
theorem dL_law_221 : decode cL_law 221 = .ok (.iconst 1, 1) := by decide +kernel
theorem dL_law_222 : decode cL_law 222 = .ok (.iadd, 1) := by decide +kernel
theorem dL_law_223 : decode cL_law 223 = .ok (.iaload, 1) := by decide +kernel
theorem dL_law_224 : decode cL_law 224 = .ok (.i2c, 1) := by decide +kernel
theorem dL_law_225 : decode cL_law 225 = .ok (.invokevirtual 68, 3) := by decide +kernel
theorem dL_law_228 : decode cL_law 228 = .ok (.istore 6, 2) := by decide +kernel
theorem dL_law_230 : decode cL_law 230 = .ok (.aload_n 2, 1) := by decide +kernel
theorem dL_law_231 : decode cL_law 231 = .ok (.invokevirtual 62, 3) := by decide +kernel
theorem dL_law_234 : decode cL_law 234 = .ok (.iload 5, 2) := by decide +kernel
theorem dL_law_236 : decode cL_law 236 = .ok (.if_icmp .eq 5, 3) := by decide +kernel
theorem dL_law_239 : decode cL_law 239 = .ok (.iconst 0, 1) := by decide +kernel
theorem dL_law_240 : decode cL_law 240 = .ok (.ireturn, 1) := by decide +kernel
theorem dL_law_241 : decode cL_law 241 = .ok (.iload 5, 2) := by decide +kernel
theorem dL_law_243 : decode cL_law 243 = .ok (.ifCond .ne 15, 3) := by decide +kernel
theorem dL_law_246 : decode cL_law 246 = .ok (.aload_n 3, 1) := by decide +kernel
theorem dL_law_247 : decode cL_law 247 = .ok (.iconst 0, 1) := by decide +kernel
theorem dL_law_248 : decode cL_law 248 = .ok (.laload, 1) := by decide +kernel
theorem dL_law_249 : decode cL_law 249 = .ok (.iload 6, 2) := by decide +kernel
theorem dL_law_251 : decode cL_law 251 = .ok (.i2l, 1) := by decide +kernel
theorem dL_law_252 : decode cL_law 252 = .ok (.lcmp, 1) := by decide +kernel
theorem dL_law_253 : decode cL_law 253 = .ok (.ifCond .eq 5, 3) := by decide +kernel
theorem dL_law_256 : decode cL_law 256 = .ok (.iconst 0, 1) := by decide +kernel
theorem dL_law_257 : decode cL_law 257 = .ok (.ireturn, 1) := by decide +kernel
theorem dL_law_258 : decode cL_law 258 = .ok (.goto 388, 3) := by decide +kernel
theorem dL_law_261 : decode cL_law 261 = .ok (.aload_n 1, 1) := by decide +kernel
theorem dL_law_262 : decode cL_law 262 = .ok (.invokevirtual 69, 3) := by decide +kernel
theorem dL_law_265 : decode cL_law 265 = .ok (.aload_n 2, 1) := by decide +kernel
theorem dL_law_266 : decode cL_law 266 = .ok (.invokevirtual 72, 3) := by decide +kernel
theorem dL_law_269 : decode cL_law 269 = .ok (.if_icmp .eq 377, 3) := by decide +kernel
theorem dL_law_272 : decode cL_law 272 = .ok (.iconst 0, 1) := by decide +kernel
theorem dL_law_273 : decode cL_law 273 = .ok (.ireturn, 1) := by decide +kernel
theorem dL_law_274 : decode cL_law 274 = .ok (.aload_n 1, 1) := by decide +kernel
theorem dL_law_275 : decode cL_law 275 = .ok (.aload_n 0, 1) := by decide +kernel
theorem dL_law_276 : decode cL_law 276 = .ok (.iload 4, 2) := by decide +kernel
theorem dL_law_278 : decode cL_law 278 = .ok (.iconst 1, 1) := by decide +kernel
theorem dL_law_279 : decode cL_law 279 = .ok (.iadd, 1) := by decide +kernel
theorem dL_law_280 : decode cL_law 280 = .ok (.iaload, 1) := by decide +kernel
theorem dL_law_281 : decode cL_law 281 = .ok (.aload_n 3, 1) := by decide +kernel
theorem dL_law_282 : decode cL_law 282 = .ok (.invokestatic 73, 3) := by decide +kernel
theorem dL_law_285 : decode cL_law 285 = .ok (.istore 5, 2) := by decide +kernel
theorem dL_law_287 : decode cL_law 287 = .ok (.aload_n 2, 1) := by decide +kernel
theorem dL_law_288 : decode cL_law 288 = .ok (.aload_n 0, 1) := by decide +kernel
theorem dL_law_289 : decode cL_law 289 = .ok (.iload 4, 2) := by decide +kernel
theorem dL_law_291 : decode cL_law 291 = .ok (.iconst 1, 1) := by decide +kernel
theorem dL_law_292 : decode cL_law 292 = .ok (.iadd, 1) := by decide +kernel
theorem dL_law_293 : decode cL_law 293 = .ok (.iaload, 1) := by decide +kernel
theorem dL_law_294 : decode cL_law 294 = .ok (.invokevirtual 75, 3) := by decide +kernel
theorem dL_law_297 : decode cL_law 297 = .ok (.istore 6, 2) := by decide +kernel
theorem dL_law_299 : decode cL_law 299 = .ok (.aload_n 2, 1) := by decide +kernel
theorem dL_law_300 : decode cL_law 300 = .ok (.invokevirtual 62, 3) := by decide +kernel
theorem dL_law_303 : decode cL_law 303 = .ok (.iload 5, 2) := by decide +kernel
theorem dL_law_305 : decode cL_law 305 = .ok (.if_icmp .eq 5, 3) := by decide +kernel
theorem dL_law_308 : decode cL_law 308 = .ok (.iconst 0, 1) := by decide +kernel
theorem dL_law_309 : decode cL_law 309 = .ok (.ireturn, 1) := by decide +kernel
theorem dL_law_310 : decode cL_law 310 = .ok (.iload 5, 2) := by decide +kernel
theorem dL_law_312 : decode cL_law 312 = .ok (.ifCond .ne 15, 3) := by decide +kernel
theorem dL_law_315 : decode cL_law 315 = .ok (.aload_n 3, 1) := by decide +kernel
theorem dL_law_316 : decode cL_law 316 = .ok (.iconst 0, 1) := by decide +kernel
theorem dL_law_317 : decode cL_law 317 = .ok (.laload, 1) := by decide +kernel
theorem dL_law_318 : decode cL_law 318 = .ok (.iload 6, 2) := by decide +kernel
theorem dL_law_320 : decode cL_law 320 = .ok (.i2l, 1) := by decide +kernel
theorem dL_law_321 : decode cL_law 321 = .ok (.lcmp, 1) := by decide +kernel
theorem dL_law_322 : decode cL_law 322 = .ok (.ifCond .eq 5, 3) := by decide +kernel
theorem dL_law_325 : decode cL_law 325 = .ok (.iconst 0, 1) := by decide +kernel
theorem dL_law_326 : decode cL_law 326 = .ok (.ireturn, 1) := by decide +kernel
theorem dL_law_327 : decode cL_law 327 = .ok (.goto 319, 3) := by decide +kernel
theorem dL_law_330 : decode cL_law 330 = .ok (.aload_n 1, 1) := by decide +kernel
theorem dL_law_331 : decode cL_law 331 = .ok (.invokevirtual 76, 3) := by decide +kernel
theorem dL_law_334 : decode cL_law 334 = .ok (.aload_n 2, 1) := by decide +kernel
theorem dL_law_335 : decode cL_law 335 = .ok (.invokevirtual 79, 3) := by decide +kernel
theorem dL_law_338 : decode cL_law 338 = .ok (.if_icmp .eq 308, 3) := by decide +kernel
theorem dL_law_341 : decode cL_law 341 = .ok (.iconst 0, 1) := by decide +kernel
theorem dL_law_342 : decode cL_law 342 = .ok (.ireturn, 1) := by decide +kernel
theorem dL_law_343 : decode cL_law 343 = .ok (.aload_n 1, 1) := by decide +kernel
theorem dL_law_344 : decode cL_law 344 = .ok (.aload_n 0, 1) := by decide +kernel
theorem dL_law_345 : decode cL_law 345 = .ok (.iload 4, 2) := by decide +kernel
theorem dL_law_347 : decode cL_law 347 = .ok (.iconst 1, 1) := by decide +kernel
theorem dL_law_348 : decode cL_law 348 = .ok (.iadd, 1) := by decide +kernel
theorem dL_law_349 : decode cL_law 349 = .ok (.iaload, 1) := by decide +kernel
theorem dL_law_350 : decode cL_law 350 = .ok (.aload_n 0, 1) := by decide +kernel
theorem dL_law_351 : decode cL_law 351 = .ok (.iload 4, 2) := by decide +kernel
theorem dL_law_353 : decode cL_law 353 = .ok (.iconst 2, 1) := by decide +kernel
theorem dL_law_354 : decode cL_law 354 = .ok (.iadd, 1) := by decide +kernel
theorem dL_law_355 : decode cL_law 355 = .ok (.iaload, 1) := by decide +kernel
theorem dL_law_356 : decode cL_law 356 = .ok (.aload_n 3, 1) := by decide +kernel
theorem dL_law_357 : decode cL_law 357 = .ok (.invokestatic 80, 3) := by decide +kernel
theorem dL_law_360 : decode cL_law 360 = .ok (.istore 5, 2) := by decide +kernel
theorem dL_law_362 : decode cL_law 362 = .ok (.aload_n 2, 1) := by decide +kernel
theorem dL_law_363 : decode cL_law 363 = .ok (.aload_n 0, 1) := by decide +kernel
theorem dL_law_364 : decode cL_law 364 = .ok (.iload 4, 2) := by decide +kernel
theorem dL_law_366 : decode cL_law 366 = .ok (.iconst 1, 1) := by decide +kernel
theorem dL_law_367 : decode cL_law 367 = .ok (.iadd, 1) := by decide +kernel
theorem dL_law_368 : decode cL_law 368 = .ok (.iaload, 1) := by decide +kernel
theorem dL_law_369 : decode cL_law 369 = .ok (.aload_n 0, 1) := by decide +kernel
theorem dL_law_370 : decode cL_law 370 = .ok (.iload 4, 2) := by decide +kernel
theorem dL_law_372 : decode cL_law 372 = .ok (.iconst 2, 1) := by decide +kernel
theorem dL_law_373 : decode cL_law 373 = .ok (.iadd, 1) := by decide +kernel
theorem dL_law_374 : decode cL_law 374 = .ok (.iaload, 1) := by decide +kernel
theorem dL_law_375 : decode cL_law 375 = .ok (.invokevirtual 83, 3) := by decide +kernel
theorem dL_law_378 : decode cL_law 378 = .ok (.istore 6, 2) := by decide +kernel
theorem dL_law_380 : decode cL_law 380 = .ok (.aload_n 2, 1) := by decide +kernel
theorem dL_law_381 : decode cL_law 381 = .ok (.invokevirtual 62, 3) := by decide +kernel
theorem dL_law_384 : decode cL_law 384 = .ok (.iload 5, 2) := by decide +kernel
theorem dL_law_386 : decode cL_law 386 = .ok (.if_icmp .eq 5, 3) := by decide +kernel
theorem dL_law_389 : decode cL_law 389 = .ok (.iconst 0, 1) := by decide +kernel
theorem dL_law_390 : decode cL_law 390 = .ok (.ireturn, 1) := by decide +kernel
theorem dL_law_391 : decode cL_law 391 = .ok (.iload 5, 2) := by decide +kernel
theorem dL_law_393 : decode cL_law 393 = .ok (.ifCond .ne 15, 3) := by decide +kernel
theorem dL_law_396 : decode cL_law 396 = .ok (.aload_n 3, 1) := by decide +kernel
theorem dL_law_397 : decode cL_law 397 = .ok (.iconst 0, 1) := by decide +kernel
theorem dL_law_398 : decode cL_law 398 = .ok (.laload, 1) := by decide +kernel
theorem dL_law_399 : decode cL_law 399 = .ok (.iload 6, 2) := by decide +kernel
theorem dL_law_401 : decode cL_law 401 = .ok (.i2l, 1) := by decide +kernel
theorem dL_law_402 : decode cL_law 402 = .ok (.lcmp, 1) := by decide +kernel
theorem dL_law_403 : decode cL_law 403 = .ok (.ifCond .eq 5, 3) := by decide +kernel
theorem dL_law_406 : decode cL_law 406 = .ok (.iconst 0, 1) := by decide +kernel
theorem dL_law_407 : decode cL_law 407 = .ok (.ireturn, 1) := by decide +kernel
theorem dL_law_408 : decode cL_law 408 = .ok (.goto 238, 3) := by decide +kernel
theorem dL_law_411 : decode cL_law 411 = .ok (.aload_n 1, 1) := by decide +kernel
theorem dL_law_412 : decode cL_law 412 = .ok (.aload_n 0, 1) := by decide +kernel
theorem dL_law_413 : decode cL_law 413 = .ok (.iload 4, 2) := by decide +kernel
theorem dL_law_415 : decode cL_law 415 = .ok (.iconst 1, 1) := by decide +kernel
theorem dL_law_416 : decode cL_law 416 = .ok (.iadd, 1) := by decide +kernel
theorem dL_law_417 : decode cL_law 417 = .ok (.iaload, 1) := by decide +kernel
theorem dL_law_418 : decode cL_law 418 = .ok (.aload_n 0, 1) := by decide +kernel
theorem dL_law_419 : decode cL_law 419 = .ok (.iload 4, 2) := by decide +kernel
theorem dL_law_421 : decode cL_law 421 = .ok (.iconst 2, 1) := by decide +kernel
theorem dL_law_422 : decode cL_law 422 = .ok (.iadd, 1) := by decide +kernel
theorem dL_law_423 : decode cL_law 423 = .ok (.iaload, 1) := by decide +kernel
theorem dL_law_424 : decode cL_law 424 = .ok (.aload_n 3, 1) := by decide +kernel
theorem dL_law_425 : decode cL_law 425 = .ok (.invokestatic 84, 3) := by decide +kernel
theorem dL_law_428 : decode cL_law 428 = .ok (.istore 5, 2) := by decide +kernel
theorem dL_law_430 : decode cL_law 430 = .ok (.aload_n 2, 1) := by decide +kernel
theorem dL_law_431 : decode cL_law 431 = .ok (.aload_n 0, 1) := by decide +kernel
theorem dL_law_432 : decode cL_law 432 = .ok (.iload 4, 2) := by decide +kernel
theorem dL_law_434 : decode cL_law 434 = .ok (.iconst 1, 1) := by decide +kernel
theorem dL_law_435 : decode cL_law 435 = .ok (.iadd, 1) := by decide +kernel
theorem dL_law_436 : decode cL_law 436 = .ok (.iaload, 1) := by decide +kernel
end
section
theorem dL_law_437 : decode cL_law 437 = .ok (.aload_n 0, 1) := by decide +kernel
theorem dL_law_438 : decode cL_law 438 = .ok (.iload 4, 2) := by decide +kernel
theorem dL_law_440 : decode cL_law 440 = .ok (.iconst 2, 1) := by decide +kernel
theorem dL_law_441 : decode cL_law 441 = .ok (.iadd, 1) := by decide +kernel
theorem dL_law_442 : decode cL_law 442 = .ok (.iaload, 1) := by decide +kernel
theorem dL_law_443 : decode cL_law 443 = .ok (.invokevirtual 86, 3) := by decide +kernel
theorem dL_law_446 : decode cL_law 446 = .ok (.istore 6, 2) := by decide +kernel
theorem dL_law_448 : decode cL_law 448 = .ok (.aload_n 2, 1) := by decide +kernel
theorem dL_law_449 : decode cL_law 449 = .ok (.invokevirtual 62, 3) := by decide +kernel
theorem dL_law_452 : decode cL_law 452 = .ok (.iload 5, 2) := by decide +kernel
theorem dL_law_454 : decode cL_law 454 = .ok (.if_icmp .eq 5, 3) := by decide +kernel
theorem dL_law_457 : decode cL_law 457 = .ok (.iconst 0, 1) := by decide +kernel
theorem dL_law_458 : decode cL_law 458 = .ok (.ireturn, 1) := by decide +kernel
theorem dL_law_459 : decode cL_law 459 = .ok (.iload 5, 2) := by decide +kernel
theorem dL_law_461 : decode cL_law 461 = .ok (.ifCond .ne 15, 3) := by decide +kernel
theorem dL_law_464 : decode cL_law 464 = .ok (.aload_n 3, 1) := by decide +kernel
theorem dL_law_465 : decode cL_law 465 = .ok (.iconst 0, 1) := by decide +kernel
theorem dL_law_466 : decode cL_law 466 = .ok (.laload, 1) := by decide +kernel
theorem dL_law_467 : decode cL_law 467 = .ok (.iload 6, 2) := by decide +kernel
theorem dL_law_469 : decode cL_law 469 = .ok (.i2l, 1) := by decide +kernel
theorem dL_law_470 : decode cL_law 470 = .ok (.lcmp, 1) := by decide +kernel
theorem dL_law_471 : decode cL_law 471 = .ok (.ifCond .eq 5, 3) := by decide +kernel
theorem dL_law_474 : decode cL_law 474 = .ok (.iconst 0, 1) := by decide +kernel
theorem dL_law_475 : decode cL_law 475 = .ok (.ireturn, 1) := by decide +kernel
theorem dL_law_476 : decode cL_law 476 = .ok (.goto 170, 3) := by decide +kernel
theorem dL_law_479 : decode cL_law 479 = .ok (.aload_n 1, 1) := by decide +kernel
theorem dL_law_480 : decode cL_law 480 = .ok (.aload_n 0, 1) := by decide +kernel
theorem dL_law_481 : decode cL_law 481 = .ok (.iload 4, 2) := by decide +kernel
theorem dL_law_483 : decode cL_law 483 = .ok (.iconst 1, 1) := by decide +kernel
theorem dL_law_484 : decode cL_law 484 = .ok (.iadd, 1) := by decide +kernel
theorem dL_law_485 : decode cL_law 485 = .ok (.iaload, 1) := by decide +kernel
theorem dL_law_486 : decode cL_law 486 = .ok (.aload_n 0, 1) := by decide +kernel
theorem dL_law_487 : decode cL_law 487 = .ok (.iload 4, 2) := by decide +kernel
theorem dL_law_489 : decode cL_law 489 = .ok (.iconst 2, 1) := by decide +kernel
theorem dL_law_490 : decode cL_law 490 = .ok (.iadd, 1) := by decide +kernel
theorem dL_law_491 : decode cL_law 491 = .ok (.iaload, 1) := by decide +kernel
theorem dL_law_492 : decode cL_law 492 = .ok (.aload_n 3, 1) := by decide +kernel
theorem dL_law_493 : decode cL_law 493 = .ok (.invokestatic 87, 3) := by decide +kernel
theorem dL_law_496 : decode cL_law 496 = .ok (.istore 5, 2) := by decide +kernel
theorem dL_law_498 : decode cL_law 498 = .ok (.aload_n 2, 1) := by decide +kernel
theorem dL_law_499 : decode cL_law 499 = .ok (.aload_n 0, 1) := by decide +kernel
theorem dL_law_500 : decode cL_law 500 = .ok (.iload 4, 2) := by decide +kernel
theorem dL_law_502 : decode cL_law 502 = .ok (.iconst 1, 1) := by decide +kernel
theorem dL_law_503 : decode cL_law 503 = .ok (.iadd, 1) := by decide +kernel
theorem dL_law_504 : decode cL_law 504 = .ok (.iaload, 1) := by decide +kernel
theorem dL_law_505 : decode cL_law 505 = .ok (.aload_n 0, 1) := by decide +kernel
theorem dL_law_506 : decode cL_law 506 = .ok (.iload 4, 2) := by decide +kernel
theorem dL_law_508 : decode cL_law 508 = .ok (.iconst 2, 1) := by decide +kernel
theorem dL_law_509 : decode cL_law 509 = .ok (.iadd, 1) := by decide +kernel
theorem dL_law_510 : decode cL_law 510 = .ok (.iaload, 1) := by decide +kernel
theorem dL_law_511 : decode cL_law 511 = .ok (.invokevirtual 89, 3) := by decide +kernel
theorem dL_law_514 : decode cL_law 514 = .ok (.istore 6, 2) := by decide +kernel
theorem dL_law_516 : decode cL_law 516 = .ok (.aload_n 2, 1) := by decide +kernel
theorem dL_law_517 : decode cL_law 517 = .ok (.invokevirtual 62, 3) := by decide +kernel
theorem dL_law_520 : decode cL_law 520 = .ok (.iload 5, 2) := by decide +kernel
theorem dL_law_522 : decode cL_law 522 = .ok (.if_icmp .eq 5, 3) := by decide +kernel
theorem dL_law_525 : decode cL_law 525 = .ok (.iconst 0, 1) := by decide +kernel
theorem dL_law_526 : decode cL_law 526 = .ok (.ireturn, 1) := by decide +kernel
theorem dL_law_527 : decode cL_law 527 = .ok (.iload 5, 2) := by decide +kernel
theorem dL_law_529 : decode cL_law 529 = .ok (.ifCond .ne 15, 3) := by decide +kernel
theorem dL_law_532 : decode cL_law 532 = .ok (.aload_n 3, 1) := by decide +kernel
theorem dL_law_533 : decode cL_law 533 = .ok (.iconst 0, 1) := by decide +kernel
theorem dL_law_534 : decode cL_law 534 = .ok (.laload, 1) := by decide +kernel
theorem dL_law_535 : decode cL_law 535 = .ok (.iload 6, 2) := by decide +kernel
theorem dL_law_537 : decode cL_law 537 = .ok (.i2l, 1) := by decide +kernel
theorem dL_law_538 : decode cL_law 538 = .ok (.lcmp, 1) := by decide +kernel
theorem dL_law_539 : decode cL_law 539 = .ok (.ifCond .eq 5, 3) := by decide +kernel
theorem dL_law_542 : decode cL_law 542 = .ok (.iconst 0, 1) := by decide +kernel
theorem dL_law_543 : decode cL_law 543 = .ok (.ireturn, 1) := by decide +kernel
theorem dL_law_544 : decode cL_law 544 = .ok (.goto 102, 3) := by decide +kernel
theorem dL_law_547 : decode cL_law 547 = .ok (.aload_n 1, 1) := by decide +kernel
theorem dL_law_548 : decode cL_law 548 = .ok (.aload_n 0, 1) := by decide +kernel
theorem dL_law_549 : decode cL_law 549 = .ok (.iload 4, 2) := by decide +kernel
theorem dL_law_551 : decode cL_law 551 = .ok (.iconst 1, 1) := by decide +kernel
theorem dL_law_552 : decode cL_law 552 = .ok (.iadd, 1) := by decide +kernel
theorem dL_law_553 : decode cL_law 553 = .ok (.iaload, 1) := by decide +kernel
theorem dL_law_554 : decode cL_law 554 = .ok (.aload_n 3, 1) := by decide +kernel
theorem dL_law_555 : decode cL_law 555 = .ok (.invokestatic 90, 3) := by decide +kernel
theorem dL_law_558 : decode cL_law 558 = .ok (.istore 5, 2) := by decide +kernel
theorem dL_law_560 : decode cL_law 560 = .ok (.aload_n 2, 1) := by decide +kernel
theorem dL_law_561 : decode cL_law 561 = .ok (.aload_n 0, 1) := by decide +kernel
theorem dL_law_562 : decode cL_law 562 = .ok (.iload 4, 2) := by decide +kernel
theorem dL_law_564 : decode cL_law 564 = .ok (.iconst 1, 1) := by decide +kernel
theorem dL_law_565 : decode cL_law 565 = .ok (.iadd, 1) := by decide +kernel
theorem dL_law_566 : decode cL_law 566 = .ok (.iaload, 1) := by decide +kernel
theorem dL_law_567 : decode cL_law 567 = .ok (.invokevirtual 92, 3) := by decide +kernel
theorem dL_law_570 : decode cL_law 570 = .ok (.istore 6, 2) := by decide +kernel
theorem dL_law_572 : decode cL_law 572 = .ok (.aload_n 2, 1) := by decide +kernel
theorem dL_law_573 : decode cL_law 573 = .ok (.invokevirtual 62, 3) := by decide +kernel
theorem dL_law_576 : decode cL_law 576 = .ok (.iload 5, 2) := by decide +kernel
theorem dL_law_578 : decode cL_law 578 = .ok (.if_icmp .eq 5, 3) := by decide +kernel
theorem dL_law_581 : decode cL_law 581 = .ok (.iconst 0, 1) := by decide +kernel
theorem dL_law_582 : decode cL_law 582 = .ok (.ireturn, 1) := by decide +kernel
theorem dL_law_583 : decode cL_law 583 = .ok (.iload 5, 2) := by decide +kernel
theorem dL_law_585 : decode cL_law 585 = .ok (.ifCond .ne 15, 3) := by decide +kernel
theorem dL_law_588 : decode cL_law 588 = .ok (.aload_n 3, 1) := by decide +kernel
theorem dL_law_589 : decode cL_law 589 = .ok (.iconst 0, 1) := by decide +kernel
theorem dL_law_590 : decode cL_law 590 = .ok (.laload, 1) := by decide +kernel
theorem dL_law_591 : decode cL_law 591 = .ok (.iload 6, 2) := by decide +kernel
theorem dL_law_593 : decode cL_law 593 = .ok (.i2l, 1) := by decide +kernel
theorem dL_law_594 : decode cL_law 594 = .ok (.lcmp, 1) := by decide +kernel
theorem dL_law_595 : decode cL_law 595 = .ok (.ifCond .eq 5, 3) := by decide +kernel
theorem dL_law_598 : decode cL_law 598 = .ok (.iconst 0, 1) := by decide +kernel
theorem dL_law_599 : decode cL_law 599 = .ok (.ireturn, 1) := by decide +kernel
theorem dL_law_600 : decode cL_law 600 = .ok (.goto 46, 3) := by decide +kernel
theorem dL_law_603 : decode cL_law 603 = .ok (.aload_n 1, 1) := by decide +kernel
theorem dL_law_604 : decode cL_law 604 = .ok (.invokevirtual 93, 3) := by decide +kernel
theorem dL_law_607 : decode cL_law 607 = .ok (.f2d, 1) := by decide +kernel
theorem dL_law_608 : decode cL_law 608 = .ok (.dstore 5, 2) := by decide +kernel
theorem dL_law_610 : decode cL_law 610 = .ok (.aload_n 2, 1) := by decide +kernel
theorem dL_law_611 : decode cL_law 611 = .ok (.invokevirtual 97, 3) := by decide +kernel
theorem dL_law_614 : decode cL_law 614 = .ok (.f2d, 1) := by decide +kernel
theorem dL_law_615 : decode cL_law 615 = .ok (.dstore 7, 2) := by decide +kernel
theorem dL_law_617 : decode cL_law 617 = .ok (.dload 5, 2) := by decide +kernel
theorem dL_law_619 : decode cL_law 619 = .ok (.dload 7, 2) := by decide +kernel
theorem dL_law_621 : decode cL_law 621 = .ok (.dcmp .l, 1) := by decide +kernel
theorem dL_law_622 : decode cL_law 622 = .ok (.ifCond .eq 21, 3) := by decide +kernel
theorem dL_law_625 : decode cL_law 625 = .ok (.dload 5, 2) := by decide +kernel
theorem dL_law_627 : decode cL_law 627 = .ok (.dload 5, 2) := by decide +kernel
theorem dL_law_629 : decode cL_law 629 = .ok (.dcmp .l, 1) := by decide +kernel
theorem dL_law_630 : decode cL_law 630 = .ok (.ifCond .eq 11, 3) := by decide +kernel
theorem dL_law_633 : decode cL_law 633 = .ok (.dload 7, 2) := by decide +kernel
theorem dL_law_635 : decode cL_law 635 = .ok (.dload 7, 2) := by decide +kernel
theorem dL_law_637 : decode cL_law 637 = .ok (.dcmp .l, 1) := by decide +kernel
theorem dL_law_638 : decode cL_law 638 = .ok (.ifCond .ne 5, 3) := by decide +kernel
theorem dL_law_641 : decode cL_law 641 = .ok (.iconst 0, 1) := by decide +kernel
theorem dL_law_642 : decode cL_law 642 = .ok (.ireturn, 1) := by decide +kernel
theorem dL_law_643 : decode cL_law 643 = .ok (.goto 3, 3) := by decide +kernel
theorem dL_law_646 : decode cL_law 646 = .ok (.iinc 4 3, 3) := by decide +kernel
theorem dL_law_649 : decode cL_law 649 = .ok (.goto (-626), 3) := by decide +kernel
theorem dL_law_652 : decode cL_law 652 = .ok (.iconst 1, 1) := by decide +kernel
theorem dL_law_653 : decode cL_law 653 = .ok (.ireturn, 1) := by decide +kernel
end
section
/-! The judgement of this proof: E M d bc bs pc lv st hp Q: the method M, with d frames and bc cells of bs slots still free to it, stands at pc with the locals lv, the stack st and the heap hp (an address gives what its cell is, if it is ours); it comes to an end of which Q holds. Mt: the same of a whole call. Rows turn a goal at an instruction into one at the next. -/
abbrev Mth : Type := String × ByteArray × MethodName × Nat × Option FieldType × List (Nat × Nat × Nat × Nat)
/-- how a call ends: with a value or none, or by an exception of the class named -/
abbrev Oc : Type := Option Value ⊕ String
abbrev Hp : Type := Nat → Option va_E
def gw : List Cond := lw_tbl.filter goodWord
theorem gw_of {w : Cond} (h : w ∈ lw_tbl) (hg : goodWord w = true) : w ∈ gw := List.mem_filter.mpr ⟨h, hg⟩
theorem gw_t {w : Cond} (i : Nat) (h : tables_1[i]? = some w) (hg : goodWord w = true) : w ∈ gw := gw_of (List.mem_append_right _ (List.mem_of_getElem? h)) hg
theorem gw_s {w : Cond} (i : Nat) (h : (k2_sels lw_privs)[i]? = some w) (hg : goodWord w = true) : w ∈ gw := gw_of (List.mem_append_left _ (List.mem_of_getElem? h)) hg
theorem gw_good : GoodIn gw gw := fun w h => ⟨h, good_of_word (List.mem_filter.mp h).2⟩
def mcw (M : Mth) : Cond := match M.2.2.2.2.2 with
  | [] => .code M.2.2.1 M.2.1 M.2.2.2.1 M.2.2.2.2.1
  | h :: t => .codeWith M.2.2.1 M.2.1 M.2.2.2.1 M.2.2.2.2.1 (h :: t)
def mws (M : Mth) : List Cond := mcw M :: gw
/-- the classes of our objects -/
abbrev clx : List vw_C := [(RX0, TX0, 2), (RX1, TX1, 2), (RX2, TX2, 2), (RX3, TX3, 5), (RX4, TX4, 3), (RX5, TX5, 8), (RX6, TX6, 4), (RX7, TX7, 2), (RX8, TX8, 7), (RX9, TX9, 43)]
abbrev tyx (cy : Nat → ClassId) : List (ClassId × FieldType) := [(cy 0, .byte), (cy 1, .char), (cy 2, .int), (cy 3, .boolean), (cy 4, .long), (cy 5, .object "ChoiceParser$Expression"), (cy 6, .array .int)]
def Abv (base : Nat) : Nat → Prop := fun q => base ≤ q
/-- the heap holds what hp says -/
def HpA (D : va_G) (base : Nat) (hp : Hp) (H : Heap) : Prop := ∃ (L : List Nat) (f : Nat → va_E), (∀ a c, hp a = some c → a ∈ L ∧ f a = c) ∧ va_P D clx (va_pl L f) H ∧ va_D (Abv base) (va_pl L f)
def sgB : List Int32 := [61, 47, 38, 33, 42, 43, 63, 46, 91, 45, 93, 40, 41]
def strl : List (String × Nat × String) := [("ChoiceParser", 108, "it is no letter"), ("ChoiceParser", 113, "the input is full"), ("ChoiceParser", 119, "there is no such rule, or it has no expression"), ("ChoiceParser", 125, "a rule that stands in one has no expression"), ("ChoiceParser", 141, "there is no such place"), ("ChoiceParser", 143, "the grammar is not sound"), ("ChoiceParser", 159, "there is no such rule or place"), ("ChoiceParser", 170, "there is no such node or what"), ("ChoiceParser", 183, "none of the counts"), ("ChoiceParser", 94, "there is no such rule"), ("ChoiceParser$Matcher", 46, "a rule would have to be worked out too deep")]
/-- the text of the signs, and that texts are held in bytes -/
def SgA (base : Nat) (U : State) (H : Heap) : Prop := ∃ kS vS : Nat, vk_R "ChoiceParser" 189 "=/&!*+?.[-]()" kS U ∧ va_O "java/lang/String" kS (Abv base) U H ∧ va_OF "java/lang/String" "coder" "B" (.int 0) kS (Abv base) U H ∧ va_OF "java/lang/String" "value" "[B" (.ref vS) kS (Abv base) U H ∧ va_T .byte vS 13 (fun j => .int (sgB.getD j 0)) (Abv base) U H ∧ va_Z "java/lang/String" "COMPACT_STRINGS" "Z" (.int 1) (Abv base) U H
def nwl : List Cond := lw_tbl.filter (fun w => match w with
  | .fieldLinkNest .. => true
  | .methodLinkNest .. => true
  | .castable .. => true
  | _ => false)
/-- exceptions that a catch of the other doesn't take -/
def ncl : List (String × String) := [("java/lang/IllegalStateException", "java/lang/IllegalArgumentException"), ("java/lang/IllegalStateException", "java/util/NoSuchElementException"), ("java/lang/IllegalArgumentException", "java/util/NoSuchElementException")]
/-- all that stays as it is while the law runs -/
def Cx (D : va_G) (cy : Nat → ClassId) (base : Nat) (U : State) (H : Heap) : Prop :=
  va_K D clx (tyx cy) U ∧ (∀ w ∈ nwl, va_Nw w U) ∧ (∀ q ∈ strl, ∃ sa, vk_R q.1 q.2.1 q.2.2 sa U) ∧ va_AO "ChoiceParser$Expression" U ∧ vx_Zq Bundle.tN "UNASSIGNED_STACK" Bundle.steD (Abv base) U H ∧ vx_Zq Bundle.tN "SUPPRESSED_SENTINEL" Bundle.listD (Abv base) U H ∧ SgA base U H ∧ ∀ q ∈ ncl, va_Nc q.1 q.2 U
theorem nwl_warm {s U : State} (hW : s.WarmedH U.vm) (h : ∀ w ∈ nwl, va_Nw w s) : ∀ w ∈ nwl, va_Nw w U := by
  intro w hw
  have h1 := h w hw
  have h2 := (List.mem_filter.mp hw).2
  cases w <;> first | exact va_Nw.warmF hW h1 | exact va_Nw.warmM hW h1 | exact va_Nw.warmC hW h1 | exact absurd h2 Bool.false_ne_true
theorem SgA.warm {base : Nat} {s U : State} {H : Heap} (hW : s.WarmedH U.vm) (h : SgA base s H) : SgA base U H := by
  obtain ⟨kS, vS, h1, h2, h3, h4, h5, h6⟩ := h
  exact ⟨kS, vS, vk_R.warm hW h1, va_O.moved hW.alike h2, va_OF.moved hW.alike h3, va_OF.moved hW.alike h4, va_T.moved hW.alike h5, va_Z.moved hW.alike h6⟩
theorem SgA.kept {base : Nat} {U : State} {H H1 : Heap} (h : SgA base U H) (hq : ∀ a : Nat, a < H.size → ¬ Abv base a → H1[a]? = H[a]?) : SgA base U H1 := by
  obtain ⟨kS, vS, h1, h2, h3, h4, h5, h6⟩ := h
  exact ⟨kS, vS, h1, h2.kept hq, h3.kept hq, h4.kept hq, h5.kept hq, h6.kept hq⟩
theorem Cx.warm {D : va_G} {cy : Nat → ClassId} {base : Nat} {s U : State} {H : Heap} (hW : s.WarmedH U.vm) (h : Cx D cy base s H) : Cx D cy base U H :=
  ⟨va_K.moved hW.alike h.1, nwl_warm hW h.2.1, fun q hq => (h.2.2.1 q hq).elim (fun sa hs => ⟨sa, vk_R.warm hW hs⟩), va_AO.moved hW.alike h.2.2.2.1, vx_Zq.moved hW.alike h.2.2.2.2.1, vx_Zq.moved hW.alike h.2.2.2.2.2.1, SgA.warm hW h.2.2.2.2.2.2.1, fun q hq => va_Nc.moved hW.alike (h.2.2.2.2.2.2.2 q hq)⟩
theorem Cx.kept {D : va_G} {cy : Nat → ClassId} {base : Nat} {U : State} {H H1 : Heap} (h : Cx D cy base U H) (hq : ∀ a : Nat, a < H.size → ¬ Abv base a → H1[a]? = H[a]?) : Cx D cy base U H1 :=
  ⟨h.1, h.2.1, h.2.2.1, h.2.2.2.1, vx_Zq.kept h.2.2.2.2.1 hq, vx_Zq.kept h.2.2.2.2.2.1 hq, SgA.kept h.2.2.2.2.2.2.1 hq, h.2.2.2.2.2.2.2⟩
/-- the room of a method with d frames -/
def rmd (d mc ms : Nat) : Room := { frames := d, cells := mc, slots := ms, locals := 40 * d }
def PcA (D : va_G) (cy : Nat → ClassId) (base : Nat) (As : List Value) (hp : Hp) : Array Value → State → Prop := va_Pc As (fun U => Cx D cy base U U.heap ∧ HpA D base hp U.heap ∧ base ≤ U.heap.size)
def QcA (D : va_G) (base : Nat) (Q : Oc → Hp → Prop) : Array Value → State → Outcome → State → Prop := fun _ st o t => ∃ (v : Option Value) (hp : Hp), o = .returned v ∧ Q (.inl v) hp ∧ HpA D base hp t.heap ∧ va_F (Abv base) st t
def XcA (D : va_G) (base : Nat) (Q : Oc → Hp → Prop) : String → State → State → Prop := fun E st t => ∃ hp : Hp, Q (.inr E) hp ∧ HpA D base hp t.heap ∧ va_F (Abv base) st t
/-- a call of M with the arguments As, over the heap hp, ends as Q says -/
def Mt (l : Launch) (D : va_G) (cy : Nat → ClassId) (base : Nat) (M : Mth) (d mc ms : Nat) (As : List Value) (hp : Hp) (Q : Oc → Hp → Prop) : Prop :=
  vx_Met l M.2.2.1 (mws M) (rmd d mc ms) (PcA D cy base As hp) (QcA D base Q) (XcA D base Q) mc ms (Abv base)
/-- what a walk of M's body knows of the machine -/
def Bd (l : Launch) (D : va_G) (cy : Nat → ClassId) (base : Nat) (M : Mth) (p : Program) (s : State) (m : MethodId) (args : Array Value) (meth : Method) (c : Code) : Prop :=
  p.tables.exec = Jvm.exec ∧ c.code = M.2.1 ∧ c.maxLocals = M.2.2.2.1 ∧ s.vm.findClass M.1 = some m.cls ∧ (∀ w ∈ gw, w.before args s = true) ∧ meth.sig.returnType = M.2.2.2.2.1 ∧ meth.locks = false ∧ c.exceptionTable.toList = tableOf M.2.2.2.2.2 ∧ l.stackTraces = false ∧ Cx D cy base s s.heap ∧ base ≤ s.heap.size ∧ (M.2.2.1.name = "<init>" → meth.name = "<init>")
def E (l : Launch) (D : va_G) (cy : Nat → ClassId) (base : Nat) (M : Mth) (d bc bs : Nat) (pc : Nat) (lv : List (Nat × Value)) (st : List Value) (hp : Hp) (Q : Oc → Hp → Prop) : Prop :=
  ∀ (p : Program) (e : Env) (s : State) (m : MethodId) (args : Array Value) (below : List Frame) (meth : Method) (c : Code) (H : Heap) (locs : List Loc) (cells slots mc ms : Nat) (ls : Array Slot),
    Bd l D cy base M p s m args meth c → lv_has ls M.2.2.2.1 lv → HpA D base hp H → va_S (Abv base) s.heap H locs → cells + bc ≤ mc → slots + bs ≤ ms →
    W p l e (rmd d mc ms) s m args below meth c H locs cells slots (vx_MQ below (QcA D base Q) (XcA D base Q) args s mc ms (Abv base)) (F0 m pc ls st)
/-- the exception q, of class X, on its way out of the instruction at pc -/
def EX (l : Launch) (D : va_G) (cy : Nat → ClassId) (base : Nat) (M : Mth) (d bc bs : Nat) (pc : Nat) (lv : List (Nat × Value)) (X : String) (hp : Hp) (Q : Oc → Hp → Prop) : Prop :=
  ∀ (p : Program) (e : Env) (s : State) (m : MethodId) (args : Array Value) (below : List Frame) (meth : Method) (c : Code) (H : Heap) (locs : List Loc) (cells slots mc ms : Nat) (ls : Array Slot) (rest : List Value) (q : Nat) (ce : Cell),
    Bd l D cy base M p s m args meth c → lv_has ls M.2.2.2.1 lv → HpA D base hp H → va_S (Abv base) s.heap H locs → cells + bc ≤ mc → slots + bs ≤ ms → H[q]? = some ce → ce.vm = .none → s.vm.findClass X = some ce.cls →
    vx_W p l e (rmd d mc ms) s m args below meth c H locs cells slots (vx_MQ below (QcA D base Q) (XcA D base Q) args s mc ms (Abv base)) (F0 m pc ls rest) q
theorem HpA.get {D : va_G} {base : Nat} {hp : Hp} {H : Heap} (h : HpA D base hp H) {a : Nat} {c : va_E} (ha : hp a = some c) : ∃ (L : List Nat) (f : Nat → va_E) (k : Nat), (∀ a c, hp a = some c → a ∈ L ∧ f a = c) ∧ va_P D clx (va_pl L f) H ∧ va_D (Abv base) (va_pl L f) ∧ a ∈ L ∧ f a = c ∧ (va_pl L f)[k]? = some (a, c) ∧ (va_pl L f)[k]? = some (a, f a) := by
  obtain ⟨L, f, h1, h2, h3⟩ := h
  obtain ⟨h4, h5⟩ := h1 a c ha
  obtain ⟨k, hk⟩ := va_pl_get (X := []) (f := f) h4
  have hk : (va_pl L f)[k]? = some (a, f a) := hk
  exact ⟨L, f, k, h1, h2, h3, h4, h5, by rw [← h5]; exact hk, hk⟩
theorem HpA.set {D : va_G} {base : Nat} {hp : Hp} {H1 : Heap} {L : List Nat} {f : Nat → va_E} {a k : Nat} {c : va_E} (h : ∀ a c, hp a = some c → a ∈ L ∧ f a = c) (hD0 : va_D (Abv base) (va_pl L f)) (ha : a ∈ L) (hk : (va_pl L f)[k]? = some (a, f a)) (hP : va_P D clx ((va_pl L f).set k (a, c)) H1) (hD : va_D (Abv base) ((va_pl L f).set k (a, c))) : HpA D base (va_up hp a (some c)) H1 := by
  have e := va_pl_set (X := []) (e := c) hD0 ha hk
  have e : (va_pl L f).set k (a, c) = va_pl L (va_up f a c) := e
  rw [e] at hP hD
  refine ⟨L, va_up f a c, fun b c' hb => ?_, hP, hD⟩
  by_cases hba : b = a
  · subst hba
    rw [va_up_self] at hb ⊢
    exact ⟨ha, Option.some.inj hb⟩
  · rw [va_up_ne _ _ hba] at hb ⊢
    exact h b c' hb
theorem HpA.new {D : va_G} {base : Nat} {hp : Hp} {H1 : Heap} {L : List Nat} {f : Nat → va_E} {q : Nat} {c : va_E} (h : ∀ a c, hp a = some c → a ∈ L ∧ f a = c) (hP : va_P D clx (va_pl L f ++ [(q, c)]) H1) (hD : va_D (Abv base) (va_pl L f ++ [(q, c)])) : hp q = none ∧ HpA D base (va_up hp q (some c)) H1 := by
  have hq : q ∉ L := va_pl_fresh2 (X := []) hD
  have e := va_pl_push (f := f) (e := c) hq
  rw [e] at hP hD
  refine ⟨?_, L ++ [q], va_up f q c, fun b c' hb => ?_, hP, hD⟩
  · cases hx : hp q with
    | none => rfl
    | some c' => exact absurd (h q c' hx).1 hq
  · by_cases hba : b = q
    · subst hba
      rw [va_up_self] at hb ⊢
      exact ⟨List.mem_append_right _ (List.mem_singleton.mpr rfl), Option.some.inj hb⟩
    · rw [va_up_ne _ _ hba] at hb ⊢
      exact ⟨List.mem_append_left _ (h b c' hb).1, (h b c' hb).2⟩
section CORE
variable {l : Launch} {D : va_G} {cy : Nat → ClassId} {base : Nat} {M : Mth} {d bc bs pc : Nat} {lv : List (Nat × Value)} {st : List Value} {hp : Hp} {Q : Oc → Hp → Prop}
/-- fewer locals -/
theorem E.sub {lv' : List (Nat × Value)} (hl : ∀ q ∈ lv', q ∈ lv) (k : E l D cy base M d bc bs pc lv' st hp Q) : E l D cy base M d bc bs pc lv st hp Q :=
  fun p e s m args below meth c H locs cells slots mc ms ls B hv hH hS h1 h2 => k p e s m args below meth c H locs cells slots mc ms ls B ⟨hv.1, hv.2.1, fun q hq => hv.2.2 q (hl q hq)⟩ hH hS h1 h2
/-- more room than is wanted -/
theorem E.more {bc' bs' : Nat} (h1 : bc' ≤ bc) (h2 : bs' ≤ bs) (k : E l D cy base M d bc' bs' pc lv st hp Q) : E l D cy base M d bc bs pc lv st hp Q :=
  fun p e s m args below meth c H locs cells slots mc ms ls B hv hH hS g1 g2 => k p e s m args below meth c H locs cells slots mc ms ls B hv hH hS (by omega) (by omega)
theorem E.post {Q' : Oc → Hp → Prop} (h : ∀ o hp, Q' o hp → Q o hp) (k : E l D cy base M d bc bs pc lv st hp Q') : E l D cy base M d bc bs pc lv st hp Q := by
  intro p e s m args below meth c H locs cells slots mc ms ls B hv hH hS g1 g2 T hT X
  obtain ⟨t, a1, o, b1, b2, b3⟩ := k p e s m args below meth c H locs cells slots mc ms ls B hv hH hS g1 g2 T hT X
  refine ⟨t, a1, o, b1, b2, ?_⟩
  rcases b3 with ⟨⟨v, hp', e1, hq, hr⟩, hF⟩ | ⟨q, e1, X, ce, L, ⟨hp', hq, hr⟩, hF⟩
  · exact Or.inl ⟨⟨v, hp', e1, h _ _ hq, hr⟩, hF⟩
  · exact Or.inr ⟨q, e1, X, ce, L, ⟨hp', h _ _ hq, hr⟩, hF⟩
end CORE
end
section
def lget : List (Nat × Value) → Nat → Option Value
  | [], _ => none
  | (j, v) :: t, i => bif Nat.beq j i then some v else lget t i
theorem lget_mem : ∀ {lv : List (Nat × Value)} {i : Nat} {v : Value}, lget lv i = some v → (i, v) ∈ lv
  | (j, w) :: t, i, v, h => by
    unfold lget at h
    cases hb : Nat.beq j i with
    | true =>
      rw [hb] at h
      have hj : j = i := Nat.eq_of_beq_eq_true hb
      have hw : w = v := Option.some.inj h
      subst hj; subst hw
      exact List.mem_cons_self
    | false =>
      rw [hb] at h
      exact List.mem_cons_of_mem _ (lget_mem h)
def lset (lv : List (Nat × Value)) (i : Nat) (v : Value) : List (Nat × Value) := (i, v) :: lv.filter (fun q => !(q.1 == i) && !(q.1 + 1 == i && q.2.category == 2))
def lset2 (lv : List (Nat × Value)) (i : Nat) (v : Value) : List (Nat × Value) := (i, v) :: lv.filter (fun q => !(q.1 == i) && (!(q.1 == i + 1) && !(q.1 + 1 == i && q.2.category == 2)))
def lsubs (lv : List (Nat × Value)) : List (Nat × Value) → Prop
  | [] => True
  | (i, v) :: t => lget lv i = some v ∧ lsubs lv t
theorem lsubs_mem {lv : List (Nat × Value)} : ∀ {lv' : List (Nat × Value)}, lsubs lv lv' → ∀ q ∈ lv', q ∈ lv
  | [], _, q, h => by cases h
  | (i, v) :: t, hs, q, h => by
    rcases List.mem_cons.mp h with h | h
    · rw [h]; exact lget_mem hs.1
    · exact lsubs_mem hs.2 q h
section ROWS
variable {l : Launch} {D : va_G} {cy : Nat → ClassId} {base : Nat} {M : Mth} {d bc bs pc : Nat} {lv : List (Nat × Value)} {st : List Value} {hp : Hp} {Q : Oc → Hp → Prop}
theorem E.loc {lv' : List (Nat × Value)} (h : lsubs lv lv') (k : E l D cy base M d bc bs pc lv' st hp Q) : E l D cy base M d bc bs pc lv st hp Q := E.sub (lsubs_mem h) k
theorem E.iadd {x y : Int32} (hdg : decode M.2.1 pc = .ok (.iadd, 1))  (k : E l D cy base M d bc bs (pc + 1) lv (.int (x + y) :: st) hp Q) : E l D cy base M d bc bs (pc) lv (.int y :: .int x :: st) hp Q :=
  fun p e s m args below meth c H locs cells slots mc ms ls B hv hH hS g1 g2 => lv_iadd B.1 B.2.1 hdg  (k p e s m args below meth c H locs cells slots mc ms ls B hv hH hS g1 g2)
theorem E.isub {x y : Int32} (hdg : decode M.2.1 pc = .ok (.isub, 1))  (k : E l D cy base M d bc bs (pc + 1) lv (.int (x - y) :: st) hp Q) : E l D cy base M d bc bs (pc) lv (.int y :: .int x :: st) hp Q :=
  fun p e s m args below meth c H locs cells slots mc ms ls B hv hH hS g1 g2 => lv_isub B.1 B.2.1 hdg  (k p e s m args below meth c H locs cells slots mc ms ls B hv hH hS g1 g2)
theorem E.imul {x y : Int32} (hdg : decode M.2.1 pc = .ok (.imul, 1))  (k : E l D cy base M d bc bs (pc + 1) lv (.int (x * y) :: st) hp Q) : E l D cy base M d bc bs (pc) lv (.int y :: .int x :: st) hp Q :=
  fun p e s m args below meth c H locs cells slots mc ms ls B hv hH hS g1 g2 => lv_imul B.1 B.2.1 hdg  (k p e s m args below meth c H locs cells slots mc ms ls B hv hH hS g1 g2)
theorem E.iand {x y : Int32} (hdg : decode M.2.1 pc = .ok (.iand, 1))  (k : E l D cy base M d bc bs (pc + 1) lv (.int (x &&& y) :: st) hp Q) : E l D cy base M d bc bs (pc) lv (.int y :: .int x :: st) hp Q :=
  fun p e s m args below meth c H locs cells slots mc ms ls B hv hH hS g1 g2 => lv_iand B.1 B.2.1 hdg  (k p e s m args below meth c H locs cells slots mc ms ls B hv hH hS g1 g2)
theorem E.ior {x y : Int32} (hdg : decode M.2.1 pc = .ok (.ior, 1))  (k : E l D cy base M d bc bs (pc + 1) lv (.int (x ||| y) :: st) hp Q) : E l D cy base M d bc bs (pc) lv (.int y :: .int x :: st) hp Q :=
  fun p e s m args below meth c H locs cells slots mc ms ls B hv hH hS g1 g2 => lv_ior B.1 B.2.1 hdg  (k p e s m args below meth c H locs cells slots mc ms ls B hv hH hS g1 g2)
theorem E.ixor {x y : Int32} (hdg : decode M.2.1 pc = .ok (.ixor, 1))  (k : E l D cy base M d bc bs (pc + 1) lv (.int (x ^^^ y) :: st) hp Q) : E l D cy base M d bc bs (pc) lv (.int y :: .int x :: st) hp Q :=
  fun p e s m args below meth c H locs cells slots mc ms ls B hv hH hS g1 g2 => lv_ixor B.1 B.2.1 hdg  (k p e s m args below meth c H locs cells slots mc ms ls B hv hH hS g1 g2)
theorem E.ishl {x y : Int32} (hdg : decode M.2.1 pc = .ok (.ishl, 1))  (k : E l D cy base M d bc bs (pc + 1) lv (.int (x <<< (y &&& 31)) :: st) hp Q) : E l D cy base M d bc bs (pc) lv (.int y :: .int x :: st) hp Q :=
  fun p e s m args below meth c H locs cells slots mc ms ls B hv hH hS g1 g2 => lv_ishl B.1 B.2.1 hdg  (k p e s m args below meth c H locs cells slots mc ms ls B hv hH hS g1 g2)
theorem E.idiv {x y : Int32} (hdg : decode M.2.1 pc = .ok (.idiv, 1)) (hne : ¬ y = 0) (k : E l D cy base M d bc bs (pc + 1) lv (.int (x / y) :: st) hp Q) : E l D cy base M d bc bs (pc) lv (.int y :: .int x :: st) hp Q :=
  fun p e s m args below meth c H locs cells slots mc ms ls B hv hH hS g1 g2 => lv_idiv B.1 B.2.1 hdg hne (k p e s m args below meth c H locs cells slots mc ms ls B hv hH hS g1 g2)
theorem E.irem {x y : Int32} (hdg : decode M.2.1 pc = .ok (.irem, 1)) (hne : ¬ y = 0) (k : E l D cy base M d bc bs (pc + 1) lv (.int (x - x / y * y) :: st) hp Q) : E l D cy base M d bc bs (pc) lv (.int y :: .int x :: st) hp Q :=
  fun p e s m args below meth c H locs cells slots mc ms ls B hv hH hS g1 g2 => lv_irem B.1 B.2.1 hdg hne (k p e s m args below meth c H locs cells slots mc ms ls B hv hH hS g1 g2)
theorem E.iconst {n : Int} {v : Int32} (hdg : decode M.2.1 pc = .ok (.iconst n, 1)) (hv9 : Int32.ofInt n = v) (k : E l D cy base M d bc bs (pc + 1) lv (.int v :: st) hp Q) : E l D cy base M d bc bs (pc) lv (st) hp Q :=
  fun p e s m args below meth c H locs cells slots mc ms ls B hv hH hS g1 g2 => lv_iconst B.1 B.2.1 hdg hv9 (k p e s m args below meth c H locs cells slots mc ms ls B hv hH hS g1 g2)
theorem E.bipush {n : Int} {v : Int32} (hdg : decode M.2.1 pc = .ok (.bipush n, 2)) (hv9 : (Int8.ofInt n).toInt32 = v) (k : E l D cy base M d bc bs (pc + 2) lv (.int v :: st) hp Q) : E l D cy base M d bc bs (pc) lv (st) hp Q :=
  fun p e s m args below meth c H locs cells slots mc ms ls B hv hH hS g1 g2 => lv_bipush B.1 B.2.1 hdg hv9 (k p e s m args below meth c H locs cells slots mc ms ls B hv hH hS g1 g2)
theorem E.sipush {n : Int} {v : Int32} (hdg : decode M.2.1 pc = .ok (.sipush n, 3)) (hv9 : (Int16.ofInt n).toInt32 = v) (k : E l D cy base M d bc bs (pc + 3) lv (.int v :: st) hp Q) : E l D cy base M d bc bs (pc) lv (st) hp Q :=
  fun p e s m args below meth c H locs cells slots mc ms ls B hv hH hS g1 g2 => lv_sipush B.1 B.2.1 hdg hv9 (k p e s m args below meth c H locs cells slots mc ms ls B hv hH hS g1 g2)
theorem E.lconst {n : Fin 2} {v : Int64} (hdg : decode M.2.1 pc = .ok (.lconst n, 1)) (hv9 : Int64.ofNat (n : Nat) = v) (k : E l D cy base M d bc bs (pc + 1) lv (.long v :: st) hp Q) : E l D cy base M d bc bs (pc) lv (st) hp Q :=
  fun p e s m args below meth c H locs cells slots mc ms ls B hv hH hS g1 g2 => lv_lconst B.1 B.2.1 hdg hv9 (k p e s m args below meth c H locs cells slots mc ms ls B hv hH hS g1 g2)
theorem E.i2b {x v : Int32} (hdg : decode M.2.1 pc = .ok (.i2b, 1)) (hv9 : x.toInt8.toInt32 = v) (k : E l D cy base M d bc bs (pc + 1) lv (.int v :: st) hp Q) : E l D cy base M d bc bs (pc) lv (.int x :: st) hp Q :=
  fun p e s m args below meth c H locs cells slots mc ms ls B hv hH hS g1 g2 => lv_i2b B.1 B.2.1 hdg hv9 (k p e s m args below meth c H locs cells slots mc ms ls B hv hH hS g1 g2)
theorem E.i2c {x v : Int32} (hdg : decode M.2.1 pc = .ok (.i2c, 1)) (hv9 : (x.toUInt32 % 65536).toInt32 = v) (k : E l D cy base M d bc bs (pc + 1) lv (.int v :: st) hp Q) : E l D cy base M d bc bs (pc) lv (.int x :: st) hp Q :=
  fun p e s m args below meth c H locs cells slots mc ms ls B hv hH hS g1 g2 => lv_i2c B.1 B.2.1 hdg hv9 (k p e s m args below meth c H locs cells slots mc ms ls B hv hH hS g1 g2)
theorem E.i2l {x : Int32} {v : Int64} (hdg : decode M.2.1 pc = .ok (.i2l, 1)) (hv9 : x.toInt64 = v) (k : E l D cy base M d bc bs (pc + 1) lv (.long v :: st) hp Q) : E l D cy base M d bc bs (pc) lv (.int x :: st) hp Q :=
  fun p e s m args below meth c H locs cells slots mc ms ls B hv hH hS g1 g2 => lv_i2l B.1 B.2.1 hdg hv9 (k p e s m args below meth c H locs cells slots mc ms ls B hv hH hS g1 g2)
theorem E.i2f {x : Int32} (hdg : decode M.2.1 pc = .ok (.i2f, 1))  (k : E l D cy base M d bc bs (pc + 1) lv (.float (FP.i2f x) :: st) hp Q) : E l D cy base M d bc bs (pc) lv (.int x :: st) hp Q :=
  fun p e s m args below meth c H locs cells slots mc ms ls B hv hH hS g1 g2 => lv_i2f B.1 B.2.1 hdg  (k p e s m args below meth c H locs cells slots mc ms ls B hv hH hS g1 g2)
theorem E.fdiv {x y : UInt32} (hdg : decode M.2.1 pc = .ok (.fdiv, 1)) (hne : vf_n32 (FP.fdiv x y)) (k : E l D cy base M d bc bs (pc + 1) lv (.float (FP.fdiv x y) :: st) hp Q) : E l D cy base M d bc bs (pc) lv (.float y :: .float x :: st) hp Q :=
  fun p e s m args below meth c H locs cells slots mc ms ls B hv hH hS g1 g2 => lv_fdiv B.1 B.2.1 hdg hne (k p e s m args below meth c H locs cells slots mc ms ls B hv hH hS g1 g2)
theorem E.f2d {x : UInt32} (hdg : decode M.2.1 pc = .ok (.f2d, 1)) (hne : vf_n64 (FP.f2d x)) (k : E l D cy base M d bc bs (pc + 1) lv (.double (FP.f2d x) :: st) hp Q) : E l D cy base M d bc bs (pc) lv (.float x :: st) hp Q :=
  fun p e s m args below meth c H locs cells slots mc ms ls B hv hH hS g1 g2 => lv_f2d B.1 B.2.1 hdg hne (k p e s m args below meth c H locs cells slots mc ms ls B hv hH hS g1 g2)
theorem E.fconst0  (hdg : decode M.2.1 pc = .ok (.fconst 0, 1))  (k : E l D cy base M d bc bs (pc + 1) lv (.float FP.fconst0 :: st) hp Q) : E l D cy base M d bc bs (pc) lv (st) hp Q :=
  fun p e s m args below meth c H locs cells slots mc ms ls B hv hH hS g1 g2 => lv_fconst0 B.1 B.2.1 hdg  (k p e s m args below meth c H locs cells slots mc ms ls B hv hH hS g1 g2)
theorem E.dcmp {x y : UInt64} {op : CmpOp} (hdg : decode M.2.1 pc = .ok (.dcmp op, 1))  (k : E l D cy base M d bc bs (pc + 1) lv (.int (Op.cmpValue (FP.dcmp x y) op) :: st) hp Q) : E l D cy base M d bc bs (pc) lv (.double y :: .double x :: st) hp Q :=
  fun p e s m args below meth c H locs cells slots mc ms ls B hv hH hS g1 g2 => lv_dcmp B.1 B.2.1 hdg  (k p e s m args below meth c H locs cells slots mc ms ls B hv hH hS g1 g2)
theorem E.lcmp {x y : Int64} (hdg : decode M.2.1 pc = .ok (.lcmp, 1)) (k : E l D cy base M d bc bs (pc + 1) lv (.int (lg_cmp x y) :: st) hp Q) : E l D cy base M d bc bs (pc) lv (.long y :: .long x :: st) hp Q :=
  fun p e s m args below meth c H locs cells slots mc ms ls B hv hH hS g1 g2 => W.lcmp B.1 B.2.1 hdg (k p e s m args below meth c H locs cells slots mc ms ls B hv hH hS g1 g2)
theorem E.dup {va : Value} (hdg : decode M.2.1 pc = .ok (.dup, 1)) (h1 : va.category = 1) (k : E l D cy base M d bc bs (pc + 1) lv (va :: va :: st) hp Q) : E l D cy base M d bc bs (pc) lv (va :: st) hp Q :=
  fun p e s m args below meth c H locs cells slots mc ms ls B hv hH hS g1 g2 => lv_dup B.1 B.2.1 hdg h1 (k p e s m args below meth c H locs cells slots mc ms ls B hv hH hS g1 g2)
theorem E.pop {va : Value} (hdg : decode M.2.1 pc = .ok (.pop, 1)) (h1 : va.category = 1) (k : E l D cy base M d bc bs (pc + 1) lv (st) hp Q) : E l D cy base M d bc bs (pc) lv (va :: st) hp Q :=
  fun p e s m args below meth c H locs cells slots mc ms ls B hv hH hS g1 g2 => lv_pop B.1 B.2.1 hdg h1 (k p e s m args below meth c H locs cells slots mc ms ls B hv hH hS g1 g2)
theorem E.dup_x1 {va vb : Value} (hdg : decode M.2.1 pc = .ok (.dup_x1, 1)) (h1 : va.category = 1) (h2 : vb.category = 1) (k : E l D cy base M d bc bs (pc + 1) lv (va :: vb :: va :: st) hp Q) : E l D cy base M d bc bs (pc) lv (va :: vb :: st) hp Q :=
  fun p e s m args below meth c H locs cells slots mc ms ls B hv hH hS g1 g2 => lv_dup_x1 B.1 B.2.1 hdg h1 h2 (k p e s m args below meth c H locs cells slots mc ms ls B hv hH hS g1 g2)
theorem E.dup_x2 {va vb vd : Value} (hdg : decode M.2.1 pc = .ok (.dup_x2, 1)) (h1 : va.category = 1) (h2 : vb.category = 1) (h3 : vd.category = 1) (k : E l D cy base M d bc bs (pc + 1) lv (va :: vb :: vd :: va :: st) hp Q) : E l D cy base M d bc bs (pc) lv (va :: vb :: vd :: st) hp Q :=
  fun p e s m args below meth c H locs cells slots mc ms ls B hv hH hS g1 g2 => lv_dup_x2 B.1 B.2.1 hdg h1 h2 h3 (k p e s m args below meth c H locs cells slots mc ms ls B hv hH hS g1 g2)
theorem E.dup2 {va vb : Value} (hdg : decode M.2.1 pc = .ok (.dup2, 1)) (h1 : va.category = 1) (h2 : vb.category = 1) (k : E l D cy base M d bc bs (pc + 1) lv (va :: vb :: va :: vb :: st) hp Q) : E l D cy base M d bc bs (pc) lv (va :: vb :: st) hp Q :=
  fun p e s m args below meth c H locs cells slots mc ms ls B hv hH hS g1 g2 => lv_dup2_11 B.1 B.2.1 hdg h1 h2 (k p e s m args below meth c H locs cells slots mc ms ls B hv hH hS g1 g2)
theorem E.iload_n {k9 : Fin 4} {i : Nat} {x : Int32} (hdg : decode M.2.1 pc = .ok (.iload_n k9, 1)) (hi : (k9 : Nat) = i) (hg : lget lv i = some (.int x)) (k : E l D cy base M d bc bs (pc + 1) lv (.int x :: st) hp Q) : E l D cy base M d bc bs (pc) lv (st) hp Q :=
  fun p e s m args below meth c H locs cells slots mc ms ls B hv hH hS g1 g2 => lv_iload_n B.1 B.2.1 hdg hi (hv.2.2 _ (lget_mem hg)) (k p e s m args below meth c H locs cells slots mc ms ls B hv hH hS g1 g2)
theorem E.iload {i : Nat} {x : Int32} (hdg : decode M.2.1 pc = .ok (.iload i, 2)) (hg : lget lv i = some (.int x)) (k : E l D cy base M d bc bs (pc + 2) lv (.int x :: st) hp Q) : E l D cy base M d bc bs (pc) lv (st) hp Q :=
  fun p e s m args below meth c H locs cells slots mc ms ls B hv hH hS g1 g2 => lv_iload B.1 B.2.1 hdg (hv.2.2 _ (lget_mem hg)) (k p e s m args below meth c H locs cells slots mc ms ls B hv hH hS g1 g2)
theorem E.aload_n {k9 : Fin 4} {i : Nat} {x : Nat} (hdg : decode M.2.1 pc = .ok (.aload_n k9, 1)) (hi : (k9 : Nat) = i) (hg : lget lv i = some (.ref x)) (k : E l D cy base M d bc bs (pc + 1) lv (.ref x :: st) hp Q) : E l D cy base M d bc bs (pc) lv (st) hp Q :=
  fun p e s m args below meth c H locs cells slots mc ms ls B hv hH hS g1 g2 => lv_aload_n B.1 B.2.1 hdg hi (hv.2.2 _ (lget_mem hg)) (k p e s m args below meth c H locs cells slots mc ms ls B hv hH hS g1 g2)
theorem E.aload {i : Nat} {x : Nat} (hdg : decode M.2.1 pc = .ok (.aload i, 2)) (hg : lget lv i = some (.ref x)) (k : E l D cy base M d bc bs (pc + 2) lv (.ref x :: st) hp Q) : E l D cy base M d bc bs (pc) lv (st) hp Q :=
  fun p e s m args below meth c H locs cells slots mc ms ls B hv hH hS g1 g2 => lv_aload B.1 B.2.1 hdg (hv.2.2 _ (lget_mem hg)) (k p e s m args below meth c H locs cells slots mc ms ls B hv hH hS g1 g2)
theorem E.dload_n {k9 : Fin 4} {i : Nat} {x : UInt64} (hdg : decode M.2.1 pc = .ok (.dload_n k9, 1)) (hi : (k9 : Nat) = i) (hg : lget lv i = some (.double x)) (k : E l D cy base M d bc bs (pc + 1) lv (.double x :: st) hp Q) : E l D cy base M d bc bs (pc) lv (st) hp Q :=
  fun p e s m args below meth c H locs cells slots mc ms ls B hv hH hS g1 g2 => lv_dload_n B.1 B.2.1 hdg hi (hv.2.2 _ (lget_mem hg)) (k p e s m args below meth c H locs cells slots mc ms ls B hv hH hS g1 g2)
theorem E.dload {i : Nat} {x : UInt64} (hdg : decode M.2.1 pc = .ok (.dload i, 2)) (hg : lget lv i = some (.double x)) (k : E l D cy base M d bc bs (pc + 2) lv (.double x :: st) hp Q) : E l D cy base M d bc bs (pc) lv (st) hp Q :=
  fun p e s m args below meth c H locs cells slots mc ms ls B hv hH hS g1 g2 => lv_dload B.1 B.2.1 hdg (hv.2.2 _ (lget_mem hg)) (k p e s m args below meth c H locs cells slots mc ms ls B hv hH hS g1 g2)
theorem E.aloadq_n {k9 : Fin 4} {i : Nat} {r : Option Nat} (hdg : decode M.2.1 pc = .ok (.aload_n k9, 1)) (hi : (k9 : Nat) = i) (hg : lget lv i = some (va_rf r)) (k : E l D cy base M d bc bs (pc + 1) lv (va_rf r :: st) hp Q) : E l D cy base M d bc bs (pc) lv (st) hp Q := by
  intro p e s m args below meth c H locs cells slots mc ms ls B hv hH hS g1 g2
  have h1 := hv.2.2 _ (lget_mem hg)
  have h2 := k p e s m args below meth c H locs cells slots mc ms ls B hv hH hS g1 g2
  cases r with
  | none => exact lv_aload_nN B.1 B.2.1 hdg hi h1 h2
  | some x => exact lv_aload_n B.1 B.2.1 hdg hi h1 h2
theorem E.aloadq {i : Nat} {r : Option Nat} (hdg : decode M.2.1 pc = .ok (.aload i, 2)) (hg : lget lv i = some (va_rf r)) (k : E l D cy base M d bc bs (pc + 2) lv (va_rf r :: st) hp Q) : E l D cy base M d bc bs (pc) lv (st) hp Q := by
  intro p e s m args below meth c H locs cells slots mc ms ls B hv hH hS g1 g2
  have h1 := hv.2.2 _ (lget_mem hg)
  have h2 := k p e s m args below meth c H locs cells slots mc ms ls B hv hH hS g1 g2
  cases r with
  | none => exact lv_aloadN B.1 B.2.1 hdg h1 h2
  | some x => exact lv_aload B.1 B.2.1 hdg h1 h2
theorem E.istore_n {k9 : Fin 4} {i : Nat} {x : Int32} (hdg : decode M.2.1 pc = .ok (.istore_n k9, 1)) (hi : (k9 : Nat) = i) (hn : i < M.2.2.2.1) (k : E l D cy base M d bc bs (pc + 1) (lset lv i (.int x)) (st) hp Q) : E l D cy base M d bc bs (pc) lv (.int x :: st) hp Q :=
  fun p e s m args below meth c H locs cells slots mc ms ls B hv hH hS g1 g2 => lv_istore_n B.1 B.2.1 hdg hi hv hn rfl (fun ls hv => k p e s m args below meth c H locs cells slots mc ms ls B hv hH hS g1 g2)
theorem E.istore {i : Nat} {x : Int32} (hdg : decode M.2.1 pc = .ok (.istore i, 2)) (hn : i < M.2.2.2.1) (k : E l D cy base M d bc bs (pc + 2) (lset lv i (.int x)) (st) hp Q) : E l D cy base M d bc bs (pc) lv (.int x :: st) hp Q :=
  fun p e s m args below meth c H locs cells slots mc ms ls B hv hH hS g1 g2 => lv_istore B.1 B.2.1 hdg hv hn rfl (fun ls hv => k p e s m args below meth c H locs cells slots mc ms ls B hv hH hS g1 g2)
theorem E.astore_n {k9 : Fin 4} {i : Nat} {x : Nat} (hdg : decode M.2.1 pc = .ok (.astore_n k9, 1)) (hi : (k9 : Nat) = i) (hn : i < M.2.2.2.1) (k : E l D cy base M d bc bs (pc + 1) (lset lv i (.ref x)) (st) hp Q) : E l D cy base M d bc bs (pc) lv (.ref x :: st) hp Q :=
  fun p e s m args below meth c H locs cells slots mc ms ls B hv hH hS g1 g2 => lv_astore_n B.1 B.2.1 hdg hi hv hn rfl (fun ls hv => k p e s m args below meth c H locs cells slots mc ms ls B hv hH hS g1 g2)
theorem E.astore {i : Nat} {x : Nat} (hdg : decode M.2.1 pc = .ok (.astore i, 2)) (hn : i < M.2.2.2.1) (k : E l D cy base M d bc bs (pc + 2) (lset lv i (.ref x)) (st) hp Q) : E l D cy base M d bc bs (pc) lv (.ref x :: st) hp Q :=
  fun p e s m args below meth c H locs cells slots mc ms ls B hv hH hS g1 g2 => lv_astore B.1 B.2.1 hdg hv hn rfl (fun ls hv => k p e s m args below meth c H locs cells slots mc ms ls B hv hH hS g1 g2)
theorem E.dstore_n {k9 : Fin 4} {i : Nat} {x : UInt64} (hdg : decode M.2.1 pc = .ok (.dstore_n k9, 1)) (hi : (k9 : Nat) = i) (hn : i + 1 < M.2.2.2.1) (k : E l D cy base M d bc bs (pc + 1) (lset2 lv i (.double x)) (st) hp Q) : E l D cy base M d bc bs (pc) lv (.double x :: st) hp Q :=
  fun p e s m args below meth c H locs cells slots mc ms ls B hv hH hS g1 g2 => lv_dstore_n B.1 B.2.1 hdg hi hv hn rfl (fun ls hv => k p e s m args below meth c H locs cells slots mc ms ls B hv hH hS g1 g2)
theorem E.dstore {i : Nat} {x : UInt64} (hdg : decode M.2.1 pc = .ok (.dstore i, 2)) (hn : i + 1 < M.2.2.2.1) (k : E l D cy base M d bc bs (pc + 2) (lset2 lv i (.double x)) (st) hp Q) : E l D cy base M d bc bs (pc) lv (.double x :: st) hp Q :=
  fun p e s m args below meth c H locs cells slots mc ms ls B hv hH hS g1 g2 => lv_dstore B.1 B.2.1 hdg hv hn rfl (fun ls hv => k p e s m args below meth c H locs cells slots mc ms ls B hv hH hS g1 g2)
theorem E.astoreq_n {k9 : Fin 4} {i : Nat} {r : Option Nat} (hdg : decode M.2.1 pc = .ok (.astore_n k9, 1)) (hi : (k9 : Nat) = i) (hn : i < M.2.2.2.1) (k : E l D cy base M d bc bs (pc + 1) (lset lv i (va_rf r)) (st) hp Q) : E l D cy base M d bc bs (pc) lv (va_rf r :: st) hp Q := by
  intro p e s m args below meth c H locs cells slots mc ms ls B hv hH hS g1 g2
  cases r with
  | none => exact lv_astore_nN B.1 B.2.1 hdg hi hv hn rfl (fun ls hv => k p e s m args below meth c H locs cells slots mc ms ls B hv hH hS g1 g2)
  | some x => exact lv_astore_n B.1 B.2.1 hdg hi hv hn rfl (fun ls hv => k p e s m args below meth c H locs cells slots mc ms ls B hv hH hS g1 g2)
theorem E.astoreq {i : Nat} {r : Option Nat} (hdg : decode M.2.1 pc = .ok (.astore i, 2)) (hn : i < M.2.2.2.1) (k : E l D cy base M d bc bs (pc + 2) (lset lv i (va_rf r)) (st) hp Q) : E l D cy base M d bc bs (pc) lv (va_rf r :: st) hp Q := by
  intro p e s m args below meth c H locs cells slots mc ms ls B hv hH hS g1 g2
  cases r with
  | none => exact lv_astoreN B.1 B.2.1 hdg hv hn rfl (fun ls hv => k p e s m args below meth c H locs cells slots mc ms ls B hv hH hS g1 g2)
  | some x => exact lv_astore B.1 B.2.1 hdg hv hn rfl (fun ls hv => k p e s m args below meth c H locs cells slots mc ms ls B hv hH hS g1 g2)
theorem E.iinc {i : Nat} {n : Int} {x v : Int32} (hdg : decode M.2.1 pc = .ok (.iinc i n, 3)) (hg : lget lv i = some (.int x)) (hv9 : x + Int32.ofInt n = v) (hn : i < M.2.2.2.1) (k : E l D cy base M d bc bs (pc + 3) (lset lv i (.int v)) (st) hp Q) : E l D cy base M d bc bs (pc) lv (st) hp Q := by
  intro p e s m args below meth c H locs cells slots mc ms ls B hv hH hS g1 g2
  obtain ⟨k9, hk9⟩ := List.getElem?_of_mem (lget_mem hg)
  exact lv_iinc (k := k9) B.1 B.2.1 hdg hv hk9 hv9 hn rfl (fun ls hv => k p e s m args below meth c H locs cells slots mc ms ls B hv hH hS g1 g2)
theorem E.if_eq {x : Int32} {off : Int} (tgt : Nat) (hdg : decode M.2.1 pc = .ok (.ifCond .eq off, 3)) (ht : (pc : Int) + off = (tgt : Int)) (kt : x = 0 → E l D cy base M d bc bs (tgt) lv (st) hp Q) (kf : ¬ x = 0 → E l D cy base M d bc bs (pc + 3) lv (st) hp Q) : E l D cy base M d bc bs (pc) lv (.int x :: st) hp Q :=
  fun p e s m args below meth c H locs cells slots mc ms ls B hv hH hS g1 g2 => lv_if_eq B.1 B.2.1 hdg ht (fun h => kt h p e s m args below meth c H locs cells slots mc ms ls B hv hH hS g1 g2) (fun h => kf h p e s m args below meth c H locs cells slots mc ms ls B hv hH hS g1 g2)
theorem E.icmp_eq {x y : Int32} {off : Int} (tgt : Nat) (hdg : decode M.2.1 pc = .ok (.if_icmp .eq off, 3)) (ht : (pc : Int) + off = (tgt : Int)) (kt : x = y → E l D cy base M d bc bs (tgt) lv (st) hp Q) (kf : ¬ x = y → E l D cy base M d bc bs (pc + 3) lv (st) hp Q) : E l D cy base M d bc bs (pc) lv (.int y :: .int x :: st) hp Q :=
  fun p e s m args below meth c H locs cells slots mc ms ls B hv hH hS g1 g2 => lv_icmp_eq B.1 B.2.1 hdg ht (fun h => kt h p e s m args below meth c H locs cells slots mc ms ls B hv hH hS g1 g2) (fun h => kf h p e s m args below meth c H locs cells slots mc ms ls B hv hH hS g1 g2)
theorem E.if_ne {x : Int32} {off : Int} (tgt : Nat) (hdg : decode M.2.1 pc = .ok (.ifCond .ne off, 3)) (ht : (pc : Int) + off = (tgt : Int)) (kt : ¬ x = 0 → E l D cy base M d bc bs (tgt) lv (st) hp Q) (kf : x = 0 → E l D cy base M d bc bs (pc + 3) lv (st) hp Q) : E l D cy base M d bc bs (pc) lv (.int x :: st) hp Q :=
  fun p e s m args below meth c H locs cells slots mc ms ls B hv hH hS g1 g2 => lv_if_ne B.1 B.2.1 hdg ht (fun h => kt h p e s m args below meth c H locs cells slots mc ms ls B hv hH hS g1 g2) (fun h => kf h p e s m args below meth c H locs cells slots mc ms ls B hv hH hS g1 g2)
theorem E.icmp_ne {x y : Int32} {off : Int} (tgt : Nat) (hdg : decode M.2.1 pc = .ok (.if_icmp .ne off, 3)) (ht : (pc : Int) + off = (tgt : Int)) (kt : ¬ x = y → E l D cy base M d bc bs (tgt) lv (st) hp Q) (kf : x = y → E l D cy base M d bc bs (pc + 3) lv (st) hp Q) : E l D cy base M d bc bs (pc) lv (.int y :: .int x :: st) hp Q :=
  fun p e s m args below meth c H locs cells slots mc ms ls B hv hH hS g1 g2 => lv_icmp_ne B.1 B.2.1 hdg ht (fun h => kt h p e s m args below meth c H locs cells slots mc ms ls B hv hH hS g1 g2) (fun h => kf h p e s m args below meth c H locs cells slots mc ms ls B hv hH hS g1 g2)
theorem E.if_lt {x : Int32} {off : Int} (tgt : Nat) (hdg : decode M.2.1 pc = .ok (.ifCond .lt off, 3)) (ht : (pc : Int) + off = (tgt : Int)) (kt : x < 0 → E l D cy base M d bc bs (tgt) lv (st) hp Q) (kf : ¬ x < 0 → E l D cy base M d bc bs (pc + 3) lv (st) hp Q) : E l D cy base M d bc bs (pc) lv (.int x :: st) hp Q :=
  fun p e s m args below meth c H locs cells slots mc ms ls B hv hH hS g1 g2 => lv_if_lt B.1 B.2.1 hdg ht (fun h => kt h p e s m args below meth c H locs cells slots mc ms ls B hv hH hS g1 g2) (fun h => kf h p e s m args below meth c H locs cells slots mc ms ls B hv hH hS g1 g2)
theorem E.icmp_lt {x y : Int32} {off : Int} (tgt : Nat) (hdg : decode M.2.1 pc = .ok (.if_icmp .lt off, 3)) (ht : (pc : Int) + off = (tgt : Int)) (kt : x < y → E l D cy base M d bc bs (tgt) lv (st) hp Q) (kf : ¬ x < y → E l D cy base M d bc bs (pc + 3) lv (st) hp Q) : E l D cy base M d bc bs (pc) lv (.int y :: .int x :: st) hp Q :=
  fun p e s m args below meth c H locs cells slots mc ms ls B hv hH hS g1 g2 => lv_icmp_lt B.1 B.2.1 hdg ht (fun h => kt h p e s m args below meth c H locs cells slots mc ms ls B hv hH hS g1 g2) (fun h => kf h p e s m args below meth c H locs cells slots mc ms ls B hv hH hS g1 g2)
theorem E.if_ge {x : Int32} {off : Int} (tgt : Nat) (hdg : decode M.2.1 pc = .ok (.ifCond .ge off, 3)) (ht : (pc : Int) + off = (tgt : Int)) (kt : 0 ≤ x → E l D cy base M d bc bs (tgt) lv (st) hp Q) (kf : ¬ 0 ≤ x → E l D cy base M d bc bs (pc + 3) lv (st) hp Q) : E l D cy base M d bc bs (pc) lv (.int x :: st) hp Q :=
  fun p e s m args below meth c H locs cells slots mc ms ls B hv hH hS g1 g2 => lv_if_ge B.1 B.2.1 hdg ht (fun h => kt h p e s m args below meth c H locs cells slots mc ms ls B hv hH hS g1 g2) (fun h => kf h p e s m args below meth c H locs cells slots mc ms ls B hv hH hS g1 g2)
theorem E.icmp_ge {x y : Int32} {off : Int} (tgt : Nat) (hdg : decode M.2.1 pc = .ok (.if_icmp .ge off, 3)) (ht : (pc : Int) + off = (tgt : Int)) (kt : y ≤ x → E l D cy base M d bc bs (tgt) lv (st) hp Q) (kf : ¬ y ≤ x → E l D cy base M d bc bs (pc + 3) lv (st) hp Q) : E l D cy base M d bc bs (pc) lv (.int y :: .int x :: st) hp Q :=
  fun p e s m args below meth c H locs cells slots mc ms ls B hv hH hS g1 g2 => lv_icmp_ge B.1 B.2.1 hdg ht (fun h => kt h p e s m args below meth c H locs cells slots mc ms ls B hv hH hS g1 g2) (fun h => kf h p e s m args below meth c H locs cells slots mc ms ls B hv hH hS g1 g2)
theorem E.if_gt {x : Int32} {off : Int} (tgt : Nat) (hdg : decode M.2.1 pc = .ok (.ifCond .gt off, 3)) (ht : (pc : Int) + off = (tgt : Int)) (kt : 0 < x → E l D cy base M d bc bs (tgt) lv (st) hp Q) (kf : ¬ 0 < x → E l D cy base M d bc bs (pc + 3) lv (st) hp Q) : E l D cy base M d bc bs (pc) lv (.int x :: st) hp Q :=
  fun p e s m args below meth c H locs cells slots mc ms ls B hv hH hS g1 g2 => lv_if_gt B.1 B.2.1 hdg ht (fun h => kt h p e s m args below meth c H locs cells slots mc ms ls B hv hH hS g1 g2) (fun h => kf h p e s m args below meth c H locs cells slots mc ms ls B hv hH hS g1 g2)
theorem E.icmp_gt {x y : Int32} {off : Int} (tgt : Nat) (hdg : decode M.2.1 pc = .ok (.if_icmp .gt off, 3)) (ht : (pc : Int) + off = (tgt : Int)) (kt : y < x → E l D cy base M d bc bs (tgt) lv (st) hp Q) (kf : ¬ y < x → E l D cy base M d bc bs (pc + 3) lv (st) hp Q) : E l D cy base M d bc bs (pc) lv (.int y :: .int x :: st) hp Q :=
  fun p e s m args below meth c H locs cells slots mc ms ls B hv hH hS g1 g2 => lv_icmp_gt B.1 B.2.1 hdg ht (fun h => kt h p e s m args below meth c H locs cells slots mc ms ls B hv hH hS g1 g2) (fun h => kf h p e s m args below meth c H locs cells slots mc ms ls B hv hH hS g1 g2)
theorem E.if_le {x : Int32} {off : Int} (tgt : Nat) (hdg : decode M.2.1 pc = .ok (.ifCond .le off, 3)) (ht : (pc : Int) + off = (tgt : Int)) (kt : x ≤ 0 → E l D cy base M d bc bs (tgt) lv (st) hp Q) (kf : ¬ x ≤ 0 → E l D cy base M d bc bs (pc + 3) lv (st) hp Q) : E l D cy base M d bc bs (pc) lv (.int x :: st) hp Q :=
  fun p e s m args below meth c H locs cells slots mc ms ls B hv hH hS g1 g2 => lv_if_le B.1 B.2.1 hdg ht (fun h => kt h p e s m args below meth c H locs cells slots mc ms ls B hv hH hS g1 g2) (fun h => kf h p e s m args below meth c H locs cells slots mc ms ls B hv hH hS g1 g2)
theorem E.icmp_le {x y : Int32} {off : Int} (tgt : Nat) (hdg : decode M.2.1 pc = .ok (.if_icmp .le off, 3)) (ht : (pc : Int) + off = (tgt : Int)) (kt : x ≤ y → E l D cy base M d bc bs (tgt) lv (st) hp Q) (kf : ¬ x ≤ y → E l D cy base M d bc bs (pc + 3) lv (st) hp Q) : E l D cy base M d bc bs (pc) lv (.int y :: .int x :: st) hp Q :=
  fun p e s m args below meth c H locs cells slots mc ms ls B hv hH hS g1 g2 => lv_icmp_le B.1 B.2.1 hdg ht (fun h => kt h p e s m args below meth c H locs cells slots mc ms ls B hv hH hS g1 g2) (fun h => kf h p e s m args below meth c H locs cells slots mc ms ls B hv hH hS g1 g2)
theorem E.acmp_ne {rx ry : Option Nat} {off : Int} (tgt : Nat) (hdg : decode M.2.1 pc = .ok (.if_acmp .ne off, 3)) (ht : (pc : Int) + off = (tgt : Int)) (kt : ¬ rx = ry → E l D cy base M d bc bs (tgt) lv (st) hp Q) (kf : rx = ry → E l D cy base M d bc bs (pc + 3) lv (st) hp Q) : E l D cy base M d bc bs (pc) lv (va_rf ry :: va_rf rx :: st) hp Q :=
  fun p e s m args below meth c H locs cells slots mc ms ls B hv hH hS g1 g2 => lv_acmp_ne B.1 B.2.1 hdg ht (fun h => kt h p e s m args below meth c H locs cells slots mc ms ls B hv hH hS g1 g2) (fun h => kf h p e s m args below meth c H locs cells slots mc ms ls B hv hH hS g1 g2)
theorem E.goto {off : Int} (tgt : Nat) (hdg : decode M.2.1 pc = .ok (.goto off, 3)) (ht : (pc : Int) + off = (tgt : Int)) (k : E l D cy base M d bc bs (tgt) lv (st) hp Q) : E l D cy base M d bc bs (pc) lv (st) hp Q :=
  fun p e s m args below meth c H locs cells slots mc ms ls B hv hH hS g1 g2 => lv_goto B.1 B.2.1 hdg ht (k p e s m args below meth c H locs cells slots mc ms ls B hv hH hS g1 g2)
theorem E.ifnull {r : Option Nat} {off : Int} (tgt : Nat) (hdg : decode M.2.1 pc = .ok (.ifnull off, 3)) (ht : (pc : Int) + off = (tgt : Int)) (kt : r = none → E l D cy base M d bc bs (tgt) lv (st) hp Q) (kf : ∀ a, r = some a → E l D cy base M d bc bs (pc + 3) lv (st) hp Q) : E l D cy base M d bc bs (pc) lv (va_rf r :: st) hp Q := by
  intro p e s m args below meth c H locs cells slots mc ms ls B hv hH hS g1 g2
  cases r with
  | none => exact lv_ifnullN B.1 B.2.1 hdg ht (kt rfl p e s m args below meth c H locs cells slots mc ms ls B hv hH hS g1 g2)
  | some a => exact lv_ifnull B.1 B.2.1 hdg (kf a rfl p e s m args below meth c H locs cells slots mc ms ls B hv hH hS g1 g2)
theorem E.ifnonnull {r : Option Nat} {off : Int} (tgt : Nat) (hdg : decode M.2.1 pc = .ok (.ifnonnull off, 3)) (ht : (pc : Int) + off = (tgt : Int)) (kt : ∀ a, r = some a → E l D cy base M d bc bs (tgt) lv (st) hp Q) (kf : r = none → E l D cy base M d bc bs (pc + 3) lv (st) hp Q) : E l D cy base M d bc bs (pc) lv (va_rf r :: st) hp Q := by
  intro p e s m args below meth c H locs cells slots mc ms ls B hv hH hS g1 g2
  cases r with
  | none => exact lv_ifnonnullN B.1 B.2.1 hdg (kf rfl p e s m args below meth c H locs cells slots mc ms ls B hv hH hS g1 g2)
  | some a => exact lv_ifnonnull B.1 B.2.1 hdg ht (kt a rfl p e s m args below meth c H locs cells slots mc ms ls B hv hH hS g1 g2)
theorem E.null (hdg : decode M.2.1 pc = .ok (.aconst_null, 1)) (k : E l D cy base M d bc bs (pc + 1) lv (va_rf none :: st) hp Q) : E l D cy base M d bc bs (pc) lv (st) hp Q :=
  fun p e s m args below meth c H locs cells slots mc ms ls B hv hH hS g1 g2 => lv_null B.1 B.2.1 hdg (k p e s m args below meth c H locs cells slots mc ms ls B hv hH hS g1 g2)
theorem E.tableIn {dflt lo hi : Int} {offs : Array Int} {len : Nat} {x : Int32} {off : Int} (tgt : Nat) (hdg : decode M.2.1 pc = .ok (.tableswitch dflt lo hi offs, len)) (h1 : ¬ x.toInt < lo) (h2 : ¬ hi < x.toInt) (ho : offs[(x.toInt - lo).toNat]? = some off) (ht : (pc : Int) + off = (tgt : Int)) (k : E l D cy base M d bc bs (tgt) lv (st) hp Q) : E l D cy base M d bc bs (pc) lv (.int x :: st) hp Q :=
  fun p e s m args below meth c H locs cells slots mc ms ls B hv hH hS g1 g2 => lv_tableIn B.1 B.2.1 hdg h1 h2 ho ht (k p e s m args below meth c H locs cells slots mc ms ls B hv hH hS g1 g2)
theorem E.tableOut {dflt lo hi : Int} {offs : Array Int} {len : Nat} {x : Int32} (tgt : Nat) (hdg : decode M.2.1 pc = .ok (.tableswitch dflt lo hi offs, len)) (h : x.toInt < lo ∨ hi < x.toInt) (ht : (pc : Int) + dflt = (tgt : Int)) (k : E l D cy base M d bc bs (tgt) lv (st) hp Q) : E l D cy base M d bc bs (pc) lv (.int x :: st) hp Q :=
  fun p e s m args below meth c H locs cells slots mc ms ls B hv hH hS g1 g2 => lv_tableOut B.1 B.2.1 hdg h ht (k p e s m args below meth c H locs cells slots mc ms ls B hv hH hS g1 g2)
theorem E.lookup {dflt : Int} {ps : Array (Int × Int)} {len : Nat} {x : Int32} {off : Int} (tgt : Nat) (hdg : decode M.2.1 pc = .ok (.lookupswitch dflt ps, len)) (hp9 : (ps.toList.zip (ps.toList.drop 1)).all (fun (a, next) => a.1 < next.1) = true) (ho : Op.lookupswitch.offset ps.toList dflt x.toInt = off) (ht : (pc : Int) + off = (tgt : Int)) (k : E l D cy base M d bc bs (tgt) lv (st) hp Q) : E l D cy base M d bc bs (pc) lv (.int x :: st) hp Q :=
  fun p e s m args below meth c H locs cells slots mc ms ls B hv hH hS g1 g2 => lv_lookup B.1 B.2.1 hdg hp9 ho ht (k p e s m args below meth c H locs cells slots mc ms ls B hv hH hS g1 g2)
theorem E.fload_n {k9 : Fin 4} {i : Nat} {x : UInt32} (hdg : decode M.2.1 pc = .ok (.fload_n k9, 1)) (hi : (k9 : Nat) = i) (hg : lget lv i = some (.float x)) (k : E l D cy base M d bc bs (pc + 1) lv (.float x :: st) hp Q) : E l D cy base M d bc bs (pc) lv (st) hp Q :=
  fun p e s m args below meth c H locs cells slots mc ms ls B hv hH hS g1 g2 => lv_fload_n B.1 B.2.1 hdg hi (hv.2.2 _ (lget_mem hg)) (k p e s m args below meth c H locs cells slots mc ms ls B hv hH hS g1 g2)
theorem E.fstore_n {k9 : Fin 4} {i : Nat} {x : UInt32} (hdg : decode M.2.1 pc = .ok (.fstore_n k9, 1)) (hi : (k9 : Nat) = i) (hn : i < M.2.2.2.1) (k : E l D cy base M d bc bs (pc + 1) (lset lv i (.float x)) (st) hp Q) : E l D cy base M d bc bs (pc) lv (.float x :: st) hp Q :=
  fun p e s m args below meth c H locs cells slots mc ms ls B hv hH hS g1 g2 => lv_fstore_n B.1 B.2.1 hdg hi hv hn rfl (fun ls hv => k p e s m args below meth c H locs cells slots mc ms ls B hv hH hS g1 g2)
theorem E.iret {v : Int32} (hr : M.2.2.2.2.1 = some .int) (hdg : decode M.2.1 pc = .ok (.ireturn, 1)) (hq : Q (.inl (some (.int v))) hp) : E l D cy base M d bc bs pc lv [.int v] hp Q := by
  intro p e s m args below meth c H locs cells slots mc ms ls B hv hH hS g1 g2
  refine W.widen (k := mc) (n := ms) (by omega) (by omega) (vx_ret ?_)
  exact W.iret B.1 B.2.1 (B.2.2.2.2.2.1.trans hr)  (fun t ht hW => ⟨_, hp, rfl, hq, by rw [ht]; exact hH, hS.F ht⟩) hS.2.2 hdg B.2.2.2.2.2.2.1
theorem E.fret {v : UInt32} (hr : M.2.2.2.2.1 = some .float) (hdg : decode M.2.1 pc = .ok (.freturn, 1)) (hq : Q (.inl (some (.float v))) hp) : E l D cy base M d bc bs pc lv [.float v] hp Q := by
  intro p e s m args below meth c H locs cells slots mc ms ls B hv hH hS g1 g2
  refine W.widen (k := mc) (n := ms) (by omega) (by omega) (vx_ret ?_)
  exact W.fret B.1 B.2.1 (B.2.2.2.2.2.1.trans hr)  (fun t ht hW => ⟨_, hp, rfl, hq, by rw [ht]; exact hH, hS.F ht⟩) hS.2.2 hdg B.2.2.2.2.2.2.1
theorem E.zret {v : Int32} {ty : FieldType} (hr : M.2.2.2.2.1 = some ty) (hn : narrow ty (.int v) = .int v) (hdg : decode M.2.1 pc = .ok (.ireturn, 1)) (hq : Q (.inl (some (.int v))) hp) : E l D cy base M d bc bs pc lv [.int v] hp Q := by
  intro p e s m args below meth c H locs cells slots mc ms ls B hv hH hS g1 g2
  refine W.widen (k := mc) (n := ms) (by omega) (by omega) (vx_ret ?_)
  exact W.zret B.1 B.2.1 (B.2.2.2.2.2.1.trans hr) hn (fun t ht hW => ⟨_, hp, rfl, hq, by rw [ht]; exact hH, hS.F ht⟩) hS.2.2 hdg B.2.2.2.2.2.2.1
theorem E.vret (hr : M.2.2.2.2.1 = none) (hdg : decode M.2.1 pc = .ok (.return_, 1)) (hq : Q (.inl none) hp) : E l D cy base M d bc bs pc lv [] hp Q := by
  intro p e s m args below meth c H locs cells slots mc ms ls B hv hH hS g1 g2
  refine W.widen (k := mc) (n := ms) (by omega) (by omega) (vx_ret ?_)
  exact W.vret B.1 B.2.1 (B.2.2.2.2.2.1.trans hr) (fun t ht hW => ⟨_, hp, rfl, hq, by rw [ht]; exact hH, hS.F ht⟩) hS.2.2 hdg B.2.2.2.2.2.2.1
theorem E.aret {r : Option Nat} {nm : String} (hr : M.2.2.2.2.1 = some (.object nm)) (hdg : decode M.2.1 pc = .ok (.areturn, 1)) (hq : Q (.inl (some (va_rf r))) hp) : E l D cy base M d bc bs pc lv [va_rf r] hp Q := by
  intro p e s m args below meth c H locs cells slots mc ms ls B hv hH hS g1 g2
  refine W.widen (k := mc) (n := ms) (by omega) (by omega) (vx_ret ?_)
  exact W.aret B.1 B.2.1 (B.2.2.2.2.2.1.trans hr) (Or.inl ⟨_, rfl⟩) (va_rf_or r) (fun t ht hW => ⟨_, hp, rfl, hq, by rw [ht]; exact hH, hS.F ht⟩) hS.2.2 hdg B.2.2.2.2.2.2.1
end ROWS
end
section
/-! Fields and arrays over the judgement. CF: a class of ours and its words; FLD: what a class file's place names a field. -/
def CF (ci : Nat) (C : String) (T : u_T) (N : Nat) (ty : Nat → FieldType) : Prop := clx[ci]? = some (C, T, N) ∧ (∀ w ∈ u_ws C T N, w ∈ gw) ∧ (∀ j, j < N → parseFieldDescriptor (T j).2.2.1 = some (ty j)) ∧ (∀ a, a < N → ∀ b, b < N → a ≠ b → (T a).2.1 ≠ (T b).2.1)
def FLD (own : String) (idx ci k : Nat) (ty : FieldType) (fin : Bool) : Prop := ∃ (C : String) (T : u_T) (N : Nat) (ty0 : Nat → FieldType), CF ci C T N ty0 ∧ k < N ∧ (Cond.fieldLink own idx (T k).1 (T k).2.1 (T k).2.2.1 ∈ gw ∨ ∃ host, Cond.fieldLinkNest own idx (T k).1 (T k).2.1 (T k).2.2.1 host ∈ nwl) ∧ ty0 k = ty ∧ (T k).2.2.2 = fin
/-- a final field, written by its own class's constructor -/
def FLF (own : String) (idx ci k : Nat) (ty : FieldType) : Prop := ∃ (C : String) (T : u_T) (N : Nat) (ty0 : Nat → FieldType), CF ci C T N ty0 ∧ k < N ∧ Cond.fieldLink own idx (T k).1 (T k).2.1 (T k).2.2.1 ∈ gw ∧ ty0 k = ty ∧ (T k).2.2.2 = true ∧ (T k).1 = own
section HEAP
variable {l : Launch} {D : va_G} {cy : Nat → ClassId} {base : Nat} {M : Mth} {d bc bs pc : Nat} {lv : List (Nat × Value)} {st : List Value} {hp : Hp} {Q : Oc → Hp → Prop}
theorem E.get {idx ci k a : Nat} {ty : FieldType} {fin : Bool} {fs : List Value} {v : Value} (hf : FLD M.1 idx ci k ty fin) (hdg : decode M.2.1 pc = .ok (.getfield idx, 3)) (ha : hp a = some (.inr (ci, fs))) (hv9 : fs[k]? = some v) (kk : E l D cy base M d bc bs (pc + 3) lv (v :: st) hp Q) : E l D cy base M d bc bs pc lv (.ref a :: st) hp Q := by
  intro p e s m args below meth c H locs cells slots mc ms ls B hv hH hS g1 g2
  obtain ⟨C, T, N, ty0, ⟨c1, c2, c3, c4⟩, hk, hl, -, -⟩ := hf
  obtain ⟨L, f, q0, h1, hP, hD, h4, h5, he, he2⟩ := hH.get ha
  have K := kk p e s m args below meth c H locs cells slots mc ms ls B hv hH hS g1 g2
  rcases hl with hl | ⟨host, hl⟩
  · exact va_get (D := D) B.1 B.2.1 B.2.2.2.2.1 c2 B.2.2.2.1 B.2.2.2.2.2.2.2.2.2.1.1 hP q0 he c1 k hk (B.2.2.2.2.1 _ hl) (fun _ h => h) hv9 hdg K
  · exact va_getN (D := D) B.1 B.2.1 B.2.2.2.2.1 c2 B.2.2.2.1 B.2.2.2.2.2.2.2.2.2.1.1 hP q0 he c1 k hk (va_Nw.use rfl (B.2.2.2.2.2.2.2.2.2.1.2.1 _ hl)) (fun _ h => h) hv9 hdg K
theorem E.put {idx ci k a : Nat} {ty : FieldType} {fs : List Value} {v : Value} (hf : FLD M.1 idx ci k ty false) (hdg : decode M.2.1 pc = .ok (.putfield idx, 3)) (ha : hp a = some (.inr (ci, fs))) (hl9 : k < fs.length) (hn : narrow ty v = v) (hfit : fits ty v = true) (kk : E l D cy base M d bc bs (pc + 3) lv st (va_up hp a (some (.inr (ci, fs.set k v)))) Q) : E l D cy base M d bc bs pc lv (v :: .ref a :: st) hp Q := by
  intro p e s m args below meth c H locs cells slots mc ms ls B hv hH hS g1 g2
  obtain ⟨C, T, N, ty0, ⟨c1, c2, c3, c4⟩, hk, hl, h6, h7⟩ := hf
  obtain ⟨L, f, q0, h1, hP, hD, h4, h5, he, he2⟩ := hH.get ha
  have hd := c3 k hk
  rw [h6] at hd
  rcases hl with hl | ⟨host, hl⟩
  · exact va_put (D := D) B.1 B.2.1 B.2.2.2.2.1 c2 ty0 c3 c4 B.2.2.2.1 B.2.2.2.2.2.2.2.2.2.1.1 hP hD hS q0 he c1 k hk (B.2.2.2.2.1 _ hl) (fun _ h => h) h7 hd hn hfit hl9 hdg (fun H1 locs1 hP1 hD1 hS1 => kk p e s m args below meth c H1 locs1 cells slots mc ms ls B hv (HpA.set h1 hD h4 he2 hP1 hD1) hS1 g1 g2)
  · exact va_putN (D := D) B.1 B.2.1 B.2.2.2.2.1 c2 ty0 c3 c4 B.2.2.2.1 B.2.2.2.2.2.2.2.2.2.1.1 hP hD hS q0 he c1 k hk (va_Nw.use rfl (B.2.2.2.2.2.2.2.2.2.1.2.1 _ hl)) (fun _ h => h) h7 hd hn hfit hl9 hdg (fun H1 locs1 hP1 hD1 hS1 => kk p e s m args below meth c H1 locs1 cells slots mc ms ls B hv (HpA.set h1 hD h4 he2 hP1 hD1) hS1 g1 g2)
theorem E.putF {idx ci k a : Nat} {ty : FieldType} {fs : List Value} {v : Value} (hf : FLF M.1 idx ci k ty) (hin : M.2.2.1.name = "<init>") (hdg : decode M.2.1 pc = .ok (.putfield idx, 3)) (ha : hp a = some (.inr (ci, fs))) (hl9 : k < fs.length) (hn : narrow ty v = v) (hfit : fits ty v = true) (kk : E l D cy base M d bc bs (pc + 3) lv st (va_up hp a (some (.inr (ci, fs.set k v)))) Q) : E l D cy base M d bc bs pc lv (v :: .ref a :: st) hp Q := by
  intro p e s m args below meth c H locs cells slots mc ms ls B hv hH hS g1 g2
  obtain ⟨C, T, N, ty0, ⟨c1, c2, c3, c4⟩, hk, hl, h6, h7, h8⟩ := hf
  obtain ⟨L, f, q0, h1, hP, hD, h4, h5, he, he2⟩ := hH.get ha
  have hd := c3 k hk
  rw [h6] at hd
  exact va_putF (D := D) B.1 B.2.1 B.2.2.2.2.1 c2 ty0 c3 c4 B.2.2.2.1 B.2.2.2.2.2.2.2.2.2.1.1 hP hD hS q0 he c1 k hk (B.2.2.2.2.1 _ hl) (fun _ h => h) h7 (B.2.2.2.2.2.2.2.2.2.2.2 hin) h8 hd hn hfit hl9 hdg (fun H1 locs1 hP1 hD1 hS1 => kk p e s m args below meth c H1 locs1 cells slots mc ms ls B hv (HpA.set h1 hD h4 he2 hP1 hD1) hS1 g1 g2)
theorem E.ald {t0 a n : Nat} {f : Nat → Int32} {i : Int32} (ha : hp a = some (.inl (cy t0, n, .inl f))) (hin : vp_in i n) (hdg : (t0 = 2 ∧ decode M.2.1 pc = .ok (.iaload, 1)) ∨ (t0 = 1 ∧ decode M.2.1 pc = .ok (.caload, 1)) ∨ (t0 = 0 ∧ decode M.2.1 pc = .ok (.baload, 1)) ∨ (t0 = 3 ∧ decode M.2.1 pc = .ok (.baload, 1))) (kk : E l D cy base M d bc bs (pc + 1) lv (.int (f i.toNatClampNeg) :: st) hp Q) : E l D cy base M d bc bs pc lv (.int i :: .ref a :: st) hp Q := by
  intro p e s m args below meth c H locs cells slots mc ms ls B hv hH hS g1 g2
  obtain ⟨L, f0, q0, h1, hP, hD, h4, h5, he, he2⟩ := hH.get ha
  have K := kk p e s m args below meth c H locs cells slots mc ms ls B hv hH hS g1 g2
  have hK := B.2.2.2.2.2.2.2.2.2.1.1
  rcases hdg with ⟨rfl, hdg⟩ | ⟨rfl, hdg⟩ | ⟨rfl, hdg⟩ | ⟨rfl, hdg⟩
  · exact va_iald (D := D) B.1 B.2.1 hK hP q0 2 he rfl hin hdg K
  · exact va_cald (D := D) B.1 B.2.1 hK hP q0 1 he rfl hin hdg K
  · exact va_bald (D := D) B.1 B.2.1 hK hP q0 0 he rfl hin hdg K
  · exact va_zald (D := D) B.1 B.2.1 hK hP q0 3 he rfl hin hdg K
theorem E.iald {a n : Nat} {f : Nat → Int32} {i : Int32} (hdg : decode M.2.1 pc = .ok (.iaload, 1)) (ha : hp a = some (.inl (cy 2, n, .inl f))) (hin : vp_in i n) (kk : E l D cy base M d bc bs (pc + 1) lv (.int (f i.toNatClampNeg) :: st) hp Q) : E l D cy base M d bc bs pc lv (.int i :: .ref a :: st) hp Q := E.ald ha hin (Or.inl ⟨rfl, hdg⟩) kk
theorem E.cald {a n : Nat} {f : Nat → Int32} {i : Int32} (hdg : decode M.2.1 pc = .ok (.caload, 1)) (ha : hp a = some (.inl (cy 1, n, .inl f))) (hin : vp_in i n) (kk : E l D cy base M d bc bs (pc + 1) lv (.int (f i.toNatClampNeg) :: st) hp Q) : E l D cy base M d bc bs pc lv (.int i :: .ref a :: st) hp Q := E.ald ha hin (Or.inr (Or.inl ⟨rfl, hdg⟩)) kk
theorem E.bald {a n : Nat} {f : Nat → Int32} {i : Int32} (hdg : decode M.2.1 pc = .ok (.baload, 1)) (ha : hp a = some (.inl (cy 0, n, .inl f))) (hin : vp_in i n) (kk : E l D cy base M d bc bs (pc + 1) lv (.int (f i.toNatClampNeg) :: st) hp Q) : E l D cy base M d bc bs pc lv (.int i :: .ref a :: st) hp Q := E.ald ha hin (Or.inr (Or.inr (Or.inl ⟨rfl, hdg⟩))) kk
theorem E.zald {a n : Nat} {f : Nat → Int32} {i : Int32} (hdg : decode M.2.1 pc = .ok (.baload, 1)) (ha : hp a = some (.inl (cy 3, n, .inl f))) (hin : vp_in i n) (kk : E l D cy base M d bc bs (pc + 1) lv (.int (f i.toNatClampNeg) :: st) hp Q) : E l D cy base M d bc bs pc lv (.int i :: .ref a :: st) hp Q := E.ald ha hin (Or.inr (Or.inr (Or.inr ⟨rfl, hdg⟩))) kk
theorem E.iast {a n : Nat} {f : Nat → Int32} {i x : Int32} (hdg : decode M.2.1 pc = .ok (.iastore, 1)) (ha : hp a = some (.inl (cy 2, n, .inl f))) (hin : vp_in i n) (kk : E l D cy base M d bc bs (pc + 1) lv st (va_up hp a (some (.inl (cy 2, n, .inl (upd f i.toNatClampNeg x))))) Q) : E l D cy base M d bc bs pc lv (.int x :: .int i :: .ref a :: st) hp Q := by
  intro p e s m args below meth c H locs cells slots mc ms ls B hv hH hS g1 g2
  obtain ⟨L, f0, q0, h1, hP, hD, h4, h5, he, he2⟩ := hH.get ha
  exact va_iast (D := D) B.1 B.2.1 B.2.2.2.2.2.2.2.2.2.1.1 hP hD hS q0 2 he rfl hin hdg (fun H1 locs1 hP1 hD1 hS1 => kk p e s m args below meth c H1 locs1 cells slots mc ms ls B hv (HpA.set h1 hD h4 he2 hP1 hD1) hS1 g1 g2)
theorem E.cast {a n : Nat} {f : Nat → Int32} {i x : Int32} (hdg : decode M.2.1 pc = .ok (.castore, 1)) (ha : hp a = some (.inl (cy 1, n, .inl f))) (hin : vp_in i n) (kk : E l D cy base M d bc bs (pc + 1) lv st (va_up hp a (some (.inl (cy 1, n, .inl (upd f i.toNatClampNeg (vp_nar .char x)))))) Q) : E l D cy base M d bc bs pc lv (.int x :: .int i :: .ref a :: st) hp Q := by
  intro p e s m args below meth c H locs cells slots mc ms ls B hv hH hS g1 g2
  obtain ⟨L, f0, q0, h1, hP, hD, h4, h5, he, he2⟩ := hH.get ha
  exact va_cast (D := D) B.1 B.2.1 B.2.2.2.2.2.2.2.2.2.1.1 hP hD hS q0 1 he rfl hin hdg (fun H1 locs1 hP1 hD1 hS1 => kk p e s m args below meth c H1 locs1 cells slots mc ms ls B hv (HpA.set h1 hD h4 he2 hP1 hD1) hS1 g1 g2)
theorem E.bast {a n : Nat} {f : Nat → Int32} {i x : Int32} (hdg : decode M.2.1 pc = .ok (.bastore, 1)) (ha : hp a = some (.inl (cy 0, n, .inl f))) (hin : vp_in i n) (kk : E l D cy base M d bc bs (pc + 1) lv st (va_up hp a (some (.inl (cy 0, n, .inl (upd f i.toNatClampNeg (vp_nar .byte x)))))) Q) : E l D cy base M d bc bs pc lv (.int x :: .int i :: .ref a :: st) hp Q := by
  intro p e s m args below meth c H locs cells slots mc ms ls B hv hH hS g1 g2
  obtain ⟨L, f0, q0, h1, hP, hD, h4, h5, he, he2⟩ := hH.get ha
  exact va_bast (D := D) B.1 B.2.1 B.2.2.2.2.2.2.2.2.2.1.1 hP hD hS q0 0 he rfl hin hdg (fun H1 locs1 hP1 hD1 hS1 => kk p e s m args below meth c H1 locs1 cells slots mc ms ls B hv (HpA.set h1 hD h4 he2 hP1 hD1) hS1 g1 g2)
theorem E.zast {a n : Nat} {f : Nat → Int32} {i x : Int32} (hdg : decode M.2.1 pc = .ok (.bastore, 1)) (ha : hp a = some (.inl (cy 3, n, .inl f))) (hin : vp_in i n) (kk : E l D cy base M d bc bs (pc + 1) lv st (va_up hp a (some (.inl (cy 3, n, .inl (upd f i.toNatClampNeg (vp_nar .boolean x)))))) Q) : E l D cy base M d bc bs pc lv (.int x :: .int i :: .ref a :: st) hp Q := by
  intro p e s m args below meth c H locs cells slots mc ms ls B hv hH hS g1 g2
  obtain ⟨L, f0, q0, h1, hP, hD, h4, h5, he, he2⟩ := hH.get ha
  exact va_zast (D := D) B.1 B.2.1 B.2.2.2.2.2.2.2.2.2.1.1 hP hD hS q0 3 he rfl hin hdg (fun H1 locs1 hP1 hD1 hS1 => kk p e s m args below meth c H1 locs1 cells slots mc ms ls B hv (HpA.set h1 hD h4 he2 hP1 hD1) hS1 g1 g2)
theorem E.lald {a n : Nat} {f : Nat → Int64} {i : Int32} (hdg : decode M.2.1 pc = .ok (.laload, 1)) (ha : hp a = some (.inl (cy 4, n, .inr (.inl f)))) (hin : vp_in i n) (kk : E l D cy base M d bc bs (pc + 1) lv (.long (f i.toNatClampNeg) :: st) hp Q) : E l D cy base M d bc bs pc lv (.int i :: .ref a :: st) hp Q := by
  intro p e s m args below meth c H locs cells slots mc ms ls B hv hH hS g1 g2
  obtain ⟨L, f0, q0, h1, hP, hD, h4, h5, he, he2⟩ := hH.get ha
  exact va_lald (D := D) B.1 B.2.1 B.2.2.2.2.2.2.2.2.2.1.1 hP q0 4 he rfl hin hdg (kk p e s m args below meth c H locs cells slots mc ms ls B hv hH hS g1 g2)
theorem E.last {a n : Nat} {f : Nat → Int64} {i : Int32} {x : Int64} (hdg : decode M.2.1 pc = .ok (.lastore, 1)) (ha : hp a = some (.inl (cy 4, n, .inr (.inl f)))) (hin : vp_in i n) (kk : E l D cy base M d bc bs (pc + 1) lv st (va_up hp a (some (.inl (cy 4, n, .inr (.inl (vp_updL f i.toNatClampNeg x)))))) Q) : E l D cy base M d bc bs pc lv (.long x :: .int i :: .ref a :: st) hp Q := by
  intro p e s m args below meth c H locs cells slots mc ms ls B hv hH hS g1 g2
  obtain ⟨L, f0, q0, h1, hP, hD, h4, h5, he, he2⟩ := hH.get ha
  exact va_last (D := D) B.1 B.2.1 B.2.2.2.2.2.2.2.2.2.1.1 hP hD hS q0 4 he rfl hin hdg (fun H1 locs1 hP1 hD1 hS1 => kk p e s m args below meth c H1 locs1 cells slots mc ms ls B hv (HpA.set h1 hD h4 he2 hP1 hD1) hS1 g1 g2)
theorem E.alen {a t0 : Nat} {x : vp_A} {ty : FieldType} {v : Int32} (ht : (tyx cy)[t0]? = some (cy t0, ty)) (hdg : decode M.2.1 pc = .ok (.arraylength, 1)) (ha : hp a = some (.inl (cy t0, x))) (hv9 : Int32.ofNat x.1 = v) (kk : E l D cy base M d bc bs (pc + 1) lv (.int v :: st) hp Q) : E l D cy base M d bc bs pc lv (.ref a :: st) hp Q := by
  intro p e s m args below meth c H locs cells slots mc ms ls B hv hH hS g1 g2
  obtain ⟨L, f0, q0, h1, hP, hD, h4, h5, he, he2⟩ := hH.get ha
  exact va_alen (D := D) B.1 B.2.1 B.2.2.2.2.2.2.2.2.2.1.1 hP q0 t0 he ht hv9 hdg (kk p e s m args below meth c H locs cells slots mc ms ls B hv hH hS g1 g2)
theorem E.aldE {a n : Nat} {f : Nat → Option Nat} {i : Int32} (hdg : decode M.2.1 pc = .ok (.aaload, 1)) (ha : hp a = some (.inl (cy 5, n, .inr (.inr (.inr (.inr f)))))) (hin : vp_in i n) (kk : E l D cy base M d bc bs (pc + 1) lv (va_rf (f i.toNatClampNeg) :: st) hp Q) : E l D cy base M d bc bs pc lv (.int i :: .ref a :: st) hp Q := by
  intro p e s m args below meth c H locs cells slots mc ms ls B hv hH hS g1 g2
  obtain ⟨L, f0, q0, h1, hP, hD, h4, h5, he, he2⟩ := hH.get ha
  exact va_aldq (D := D) B.1 B.2.1 B.2.2.2.2.2.2.2.2.2.1.1 hP q0 5 he rfl hin hdg (kk p e s m args below meth c H locs cells slots mc ms ls B hv hH hS g1 g2)
theorem E.aldI {a n : Nat} {f : Nat → Option Nat} {i : Int32} (hdg : decode M.2.1 pc = .ok (.aaload, 1)) (ha : hp a = some (.inl (cy 6, n, .inr (.inr (.inr (.inr f)))))) (hin : vp_in i n) (kk : E l D cy base M d bc bs (pc + 1) lv (va_rf (f i.toNatClampNeg) :: st) hp Q) : E l D cy base M d bc bs pc lv (.int i :: .ref a :: st) hp Q := by
  intro p e s m args below meth c H locs cells slots mc ms ls B hv hH hS g1 g2
  obtain ⟨L, f0, q0, h1, hP, hD, h4, h5, he, he2⟩ := hH.get ha
  have hlt : i.toNatClampNeg < n := Nat.not_le.mp fun q => hin (Or.inr q)
  exact W.aald (v := va_rf (f i.toNatClampNeg)) (ty := .array .int) B.1 B.2.1 (hP q0 _ he) ((B.2.2.2.2.2.2.2.2.2.1.1.2 6 _ rfl).1 n (fun j => va_rf (f j))) rfl (fun q => by cases q) (by show ¬ (i < 0 ∨ (arrV _ _ _).slots.size ≤ _); rw [arrV_size]; exact hin) (by show (arrV _ _ _).slots[_]? = _; rw [arrV_read _ _ hlt]) rfl rfl hdg (kk p e s m args below meth c H locs cells slots mc ms ls B hv hH hS g1 g2)
theorem E.astE {a n : Nat} {f : Nat → Option Nat} {i : Int32} {r : Option Nat} (hdg : decode M.2.1 pc = .ok (.aastore, 1)) (ha : hp a = some (.inl (cy 5, n, .inr (.inr (.inr (.inr f)))))) (hr : ∀ b, r = some b → ∃ fs, hp b = some (.inr (1, fs))) (hin : vp_in i n) (kk : E l D cy base M d bc bs (pc + 1) lv st (va_up hp a (some (.inl (cy 5, n, .inr (.inr (.inr (.inr (va_up f i.toNatClampNeg r)))))))) Q) : E l D cy base M d bc bs pc lv (va_rf r :: .int i :: .ref a :: st) hp Q := by
  intro p e s m args below meth c H locs cells slots mc ms ls B hv hH hS g1 g2
  obtain ⟨L, f0, q0, h1, hP, hD, h4, h5, he, he2⟩ := hH.get ha
  cases r with
  | none => exact va_astqN (D := D) B.1 B.2.1 B.2.2.2.2.2.2.2.2.2.1.1 hP hD hS q0 5 he rfl hin hdg (fun H1 locs1 hP1 hD1 hS1 => kk p e s m args below meth c H1 locs1 cells slots mc ms ls B hv (HpA.set h1 hD h4 he2 hP1 hD1) hS1 g1 g2)
  | some b =>
    obtain ⟨fs, hb⟩ := hr b rfl
    obtain ⟨h6, h7⟩ := h1 b _ hb
    obtain ⟨qk, hk⟩ := va_pl_get (X := []) (f := f0) h6
    have hk : (va_pl L f0)[qk]? = some (b, f0 b) := hk
    rw [h7] at hk
    exact va_astq (D := D) B.1 B.2.1 B.2.2.2.2.2.2.2.2.2.1.1 hP hD hS q0 5 qk 1 (r := (RX1, TX1, 2)) he rfl hk rfl hin hdg (fun H1 locs1 hP1 hD1 hS1 => kk p e s m args below meth c H1 locs1 cells slots mc ms ls B hv (HpA.set h1 hD h4 he2 hP1 hD1) hS1 g1 g2)
/-- a new object of our class ci -/
theorem E.new {idx ci N : Nat} {C : String} {T : u_T} {ty : Nat → FieldType} {fs : List Value} (cf : CF ci C T N ty) (hw : Cond.classLink M.1 idx C ∈ gw ∧ Cond.instantiable C N ∈ gw ∧ Cond.initialized C ∈ gw) (hdg : decode M.2.1 pc = .ok (.new idx, 3)) (hfs : ∀ j, j < N → defaultValue (ty j) = vp_V fs j) (kk : ∀ q, hp q = none → E l D cy base M d bc bs (pc + 3) lv (.ref q :: st) (va_up hp q (some (.inr (ci, fs)))) Q) : E l D cy base M d (bc + 1) (bs + N) pc lv st hp Q := by
  intro p e s m args below meth c H locs cells slots mc ms ls B hv hH hS g1 g2
  obtain ⟨L, f, h1, hP, hD⟩ := hH
  have hA : ∀ q, s.heap.size ≤ q → Abv base q := fun q h => Nat.le_trans B.2.2.2.2.2.2.2.2.2.2.1 h
  have hts := B.2.2.2.2.1
  refine va_new (D := D) (ci := ci) (fs := fs) B.1 B.2.1 hts cf.2.1 ty cf.2.2.1 B.2.2.2.1 (hts _ hw.1) (hts _ hw.2.1) (hts _ hw.2.2) B.2.2.2.2.2.2.2.2.2.1.1 hP hD hS hA cf.1 hfs (show cells + 1 ≤ mc by omega) (show slots + N ≤ ms by omega) hdg (fun q H1 hP1 hD1 hS1 => ?_)
  obtain ⟨h2, h3⟩ := HpA.new h1 hP1 hD1
  exact kk q h2 p e s m args below meth c H1 locs (cells + 1) (slots + N) mc ms ls B hv h3 hS1 (by omega) (by omega)
/-- a new array of numbers -/
theorem E.newa {at9 : ArrayType} {t0 N : Nat} {ty : FieldType} {n : Int32} {a0 : vp_A} (hty : newarray.typeOf at9 = ty) (ht : (tyx cy)[t0]? = some (cy t0, ty)) (hra : ∀ U cA, va_RA U cA ty = (U.vm.findClass ("[" ++ ty.toString) = some cA)) (hw : Cond.arrayClass ty ∈ gw) (hdg : decode M.2.1 pc = .ok (.newarray at9, 2)) (ha0 : ∀ cA : ClassId, vp_cell cA a0 = arrV cA N (fun _ => defaultValue ty)) (hn : ¬ n < 0) (hN : n.toNatClampNeg = N) (hby : N * componentBytes ty ≤ 536870912) (kk : ∀ q, hp q = none → E l D cy base M d bc bs (pc + 2) lv (.ref q :: st) (va_up hp q (some (.inl (cy t0, a0)))) Q) : E l D cy base M d (bc + 1) (bs + N) pc lv (.int n :: st) hp Q := by
  intro p e s m args below meth c H locs cells slots mc ms ls B hv hH hS g1 g2
  obtain ⟨L, f, h1, hP, hD⟩ := hH
  have hA : ∀ q, s.heap.size ≤ q → Abv base q := fun q h => Nat.le_trans B.2.2.2.2.2.2.2.2.2.2.1 h
  have hts := B.2.2.2.2.1
  have hK := B.2.2.2.2.2.2.2.2.2.1.1
  refine va_newa (D := D) (tys := tyx cy) B.1 B.2.1 (by rw [hty]; exact hts _ hw) hty hK hP hD hS hA ha0 hn hN hby (show cells + 1 ≤ mc by omega) (show slots + N ≤ ms by omega) hdg (fun q cA H1 hK1 hP1 hD1 hS1 => ?_)
  have e1 := (hK1.2 7 (cA, ty) rfl).2
  have e2 := (hK.2 t0 _ ht).2
  rw [hra] at e1 e2
  have e3 : cA = cy t0 := Option.some.inj (e1.symm.trans e2)
  subst e3
  obtain ⟨h2, h3⟩ := HpA.new h1 hP1 hD1
  exact kk q h2 p e s m args below meth c H1 locs (cells + 1) (slots + N) mc ms ls B hv h3 hS1 (by omega) (by omega)
end HEAP
end
section
/-! Calls. MF: a method's own words; ML..: what a class file's place names a method. -/
def MF (M : Mth) : Prop := mcw M ∈ gw ∧ plainName M.2.2.1.cls = true ∧ (M.2.2.1.cls ≠ "java/lang/invoke/MethodHandle" ∧ M.2.2.1.cls ≠ "java/lang/invoke/VarHandle") ∧ Cond.initialized M.2.2.1.cls ∈ gw ∧ M.1 = M.2.2.1.cls ∧ M.2.2.2.1 ≤ 21
def ML (own : String) (idx : Nat) (M : Mth) : Prop := Cond.methodLink own idx M.2.2.1 ∈ gw
def MN (own : String) (idx : Nat) (M : Mth) : Prop := ∃ host, Cond.methodLinkNest own idx M.2.2.1 host ∈ nwl
def MV (M : Mth) (n : Nat) : Prop := Cond.instanceMethod M.2.2.1 ∈ gw ∧ Cond.selects M.2.2.1.cls M.2.2.1 M.2.2.1 ∈ gw ∧ (parseMethodDescriptor M.2.2.1.desc).map (fun d => d.parameters.length) = some n
def MS (M : Mth) (n : Nat) : Prop := Cond.static M.2.2.1 ∈ gw ∧ (parseMethodDescriptor M.2.2.1.desc).map (fun d => d.parameters.length) = some n
def MI (M : Mth) (n : Nat) : Prop := Cond.instanceMethod M.2.2.1 ∈ gw ∧ M.2.2.1.name = "<init>" ∧ M.2.2.2.2.1 = none ∧ (parseMethodDescriptor M.2.2.1.desc).map (fun d => d.parameters.length) = some n
theorem mws_good {M : Mth} (h : mcw M ∈ gw) : GoodIn gw (mws M) := fun w hw => (List.mem_cons.mp hw).elim (fun e => by rw [e]; exact gw_good _ h) (fun h => gw_good w h)
theorem mws_code {M : Mth} (h : M.2.2.2.2.2 = []) : mws M = Cond.code M.2.2.1 M.2.1 M.2.2.2.1 M.2.2.2.2.1 :: gw := by
  unfold mws mcw
  rw [h]
theorem mws_codeW {M : Mth} (h : M.2.2.2.2.2 ≠ []) : mws M = Cond.codeWith M.2.2.1 M.2.1 M.2.2.2.1 M.2.2.2.2.1 M.2.2.2.2.2 :: gw := by
  unfold mws mcw
  split
  · exact absurd (by assumption) h
  · rename_i h0 t0 e
    rw [e]
theorem PcA.blind {D : va_G} {cy : Nat → ClassId} {base : Nat} {As : List Value} {hp : Hp} : FrameBlind (PcA D cy base As hp) := by
  intro a U g mk ⟨e, hc, hh, hb⟩
  exact ⟨e, Cx.warm (U := U.calling g mk a) (State.WarmedH.refl U) hc, hh, hb⟩
section CALLS
variable {l : Launch} {D : va_G} {cy : Nat → ClassId} {base : Nat} {M : Mth} {d bc bs pc : Nat} {lv : List (Nat × Value)} {st : List Value} {hp : Hp} {Q : Oc → Hp → Prop}
/-- a body gives the call: methods without a table -/
theorem Mt.of {mc ms : Nat} {As : List Value} (hl : l.stackTraces = false) (mf : MF M) (h0 : M.2.2.2.2.2 = []) (hlen : (lg_sl As).length ≤ M.2.2.2.1) (k : E l D cy base M d mc ms 0 (lv_args 0 As) [] hp Q) : Mt l D cy base M d mc ms As hp Q := by
  refine vx_ofW (cc := M.2.1) (maxL := M.2.2.2.1) (ret := M.2.2.2.2.1) mf.2.1 (mws_code h0) ?_
  intro p e s m args below meth c s₁ B hml ht hv
  obtain ⟨rfl, hC, hH, hb⟩ := hv
  have hts := atoms_spec (ws := mws M) B.pre
  have hB : Bd l D cy base M p s m As.toArray meth c := ⟨B.exec, B.bytes, hml, by rw [mf.2.2.2.2.1]; exact findClass_of_methodNamed B.named, fun w hw => hts w (List.mem_cons_of_mem _ hw), B.returns, B.notSynchronized, by
    rw [h0]
    cases hx : c.exceptionTable.toList with
    | nil => rfl
    | cons x t => exact (ht x (by rw [hx]; exact List.mem_cons_self)).elim, hl, hC, hb, fun h => by rw [← h]; exact (name_of_methodNamed B.named B.method).1⟩
  have hlv := lv_entry As (n := M.2.2.2.1) hlen
  rw [lg_entry_eq]
  exact k p e s m As.toArray below meth c s.heap [] 0 0 mc ms _ hB hlv hH va_S.rf (by omega) (by omega)
/-- the same of methods with a table -/
theorem Mt.ofH {mc ms : Nat} {As : List Value} (hl : l.stackTraces = false) (mf : MF M) (h0 : M.2.2.2.2.2 ≠ []) (hlen : (lg_sl As).length ≤ M.2.2.2.1) (k : E l D cy base M d mc ms 0 (lv_args 0 As) [] hp Q) : Mt l D cy base M d mc ms As hp Q := by
  refine vx_ofWH (cc := M.2.1) (maxL := M.2.2.2.1) (ret := M.2.2.2.2.1) (hh := M.2.2.2.2.2) mf.2.1 (mws_codeW h0) ?_
  intro p e s m args below meth c s₁ B hml hv
  obtain ⟨rfl, hC, hH, hb⟩ := hv
  have hts := atoms_spec (ws := mws M) B.pre
  have hB : Bd l D cy base M p s m As.toArray meth c := ⟨B.exec, B.bytes, hml, by rw [mf.2.2.2.2.1]; exact findClass_of_methodNamed B.named, fun w hw => hts w (List.mem_cons_of_mem _ hw), B.returns, B.notSynchronized, by
    have hw := hts (Cond.codeWith M.2.2.1 M.2.1 M.2.2.2.1 M.2.2.2.2.1 M.2.2.2.2.2) (by rw [mws_codeW h0]; exact List.mem_cons_self)
    exact vx_table (x := M.2.2.1) B hw, hl, hC, hb, fun h => by rw [← h]; exact (name_of_methodNamed B.named B.method).1⟩
  have hlv := lv_entry As (n := M.2.2.2.1) hlen
  rw [lg_entry_eq]
  exact k p e s m As.toArray below meth c s.heap [] 0 0 mc ms _ hB hlv hH va_S.rf (by omega) (by omega)
theorem Mt.post {mc ms : Nat} {As : List Value} {Q' : Oc → Hp → Prop} (h : ∀ o hp, Q' o hp → Q o hp) (k : Mt l D cy base M d mc ms As hp Q') : Mt l D cy base M d mc ms As hp Q := by
  refine MetFree.mono k (fun _ _ hp => hp) (fun _ _ _ _ _ h => h) (fun a s o t _ hq => ?_)
  rcases hq with ⟨⟨v, hp', e1, hq, hr⟩, hF⟩ | ⟨q, e1, X, ce, L, ⟨hp', hq, hr⟩, hF⟩
  · exact Or.inl ⟨⟨v, hp', e1, h _ _ hq, hr⟩, hF⟩
  · exact Or.inr ⟨q, e1, X, ce, L, ⟨hp', h _ _ hq, hr⟩, hF⟩
/-- a call that doesn't throw, as the kit has it -/
theorem Mt.met {mc ms : Nat} {As : List Value} (hno : ∀ X hp, ¬ Q (.inr X) hp) (k : Mt l D cy base M d mc ms As hp Q) : Met l M.2.2.1 (mws M) (rmd d mc ms) (PcA D cy base As hp) (QcA D base Q) mc ms (Abv base) := by
  refine MetFree.mono k (fun _ _ hp => hp) (fun _ _ _ _ _ h => h) (fun a s o t _ hq => ?_)
  rcases hq with h | ⟨q, e1, X, ce, L, ⟨hp', hq, hr⟩, hF⟩
  · exact h
  · exact absurd hq (hno _ _)
/-- behind a run of a callee -/
theorem E.run {Q' : Oc → Hp → Prop} {mc' ms' : Nat} {rest : List Value}
    (hr : ∀ (p : Program) (e : Env) (s : State) (m : MethodId) (args : Array Value) (below : List Frame) (meth : Method) (c : Code) (H : Heap) (locs : List Loc) (cells slots mc ms : Nat) (ls : Array Slot), Bd l D cy base M p s m args meth c → lv_has ls M.2.2.2.1 lv → HpA D base hp H → va_S (Abv base) s.heap H locs → cells + mc' ≤ mc → slots + ms' ≤ ms → ∃ a9 : Array Value,
      vx_Run p l e (rmd d mc ms) s m args below meth c H locs cells slots mc' ms' (F0 m pc ls st) rest (QcA D base Q' a9) (XcA D base Q') (Abv base))
    (kk : ∀ v hp', Q' (.inl v) hp' → E l D cy base M d bc bs (pc + 3) lv (v.toList ++ rest) hp' Q) (kx : ∀ X hp', Q' (.inr X) hp' → EX l D cy base M d bc bs pc lv X hp' Q) : E l D cy base M d (bc + mc') (bs + ms') pc lv st hp Q := by
  intro p e s m args below meth c H locs cells slots mc ms ls B hv hH hS g1 g2 T hT X
  obtain ⟨a9, hr⟩ := hr p e s m args below meth c H locs cells slots mc ms ls B hv hH hS (by omega) (by omega)
  rcases hr T hT X with ⟨v, st₀, t, T', L, h0, X', hL, e1, e2, ⟨v', hp', ev, hq, hH', hF⟩, go⟩ | ⟨q, st₀, t, T', L, E9, ce, h0, X', hL, e1, e2, ⟨hp', hq, hH', hF⟩, hce, hcv, hcl, stp⟩
  · cases ev
    obtain ⟨k1, k2, k3⟩ := vx_keep (A0 := Abv base) (A1 := Abv base) (free := Abv base) h0 e1 hS (fun _ _ h => h) (fun _ h => h) hL hF
    obtain ⟨t2, a1, b1⟩ := kk _ hp' hq p e s m args below meth c T'.heap (locs ++ L) (cells + mc') (slots + ms') mc ms ls B hv (by rw [e1]; exact hH') k3 (by omega) (by omega) T' rfl X'
    exact ⟨t2, go t2 a1, b1⟩
  · obtain ⟨k1, k2, k3⟩ := vx_keep (A0 := Abv base) (A1 := Abv base) (free := Abv base) h0 e1 hS (fun _ _ h => h) (fun _ h => h) hL hF
    obtain ⟨t2, a1, b1⟩ := kx _ hp' hq p e s m args below meth c T'.heap (locs ++ L) (cells + mc') (slots + ms') mc ms ls rest q ce B hv (by rw [e1]; exact hH') k3 (by omega) (by omega) (by rw [e1]; exact hce) hcv hcl T' rfl X'
    exact ⟨t2, stp.trans a1, b1⟩
/-- behind a run of a callee that doesn't throw -/
theorem E.runN {Q' : Oc → Hp → Prop} {mc' ms' : Nat} {rest : List Value}
    (hr : ∀ (p : Program) (e : Env) (s : State) (m : MethodId) (args : Array Value) (below : List Frame) (meth : Method) (c : Code) (H : Heap) (locs : List Loc) (cells slots mc ms : Nat) (ls : Array Slot), Bd l D cy base M p s m args meth c → lv_has ls M.2.2.2.1 lv → HpA D base hp H → va_S (Abv base) s.heap H locs → cells + mc' ≤ mc → slots + ms' ≤ ms → ∃ a9 : Array Value,
      va_Run p l e (rmd d mc ms) s m args below meth c H locs cells slots mc' ms' (F0 m pc ls st) rest (QcA D base Q' a9) (Abv base))
    (kk : ∀ v hp', Q' (.inl v) hp' → E l D cy base M d bc bs (pc + 3) lv (v.toList ++ rest) hp' Q) : E l D cy base M d (bc + mc') (bs + ms') pc lv st hp Q := by
  intro p e s m args below meth c H locs cells slots mc ms ls B hv hH hS g1 g2 T hT X
  obtain ⟨a9, hr⟩ := hr p e s m args below meth c H locs cells slots mc ms ls B hv hH hS (by omega) (by omega)
  obtain ⟨v, st₀, t, T', L, h0, X', hL, e1, e2, ⟨v', hp', ev, hq, hH', hF⟩, go⟩ := hr T hT X
  cases ev
  obtain ⟨k1, k2, k3⟩ := vx_keep (A0 := Abv base) (A1 := Abv base) (free := Abv base) h0 e1 hS (fun _ _ h => h) (fun _ h => h) hL hF
  obtain ⟨t2, a1, b1⟩ := kk _ hp' hq p e s m args below meth c T'.heap (locs ++ L) (cells + mc') (slots + ms') mc ms ls B hv (by rw [e1]; exact hH') k3 (by omega) (by omega) T' rfl X'
  exact ⟨t2, go t2 a1, b1⟩
theorem Bd.pre {p : Program} {s : State} {m : MethodId} {args : Array Value} {meth : Method} {c : Code} {H : Heap} {locs : List Loc} {As : List Value} (B : Bd l D cy base M p s m args meth c) (hH : HpA D base hp H) (hS : va_S (Abv base) s.heap H locs) : ∀ U : State, U.heap = H → s.WarmedH U.vm → PcA D cy base As hp As.toArray U := by
  intro U hU hW
  refine ⟨rfl, ?_, by rw [hU]; exact hH, by rw [hU]; exact Nat.le_trans B.2.2.2.2.2.2.2.2.2.2.1 hS.1⟩
  rw [hU]
  exact Cx.warm hW (Cx.kept B.2.2.2.2.2.2.2.2.2.1 hS.2.1)
theorem callB_m {R : Room} {s : State} {args : Array Value} {M' : Mth} {idx d' mc' ms' n : Nat} {own : String} (hts : ∀ w ∈ gw, w.before args s = true) (mf : MF M') (h0 : M'.2.2.2.2.2 = []) (ml : ML own idx M') (hn : (parseMethodDescriptor M'.2.2.1.desc).map (fun d => d.parameters.length) = some n) (hR : d' + 1 ≤ R.frames ∧ 8 + (M'.2.2.2.1 + 11) + 40 * d' ≤ R.locals) : CallB R s args own idx M'.2.2.1 M'.2.1 M'.2.2.2.1 M'.2.2.2.2.1 (mws M') (rmd d' mc' ms') mc' ms' n :=
  callB_of n hts (mws_good mf.1) (mws_code h0) rfl rfl (hts _ mf.2.2.2.1) (hts _ ml) ⟨mf.2.2.1.1, mf.2.2.1.2, hn⟩ hR
/-- invokevirtual -/
theorem E.callV {M' : Mth} {idx d' mc' ms' n b ci : Nat} {As rest : List Value} {fs : List Value} {Q' : Oc → Hp → Prop} (hM : Mt l D cy base M' d' mc' ms' (.ref b :: As) hp Q') (mf : MF M') (h0 : M'.2.2.2.2.2 = []) (ml : ML M.1 idx M') (mv : MV M' n) (hd : d' < d) (hdg : decode M.2.1 pc = .ok (.invokevirtual idx, 3)) (hst : st = As.reverse ++ .ref b :: rest) (hn : As.length = n) (hb : hp b = some (.inr (ci, fs))) (hc : clx[ci]?.map (fun q => q.1) = some M'.2.2.1.cls) (hw : (rest.map fun v => v.category).sum ≤ 8)
    (kk : ∀ v hp', Q' (.inl v) hp' → E l D cy base M d bc bs (pc + 3) lv (v.toList ++ rest) hp' Q) (kx : ∀ X hp', Q' (.inr X) hp' → EX l D cy base M d bc bs pc lv X hp' Q) : E l D cy base M d (bc + mc') (bs + ms') pc lv st hp Q := by
  refine E.run (fun p e s m args below meth c H locs cells slots mc ms ls B hv hH hS g1 g2 => ⟨(Value.ref b :: As).toArray, ?_⟩) kk kx
  obtain ⟨L, f, q0, h1, hP, hD, h4, h5, he, he2⟩ := hH.get hb
  cases hx : clx[ci]? with
  | none => rw [hx] at hc; cases hc
  | some r =>
    rw [hx] at hc
    have hc : r.1 = M'.2.2.1.cls := Option.some.inj hc
    have hrc := va_recv B.2.2.2.2.2.2.2.2.2.1.1 hP hx he
    rw [hc] at hrc
    have hts := B.2.2.2.2.1
    refine vx_runV (As := As) (C := M'.2.2.1.cls) ⟨B.1, B.2.1, B.2.2.1, B.2.2.2.1, hts⟩ hM ⟨callB_m hts mf h0 ml mv.2.2 ⟨hd, ?_⟩, hts _ mv.1, hts _ mv.2.1⟩ ⟨PcA.blind, hrc, Bd.pre B hH hS⟩ rfl hn hv.1 hst (lv_room hw) hdg ⟨g1, g2⟩
    have := mf.2.2.2.2.2
    show 8 + (M'.2.2.2.1 + 11) + 40 * d' ≤ 40 * d
    omega
/-- invokestatic -/
theorem E.callS {M' : Mth} {idx d' mc' ms' n : Nat} {As rest : List Value} {Q' : Oc → Hp → Prop} (hM : Mt l D cy base M' d' mc' ms' As hp Q') (mf : MF M') (h0 : M'.2.2.2.2.2 = []) (ml : ML M.1 idx M') (mv : MS M' n) (hd : d' < d) (hdg : decode M.2.1 pc = .ok (.invokestatic idx, 3)) (hst : st = As.reverse ++ rest) (hn : As.length = n) (hw : (rest.map fun v => v.category).sum ≤ 8)
    (kk : ∀ v hp', Q' (.inl v) hp' → E l D cy base M d bc bs (pc + 3) lv (v.toList ++ rest) hp' Q) (kx : ∀ X hp', Q' (.inr X) hp' → EX l D cy base M d bc bs pc lv X hp' Q) : E l D cy base M d (bc + mc') (bs + ms') pc lv st hp Q := by
  refine E.run (fun p e s m args below meth c H locs cells slots mc ms ls B hv hH hS g1 g2 => ⟨As.toArray, ?_⟩) kk kx
  have hts := B.2.2.2.2.1
  refine vx_runS (As := As) ⟨B.1, B.2.1, B.2.2.1, B.2.2.2.1, hts⟩ hM ⟨callB_m hts mf h0 ml mv.2 ⟨hd, ?_⟩, hts _ mv.1⟩ ⟨PcA.blind, Bd.pre B hH hS⟩ rfl hn hv.1 hst (lv_room hw) hdg ⟨g1, g2⟩
  have := mf.2.2.2.2.2
  show 8 + (M'.2.2.2.1 + 11) + 40 * d' ≤ 40 * d
  omega
/-- invokestatic of a nest mate's private method -/
theorem E.callSN {M' : Mth} {idx d' mc' ms' n : Nat} {As rest : List Value} {Q' : Oc → Hp → Prop} (hM : Mt l D cy base M' d' mc' ms' As hp Q') (mf : MF M') (h0 : M'.2.2.2.2.2 = []) (ml : MN M.1 idx M') (mv : MS M' n) (hd : d' < d) (hdg : decode M.2.1 pc = .ok (.invokestatic idx, 3)) (hst : st = As.reverse ++ rest) (hn : As.length = n) (hw : (rest.map fun v => v.category).sum ≤ 8) (hno : ∀ X hp, ¬ Q' (.inr X) hp)
    (kk : ∀ v hp', Q' (.inl v) hp' → E l D cy base M d bc bs (pc + 3) lv (v.toList ++ rest) hp' Q) : E l D cy base M d (bc + mc') (bs + ms') pc lv st hp Q := by
  obtain ⟨host, ml⟩ := ml
  refine E.runN (fun p e s m args below meth c H locs cells slots mc ms ls B hv hH hS g1 g2 => ⟨As.toArray, ?_⟩) kk
  have hts := B.2.2.2.2.1
  refine va_runSN (As := As) (host := host) ⟨B.1, B.2.1, B.2.2.1, B.2.2.2.1, hts⟩ (hM.met hno) ⟨va_cnB n hts (mws_good mf.1) (mws_code h0) rfl rfl (B.2.2.2.2.2.2.2.2.2.1.2.1 _ ml) (hts _ mf.2.2.2.1) ⟨mf.2.2.1.1, mf.2.2.1.2, mv.2⟩ ⟨hd, ?_⟩, hts _ mv.1, trivial⟩ ⟨PcA.blind, Bd.pre B hH hS⟩ rfl hn hv.1 hst (lv_room hw) hdg ⟨g1, g2⟩
  have := mf.2.2.2.2.2
  show 8 + (M'.2.2.2.1 + 11) + 40 * d' ≤ 40 * d
  omega
/-- invokespecial of a constructor -/
theorem E.callI {M' : Mth} {idx d' mc' ms' n b : Nat} {As rest : List Value} {Q' : Oc → Hp → Prop} (hM : Mt l D cy base M' d' mc' ms' (.ref b :: As) hp Q') (mf : MF M') (h0 : M'.2.2.2.2.2 = []) (ml : ML M.1 idx M' ∨ MN M.1 idx M') (mv : MI M' n) (hd : d' < d) (hdg : decode M.2.1 pc = .ok (.invokespecial idx, 3)) (hst : st = As.reverse ++ .ref b :: rest) (hn : As.length = n) (hw : (rest.map fun v => v.category).sum ≤ 8) (hno : ∀ X hp, ¬ Q' (.inr X) hp)
    (kk : ∀ v hp', Q' (.inl v) hp' → E l D cy base M d bc bs (pc + 3) lv (v.toList ++ rest) hp' Q) : E l D cy base M d (bc + mc') (bs + ms') pc lv st hp Q := by
  refine E.runN (fun p e s m args below meth c H locs cells slots mc ms ls B hv hH hS g1 g2 => ⟨(Value.ref b :: As).toArray, ?_⟩) kk
  have hts := B.2.2.2.2.1
  have hR : d' + 1 ≤ (rmd d mc ms).frames ∧ 8 + (M'.2.2.2.1 + 11) + 40 * d' ≤ (rmd d mc ms).locals := by
    have := mf.2.2.2.2.2
    exact ⟨hd, show 8 + (M'.2.2.2.1 + 11) + 40 * d' ≤ 40 * d by omega⟩
  have hw9 : mws M' = Cond.code M'.2.2.1 M'.2.1 M'.2.2.2.1 none :: gw := by rw [mws_code h0, mv.2.2.1]
  rcases ml with ml | ⟨host, ml⟩
  · have hcb : CallB (rmd d mc ms) s args M.1 idx M'.2.2.1 M'.2.1 M'.2.2.2.1 none (mws M') (rmd d' mc' ms') mc' ms' n := callB_of n hts (mws_good mf.1) hw9 rfl rfl (hts _ mf.2.2.2.1) (hts _ ml) ⟨mf.2.2.1.1, mf.2.2.1.2, mv.2.2.2⟩ hR
    exact va_runI (As := As) ⟨B.1, B.2.1, B.2.2.1, B.2.2.2.1, hts⟩ (hM.met hno) ⟨hcb, mv.2.1, hts _ mv.1⟩ ⟨PcA.blind, Bd.pre B hH hS⟩ rfl hn hv.1 hst (lv_room hw) hdg ⟨g1, g2⟩
  · exact va_runIN (As := As) (host := host) ⟨B.1, B.2.1, B.2.2.1, B.2.2.2.1, hts⟩ (hM.met hno) ⟨va_cnB n hts (mws_good mf.1) hw9 rfl rfl (B.2.2.2.2.2.2.2.2.2.1.2.1 _ ml) (hts _ mf.2.2.2.1) ⟨mf.2.2.1.1, mf.2.2.1.2, mv.2.2.2⟩ hR, mv.2.1, hts _ mv.1⟩ ⟨PcA.blind, Bd.pre B hH hS⟩ rfl hn hv.1 hst (lv_room hw) hdg ⟨g1, g2⟩
/-- Object's constructor -/
theorem E.objInit {idx a : Nat} (hl : Cond.methodLink M.1 idx Lib.objectInit ∈ gw ∧ Cond.instanceMethod Lib.objectInit ∈ gw ∧ Cond.code Lib.objectInit ⟨#[0xb1]⟩ 1 none ∈ gw) (hd : 0 < d) (hdg : decode M.2.1 pc = .ok (.invokespecial idx, 3)) (hw : (st.map fun v => v.category).sum ≤ 8) (k : E l D cy base M d bc bs (pc + 3) lv st hp Q) : E l D cy base M d bc bs pc lv (.ref a :: st) hp Q := by
  intro p e s m args below meth c H locs cells slots mc ms ls B hv hH hS g1 g2
  have hts := B.2.2.2.2.1
  refine W.objInit B.1 B.2.1 B.2.2.2.1 (hts _ hl.1) (hts _ hl.2.1) (hts _ hl.2.2) rfl (by rw [B.2.2.1]; exact hv.1) rfl hdg hd ?_ (k p e s m args below meth c H locs cells slots mc ms ls B hv hH hS g1 g2)
  show 2 * 0 + (st.map fun v => v.category).sum + 12 ≤ 40 * d
  omega
/-- Math.min -/
theorem E.mmin {idx : Nat} {x y : Int32} (hl : Cond.methodLink M.1 idx Lib.Math.min.name ∈ gw ∧ Cond.static Lib.Math.min.name ∈ gw ∧ Cond.initialized "java/lang/Math" ∈ gw ∧ Cond.code Lib.Math.min.name Lib.Math.min.code 2 (some .int) ∈ gw) (hd : 0 < d) (hdg : decode M.2.1 pc = .ok (.invokestatic idx, 3)) (hw : (st.map fun v => v.category).sum ≤ 8) (k : E l D cy base M d bc bs (pc + 3) lv (.int (if y < x then y else x) :: st) hp Q) : E l D cy base M d bc bs pc lv (.int y :: .int x :: st) hp Q := by
  intro p e s m args below meth c H locs cells slots mc ms ls B hv hH hS g1 g2
  have hts := B.2.2.2.2.1
  exact va_mmin (R := rmd d mc ms) B.1 B.2.1 (by rw [B.2.2.1]; exact hv.1.symm) B.2.2.2.1 (hts _ hl.1) (hts _ hl.2.1) (hts _ hl.2.2.1) (hts _ hl.2.2.2) (show 1 ≤ d from hd) (show (st.map fun v => v.category).sum + 13 ≤ 40 * d by omega) (show cells ≤ mc by omega) (show slots ≤ ms by omega) hdg (k p e s m args below meth c H locs cells slots mc ms ls B hv hH hS g1 g2)
/-- an exception that nobody here catches leaves the method -/
theorem EX.out {X : String} (h0 : M.2.2.2.2.2 = []) (hq : Q (.inr X) hp) : EX l D cy base M d bc bs pc lv X hp Q := by
  intro p e s m args below meth c H locs cells slots mc ms ls rest q ce B hv hH hS g1 g2 h1 h2 h3
  refine vx_out (by rw [B.2.2.2.2.2.2.2.1, h0]; intro x hx; cases hx) B.2.2.2.2.2.2.1 h1 h2 h3 (fun t ht _ => ⟨hp, hq, by rw [ht]; exact hH, hS.F ht⟩) hS.2.2 (by omega) (by omega)
/-- throw new X("text") -/
theorem E.throwS {cls text : String} {ik is ic : Nat} (h0 : M.2.2.2.2.2 = []) (hcls : Bundle.fit cls = true) (hk : Cond.classLink M.1 ik cls ∈ gw) (hini : Cond.initialized cls ∈ gw) (hstr : (M.1, is, text) ∈ strl)
    (hat1 : ∀ w ∈ (vx_atS M.1 ic cls ["java/lang/RuntimeException", "java/lang/Exception"]).filter goodWord, w ∈ gw) (hat2 : ∀ w ∈ (vx_atS M.1 ic cls ["java/lang/RuntimeException", "java/lang/Exception"]).filter (fun w => !goodWord w), w ∈ [Cond.castable cls cls]) (hcast : Cond.castable cls cls ∈ nwl)
    (hgood : ∀ w ∈ Cond.classLink M.1 ik cls :: Cond.initialized cls :: vx_atS M.1 ic cls ["java/lang/RuntimeException", "java/lang/Exception"], vx_ot w = true)
    (d0 : decode M.2.1 pc = .ok (.new ik, 3)) (d3 : decode M.2.1 (pc + 3) = .ok (.dup, 1)) (d4 : decode M.2.1 (pc + 4) = .ok (.ldc is, 2)) (d6 : decode M.2.1 (pc + 6) = .ok (.invokespecial ic, 3)) (d9 : decode M.2.1 (pc + 9) = .ok (.athrow, 1))
    (hd : 8 ≤ d) (hw : (st.map fun v => v.category).sum ≤ 8) (hq : Q (.inr cls) hp) : E l D cy base M d (bc + 1) (bs + 6) pc lv st hp Q := by
  intro p e s m args below meth c H locs cells slots mc ms ls B hv hH hS g1 g2
  have hts := B.2.2.2.2.1
  have hC := B.2.2.2.2.2.2.2.2.2.1
  obtain ⟨sa, hsa⟩ := hC.2.2.1 _ hstr
  refine vx_throwS (names := ["java/lang/RuntimeException", "java/lang/Exception"]) B.1 B.2.1 B.2.2.2.2.2.2.2.2.1 B.2.2.2.1 hcls (by decide +kernel) (hts _ hk) (hts _ hini) hsa
    (vx_hat (fun w hw => hts w (hat1 w hw)) hat2 (vx_c (va_Nw.use rfl (hC.2.1 _ hcast)) vx_n)) hgood hC.2.2.2.2.1 hC.2.2.2.2.2.1 hS (by rw [B.2.2.1]; exact hv.1) d0 d3 d4 d6 d9
    (by rw [B.2.2.2.2.2.2.2.1, h0]; intro x hx; cases hx) ?_ ?_ (show cells + 1 ≤ mc by omega) (show slots + 6 ≤ ms by omega) B.2.2.2.2.2.2.1 (fun t _ hz ho => ?_) hS.2.2 (by omega) (by omega)
  · show 2 + 3 < d
    omega
  · show (st.map fun v => v.category).sum + (13 * (2 + 1) + 43) ≤ 40 * d
    omega
  · obtain ⟨L, f, h1, hP, hD⟩ := hH
    exact ⟨hp, hq, ⟨L, f, h1, hP.kept (fun k q hk => ho q.1 ((hP k q hk).lt)), hD⟩, Nat.le_trans hS.1 hz, fun q g3 g4 => by rw [ho q (Nat.lt_of_lt_of_le g3 hS.1)]; exact hS.2.1 q g3 g4⟩
end CALLS
end
section
set_option maxRecDepth 100000 in
theorem inG0 : ∀ w ∈ u_ws RX0 TX0 2, w ∈ gw := fun w h => gw_of ((by decide +kernel : ∀ w ∈ u_ws RX0 TX0 2, w ∈ lw_tbl) w h) ((by decide +kernel : ∀ w ∈ u_ws RX0 TX0 2, goodWord w = true) w h)
theorem cf0 : CF 0 RX0 TX0 2 tyX0 := ⟨rfl, inG0, tyX0_ok, nmX0⟩
set_option maxRecDepth 100000 in
theorem inG1 : ∀ w ∈ u_ws RX1 TX1 2, w ∈ gw := fun w h => gw_of ((by decide +kernel : ∀ w ∈ u_ws RX1 TX1 2, w ∈ lw_tbl) w h) ((by decide +kernel : ∀ w ∈ u_ws RX1 TX1 2, goodWord w = true) w h)
theorem cf1 : CF 1 RX1 TX1 2 tyX1 := ⟨rfl, inG1, tyX1_ok, nmX1⟩
set_option maxRecDepth 100000 in
theorem inG2 : ∀ w ∈ u_ws RX2 TX2 2, w ∈ gw := fun w h => gw_of ((by decide +kernel : ∀ w ∈ u_ws RX2 TX2 2, w ∈ lw_tbl) w h) ((by decide +kernel : ∀ w ∈ u_ws RX2 TX2 2, goodWord w = true) w h)
theorem cf2 : CF 2 RX2 TX2 2 tyX2 := ⟨rfl, inG2, tyX2_ok, nmX2⟩
set_option maxRecDepth 100000 in
theorem inG3 : ∀ w ∈ u_ws RX3 TX3 5, w ∈ gw := fun w h => gw_of ((by decide +kernel : ∀ w ∈ u_ws RX3 TX3 5, w ∈ lw_tbl) w h) ((by decide +kernel : ∀ w ∈ u_ws RX3 TX3 5, goodWord w = true) w h)
theorem cf3 : CF 3 RX3 TX3 5 tyX3 := ⟨rfl, inG3, tyX3_ok, nmX3⟩
set_option maxRecDepth 100000 in
theorem inG4 : ∀ w ∈ u_ws RX4 TX4 3, w ∈ gw := fun w h => gw_of ((by decide +kernel : ∀ w ∈ u_ws RX4 TX4 3, w ∈ lw_tbl) w h) ((by decide +kernel : ∀ w ∈ u_ws RX4 TX4 3, goodWord w = true) w h)
theorem cf4 : CF 4 RX4 TX4 3 tyX4 := ⟨rfl, inG4, tyX4_ok, nmX4⟩
set_option maxRecDepth 100000 in
theorem inG5 : ∀ w ∈ u_ws RX5 TX5 8, w ∈ gw := fun w h => gw_of ((by decide +kernel : ∀ w ∈ u_ws RX5 TX5 8, w ∈ lw_tbl) w h) ((by decide +kernel : ∀ w ∈ u_ws RX5 TX5 8, goodWord w = true) w h)
theorem cf5 : CF 5 RX5 TX5 8 tyX5 := ⟨rfl, inG5, tyX5_ok, nmX5⟩
set_option maxRecDepth 100000 in
theorem inG6 : ∀ w ∈ u_ws RX6 TX6 4, w ∈ gw := fun w h => gw_of ((by decide +kernel : ∀ w ∈ u_ws RX6 TX6 4, w ∈ lw_tbl) w h) ((by decide +kernel : ∀ w ∈ u_ws RX6 TX6 4, goodWord w = true) w h)
theorem cf6 : CF 6 RX6 TX6 4 tyX6 := ⟨rfl, inG6, tyX6_ok, nmX6⟩
set_option maxRecDepth 100000 in
theorem inG7 : ∀ w ∈ u_ws RX7 TX7 2, w ∈ gw := fun w h => gw_of ((by decide +kernel : ∀ w ∈ u_ws RX7 TX7 2, w ∈ lw_tbl) w h) ((by decide +kernel : ∀ w ∈ u_ws RX7 TX7 2, goodWord w = true) w h)
theorem cf7 : CF 7 RX7 TX7 2 tyX7 := ⟨rfl, inG7, tyX7_ok, nmX7⟩
set_option maxRecDepth 100000 in
theorem inG8 : ∀ w ∈ u_ws RX8 TX8 7, w ∈ gw := fun w h => gw_of ((by decide +kernel : ∀ w ∈ u_ws RX8 TX8 7, w ∈ lw_tbl) w h) ((by decide +kernel : ∀ w ∈ u_ws RX8 TX8 7, goodWord w = true) w h)
theorem cf8 : CF 8 RX8 TX8 7 tyX8 := ⟨rfl, inG8, tyX8_ok, nmX8⟩
set_option maxRecDepth 100000 in
theorem inG9 : ∀ w ∈ u_ws RX9 TX9 43, w ∈ gw := fun w h => gw_of ((by decide +kernel : ∀ w ∈ u_ws RX9 TX9 43, w ∈ lw_tbl) w h) ((by decide +kernel : ∀ w ∈ u_ws RX9 TX9 43, goodWord w = true) w h)
theorem cf9 : CF 9 RX9 TX9 43 tyX9 := ⟨rfl, inG9, tyX9_ok, nmX9⟩
end
section
theorem f_X0_9 : FLD RX0 9 0 0 (.array .char) true := ⟨_, _, _, _, cf0, by decide, Or.inl (gw_t 39 (by decide +kernel) rfl), rfl, rfl⟩
theorem ff_X0_9 : FLF RX0 9 0 0 (.array .char) := ⟨_, _, _, _, cf0, by decide, gw_t 39 (by decide +kernel) rfl, rfl, rfl, rfl⟩
theorem f_X0_15 : FLD RX0 15 0 1 (.int) false := ⟨_, _, _, _, cf0, by decide, Or.inl (gw_t 40 (by decide +kernel) rfl), rfl, rfl⟩
theorem f_X1_20 : FLD RX1 20 1 0 (.object "ChoiceParser$Node") false := ⟨_, _, _, _, cf1, by decide, Or.inl (gw_t 59 (by decide +kernel) rfl), rfl, rfl⟩
theorem f_X2_62 : FLD RX2 62 1 0 (.object "ChoiceParser$Node") false := ⟨_, _, _, _, cf1, by decide, Or.inr ⟨"ChoiceParser", List.mem_filter.mpr ⟨List.mem_append_right _ (List.mem_of_getElem? (i := 60) (by decide +kernel)), rfl⟩⟩, rfl, rfl⟩
theorem f_X1_14 : FLD RX1 14 1 1 (.object "ChoiceParser$Node") false := ⟨_, _, _, _, cf1, by decide, Or.inl (gw_t 61 (by decide +kernel) rfl), rfl, rfl⟩
theorem f_X3_61 : FLD RX3 61 1 1 (.object "ChoiceParser$Node") false := ⟨_, _, _, _, cf1, by decide, Or.inr ⟨"ChoiceParser", List.mem_filter.mpr ⟨List.mem_append_right _ (List.mem_of_getElem? (i := 62) (by decide +kernel)), rfl⟩⟩, rfl, rfl⟩
theorem f_X6_9 : FLD RX6 9 6 0 (.object "ChoiceParser$Characters") true := ⟨_, _, _, _, cf6, by decide, Or.inl (gw_t 68 (by decide +kernel) rfl), rfl, rfl⟩
theorem ff_X6_9 : FLF RX6 9 6 0 (.object "ChoiceParser$Characters") := ⟨_, _, _, _, cf6, by decide, gw_t 68 (by decide +kernel) rfl, rfl, rfl, rfl⟩
theorem f_X6_18 : FLD RX6 18 6 1 (.object "ChoiceParser$Expression") false := ⟨_, _, _, _, cf6, by decide, Or.inl (gw_t 69 (by decide +kernel) rfl), rfl, rfl⟩
theorem f_X6_22 : FLD RX6 22 6 2 (.int) false := ⟨_, _, _, _, cf6, by decide, Or.inl (gw_t 70 (by decide +kernel) rfl), rfl, rfl⟩
theorem f_X6_26 : FLD RX6 26 6 3 (.int) false := ⟨_, _, _, _, cf6, by decide, Or.inl (gw_t 71 (by decide +kernel) rfl), rfl, rfl⟩
theorem f_X2_11 : FLD RX2 11 2 0 (.array (.object "ChoiceParser$Expression")) true := ⟨_, _, _, _, cf2, by decide, Or.inl (gw_t 89 (by decide +kernel) rfl), rfl, rfl⟩
theorem ff_X2_11 : FLF RX2 11 2 0 (.array (.object "ChoiceParser$Expression")) := ⟨_, _, _, _, cf2, by decide, gw_t 89 (by decide +kernel) rfl, rfl, rfl, rfl⟩
theorem f_X2_17 : FLD RX2 17 2 1 (.int) false := ⟨_, _, _, _, cf2, by decide, Or.inl (gw_t 90 (by decide +kernel) rfl), rfl, rfl⟩
theorem f_X4_9 : FLD RX4 9 4 0 (.array .int) true := ⟨_, _, _, _, cf4, by decide, Or.inl (gw_t 105 (by decide +kernel) rfl), rfl, rfl⟩
theorem ff_X4_9 : FLF RX4 9 4 0 (.array .int) := ⟨_, _, _, _, cf4, by decide, gw_t 105 (by decide +kernel) rfl, rfl, rfl, rfl⟩
theorem f_X4_15 : FLD RX4 15 4 1 (.array .int) true := ⟨_, _, _, _, cf4, by decide, Or.inl (gw_t 106 (by decide +kernel) rfl), rfl, rfl⟩
theorem ff_X4_15 : FLF RX4 15 4 1 (.array .int) := ⟨_, _, _, _, cf4, by decide, gw_t 106 (by decide +kernel) rfl, rfl, rfl, rfl⟩
theorem f_X4_18 : FLD RX4 18 4 2 (.array .byte) true := ⟨_, _, _, _, cf4, by decide, Or.inl (gw_t 107 (by decide +kernel) rfl), rfl, rfl⟩
theorem ff_X4_18 : FLF RX4 18 4 2 (.array .byte) := ⟨_, _, _, _, cf4, by decide, gw_t 107 (by decide +kernel) rfl, rfl, rfl, rfl⟩
theorem f_X3_9 : FLD RX3 9 3 0 (.object "ChoiceParser$Grammar") true := ⟨_, _, _, _, cf3, by decide, Or.inl (gw_t 123 (by decide +kernel) rfl), rfl, rfl⟩
theorem ff_X3_9 : FLF RX3 9 3 0 (.object "ChoiceParser$Grammar") := ⟨_, _, _, _, cf3, by decide, gw_t 123 (by decide +kernel) rfl, rfl, rfl, rfl⟩
theorem f_X3_15 : FLD RX3 15 3 1 (.object "ChoiceParser$Characters") true := ⟨_, _, _, _, cf3, by decide, Or.inl (gw_t 124 (by decide +kernel) rfl), rfl, rfl⟩
theorem ff_X3_15 : FLF RX3 15 3 1 (.object "ChoiceParser$Characters") := ⟨_, _, _, _, cf3, by decide, gw_t 124 (by decide +kernel) rfl, rfl, rfl, rfl⟩
theorem f_X3_19 : FLD RX3 19 3 2 (.object "ChoiceParser$Memory") true := ⟨_, _, _, _, cf3, by decide, Or.inl (gw_t 125 (by decide +kernel) rfl), rfl, rfl⟩
theorem ff_X3_19 : FLF RX3 19 3 2 (.object "ChoiceParser$Memory") := ⟨_, _, _, _, cf3, by decide, gw_t 125 (by decide +kernel) rfl, rfl, rfl, rfl⟩
theorem f_X3_23 : FLD RX3 23 3 3 (.int) false := ⟨_, _, _, _, cf3, by decide, Or.inl (gw_t 126 (by decide +kernel) rfl), rfl, rfl⟩
theorem f_X3_27 : FLD RX3 27 3 4 (.int) false := ⟨_, _, _, _, cf3, by decide, Or.inl (gw_t 127 (by decide +kernel) rfl), rfl, rfl⟩
theorem f_X7_13 : FLD RX7 13 7 0 (.array (.array .int)) true := ⟨_, _, _, _, cf7, by decide, Or.inl (gw_t 147 (by decide +kernel) rfl), rfl, rfl⟩
theorem ff_X7_13 : FLF RX7 13 7 0 (.array (.array .int)) := ⟨_, _, _, _, cf7, by decide, gw_t 147 (by decide +kernel) rfl, rfl, rfl, rfl⟩
theorem f_X7_16 : FLD RX7 16 7 1 (.int) false := ⟨_, _, _, _, cf7, by decide, Or.inl (gw_t 148 (by decide +kernel) rfl), rfl, rfl⟩
theorem f_X8_14 : FLD RX8 14 8 0 (.object "ChoiceParser$Characters") true := ⟨_, _, _, _, cf8, by decide, Or.inl (gw_t 154 (by decide +kernel) rfl), rfl, rfl⟩
theorem ff_X8_14 : FLF RX8 14 8 0 (.object "ChoiceParser$Characters") := ⟨_, _, _, _, cf8, by decide, gw_t 154 (by decide +kernel) rfl, rfl, rfl, rfl⟩
theorem f_X8_18 : FLD RX8 18 8 1 (.object "ChoiceParser$Characters") true := ⟨_, _, _, _, cf8, by decide, Or.inl (gw_t 155 (by decide +kernel) rfl), rfl, rfl⟩
theorem ff_X8_18 : FLF RX8 18 8 1 (.object "ChoiceParser$Characters") := ⟨_, _, _, _, cf8, by decide, gw_t 155 (by decide +kernel) rfl, rfl, rfl, rfl⟩
theorem f_X8_26 : FLD RX8 26 8 2 (.object "ChoiceParser$TextReader") true := ⟨_, _, _, _, cf8, by decide, Or.inl (gw_t 156 (by decide +kernel) rfl), rfl, rfl⟩
theorem ff_X8_26 : FLF RX8 26 8 2 (.object "ChoiceParser$TextReader") := ⟨_, _, _, _, cf8, by decide, gw_t 156 (by decide +kernel) rfl, rfl, rfl, rfl⟩
theorem f_X8_33 : FLD RX8 33 8 3 (.object "ChoiceParser$Grammar") true := ⟨_, _, _, _, cf8, by decide, Or.inl (gw_t 157 (by decide +kernel) rfl), rfl, rfl⟩
theorem ff_X8_33 : FLF RX8 33 8 3 (.object "ChoiceParser$Grammar") := ⟨_, _, _, _, cf8, by decide, gw_t 157 (by decide +kernel) rfl, rfl, rfl, rfl⟩
theorem f_X8_40 : FLD RX8 40 8 4 (.object "ChoiceParser$Memory") true := ⟨_, _, _, _, cf8, by decide, Or.inl (gw_t 158 (by decide +kernel) rfl), rfl, rfl⟩
theorem ff_X8_40 : FLF RX8 40 8 4 (.object "ChoiceParser$Memory") := ⟨_, _, _, _, cf8, by decide, gw_t 158 (by decide +kernel) rfl, rfl, rfl, rfl⟩
theorem f_X8_49 : FLD RX8 49 8 5 (.object "ChoiceParser$Matcher") true := ⟨_, _, _, _, cf8, by decide, Or.inl (gw_t 159 (by decide +kernel) rfl), rfl, rfl⟩
theorem ff_X8_49 : FLF RX8 49 8 5 (.object "ChoiceParser$Matcher") := ⟨_, _, _, _, cf8, by decide, gw_t 159 (by decide +kernel) rfl, rfl, rfl, rfl⟩
theorem f_X8_56 : FLD RX8 56 8 6 (.object "ChoiceParser$Tree") true := ⟨_, _, _, _, cf8, by decide, Or.inl (gw_t 160 (by decide +kernel) rfl), rfl, rfl⟩
theorem ff_X8_56 : FLF RX8 56 8 6 (.object "ChoiceParser$Tree") := ⟨_, _, _, _, cf8, by decide, gw_t 160 (by decide +kernel) rfl, rfl, rfl, rfl⟩
theorem f_X5_7 : FLD RX5 7 5 0 (.int) true := ⟨_, _, _, _, cf5, by decide, Or.inl (gw_t 331 (by decide +kernel) rfl), rfl, rfl⟩
theorem ff_X5_7 : FLF RX5 7 5 0 (.int) := ⟨_, _, _, _, cf5, by decide, gw_t 331 (by decide +kernel) rfl, rfl, rfl, rfl⟩
theorem f_X1_34 : FLD RX1 34 5 0 (.int) true := ⟨_, _, _, _, cf5, by decide, Or.inr ⟨"ChoiceParser", List.mem_filter.mpr ⟨List.mem_append_right _ (List.mem_of_getElem? (i := 332) (by decide +kernel)), rfl⟩⟩, rfl, rfl⟩
theorem f_X3_74 : FLD RX3 74 5 0 (.int) true := ⟨_, _, _, _, cf5, by decide, Or.inr ⟨"ChoiceParser", List.mem_filter.mpr ⟨List.mem_append_right _ (List.mem_of_getElem? (i := 333) (by decide +kernel)), rfl⟩⟩, rfl, rfl⟩
theorem f_X2_78 : FLD RX2 78 5 0 (.int) true := ⟨_, _, _, _, cf5, by decide, Or.inr ⟨"ChoiceParser", List.mem_filter.mpr ⟨List.mem_append_right _ (List.mem_of_getElem? (i := 334) (by decide +kernel)), rfl⟩⟩, rfl, rfl⟩
theorem f_X5_13 : FLD RX5 13 5 1 (.int) true := ⟨_, _, _, _, cf5, by decide, Or.inl (gw_t 335 (by decide +kernel) rfl), rfl, rfl⟩
theorem ff_X5_13 : FLF RX5 13 5 1 (.int) := ⟨_, _, _, _, cf5, by decide, gw_t 335 (by decide +kernel) rfl, rfl, rfl, rfl⟩
theorem f_X1_37 : FLD RX1 37 5 1 (.int) true := ⟨_, _, _, _, cf5, by decide, Or.inr ⟨"ChoiceParser", List.mem_filter.mpr ⟨List.mem_append_right _ (List.mem_of_getElem? (i := 336) (by decide +kernel)), rfl⟩⟩, rfl, rfl⟩
theorem f_X3_83 : FLD RX3 83 5 1 (.int) true := ⟨_, _, _, _, cf5, by decide, Or.inr ⟨"ChoiceParser", List.mem_filter.mpr ⟨List.mem_append_right _ (List.mem_of_getElem? (i := 337) (by decide +kernel)), rfl⟩⟩, rfl, rfl⟩
theorem f_X2_81 : FLD RX2 81 5 1 (.int) true := ⟨_, _, _, _, cf5, by decide, Or.inr ⟨"ChoiceParser", List.mem_filter.mpr ⟨List.mem_append_right _ (List.mem_of_getElem? (i := 338) (by decide +kernel)), rfl⟩⟩, rfl, rfl⟩
theorem f_X5_16 : FLD RX5 16 5 2 (.int) true := ⟨_, _, _, _, cf5, by decide, Or.inl (gw_t 339 (by decide +kernel) rfl), rfl, rfl⟩
theorem ff_X5_16 : FLF RX5 16 5 2 (.int) := ⟨_, _, _, _, cf5, by decide, gw_t 339 (by decide +kernel) rfl, rfl, rfl, rfl⟩
theorem f_X3_107 : FLD RX3 107 5 2 (.int) true := ⟨_, _, _, _, cf5, by decide, Or.inr ⟨"ChoiceParser", List.mem_filter.mpr ⟨List.mem_append_right _ (List.mem_of_getElem? (i := 340) (by decide +kernel)), rfl⟩⟩, rfl, rfl⟩
theorem f_X5_19 : FLD RX5 19 5 3 (.object "ChoiceParser$Node") true := ⟨_, _, _, _, cf5, by decide, Or.inl (gw_t 341 (by decide +kernel) rfl), rfl, rfl⟩
theorem ff_X5_19 : FLF RX5 19 5 3 (.object "ChoiceParser$Node") := ⟨_, _, _, _, cf5, by decide, gw_t 341 (by decide +kernel) rfl, rfl, rfl, rfl⟩
theorem f_X3_89 : FLD RX3 89 5 3 (.object "ChoiceParser$Node") true := ⟨_, _, _, _, cf5, by decide, Or.inr ⟨"ChoiceParser", List.mem_filter.mpr ⟨List.mem_append_right _ (List.mem_of_getElem? (i := 342) (by decide +kernel)), rfl⟩⟩, rfl, rfl⟩
theorem f_X2_88 : FLD RX2 88 5 3 (.object "ChoiceParser$Node") true := ⟨_, _, _, _, cf5, by decide, Or.inr ⟨"ChoiceParser", List.mem_filter.mpr ⟨List.mem_append_right _ (List.mem_of_getElem? (i := 343) (by decide +kernel)), rfl⟩⟩, rfl, rfl⟩
theorem f_X6_52 : FLD RX6 52 5 4 (.object "ChoiceParser$Node") false := ⟨_, _, _, _, cf5, by decide, Or.inr ⟨"ChoiceParser", List.mem_filter.mpr ⟨List.mem_append_right _ (List.mem_of_getElem? (i := 344) (by decide +kernel)), rfl⟩⟩, rfl, rfl⟩
theorem f_X3_117 : FLD RX3 117 5 4 (.object "ChoiceParser$Node") false := ⟨_, _, _, _, cf5, by decide, Or.inr ⟨"ChoiceParser", List.mem_filter.mpr ⟨List.mem_append_right _ (List.mem_of_getElem? (i := 345) (by decide +kernel)), rfl⟩⟩, rfl, rfl⟩
theorem f_X2_101 : FLD RX2 101 5 4 (.object "ChoiceParser$Node") false := ⟨_, _, _, _, cf5, by decide, Or.inr ⟨"ChoiceParser", List.mem_filter.mpr ⟨List.mem_append_right _ (List.mem_of_getElem? (i := 346) (by decide +kernel)), rfl⟩⟩, rfl, rfl⟩
theorem f_X1_23 : FLD RX1 23 5 5 (.object "ChoiceParser$Node") false := ⟨_, _, _, _, cf5, by decide, Or.inr ⟨"ChoiceParser", List.mem_filter.mpr ⟨List.mem_append_right _ (List.mem_of_getElem? (i := 347) (by decide +kernel)), rfl⟩⟩, rfl, rfl⟩
theorem f_X2_75 : FLD RX2 75 5 5 (.object "ChoiceParser$Node") false := ⟨_, _, _, _, cf5, by decide, Or.inr ⟨"ChoiceParser", List.mem_filter.mpr ⟨List.mem_append_right _ (List.mem_of_getElem? (i := 348) (by decide +kernel)), rfl⟩⟩, rfl, rfl⟩
theorem f_X1_26 : FLD RX1 26 5 6 (.int) false := ⟨_, _, _, _, cf5, by decide, Or.inr ⟨"ChoiceParser", List.mem_filter.mpr ⟨List.mem_append_right _ (List.mem_of_getElem? (i := 349) (by decide +kernel)), rfl⟩⟩, rfl, rfl⟩
theorem f_X2_70 : FLD RX2 70 5 6 (.int) false := ⟨_, _, _, _, cf5, by decide, Or.inr ⟨"ChoiceParser", List.mem_filter.mpr ⟨List.mem_append_right _ (List.mem_of_getElem? (i := 350) (by decide +kernel)), rfl⟩⟩, rfl, rfl⟩
theorem f_X1_30 : FLD RX1 30 5 7 (.boolean) false := ⟨_, _, _, _, cf5, by decide, Or.inr ⟨"ChoiceParser", List.mem_filter.mpr ⟨List.mem_append_right _ (List.mem_of_getElem? (i := 351) (by decide +kernel)), rfl⟩⟩, rfl, rfl⟩
theorem f_X2_121 : FLD RX2 121 5 7 (.boolean) false := ⟨_, _, _, _, cf5, by decide, Or.inr ⟨"ChoiceParser", List.mem_filter.mpr ⟨List.mem_append_right _ (List.mem_of_getElem? (i := 352) (by decide +kernel)), rfl⟩⟩, rfl, rfl⟩
theorem f_X9_105 : FLD RX9 105 9 0 (.int) false := ⟨_, _, _, _, cf9, by decide, Or.inl (gw_t 831 (by decide +kernel) rfl), rfl, rfl⟩
theorem f_X9_120 : FLD RX9 120 9 1 (.int) false := ⟨_, _, _, _, cf9, by decide, Or.inl (gw_t 832 (by decide +kernel) rfl), rfl, rfl⟩
theorem f_X9_7 : FLD RX9 7 9 2 (.array .char) true := ⟨_, _, _, _, cf9, by decide, Or.inl (gw_t 833 (by decide +kernel) rfl), rfl, rfl⟩
theorem ff_X9_7 : FLF RX9 7 9 2 (.array .char) := ⟨_, _, _, _, cf9, by decide, gw_t 833 (by decide +kernel) rfl, rfl, rfl, rfl⟩
theorem f_X9_168 : FLD RX9 168 9 3 (.int) false := ⟨_, _, _, _, cf9, by decide, Or.inl (gw_t 834 (by decide +kernel) rfl), rfl, rfl⟩
theorem f_X9_13 : FLD RX9 13 9 4 (.array .int) true := ⟨_, _, _, _, cf9, by decide, Or.inl (gw_t 835 (by decide +kernel) rfl), rfl, rfl⟩
theorem ff_X9_13 : FLF RX9 13 9 4 (.array .int) := ⟨_, _, _, _, cf9, by decide, gw_t 835 (by decide +kernel) rfl, rfl, rfl, rfl⟩
theorem f_X9_17 : FLD RX9 17 9 5 (.array .int) true := ⟨_, _, _, _, cf9, by decide, Or.inl (gw_t 836 (by decide +kernel) rfl), rfl, rfl⟩
theorem ff_X9_17 : FLF RX9 17 9 5 (.array .int) := ⟨_, _, _, _, cf9, by decide, gw_t 836 (by decide +kernel) rfl, rfl, rfl, rfl⟩
theorem f_X9_20 : FLD RX9 20 9 6 (.array .int) true := ⟨_, _, _, _, cf9, by decide, Or.inl (gw_t 837 (by decide +kernel) rfl), rfl, rfl⟩
theorem ff_X9_20 : FLF RX9 20 9 6 (.array .int) := ⟨_, _, _, _, cf9, by decide, gw_t 837 (by decide +kernel) rfl, rfl, rfl, rfl⟩
theorem f_X9_23 : FLD RX9 23 9 7 (.array .int) true := ⟨_, _, _, _, cf9, by decide, Or.inl (gw_t 838 (by decide +kernel) rfl), rfl, rfl⟩
theorem ff_X9_23 : FLF RX9 23 9 7 (.array .int) := ⟨_, _, _, _, cf9, by decide, gw_t 838 (by decide +kernel) rfl, rfl, rfl, rfl⟩
theorem f_X9_26 : FLD RX9 26 9 8 (.array .int) true := ⟨_, _, _, _, cf9, by decide, Or.inl (gw_t 839 (by decide +kernel) rfl), rfl, rfl⟩
theorem ff_X9_26 : FLF RX9 26 9 8 (.array .int) := ⟨_, _, _, _, cf9, by decide, gw_t 839 (by decide +kernel) rfl, rfl, rfl, rfl⟩
theorem f_X9_29 : FLD RX9 29 9 9 (.array .boolean) true := ⟨_, _, _, _, cf9, by decide, Or.inl (gw_t 840 (by decide +kernel) rfl), rfl, rfl⟩
theorem ff_X9_29 : FLF RX9 29 9 9 (.array .boolean) := ⟨_, _, _, _, cf9, by decide, gw_t 840 (by decide +kernel) rfl, rfl, rfl, rfl⟩
theorem f_X9_33 : FLD RX9 33 9 10 (.array .int) true := ⟨_, _, _, _, cf9, by decide, Or.inl (gw_t 841 (by decide +kernel) rfl), rfl, rfl⟩
theorem ff_X9_33 : FLF RX9 33 9 10 (.array .int) := ⟨_, _, _, _, cf9, by decide, gw_t 841 (by decide +kernel) rfl, rfl, rfl, rfl⟩
theorem f_X9_36 : FLD RX9 36 9 11 (.array .int) true := ⟨_, _, _, _, cf9, by decide, Or.inl (gw_t 842 (by decide +kernel) rfl), rfl, rfl⟩
theorem ff_X9_36 : FLF RX9 36 9 11 (.array .int) := ⟨_, _, _, _, cf9, by decide, gw_t 842 (by decide +kernel) rfl, rfl, rfl, rfl⟩
theorem f_X9_39 : FLD RX9 39 9 12 (.array .boolean) true := ⟨_, _, _, _, cf9, by decide, Or.inl (gw_t 843 (by decide +kernel) rfl), rfl, rfl⟩
theorem ff_X9_39 : FLF RX9 39 9 12 (.array .boolean) := ⟨_, _, _, _, cf9, by decide, gw_t 843 (by decide +kernel) rfl, rfl, rfl, rfl⟩
theorem f_X9_42 : FLD RX9 42 9 13 (.array .int) true := ⟨_, _, _, _, cf9, by decide, Or.inl (gw_t 844 (by decide +kernel) rfl), rfl, rfl⟩
theorem ff_X9_42 : FLF RX9 42 9 13 (.array .int) := ⟨_, _, _, _, cf9, by decide, gw_t 844 (by decide +kernel) rfl, rfl, rfl, rfl⟩
theorem f_X9_231 : FLD RX9 231 9 14 (.int) false := ⟨_, _, _, _, cf9, by decide, Or.inl (gw_t 845 (by decide +kernel) rfl), rfl, rfl⟩
theorem f_X9_225 : FLD RX9 225 9 15 (.int) false := ⟨_, _, _, _, cf9, by decide, Or.inl (gw_t 846 (by decide +kernel) rfl), rfl, rfl⟩
theorem f_X9_207 : FLD RX9 207 9 16 (.int) false := ⟨_, _, _, _, cf9, by decide, Or.inl (gw_t 847 (by decide +kernel) rfl), rfl, rfl⟩
theorem f_X9_45 : FLD RX9 45 9 17 (.array .int) true := ⟨_, _, _, _, cf9, by decide, Or.inl (gw_t 848 (by decide +kernel) rfl), rfl, rfl⟩
theorem ff_X9_45 : FLF RX9 45 9 17 (.array .int) := ⟨_, _, _, _, cf9, by decide, gw_t 848 (by decide +kernel) rfl, rfl, rfl, rfl⟩
theorem f_X9_48 : FLD RX9 48 9 18 (.array .int) true := ⟨_, _, _, _, cf9, by decide, Or.inl (gw_t 849 (by decide +kernel) rfl), rfl, rfl⟩
theorem ff_X9_48 : FLF RX9 48 9 18 (.array .int) := ⟨_, _, _, _, cf9, by decide, gw_t 849 (by decide +kernel) rfl, rfl, rfl, rfl⟩
theorem f_X9_51 : FLD RX9 51 9 19 (.array .int) true := ⟨_, _, _, _, cf9, by decide, Or.inl (gw_t 850 (by decide +kernel) rfl), rfl, rfl⟩
theorem ff_X9_51 : FLF RX9 51 9 19 (.array .int) := ⟨_, _, _, _, cf9, by decide, gw_t 850 (by decide +kernel) rfl, rfl, rfl, rfl⟩
theorem f_X9_54 : FLD RX9 54 9 20 (.array .boolean) true := ⟨_, _, _, _, cf9, by decide, Or.inl (gw_t 851 (by decide +kernel) rfl), rfl, rfl⟩
theorem ff_X9_54 : FLF RX9 54 9 20 (.array .boolean) := ⟨_, _, _, _, cf9, by decide, gw_t 851 (by decide +kernel) rfl, rfl, rfl, rfl⟩
theorem f_X9_57 : FLD RX9 57 9 21 (.array .int) true := ⟨_, _, _, _, cf9, by decide, Or.inl (gw_t 852 (by decide +kernel) rfl), rfl, rfl⟩
theorem ff_X9_57 : FLF RX9 57 9 21 (.array .int) := ⟨_, _, _, _, cf9, by decide, gw_t 852 (by decide +kernel) rfl, rfl, rfl, rfl⟩
theorem f_X9_228 : FLD RX9 228 9 22 (.int) false := ⟨_, _, _, _, cf9, by decide, Or.inl (gw_t 853 (by decide +kernel) rfl), rfl, rfl⟩
theorem f_X9_217 : FLD RX9 217 9 23 (.boolean) false := ⟨_, _, _, _, cf9, by decide, Or.inl (gw_t 854 (by decide +kernel) rfl), rfl, rfl⟩
theorem f_X9_210 : FLD RX9 210 9 24 (.int) false := ⟨_, _, _, _, cf9, by decide, Or.inl (gw_t 855 (by decide +kernel) rfl), rfl, rfl⟩
theorem f_X9_60 : FLD RX9 60 9 25 (.array .int) true := ⟨_, _, _, _, cf9, by decide, Or.inl (gw_t 856 (by decide +kernel) rfl), rfl, rfl⟩
theorem ff_X9_60 : FLF RX9 60 9 25 (.array .int) := ⟨_, _, _, _, cf9, by decide, gw_t 856 (by decide +kernel) rfl, rfl, rfl, rfl⟩
theorem f_X9_63 : FLD RX9 63 9 26 (.array .int) true := ⟨_, _, _, _, cf9, by decide, Or.inl (gw_t 857 (by decide +kernel) rfl), rfl, rfl⟩
theorem ff_X9_63 : FLF RX9 63 9 26 (.array .int) := ⟨_, _, _, _, cf9, by decide, gw_t 857 (by decide +kernel) rfl, rfl, rfl, rfl⟩
theorem f_X9_66 : FLD RX9 66 9 27 (.array .int) true := ⟨_, _, _, _, cf9, by decide, Or.inl (gw_t 858 (by decide +kernel) rfl), rfl, rfl⟩
theorem ff_X9_66 : FLF RX9 66 9 27 (.array .int) := ⟨_, _, _, _, cf9, by decide, gw_t 858 (by decide +kernel) rfl, rfl, rfl, rfl⟩
theorem f_X9_246 : FLD RX9 246 9 28 (.int) false := ⟨_, _, _, _, cf9, by decide, Or.inl (gw_t 859 (by decide +kernel) rfl), rfl, rfl⟩
theorem f_X9_69 : FLD RX9 69 9 29 (.array .int) true := ⟨_, _, _, _, cf9, by decide, Or.inl (gw_t 860 (by decide +kernel) rfl), rfl, rfl⟩
theorem ff_X9_69 : FLF RX9 69 9 29 (.array .int) := ⟨_, _, _, _, cf9, by decide, gw_t 860 (by decide +kernel) rfl, rfl, rfl, rfl⟩
theorem f_X9_72 : FLD RX9 72 9 30 (.array .int) true := ⟨_, _, _, _, cf9, by decide, Or.inl (gw_t 861 (by decide +kernel) rfl), rfl, rfl⟩
theorem ff_X9_72 : FLF RX9 72 9 30 (.array .int) := ⟨_, _, _, _, cf9, by decide, gw_t 861 (by decide +kernel) rfl, rfl, rfl, rfl⟩
theorem f_X9_75 : FLD RX9 75 9 31 (.array .int) true := ⟨_, _, _, _, cf9, by decide, Or.inl (gw_t 862 (by decide +kernel) rfl), rfl, rfl⟩
theorem ff_X9_75 : FLF RX9 75 9 31 (.array .int) := ⟨_, _, _, _, cf9, by decide, gw_t 862 (by decide +kernel) rfl, rfl, rfl, rfl⟩
theorem f_X9_78 : FLD RX9 78 9 32 (.array .int) true := ⟨_, _, _, _, cf9, by decide, Or.inl (gw_t 863 (by decide +kernel) rfl), rfl, rfl⟩
theorem ff_X9_78 : FLF RX9 78 9 32 (.array .int) := ⟨_, _, _, _, cf9, by decide, gw_t 863 (by decide +kernel) rfl, rfl, rfl, rfl⟩
theorem f_X9_81 : FLD RX9 81 9 33 (.array .int) true := ⟨_, _, _, _, cf9, by decide, Or.inl (gw_t 864 (by decide +kernel) rfl), rfl, rfl⟩
theorem ff_X9_81 : FLF RX9 81 9 33 (.array .int) := ⟨_, _, _, _, cf9, by decide, gw_t 864 (by decide +kernel) rfl, rfl, rfl, rfl⟩
theorem f_X9_84 : FLD RX9 84 9 34 (.array .int) true := ⟨_, _, _, _, cf9, by decide, Or.inl (gw_t 865 (by decide +kernel) rfl), rfl, rfl⟩
theorem ff_X9_84 : FLF RX9 84 9 34 (.array .int) := ⟨_, _, _, _, cf9, by decide, gw_t 865 (by decide +kernel) rfl, rfl, rfl, rfl⟩
theorem f_X9_131 : FLD RX9 131 9 35 (.int) false := ⟨_, _, _, _, cf9, by decide, Or.inl (gw_t 866 (by decide +kernel) rfl), rfl, rfl⟩
theorem f_X9_134 : FLD RX9 134 9 36 (.int) false := ⟨_, _, _, _, cf9, by decide, Or.inl (gw_t 867 (by decide +kernel) rfl), rfl, rfl⟩
theorem f_X9_87 : FLD RX9 87 9 37 (.array .int) true := ⟨_, _, _, _, cf9, by decide, Or.inl (gw_t 868 (by decide +kernel) rfl), rfl, rfl⟩
theorem ff_X9_87 : FLF RX9 87 9 37 (.array .int) := ⟨_, _, _, _, cf9, by decide, gw_t 868 (by decide +kernel) rfl, rfl, rfl, rfl⟩
theorem f_X9_137 : FLD RX9 137 9 38 (.int) false := ⟨_, _, _, _, cf9, by decide, Or.inl (gw_t 869 (by decide +kernel) rfl), rfl, rfl⟩
theorem f_X9_90 : FLD RX9 90 9 39 (.array .int) true := ⟨_, _, _, _, cf9, by decide, Or.inl (gw_t 870 (by decide +kernel) rfl), rfl, rfl⟩
theorem ff_X9_90 : FLF RX9 90 9 39 (.array .int) := ⟨_, _, _, _, cf9, by decide, gw_t 870 (by decide +kernel) rfl, rfl, rfl, rfl⟩
theorem f_X9_93 : FLD RX9 93 9 40 (.array .int) true := ⟨_, _, _, _, cf9, by decide, Or.inl (gw_t 871 (by decide +kernel) rfl), rfl, rfl⟩
theorem ff_X9_93 : FLF RX9 93 9 40 (.array .int) := ⟨_, _, _, _, cf9, by decide, gw_t 871 (by decide +kernel) rfl, rfl, rfl, rfl⟩
theorem f_X9_96 : FLD RX9 96 9 41 (.array .int) true := ⟨_, _, _, _, cf9, by decide, Or.inl (gw_t 872 (by decide +kernel) rfl), rfl, rfl⟩
theorem ff_X9_96 : FLF RX9 96 9 41 (.array .int) := ⟨_, _, _, _, cf9, by decide, gw_t 872 (by decide +kernel) rfl, rfl, rfl, rfl⟩
theorem f_X9_99 : FLD RX9 99 9 42 (.array .char) true := ⟨_, _, _, _, cf9, by decide, Or.inl (gw_t 873 (by decide +kernel) rfl), rfl, rfl⟩
theorem ff_X9_99 : FLF RX9 99 9 42 (.array .char) := ⟨_, _, _, _, cf9, by decide, gw_t 873 (by decide +kernel) rfl, rfl, rfl, rfl⟩
end
section
abbrev mX8_init : Mth := (RX8, cX8_init, yX8_init, 1, none, [])
theorem mfX8_init : MF mX8_init := ⟨gw_t 29 (by decide +kernel) rfl, by decide +kernel, ⟨by decide +kernel, by decide +kernel⟩, gw_t 1 (by decide +kernel) rfl, rfl, by decide⟩
theorem mvX8_init : MI mX8_init 0 := ⟨gw_t 28 (by decide +kernel) rfl, by decide +kernel, rfl, by decide +kernel⟩
abbrev mX0_init : Mth := (RX0, cX0_init, yX0_init, 2, none, [])
theorem mfX0_init : MF mX0_init := ⟨gw_t 37 (by decide +kernel) rfl, by decide +kernel, ⟨by decide +kernel, by decide +kernel⟩, gw_t 2 (by decide +kernel) rfl, rfl, by decide⟩
theorem mvX0_init : MI mX0_init 1 := ⟨gw_t 36 (by decide +kernel) rfl, by decide +kernel, rfl, by decide +kernel⟩
abbrev mX6_init : Mth := (RX6, cX6_init, yX6_init, 2, none, [])
theorem mfX6_init : MF mX6_init := ⟨gw_t 51 (by decide +kernel) rfl, by decide +kernel, ⟨by decide +kernel, by decide +kernel⟩, gw_t 3 (by decide +kernel) rfl, rfl, by decide⟩
theorem mvX6_init : MI mX6_init 1 := ⟨gw_t 50 (by decide +kernel) rfl, by decide +kernel, rfl, by decide +kernel⟩
abbrev mX1_init : Mth := (RX1, cX1_init, yX1_init, 1, none, [])
theorem mfX1_init : MF mX1_init := ⟨gw_t 57 (by decide +kernel) rfl, by decide +kernel, ⟨by decide +kernel, by decide +kernel⟩, gw_t 4 (by decide +kernel) rfl, rfl, by decide⟩
theorem mvX1_init : MI mX1_init 0 := ⟨gw_t 56 (by decide +kernel) rfl, by decide +kernel, rfl, by decide +kernel⟩
abbrev mX2_init : Mth := (RX2, cX2_init, yX2_init, 1, none, [])
theorem mfX2_init : MF mX2_init := ⟨gw_t 85 (by decide +kernel) rfl, by decide +kernel, ⟨by decide +kernel, by decide +kernel⟩, gw_t 5 (by decide +kernel) rfl, rfl, by decide⟩
theorem mvX2_init : MI mX2_init 0 := ⟨gw_t 84 (by decide +kernel) rfl, by decide +kernel, rfl, by decide +kernel⟩
abbrev mX4_init : Mth := (RX4, cX4_init, yX4_init, 1, none, [])
theorem mfX4_init : MF mX4_init := ⟨gw_t 100 (by decide +kernel) rfl, by decide +kernel, ⟨by decide +kernel, by decide +kernel⟩, gw_t 6 (by decide +kernel) rfl, rfl, by decide⟩
theorem mvX4_init : MI mX4_init 0 := ⟨gw_t 99 (by decide +kernel) rfl, by decide +kernel, rfl, by decide +kernel⟩
abbrev mJ7_fill_53178 : Mth := (RJ7, cJ7_fill_53178, yJ7_fill_53178, 4, none, [])
theorem mfJ7_fill_53178 : MF mJ7_fill_53178 := ⟨gw_t 104 (by decide +kernel) rfl, by decide +kernel, ⟨by decide +kernel, by decide +kernel⟩, gw_t 7 (by decide +kernel) rfl, rfl, by decide⟩
theorem mvJ7_fill_53178 : MS mJ7_fill_53178 2 := ⟨gw_t 103 (by decide +kernel) rfl, by decide +kernel⟩
abbrev mX3_init : Mth := (RX3, cX3_init, yX3_init, 4, none, [])
theorem mfX3_init : MF mX3_init := ⟨gw_t 121 (by decide +kernel) rfl, by decide +kernel, ⟨by decide +kernel, by decide +kernel⟩, gw_t 8 (by decide +kernel) rfl, rfl, by decide⟩
theorem mvX3_init : MI mX3_init 3 := ⟨gw_t 120 (by decide +kernel) rfl, by decide +kernel, rfl, by decide +kernel⟩
abbrev mX7_init : Mth := (RX7, cX7_init, yX7_init, 1, none, [])
theorem mfX7_init : MF mX7_init := ⟨gw_t 143 (by decide +kernel) rfl, by decide +kernel, ⟨by decide +kernel, by decide +kernel⟩, gw_t 9 (by decide +kernel) rfl, rfl, by decide⟩
theorem mvX7_init : MI mX7_init 0 := ⟨gw_t 142 (by decide +kernel) rfl, by decide +kernel, rfl, by decide +kernel⟩
abbrev mX8_type : Mth := (RX8, cX8_type, yX8_type, 2, Option.some .boolean, [])
theorem mfX8_type : MF mX8_type := ⟨gw_t 179 (by decide +kernel) rfl, by decide +kernel, ⟨by decide +kernel, by decide +kernel⟩, gw_t 1 (by decide +kernel) rfl, rfl, by decide⟩
theorem mvX8_type : MV mX8_type 1 := ⟨gw_t 177 (by decide +kernel) rfl, gw_t 178 (by decide +kernel) rfl, by decide +kernel⟩
abbrev mX8_standsInTexts : Mth := (RX8, cX8_standsInTexts, yX8_standsInTexts, 1, Option.some .boolean, [])
theorem mfX8_standsInTexts : MF mX8_standsInTexts := ⟨gw_t 182 (by decide +kernel) rfl, by decide +kernel, ⟨by decide +kernel, by decide +kernel⟩, gw_t 1 (by decide +kernel) rfl, rfl, by decide⟩
theorem mvX8_standsInTexts : MS mX8_standsInTexts 1 := ⟨gw_t 181 (by decide +kernel) rfl, by decide +kernel⟩
abbrev mX8_isLetter : Mth := (RX8, cX8_isLetter, yX8_isLetter, 1, Option.some .boolean, [])
theorem mfX8_isLetter : MF mX8_isLetter := ⟨gw_t 185 (by decide +kernel) rfl, by decide +kernel, ⟨by decide +kernel, by decide +kernel⟩, gw_t 1 (by decide +kernel) rfl, rfl, by decide⟩
theorem mvX8_isLetter : MS mX8_isLetter 1 := ⟨gw_t 184 (by decide +kernel) rfl, by decide +kernel⟩
abbrev mX8_isRuleLetter : Mth := (RX8, cX8_isRuleLetter, yX8_isRuleLetter, 1, Option.some .boolean, [])
theorem mfX8_isRuleLetter : MF mX8_isRuleLetter := ⟨gw_t 188 (by decide +kernel) rfl, by decide +kernel, ⟨by decide +kernel, by decide +kernel⟩, gw_t 1 (by decide +kernel) rfl, rfl, by decide⟩
theorem mvX8_isRuleLetter : MS mX8_isRuleLetter 1 := ⟨gw_t 187 (by decide +kernel) rfl, by decide +kernel⟩
abbrev mX0_add : Mth := (RX0, cX0_add, yX0_add, 2, Option.some .boolean, [])
theorem mfX0_add : MF mX0_add := ⟨gw_t 279 (by decide +kernel) rfl, by decide +kernel, ⟨by decide +kernel, by decide +kernel⟩, gw_t 2 (by decide +kernel) rfl, rfl, by decide⟩
theorem mvX0_add : MV mX0_add 1 := ⟨gw_t 277 (by decide +kernel) rfl, gw_t 278 (by decide +kernel) rfl, by decide +kernel⟩
abbrev mX8_rule : Mth := (RX8, cX8_rule, yX8_rule, 2, Option.some .int, [])
theorem mfX8_rule : MF mX8_rule := ⟨gw_t 283 (by decide +kernel) rfl, by decide +kernel, ⟨by decide +kernel, by decide +kernel⟩, gw_t 1 (by decide +kernel) rfl, rfl, by decide⟩
theorem mvX8_rule : MV mX8_rule 0 := ⟨gw_t 281 (by decide +kernel) rfl, gw_t 282 (by decide +kernel) rfl, by decide +kernel⟩
abbrev mX6_read : Mth := (RX6, cX6_read, yX6_read, 2, Option.some (.object "ChoiceParser$Expression"), [])
theorem mfX6_read : MF mX6_read := ⟨gw_t 287 (by decide +kernel) rfl, by decide +kernel, ⟨by decide +kernel, by decide +kernel⟩, gw_t 3 (by decide +kernel) rfl, rfl, by decide⟩
theorem mvX6_read : MV mX6_read 0 := ⟨gw_t 285 (by decide +kernel) rfl, gw_t 286 (by decide +kernel) rfl, by decide +kernel⟩
abbrev mX0_at : Mth := (RX0, cX0_at, yX0_at, 2, Option.some .char, [])
theorem mfX0_at : MF mX0_at := ⟨gw_t 291 (by decide +kernel) rfl, by decide +kernel, ⟨by decide +kernel, by decide +kernel⟩, gw_t 2 (by decide +kernel) rfl, rfl, by decide⟩
theorem mvX0_at : MV mX0_at 1 := ⟨gw_t 289 (by decide +kernel) rfl, gw_t 290 (by decide +kernel) rfl, by decide +kernel⟩
abbrev mX6_take : Mth := (RX6, cX6_take, yX6_take, 2, Option.some .boolean, [])
theorem mfX6_take : MF mX6_take := ⟨gw_t 296 (by decide +kernel) rfl, by decide +kernel, ⟨by decide +kernel, by decide +kernel⟩, gw_t 3 (by decide +kernel) rfl, rfl, by decide⟩
theorem mvX6_take : MV mX6_take 1 := ⟨gw_t 295 (by decide +kernel) rfl, gw_s 0 (by decide +kernel) rfl, by decide +kernel⟩
abbrev mX6_readChoice : Mth := (RX6, cX6_readChoice, yX6_readChoice, 6, Option.some (.object "ChoiceParser$Node"), [])
theorem mfX6_readChoice : MF mX6_readChoice := ⟨gw_t 300 (by decide +kernel) rfl, by decide +kernel, ⟨by decide +kernel, by decide +kernel⟩, gw_t 3 (by decide +kernel) rfl, rfl, by decide⟩
theorem mvX6_readChoice : MV mX6_readChoice 1 := ⟨gw_t 299 (by decide +kernel) rfl, gw_s 1 (by decide +kernel) rfl, by decide +kernel⟩
abbrev mX6_readRow : Mth := (RX6, cX6_readRow, yX6_readRow, 6, Option.some (.object "ChoiceParser$Node"), [])
theorem mfX6_readRow : MF mX6_readRow := ⟨gw_t 304 (by decide +kernel) rfl, by decide +kernel, ⟨by decide +kernel, by decide +kernel⟩, gw_t 3 (by decide +kernel) rfl, rfl, by decide⟩
theorem mvX6_readRow : MV mX6_readRow 1 := ⟨gw_t 303 (by decide +kernel) rfl, gw_s 2 (by decide +kernel) rfl, by decide +kernel⟩
abbrev mX6_readPart : Mth := (RX6, cX6_readPart, yX6_readPart, 5, Option.some (.object "ChoiceParser$Node"), [])
theorem mfX6_readPart : MF mX6_readPart := ⟨gw_t 308 (by decide +kernel) rfl, by decide +kernel, ⟨by decide +kernel, by decide +kernel⟩, gw_t 3 (by decide +kernel) rfl, rfl, by decide⟩
theorem mvX6_readPart : MV mX6_readPart 1 := ⟨gw_t 307 (by decide +kernel) rfl, gw_s 3 (by decide +kernel) rfl, by decide +kernel⟩
abbrev mX6_signBefore : Mth := (RX6, cX6_signBefore, yX6_signBefore, 1, Option.some .int, [])
theorem mfX6_signBefore : MF mX6_signBefore := ⟨gw_t 311 (by decide +kernel) rfl, by decide +kernel, ⟨by decide +kernel, by decide +kernel⟩, gw_t 3 (by decide +kernel) rfl, rfl, by decide⟩
theorem mvX6_signBefore : MS mX6_signBefore 1 := ⟨gw_t 310 (by decide +kernel) rfl, by decide +kernel⟩
abbrev mX6_readUnit : Mth := (RX6, cX6_readUnit, yX6_readUnit, 3, Option.some (.object "ChoiceParser$Node"), [])
theorem mfX6_readUnit : MF mX6_readUnit := ⟨gw_t 315 (by decide +kernel) rfl, by decide +kernel, ⟨by decide +kernel, by decide +kernel⟩, gw_t 3 (by decide +kernel) rfl, rfl, by decide⟩
theorem mvX6_readUnit : MV mX6_readUnit 1 := ⟨gw_t 314 (by decide +kernel) rfl, gw_s 4 (by decide +kernel) rfl, by decide +kernel⟩
abbrev mX6_readRange : Mth := (RX6, cX6_readRange, yX6_readRange, 3, Option.some (.object "ChoiceParser$Node"), [])
theorem mfX6_readRange : MF mX6_readRange := ⟨gw_t 319 (by decide +kernel) rfl, by decide +kernel, ⟨by decide +kernel, by decide +kernel⟩, gw_t 3 (by decide +kernel) rfl, rfl, by decide⟩
theorem mvX6_readRange : MV mX6_readRange 0 := ⟨gw_t 318 (by decide +kernel) rfl, gw_s 5 (by decide +kernel) rfl, by decide +kernel⟩
abbrev mX1_add : Mth := (RX1, cX1_add, yX1_add, 6, Option.some (.object "ChoiceParser$Node"), [])
theorem mfX1_add : MF mX1_add := ⟨gw_t 324 (by decide +kernel) rfl, by decide +kernel, ⟨by decide +kernel, by decide +kernel⟩, gw_t 4 (by decide +kernel) rfl, rfl, by decide⟩
theorem mvX1_add : MV mX1_add 4 := ⟨gw_t 322 (by decide +kernel) rfl, gw_t 323 (by decide +kernel) rfl, by decide +kernel⟩
abbrev mX5_init : Mth := (RX5, cX5_init, yX5_init, 5, none, [])
theorem mfX5_init : MF mX5_init := ⟨gw_t 329 (by decide +kernel) rfl, by decide +kernel, ⟨by decide +kernel, by decide +kernel⟩, gw_t 17 (by decide +kernel) rfl, rfl, by decide⟩
theorem mvX5_init : MI mX5_init 4 := ⟨gw_t 328 (by decide +kernel) rfl, by decide +kernel, rfl, by decide +kernel⟩
abbrev mX6_readGroup : Mth := (RX6, cX6_readGroup, yX6_readGroup, 3, Option.some (.object "ChoiceParser$Node"), [])
theorem mfX6_readGroup : MF mX6_readGroup := ⟨gw_t 373 (by decide +kernel) rfl, by decide +kernel, ⟨by decide +kernel, by decide +kernel⟩, gw_t 3 (by decide +kernel) rfl, rfl, by decide⟩
theorem mvX6_readGroup : MV mX6_readGroup 1 := ⟨gw_t 372 (by decide +kernel) rfl, gw_s 6 (by decide +kernel) rfl, by decide +kernel⟩
abbrev mX6_signBehind : Mth := (RX6, cX6_signBehind, yX6_signBehind, 1, Option.some .int, [])
theorem mfX6_signBehind : MF mX6_signBehind := ⟨gw_t 376 (by decide +kernel) rfl, by decide +kernel, ⟨by decide +kernel, by decide +kernel⟩, gw_t 3 (by decide +kernel) rfl, rfl, by decide⟩
theorem mvX6_signBehind : MS mX6_signBehind 1 := ⟨gw_t 375 (by decide +kernel) rfl, by decide +kernel⟩
abbrev mX6_beginsPart : Mth := (RX6, cX6_beginsPart, yX6_beginsPart, 1, Option.some .boolean, [])
theorem mfX6_beginsPart : MF mX6_beginsPart := ⟨gw_t 379 (by decide +kernel) rfl, by decide +kernel, ⟨by decide +kernel, by decide +kernel⟩, gw_t 3 (by decide +kernel) rfl, rfl, by decide⟩
theorem mvX6_beginsPart : MS mX6_beginsPart 1 := ⟨gw_t 378 (by decide +kernel) rfl, by decide +kernel⟩
abbrev mX0_size : Mth := (RX0, cX0_size, yX0_size, 1, Option.some .int, [])
theorem mfX0_size : MF mX0_size := ⟨gw_t 383 (by decide +kernel) rfl, by decide +kernel, ⟨by decide +kernel, by decide +kernel⟩, gw_t 2 (by decide +kernel) rfl, rfl, by decide⟩
theorem mvX0_size : MV mX0_size 0 := ⟨gw_t 381 (by decide +kernel) rfl, gw_t 382 (by decide +kernel) rfl, by decide +kernel⟩
abbrev mX0_removeAll : Mth := (RX0, cX0_removeAll, yX0_removeAll, 1, none, [])
theorem mfX0_removeAll : MF mX0_removeAll := ⟨gw_t 387 (by decide +kernel) rfl, by decide +kernel, ⟨by decide +kernel, by decide +kernel⟩, gw_t 2 (by decide +kernel) rfl, rfl, by decide⟩
theorem mvX0_removeAll : MV mX0_removeAll 0 := ⟨gw_t 385 (by decide +kernel) rfl, gw_t 386 (by decide +kernel) rfl, by decide +kernel⟩
abbrev mX6_fault : Mth := (RX6, cX6_fault, yX6_fault, 1, Option.some .int, [])
theorem mfX6_fault : MF mX6_fault := ⟨gw_t 391 (by decide +kernel) rfl, by decide +kernel, ⟨by decide +kernel, by decide +kernel⟩, gw_t 3 (by decide +kernel) rfl, rfl, by decide⟩
theorem mvX6_fault : MV mX6_fault 0 := ⟨gw_t 389 (by decide +kernel) rfl, gw_t 390 (by decide +kernel) rfl, by decide +kernel⟩
abbrev mX6_ruleRead : Mth := (RX6, cX6_ruleRead, yX6_ruleRead, 1, Option.some .int, [])
theorem mfX6_ruleRead : MF mX6_ruleRead := ⟨gw_t 395 (by decide +kernel) rfl, by decide +kernel, ⟨by decide +kernel, by decide +kernel⟩, gw_t 3 (by decide +kernel) rfl, rfl, by decide⟩
theorem mvX6_ruleRead : MV mX6_ruleRead 0 := ⟨gw_t 393 (by decide +kernel) rfl, gw_t 394 (by decide +kernel) rfl, by decide +kernel⟩
abbrev mX2_put : Mth := (RX2, cX2_put, yX2_put, 3, none, [])
theorem mfX2_put : MF mX2_put := ⟨gw_t 399 (by decide +kernel) rfl, by decide +kernel, ⟨by decide +kernel, by decide +kernel⟩, gw_t 5 (by decide +kernel) rfl, rfl, by decide⟩
theorem mvX2_put : MV mX2_put 2 := ⟨gw_t 397 (by decide +kernel) rfl, gw_t 398 (by decide +kernel) rfl, by decide +kernel⟩
abbrev mX8_isRule : Mth := (RX8, cX8_isRule, yX8_isRule, 1, Option.some .boolean, [])
theorem mfX8_isRule : MF mX8_isRule := ⟨gw_t 402 (by decide +kernel) rfl, by decide +kernel, ⟨by decide +kernel, by decide +kernel⟩, gw_t 1 (by decide +kernel) rfl, rfl, by decide⟩
theorem mvX8_isRule : MS mX8_isRule 1 := ⟨gw_t 401 (by decide +kernel) rfl, by decide +kernel⟩
abbrev mX2_examine : Mth := (RX2, cX2_examine, yX2_examine, 3, Option.some .int, [])
theorem mfX2_examine : MF mX2_examine := ⟨gw_t 406 (by decide +kernel) rfl, by decide +kernel, ⟨by decide +kernel, by decide +kernel⟩, gw_t 5 (by decide +kernel) rfl, rfl, by decide⟩
theorem mvX2_examine : MV mX2_examine 0 := ⟨gw_t 405 (by decide +kernel) rfl, gw_s 7 (by decide +kernel) rfl, by decide +kernel⟩
abbrev mX2_size : Mth := (RX2, cX2_size, yX2_size, 6, Option.some .int, [])
theorem mfX2_size : MF mX2_size := ⟨gw_t 410 (by decide +kernel) rfl, by decide +kernel, ⟨by decide +kernel, by decide +kernel⟩, gw_t 5 (by decide +kernel) rfl, rfl, by decide⟩
theorem mvX2_size : MV mX2_size 0 := ⟨gw_t 408 (by decide +kernel) rfl, gw_t 409 (by decide +kernel) rfl, by decide +kernel⟩
abbrev mX2_lowestMissing : Mth := (RX2, cX2_lowestMissing, yX2_lowestMissing, 6, Option.some .int, [])
theorem mfX2_lowestMissing : MF mX2_lowestMissing := ⟨gw_t 414 (by decide +kernel) rfl, by decide +kernel, ⟨by decide +kernel, by decide +kernel⟩, gw_t 5 (by decide +kernel) rfl, rfl, by decide⟩
theorem mvX2_lowestMissing : MV mX2_lowestMissing 0 := ⟨gw_t 413 (by decide +kernel) rfl, gw_s 8 (by decide +kernel) rfl, by decide +kernel⟩
abbrev mX1_rulesInIt : Mth := (RX1, cX1_rulesInIt, yX1_rulesInIt, 3, Option.some .int, [])
theorem mfX1_rulesInIt : MF mX1_rulesInIt := ⟨gw_t 418 (by decide +kernel) rfl, by decide +kernel, ⟨by decide +kernel, by decide +kernel⟩, gw_t 4 (by decide +kernel) rfl, rfl, by decide⟩
theorem mvX1_rulesInIt : MV mX1_rulesInIt 0 := ⟨gw_t 416 (by decide +kernel) rfl, gw_t 417 (by decide +kernel) rfl, by decide +kernel⟩
abbrev mX2_forgetFindings : Mth := (RX2, cX2_forgetFindings, yX2_forgetFindings, 5, none, [])
theorem mfX2_forgetFindings : MF mX2_forgetFindings := ⟨gw_t 422 (by decide +kernel) rfl, by decide +kernel, ⟨by decide +kernel, by decide +kernel⟩, gw_t 5 (by decide +kernel) rfl, rfl, by decide⟩
theorem mvX2_forgetFindings : MV mX2_forgetFindings 0 := ⟨gw_t 421 (by decide +kernel) rfl, gw_s 9 (by decide +kernel) rfl, by decide +kernel⟩
abbrev mX1_forgetFindings : Mth := (RX1, cX1_forgetFindings, yX1_forgetFindings, 2, none, [])
theorem mfX1_forgetFindings : MF mX1_forgetFindings := ⟨gw_t 426 (by decide +kernel) rfl, by decide +kernel, ⟨by decide +kernel, by decide +kernel⟩, gw_t 4 (by decide +kernel) rfl, rfl, by decide⟩
theorem mvX1_forgetFindings : MV mX1_forgetFindings 0 := ⟨gw_t 424 (by decide +kernel) rfl, gw_t 425 (by decide +kernel) rfl, by decide +kernel⟩
abbrev mX2_findOutcomes : Mth := (RX2, cX2_findOutcomes, yX2_findOutcomes, 7, none, [])
theorem mfX2_findOutcomes : MF mX2_findOutcomes := ⟨gw_t 430 (by decide +kernel) rfl, by decide +kernel, ⟨by decide +kernel, by decide +kernel⟩, gw_t 5 (by decide +kernel) rfl, rfl, by decide⟩
theorem mvX2_findOutcomes : MV mX2_findOutcomes 0 := ⟨gw_t 429 (by decide +kernel) rfl, gw_s 10 (by decide +kernel) rfl, by decide +kernel⟩
abbrev mX2_findOutcomesIn : Mth := (RX2, cX2_findOutcomesIn, yX2_findOutcomesIn, 4, Option.some .boolean, [])
theorem mfX2_findOutcomesIn : MF mX2_findOutcomesIn := ⟨gw_t 434 (by decide +kernel) rfl, by decide +kernel, ⟨by decide +kernel, by decide +kernel⟩, gw_t 5 (by decide +kernel) rfl, rfl, by decide⟩
theorem mvX2_findOutcomesIn : MV mX2_findOutcomesIn 1 := ⟨gw_t 433 (by decide +kernel) rfl, gw_s 11 (by decide +kernel) rfl, by decide +kernel⟩
abbrev mX1_outcomesOfRoot : Mth := (RX1, cX1_outcomesOfRoot, yX1_outcomesOfRoot, 1, Option.some .int, [])
theorem mfX1_outcomesOfRoot : MF mX1_outcomesOfRoot := ⟨gw_t 438 (by decide +kernel) rfl, by decide +kernel, ⟨by decide +kernel, by decide +kernel⟩, gw_t 4 (by decide +kernel) rfl, rfl, by decide⟩
theorem mvX1_outcomesOfRoot : MV mX1_outcomesOfRoot 0 := ⟨gw_t 436 (by decide +kernel) rfl, gw_t 437 (by decide +kernel) rfl, by decide +kernel⟩
abbrev mX2_outcomesOf : Mth := (RX2, cX2_outcomesOf, yX2_outcomesOf, 3, Option.some .int, [])
theorem mfX2_outcomesOf : MF mX2_outcomesOf := ⟨gw_t 442 (by decide +kernel) rfl, by decide +kernel, ⟨by decide +kernel, by decide +kernel⟩, gw_t 5 (by decide +kernel) rfl, rfl, by decide⟩
theorem mvX2_outcomesOf : MV mX2_outcomesOf 1 := ⟨gw_t 441 (by decide +kernel) rfl, gw_s 12 (by decide +kernel) rfl, by decide +kernel⟩
abbrev mX2_expressionOf : Mth := (RX2, cX2_expressionOf, yX2_expressionOf, 2, Option.some (.object "ChoiceParser$Expression"), [])
theorem mfX2_expressionOf : MF mX2_expressionOf := ⟨gw_t 446 (by decide +kernel) rfl, by decide +kernel, ⟨by decide +kernel, by decide +kernel⟩, gw_t 5 (by decide +kernel) rfl, rfl, by decide⟩
theorem mvX2_expressionOf : MV mX2_expressionOf 1 := ⟨gw_t 444 (by decide +kernel) rfl, gw_t 445 (by decide +kernel) rfl, by decide +kernel⟩
abbrev mX2_outcomesOfRow : Mth := (RX2, cX2_outcomesOfRow, yX2_outcomesOfRow, 3, Option.some .int, [])
theorem mfX2_outcomesOfRow : MF mX2_outcomesOfRow := ⟨gw_t 449 (by decide +kernel) rfl, by decide +kernel, ⟨by decide +kernel, by decide +kernel⟩, gw_t 5 (by decide +kernel) rfl, rfl, by decide⟩
theorem mvX2_outcomesOfRow : MS mX2_outcomesOfRow 1 := ⟨gw_t 448 (by decide +kernel) rfl, by decide +kernel⟩
abbrev mX2_joinInRow : Mth := (RX2, cX2_joinInRow, yX2_joinInRow, 6, Option.some .int, [])
theorem mfX2_joinInRow : MF mX2_joinInRow := ⟨gw_t 452 (by decide +kernel) rfl, by decide +kernel, ⟨by decide +kernel, by decide +kernel⟩, gw_t 5 (by decide +kernel) rfl, rfl, by decide⟩
theorem mvX2_joinInRow : MS mX2_joinInRow 2 := ⟨gw_t 451 (by decide +kernel) rfl, by decide +kernel⟩
abbrev mX2_outcomesOfChoice : Mth := (RX2, cX2_outcomesOfChoice, yX2_outcomesOfChoice, 3, Option.some .int, [])
theorem mfX2_outcomesOfChoice : MF mX2_outcomesOfChoice := ⟨gw_t 455 (by decide +kernel) rfl, by decide +kernel, ⟨by decide +kernel, by decide +kernel⟩, gw_t 5 (by decide +kernel) rfl, rfl, by decide⟩
theorem mvX2_outcomesOfChoice : MS mX2_outcomesOfChoice 1 := ⟨gw_t 454 (by decide +kernel) rfl, by decide +kernel⟩
abbrev mX2_any : Mth := (RX2, cX2_any, yX2_any, 2, Option.some .boolean, [])
theorem mfX2_any : MF mX2_any := ⟨gw_t 458 (by decide +kernel) rfl, by decide +kernel, ⟨by decide +kernel, by decide +kernel⟩, gw_t 5 (by decide +kernel) rfl, rfl, by decide⟩
theorem mvX2_any : MS mX2_any 2 := ⟨gw_t 457 (by decide +kernel) rfl, by decide +kernel⟩
abbrev mX2_outcomesOfSign : Mth := (RX2, cX2_outcomesOfSign, yX2_outcomesOfSign, 2, Option.some .int, [])
theorem mfX2_outcomesOfSign : MF mX2_outcomesOfSign := ⟨gw_t 461 (by decide +kernel) rfl, by decide +kernel, ⟨by decide +kernel, by decide +kernel⟩, gw_t 5 (by decide +kernel) rfl, rfl, by decide⟩
theorem mvX2_outcomesOfSign : MS mX2_outcomesOfSign 2 := ⟨gw_t 460 (by decide +kernel) rfl, by decide +kernel⟩
abbrev mX2_findGood : Mth := (RX2, cX2_findGood, yX2_findGood, 7, none, [])
theorem mfX2_findGood : MF mX2_findGood := ⟨gw_t 465 (by decide +kernel) rfl, by decide +kernel, ⟨by decide +kernel, by decide +kernel⟩, gw_t 5 (by decide +kernel) rfl, rfl, by decide⟩
theorem mvX2_findGood : MV mX2_findGood 0 := ⟨gw_t 464 (by decide +kernel) rfl, gw_s 13 (by decide +kernel) rfl, by decide +kernel⟩
abbrev mX2_findGoodIn : Mth := (RX2, cX2_findGoodIn, yX2_findGoodIn, 4, Option.some .boolean, [])
theorem mfX2_findGoodIn : MF mX2_findGoodIn := ⟨gw_t 469 (by decide +kernel) rfl, by decide +kernel, ⟨by decide +kernel, by decide +kernel⟩, gw_t 5 (by decide +kernel) rfl, rfl, by decide⟩
theorem mvX2_findGoodIn : MV mX2_findGoodIn 1 := ⟨gw_t 468 (by decide +kernel) rfl, gw_s 14 (by decide +kernel) rfl, by decide +kernel⟩
abbrev mX1_rootIsGood : Mth := (RX1, cX1_rootIsGood, yX1_rootIsGood, 1, Option.some .boolean, [])
theorem mfX1_rootIsGood : MF mX1_rootIsGood := ⟨gw_t 473 (by decide +kernel) rfl, by decide +kernel, ⟨by decide +kernel, by decide +kernel⟩, gw_t 4 (by decide +kernel) rfl, rfl, by decide⟩
theorem mvX1_rootIsGood : MV mX1_rootIsGood 0 := ⟨gw_t 471 (by decide +kernel) rfl, gw_t 472 (by decide +kernel) rfl, by decide +kernel⟩
abbrev mX2_isGood : Mth := (RX2, cX2_isGood, yX2_isGood, 3, Option.some .boolean, [])
theorem mfX2_isGood : MF mX2_isGood := ⟨gw_t 477 (by decide +kernel) rfl, by decide +kernel, ⟨by decide +kernel, by decide +kernel⟩, gw_t 5 (by decide +kernel) rfl, rfl, by decide⟩
theorem mvX2_isGood : MV mX2_isGood 1 := ⟨gw_t 476 (by decide +kernel) rfl, gw_s 15 (by decide +kernel) rfl, by decide +kernel⟩
abbrev mX2_isGoodRow : Mth := (RX2, cX2_isGoodRow, yX2_isGoodRow, 2, Option.some .boolean, [])
theorem mfX2_isGoodRow : MF mX2_isGoodRow := ⟨gw_t 480 (by decide +kernel) rfl, by decide +kernel, ⟨by decide +kernel, by decide +kernel⟩, gw_t 5 (by decide +kernel) rfl, rfl, by decide⟩
theorem mvX2_isGoodRow : MS mX2_isGoodRow 1 := ⟨gw_t 479 (by decide +kernel) rfl, by decide +kernel⟩
abbrev mX2_isGoodChoice : Mth := (RX2, cX2_isGoodChoice, yX2_isGoodChoice, 2, Option.some .boolean, [])
theorem mfX2_isGoodChoice : MF mX2_isGoodChoice := ⟨gw_t 483 (by decide +kernel) rfl, by decide +kernel, ⟨by decide +kernel, by decide +kernel⟩, gw_t 5 (by decide +kernel) rfl, rfl, by decide⟩
theorem mvX2_isGoodChoice : MS mX2_isGoodChoice 1 := ⟨gw_t 482 (by decide +kernel) rfl, by decide +kernel⟩
abbrev mX2_lowestNotGood : Mth := (RX2, cX2_lowestNotGood, yX2_lowestNotGood, 3, Option.some .int, [])
theorem mfX2_lowestNotGood : MF mX2_lowestNotGood := ⟨gw_t 487 (by decide +kernel) rfl, by decide +kernel, ⟨by decide +kernel, by decide +kernel⟩, gw_t 5 (by decide +kernel) rfl, rfl, by decide⟩
theorem mvX2_lowestNotGood : MV mX2_lowestNotGood 0 := ⟨gw_t 486 (by decide +kernel) rfl, gw_s 16 (by decide +kernel) rfl, by decide +kernel⟩
abbrev mX1_allGood : Mth := (RX1, cX1_allGood, yX1_allGood, 2, Option.some .boolean, [])
theorem mfX1_allGood : MF mX1_allGood := ⟨gw_t 491 (by decide +kernel) rfl, by decide +kernel, ⟨by decide +kernel, by decide +kernel⟩, gw_t 4 (by decide +kernel) rfl, rfl, by decide⟩
theorem mvX1_allGood : MV mX1_allGood 0 := ⟨gw_t 489 (by decide +kernel) rfl, gw_t 490 (by decide +kernel) rfl, by decide +kernel⟩
abbrev mX4_forget : Mth := (RX4, cX4_forget, yX4_forget, 1, none, [])
theorem mfX4_forget : MF mX4_forget := ⟨gw_t 495 (by decide +kernel) rfl, by decide +kernel, ⟨by decide +kernel, by decide +kernel⟩, gw_t 6 (by decide +kernel) rfl, rfl, by decide⟩
theorem mvX4_forget : MV mX4_forget 0 := ⟨gw_t 493 (by decide +kernel) rfl, gw_t 494 (by decide +kernel) rfl, by decide +kernel⟩
abbrev mX8_clear : Mth := (RX8, cX8_clear, yX8_clear, 2, Option.some .int, [])
theorem mfX8_clear : MF mX8_clear := ⟨gw_t 499 (by decide +kernel) rfl, by decide +kernel, ⟨by decide +kernel, by decide +kernel⟩, gw_t 1 (by decide +kernel) rfl, rfl, by decide⟩
theorem mvX8_clear : MV mX8_clear 0 := ⟨gw_t 497 (by decide +kernel) rfl, gw_t 498 (by decide +kernel) rfl, by decide +kernel⟩
abbrev mX8_check : Mth := (RX8, cX8_check, yX8_check, 1, Option.some .int, [])
theorem mfX8_check : MF mX8_check := ⟨gw_t 504 (by decide +kernel) rfl, by decide +kernel, ⟨by decide +kernel, by decide +kernel⟩, gw_t 1 (by decide +kernel) rfl, rfl, by decide⟩
theorem mvX8_check : MV mX8_check 0 := ⟨gw_t 502 (by decide +kernel) rfl, gw_t 503 (by decide +kernel) rfl, by decide +kernel⟩
abbrev mX2_verdict : Mth := (RX2, cX2_verdict, yX2_verdict, 1, Option.some .int, [])
theorem mfX2_verdict : MF mX2_verdict := ⟨gw_t 508 (by decide +kernel) rfl, by decide +kernel, ⟨by decide +kernel, by decide +kernel⟩, gw_t 5 (by decide +kernel) rfl, rfl, by decide⟩
theorem mvX2_verdict : MV mX2_verdict 0 := ⟨gw_t 506 (by decide +kernel) rfl, gw_t 507 (by decide +kernel) rfl, by decide +kernel⟩
abbrev mX8_full : Mth := (RX8, cX8_full, yX8_full, 2, Option.some .float, [])
theorem mfX8_full : MF mX8_full := ⟨gw_t 512 (by decide +kernel) rfl, by decide +kernel, ⟨by decide +kernel, by decide +kernel⟩, gw_t 1 (by decide +kernel) rfl, rfl, by decide⟩
theorem mvX8_full : MV mX8_full 0 := ⟨gw_t 510 (by decide +kernel) rfl, gw_t 511 (by decide +kernel) rfl, by decide +kernel⟩
abbrev mX4_size : Mth := (RX4, cX4_size, yX4_size, 6, Option.some .int, [])
theorem mfX4_size : MF mX4_size := ⟨gw_t 517 (by decide +kernel) rfl, by decide +kernel, ⟨by decide +kernel, by decide +kernel⟩, gw_t 6 (by decide +kernel) rfl, rfl, by decide⟩
theorem mvX4_size : MV mX4_size 0 := ⟨gw_t 515 (by decide +kernel) rfl, gw_t 516 (by decide +kernel) rfl, by decide +kernel⟩
abbrev mL_drop : Mth := (RL, cL_drop, yL_drop, 4, Option.some .int, [(0, 16, 19, 13)])
theorem mfL_drop : MF mL_drop := ⟨gw_t 520 (by decide +kernel) rfl, by decide +kernel, ⟨by decide +kernel, by decide +kernel⟩, gw_t 0 (by decide +kernel) rfl, rfl, by decide⟩
theorem mvL_drop : MS mL_drop 3 := ⟨gw_t 519 (by decide +kernel) rfl, by decide +kernel⟩
abbrev mX8_drop : Mth := (RX8, cX8_drop, yX8_drop, 2, Option.some .boolean, [])
theorem mfX8_drop : MF mX8_drop := ⟨gw_t 525 (by decide +kernel) rfl, by decide +kernel, ⟨by decide +kernel, by decide +kernel⟩, gw_t 1 (by decide +kernel) rfl, rfl, by decide⟩
theorem mvX8_drop : MV mX8_drop 1 := ⟨gw_t 523 (by decide +kernel) rfl, gw_t 524 (by decide +kernel) rfl, by decide +kernel⟩
abbrev mL_feed : Mth := (RL, cL_feed, yL_feed, 4, Option.some .int, [(0, 9, 12, 19), (0, 9, 15, 21)])
theorem mfL_feed : MF mL_feed := ⟨gw_t 598 (by decide +kernel) rfl, by decide +kernel, ⟨by decide +kernel, by decide +kernel⟩, gw_t 0 (by decide +kernel) rfl, rfl, by decide⟩
theorem mvL_feed : MS mL_feed 3 := ⟨gw_t 597 (by decide +kernel) rfl, by decide +kernel⟩
abbrev mX8_feed : Mth := (RX8, cX8_feed, yX8_feed, 2, Option.some .int, [])
theorem mfX8_feed : MF mX8_feed := ⟨gw_t 604 (by decide +kernel) rfl, by decide +kernel, ⟨by decide +kernel, by decide +kernel⟩, gw_t 1 (by decide +kernel) rfl, rfl, by decide⟩
theorem mvX8_feed : MV mX8_feed 1 := ⟨gw_t 602 (by decide +kernel) rfl, gw_t 603 (by decide +kernel) rfl, by decide +kernel⟩
abbrev mL_outcomes : Mth := (RL, cL_outcomes, yL_outcomes, 4, Option.some .int, [(0, 9, 12, 13), (0, 9, 15, 21)])
theorem mfL_outcomes : MF mL_outcomes := ⟨gw_t 639 (by decide +kernel) rfl, by decide +kernel, ⟨by decide +kernel, by decide +kernel⟩, gw_t 0 (by decide +kernel) rfl, rfl, by decide⟩
theorem mvL_outcomes : MS mL_outcomes 3 := ⟨gw_t 638 (by decide +kernel) rfl, by decide +kernel⟩
abbrev mX8_outcomes : Mth := (RX8, cX8_outcomes, yX8_outcomes, 3, Option.some .int, [])
theorem mfX8_outcomes : MF mX8_outcomes := ⟨gw_t 643 (by decide +kernel) rfl, by decide +kernel, ⟨by decide +kernel, by decide +kernel⟩, gw_t 1 (by decide +kernel) rfl, rfl, by decide⟩
theorem mvX8_outcomes : MV mX8_outcomes 1 := ⟨gw_t 641 (by decide +kernel) rfl, gw_t 642 (by decide +kernel) rfl, by decide +kernel⟩
abbrev mX2_misses : Mth := (RX2, cX2_misses, yX2_misses, 1, Option.some .boolean, [])
theorem mfX2_misses : MF mX2_misses := ⟨gw_t 648 (by decide +kernel) rfl, by decide +kernel, ⟨by decide +kernel, by decide +kernel⟩, gw_t 5 (by decide +kernel) rfl, rfl, by decide⟩
theorem mvX2_misses : MV mX2_misses 0 := ⟨gw_t 646 (by decide +kernel) rfl, gw_t 647 (by decide +kernel) rfl, by decide +kernel⟩
abbrev mL_match : Mth := (RL, cL_match, yL_match, 5, Option.some .int, [(0, 10, 13, 13), (0, 10, 17, 19), (0, 10, 21, 21)])
theorem mfL_match : MF mL_match := ⟨gw_t 653 (by decide +kernel) rfl, by decide +kernel, ⟨by decide +kernel, by decide +kernel⟩, gw_t 0 (by decide +kernel) rfl, rfl, by decide⟩
theorem mvL_match : MS mL_match 4 := ⟨gw_t 652 (by decide +kernel) rfl, by decide +kernel⟩
abbrev mX8_match : Mth := (RX8, cX8_match, yX8_match, 4, Option.some .int, [])
theorem mfX8_match : MF mX8_match := ⟨gw_t 657 (by decide +kernel) rfl, by decide +kernel, ⟨by decide +kernel, by decide +kernel⟩, gw_t 1 (by decide +kernel) rfl, rfl, by decide⟩
theorem mvX8_match : MV mX8_match 2 := ⟨gw_t 655 (by decide +kernel) rfl, gw_t 656 (by decide +kernel) rfl, by decide +kernel⟩
abbrev mX7_fell : Mth := (RX7, cX7_fell, yX7_fell, 1, none, [])
theorem mfX7_fell : MF mX7_fell := ⟨gw_t 661 (by decide +kernel) rfl, by decide +kernel, ⟨by decide +kernel, by decide +kernel⟩, gw_t 9 (by decide +kernel) rfl, rfl, by decide⟩
theorem mvX7_fell : MV mX7_fell 0 := ⟨gw_t 659 (by decide +kernel) rfl, gw_t 660 (by decide +kernel) rfl, by decide +kernel⟩
abbrev mX8_isPlace : Mth := (RX8, cX8_isPlace, yX8_isPlace, 2, Option.some .boolean, [])
theorem mfX8_isPlace : MF mX8_isPlace := ⟨gw_t 665 (by decide +kernel) rfl, by decide +kernel, ⟨by decide +kernel, by decide +kernel⟩, gw_t 1 (by decide +kernel) rfl, rfl, by decide⟩
theorem mvX8_isPlace : MV mX8_isPlace 1 := ⟨gw_t 664 (by decide +kernel) rfl, gw_s 18 (by decide +kernel) rfl, by decide +kernel⟩
abbrev mX3_matchRule : Mth := (RX3, cX3_matchRule, yX3_matchRule, 6, Option.some .int, [])
theorem mfX3_matchRule : MF mX3_matchRule := ⟨gw_t 671 (by decide +kernel) rfl, by decide +kernel, ⟨by decide +kernel, by decide +kernel⟩, gw_t 8 (by decide +kernel) rfl, rfl, by decide⟩
theorem mvX3_matchRule : MV mX3_matchRule 3 := ⟨gw_t 669 (by decide +kernel) rfl, gw_t 670 (by decide +kernel) rfl, by decide +kernel⟩
abbrev mX4_cellOf : Mth := (RX4, cX4_cellOf, yX4_cellOf, 3, Option.some .int, [])
theorem mfX4_cellOf : MF mX4_cellOf := ⟨gw_t 674 (by decide +kernel) rfl, by decide +kernel, ⟨by decide +kernel, by decide +kernel⟩, gw_t 6 (by decide +kernel) rfl, rfl, by decide⟩
theorem mvX4_cellOf : MS mX4_cellOf 2 := ⟨gw_t 673 (by decide +kernel) rfl, by decide +kernel⟩
abbrev mX4_recall : Mth := (RX4, cX4_recall, yX4_recall, 2, Option.some .int, [])
theorem mfX4_recall : MF mX4_recall := ⟨gw_t 679 (by decide +kernel) rfl, by decide +kernel, ⟨by decide +kernel, by decide +kernel⟩, gw_t 6 (by decide +kernel) rfl, rfl, by decide⟩
theorem mvX4_recall : MV mX4_recall 1 := ⟨gw_t 677 (by decide +kernel) rfl, gw_t 678 (by decide +kernel) rfl, by decide +kernel⟩
abbrev mX4_isCell : Mth := (RX4, cX4_isCell, yX4_isCell, 1, Option.some .boolean, [])
theorem mfX4_isCell : MF mX4_isCell := ⟨gw_t 682 (by decide +kernel) rfl, by decide +kernel, ⟨by decide +kernel, by decide +kernel⟩, gw_t 6 (by decide +kernel) rfl, rfl, by decide⟩
theorem mvX4_isCell : MS mX4_isCell 1 := ⟨gw_t 681 (by decide +kernel) rfl, by decide +kernel⟩
abbrev mX3_workOut : Mth := (RX3, cX3_workOut, yX3_workOut, 7, Option.some .int, [])
theorem mfX3_workOut : MF mX3_workOut := ⟨gw_t 686 (by decide +kernel) rfl, by decide +kernel, ⟨by decide +kernel, by decide +kernel⟩, gw_t 8 (by decide +kernel) rfl, rfl, by decide⟩
theorem mvX3_workOut : MV mX3_workOut 4 := ⟨gw_t 685 (by decide +kernel) rfl, gw_s 19 (by decide +kernel) rfl, by decide +kernel⟩
abbrev mX4_cutBelow : Mth := (RX4, cX4_cutBelow, yX4_cutBelow, 3, none, [])
theorem mfX4_cutBelow : MF mX4_cutBelow := ⟨gw_t 693 (by decide +kernel) rfl, by decide +kernel, ⟨by decide +kernel, by decide +kernel⟩, gw_t 6 (by decide +kernel) rfl, rfl, by decide⟩
theorem mvX4_cutBelow : MV mX4_cutBelow 2 := ⟨gw_t 691 (by decide +kernel) rfl, gw_t 692 (by decide +kernel) rfl, by decide +kernel⟩
abbrev mX3_go : Mth := (RX3, cX3_go, yX3_go, 5, Option.some .int, [])
theorem mfX3_go : MF mX3_go := ⟨gw_t 698 (by decide +kernel) rfl, by decide +kernel, ⟨by decide +kernel, by decide +kernel⟩, gw_t 8 (by decide +kernel) rfl, rfl, by decide⟩
theorem mvX3_go : MV mX3_go 4 := ⟨gw_t 697 (by decide +kernel) rfl, gw_s 20 (by decide +kernel) rfl, by decide +kernel⟩
abbrev mX3_goLetter : Mth := (RX3, cX3_goLetter, yX3_goLetter, 4, Option.some .int, [])
theorem mfX3_goLetter : MF mX3_goLetter := ⟨gw_t 702 (by decide +kernel) rfl, by decide +kernel, ⟨by decide +kernel, by decide +kernel⟩, gw_t 8 (by decide +kernel) rfl, rfl, by decide⟩
theorem mvX3_goLetter : MV mX3_goLetter 2 := ⟨gw_t 701 (by decide +kernel) rfl, gw_s 21 (by decide +kernel) rfl, by decide +kernel⟩
abbrev mX3_goRule : Mth := (RX3, cX3_goRule, yX3_goRule, 6, Option.some .int, [])
theorem mfX3_goRule : MF mX3_goRule := ⟨gw_t 707 (by decide +kernel) rfl, by decide +kernel, ⟨by decide +kernel, by decide +kernel⟩, gw_t 8 (by decide +kernel) rfl, rfl, by decide⟩
theorem mvX3_goRule : MV mX3_goRule 4 := ⟨gw_t 706 (by decide +kernel) rfl, gw_s 22 (by decide +kernel) rfl, by decide +kernel⟩
abbrev mX4_addBelow : Mth := (RX4, cX4_addBelow, yX4_addBelow, 4, none, [])
theorem mfX4_addBelow : MF mX4_addBelow := ⟨gw_t 712 (by decide +kernel) rfl, by decide +kernel, ⟨by decide +kernel, by decide +kernel⟩, gw_t 6 (by decide +kernel) rfl, rfl, by decide⟩
theorem mvX4_addBelow : MV mX4_addBelow 2 := ⟨gw_t 710 (by decide +kernel) rfl, gw_t 711 (by decide +kernel) rfl, by decide +kernel⟩
abbrev mX3_goRow : Mth := (RX3, cX3_goRow, yX3_goRow, 7, Option.some .int, [])
theorem mfX3_goRow : MF mX3_goRow := ⟨gw_t 716 (by decide +kernel) rfl, by decide +kernel, ⟨by decide +kernel, by decide +kernel⟩, gw_t 8 (by decide +kernel) rfl, rfl, by decide⟩
theorem mvX3_goRow : MV mX3_goRow 4 := ⟨gw_t 715 (by decide +kernel) rfl, gw_s 23 (by decide +kernel) rfl, by decide +kernel⟩
abbrev mX3_goChoice : Mth := (RX3, cX3_goChoice, yX3_goChoice, 8, Option.some .int, [])
theorem mfX3_goChoice : MF mX3_goChoice := ⟨gw_t 720 (by decide +kernel) rfl, by decide +kernel, ⟨by decide +kernel, by decide +kernel⟩, gw_t 8 (by decide +kernel) rfl, rfl, by decide⟩
theorem mvX3_goChoice : MV mX3_goChoice 4 := ⟨gw_t 719 (by decide +kernel) rfl, gw_s 24 (by decide +kernel) rfl, by decide +kernel⟩
abbrev mX4_belowSize : Mth := (RX4, cX4_belowSize, yX4_belowSize, 2, Option.some .int, [])
theorem mfX4_belowSize : MF mX4_belowSize := ⟨gw_t 724 (by decide +kernel) rfl, by decide +kernel, ⟨by decide +kernel, by decide +kernel⟩, gw_t 6 (by decide +kernel) rfl, rfl, by decide⟩
theorem mvX4_belowSize : MV mX4_belowSize 1 := ⟨gw_t 722 (by decide +kernel) rfl, gw_t 723 (by decide +kernel) rfl, by decide +kernel⟩
abbrev mX3_goRepeated : Mth := (RX3, cX3_goRepeated, yX3_goRepeated, 11, Option.some .int, [])
theorem mfX3_goRepeated : MF mX3_goRepeated := ⟨gw_t 728 (by decide +kernel) rfl, by decide +kernel, ⟨by decide +kernel, by decide +kernel⟩, gw_t 8 (by decide +kernel) rfl, rfl, by decide⟩
theorem mvX3_goRepeated : MV mX3_goRepeated 4 := ⟨gw_t 727 (by decide +kernel) rfl, gw_s 25 (by decide +kernel) rfl, by decide +kernel⟩
abbrev mX4_keep : Mth := (RX4, cX4_keep, yX4_keep, 3, none, [])
theorem mfX4_keep : MF mX4_keep := ⟨gw_t 732 (by decide +kernel) rfl, by decide +kernel, ⟨by decide +kernel, by decide +kernel⟩, gw_t 6 (by decide +kernel) rfl, rfl, by decide⟩
theorem mvX4_keep : MV mX4_keep 2 := ⟨gw_t 730 (by decide +kernel) rfl, gw_t 731 (by decide +kernel) rfl, by decide +kernel⟩
abbrev mX7_grow : Mth := (RX7, cX7_grow, yX7_grow, 4, none, [])
theorem mfX7_grow : MF mX7_grow := ⟨gw_t 737 (by decide +kernel) rfl, by decide +kernel, ⟨by decide +kernel, by decide +kernel⟩, gw_t 9 (by decide +kernel) rfl, rfl, by decide⟩
theorem mvX7_grow : MV mX7_grow 2 := ⟨gw_t 735 (by decide +kernel) rfl, gw_t 736 (by decide +kernel) rfl, by decide +kernel⟩
abbrev mX7_set : Mth := (RX7, cX7_set, yX7_set, 5, none, [])
theorem mfX7_set : MF mX7_set := ⟨gw_t 741 (by decide +kernel) rfl, by decide +kernel, ⟨by decide +kernel, by decide +kernel⟩, gw_t 9 (by decide +kernel) rfl, rfl, by decide⟩
theorem mvX7_set : MV mX7_set 4 := ⟨gw_t 740 (by decide +kernel) rfl, gw_s 26 (by decide +kernel) rfl, by decide +kernel⟩
abbrev mX7_putBelow : Mth := (RX7, cX7_putBelow, yX7_putBelow, 7, none, [])
theorem mfX7_putBelow : MF mX7_putBelow := ⟨gw_t 746 (by decide +kernel) rfl, by decide +kernel, ⟨by decide +kernel, by decide +kernel⟩, gw_t 9 (by decide +kernel) rfl, rfl, by decide⟩
theorem mvX7_putBelow : MV mX7_putBelow 2 := ⟨gw_t 745 (by decide +kernel) rfl, gw_s 27 (by decide +kernel) rfl, by decide +kernel⟩
abbrev mX7_tell : Mth := (RX7, cX7_tell, yX7_tell, 3, Option.some .int, [])
theorem mfX7_tell : MF mX7_tell := ⟨gw_t 750 (by decide +kernel) rfl, by decide +kernel, ⟨by decide +kernel, by decide +kernel⟩, gw_t 9 (by decide +kernel) rfl, rfl, by decide⟩
theorem mvX7_tell : MV mX7_tell 2 := ⟨gw_t 748 (by decide +kernel) rfl, gw_t 749 (by decide +kernel) rfl, by decide +kernel⟩
abbrev mX7_has : Mth := (RX7, cX7_has, yX7_has, 3, Option.some .boolean, [])
theorem mfX7_has : MF mX7_has := ⟨gw_t 754 (by decide +kernel) rfl, by decide +kernel, ⟨by decide +kernel, by decide +kernel⟩, gw_t 9 (by decide +kernel) rfl, rfl, by decide⟩
theorem mvX7_has : MV mX7_has 2 := ⟨gw_t 752 (by decide +kernel) rfl, gw_t 753 (by decide +kernel) rfl, by decide +kernel⟩
abbrev mX7_makeRoom : Mth := (RX7, cX7_makeRoom, yX7_makeRoom, 5, none, [])
theorem mfX7_makeRoom : MF mX7_makeRoom := ⟨gw_t 761 (by decide +kernel) rfl, by decide +kernel, ⟨by decide +kernel, by decide +kernel⟩, gw_t 9 (by decide +kernel) rfl, rfl, by decide⟩
theorem mvX7_makeRoom : MV mX7_makeRoom 2 := ⟨gw_t 760 (by decide +kernel) rfl, gw_s 28 (by decide +kernel) rfl, by decide +kernel⟩
abbrev mX4_below : Mth := (RX4, cX4_below, yX4_below, 3, Option.some .int, [])
theorem mfX4_below : MF mX4_below := ⟨gw_t 765 (by decide +kernel) rfl, by decide +kernel, ⟨by decide +kernel, by decide +kernel⟩, gw_t 6 (by decide +kernel) rfl, rfl, by decide⟩
theorem mvX4_below : MV mX4_below 2 := ⟨gw_t 763 (by decide +kernel) rfl, gw_t 764 (by decide +kernel) rfl, by decide +kernel⟩
abbrev mL_memory : Mth := (RL, cL_memory, yL_memory, 5, Option.some .int, [(0, 10, 13, 34)])
theorem mfL_memory : MF mL_memory := ⟨gw_t 768 (by decide +kernel) rfl, by decide +kernel, ⟨by decide +kernel, by decide +kernel⟩, gw_t 0 (by decide +kernel) rfl, rfl, by decide⟩
theorem mvL_memory : MS mL_memory 4 := ⟨gw_t 767 (by decide +kernel) rfl, by decide +kernel⟩
abbrev mX8_memory : Mth := (RX8, cX8_memory, yX8_memory, 3, Option.some .int, [])
theorem mfX8_memory : MF mX8_memory := ⟨gw_t 773 (by decide +kernel) rfl, by decide +kernel, ⟨by decide +kernel, by decide +kernel⟩, gw_t 1 (by decide +kernel) rfl, rfl, by decide⟩
theorem mvX8_memory : MV mX8_memory 2 := ⟨gw_t 771 (by decide +kernel) rfl, gw_t 772 (by decide +kernel) rfl, by decide +kernel⟩
abbrev mL_node : Mth := (RL, cL_node, yL_node, 5, Option.some .int, [(0, 10, 13, 34)])
theorem mfL_node : MF mL_node := ⟨gw_t 793 (by decide +kernel) rfl, by decide +kernel, ⟨by decide +kernel, by decide +kernel⟩, gw_t 0 (by decide +kernel) rfl, rfl, by decide⟩
theorem mvL_node : MS mL_node 4 := ⟨gw_t 792 (by decide +kernel) rfl, by decide +kernel⟩
abbrev mX8_node : Mth := (RX8, cX8_node, yX8_node, 3, Option.some .int, [])
theorem mfX8_node : MF mX8_node := ⟨gw_t 797 (by decide +kernel) rfl, by decide +kernel, ⟨by decide +kernel, by decide +kernel⟩, gw_t 1 (by decide +kernel) rfl, rfl, by decide⟩
theorem mvX8_node : MV mX8_node 2 := ⟨gw_t 795 (by decide +kernel) rfl, gw_t 796 (by decide +kernel) rfl, by decide +kernel⟩
abbrev mL_count : Mth := (RL, cL_count, yL_count, 4, Option.some .int, [(0, 9, 12, 34)])
theorem mfL_count : MF mL_count := ⟨gw_t 803 (by decide +kernel) rfl, by decide +kernel, ⟨by decide +kernel, by decide +kernel⟩, gw_t 0 (by decide +kernel) rfl, rfl, by decide⟩
theorem mvL_count : MS mL_count 3 := ⟨gw_t 802 (by decide +kernel) rfl, by decide +kernel⟩
abbrev mX8_count : Mth := (RX8, cX8_count, yX8_count, 2, Option.some .int, [])
theorem mfX8_count : MF mX8_count := ⟨gw_t 807 (by decide +kernel) rfl, by decide +kernel, ⟨by decide +kernel, by decide +kernel⟩, gw_t 1 (by decide +kernel) rfl, rfl, by decide⟩
theorem mvX8_count : MV mX8_count 1 := ⟨gw_t 805 (by decide +kernel) rfl, gw_t 806 (by decide +kernel) rfl, by decide +kernel⟩
abbrev mX7_size : Mth := (RX7, cX7_size, yX7_size, 1, Option.some .int, [])
theorem mfX7_size : MF mX7_size := ⟨gw_t 811 (by decide +kernel) rfl, by decide +kernel, ⟨by decide +kernel, by decide +kernel⟩, gw_t 9 (by decide +kernel) rfl, rfl, by decide⟩
theorem mvX7_size : MV mX7_size 0 := ⟨gw_t 809 (by decide +kernel) rfl, gw_t 810 (by decide +kernel) rfl, by decide +kernel⟩
abbrev mX3_begun : Mth := (RX3, cX3_begun, yX3_begun, 1, Option.some .int, [])
theorem mfX3_begun : MF mX3_begun := ⟨gw_t 815 (by decide +kernel) rfl, by decide +kernel, ⟨by decide +kernel, by decide +kernel⟩, gw_t 8 (by decide +kernel) rfl, rfl, by decide⟩
theorem mvX3_begun : MV mX3_begun 0 := ⟨gw_t 813 (by decide +kernel) rfl, gw_t 814 (by decide +kernel) rfl, by decide +kernel⟩
abbrev mX3_remembered : Mth := (RX3, cX3_remembered, yX3_remembered, 1, Option.some .int, [])
theorem mfX3_remembered : MF mX3_remembered := ⟨gw_t 819 (by decide +kernel) rfl, by decide +kernel, ⟨by decide +kernel, by decide +kernel⟩, gw_t 8 (by decide +kernel) rfl, rfl, by decide⟩
theorem mvX3_remembered : MV mX3_remembered 0 := ⟨gw_t 817 (by decide +kernel) rfl, gw_t 818 (by decide +kernel) rfl, by decide +kernel⟩
abbrev mX9_init : Mth := (RX9, cX9_init, yX9_init, 1, none, [])
theorem mfX9_init : MF mX9_init := ⟨gw_t 825 (by decide +kernel) rfl, by decide +kernel, ⟨by decide +kernel, by decide +kernel⟩, gw_t 10 (by decide +kernel) rfl, rfl, by decide⟩
theorem mvX9_init : MI mX9_init 0 := ⟨gw_t 824 (by decide +kernel) rfl, by decide +kernel, rfl, by decide +kernel⟩
abbrev mX9_forget : Mth := (RX9, cX9_forget, yX9_forget, 2, none, [])
theorem mfX9_forget : MF mX9_forget := ⟨gw_t 830 (by decide +kernel) rfl, by decide +kernel, ⟨by decide +kernel, by decide +kernel⟩, gw_t 10 (by decide +kernel) rfl, rfl, by decide⟩
theorem mvX9_forget : MV mX9_forget 0 := ⟨gw_t 829 (by decide +kernel) rfl, gw_s 29 (by decide +kernel) rfl, by decide +kernel⟩
abbrev mX9_thrown : Mth := (RX9, cX9_thrown, yX9_thrown, 1, Option.some .int, [])
theorem mfX9_thrown : MF mX9_thrown := ⟨gw_t 965 (by decide +kernel) rfl, by decide +kernel, ⟨by decide +kernel, by decide +kernel⟩, gw_t 10 (by decide +kernel) rfl, rfl, by decide⟩
theorem mvX9_thrown : MV mX9_thrown 0 := ⟨gw_t 963 (by decide +kernel) rfl, gw_t 964 (by decide +kernel) rfl, by decide +kernel⟩
abbrev mX9_type : Mth := (RX9, cX9_type, yX9_type, 3, Option.some .boolean, [])
theorem mfX9_type : MF mX9_type := ⟨gw_t 969 (by decide +kernel) rfl, by decide +kernel, ⟨by decide +kernel, by decide +kernel⟩, gw_t 10 (by decide +kernel) rfl, rfl, by decide⟩
theorem mvX9_type : MV mX9_type 1 := ⟨gw_t 967 (by decide +kernel) rfl, gw_t 968 (by decide +kernel) rfl, by decide +kernel⟩
abbrev mX9_isLetter : Mth := (RX9, cX9_isLetter, yX9_isLetter, 1, Option.some .boolean, [])
theorem mfX9_isLetter : MF mX9_isLetter := ⟨gw_t 972 (by decide +kernel) rfl, by decide +kernel, ⟨by decide +kernel, by decide +kernel⟩, gw_t 10 (by decide +kernel) rfl, rfl, by decide⟩
theorem mvX9_isLetter : MS mX9_isLetter 1 := ⟨gw_t 971 (by decide +kernel) rfl, by decide +kernel⟩
abbrev mX9_isRule : Mth := (RX9, cX9_isRule, yX9_isRule, 1, Option.some .boolean, [])
theorem mfX9_isRule : MF mX9_isRule := ⟨gw_t 975 (by decide +kernel) rfl, by decide +kernel, ⟨by decide +kernel, by decide +kernel⟩, gw_t 10 (by decide +kernel) rfl, rfl, by decide⟩
theorem mvX9_isRule : MS mX9_isRule 1 := ⟨gw_t 974 (by decide +kernel) rfl, by decide +kernel⟩
abbrev mX9_rule : Mth := (RX9, cX9_rule, yX9_rule, 5, Option.some .int, [])
theorem mfX9_rule : MF mX9_rule := ⟨gw_t 979 (by decide +kernel) rfl, by decide +kernel, ⟨by decide +kernel, by decide +kernel⟩, gw_t 10 (by decide +kernel) rfl, rfl, by decide⟩
theorem mvX9_rule : MV mX9_rule 0 := ⟨gw_t 977 (by decide +kernel) rfl, gw_t 978 (by decide +kernel) rfl, by decide +kernel⟩
abbrev mX9_read : Mth := (RX9, cX9_read, yX9_read, 5, Option.some .int, [])
theorem mfX9_read : MF mX9_read := ⟨gw_t 983 (by decide +kernel) rfl, by decide +kernel, ⟨by decide +kernel, by decide +kernel⟩, gw_t 10 (by decide +kernel) rfl, rfl, by decide⟩
theorem mvX9_read : MV mX9_read 0 := ⟨gw_t 982 (by decide +kernel) rfl, gw_s 30 (by decide +kernel) rfl, by decide +kernel⟩
abbrev mX9_enter : Mth := (RX9, cX9_enter, yX9_enter, 1, none, [])
theorem mfX9_enter : MF mX9_enter := ⟨gw_t 987 (by decide +kernel) rfl, by decide +kernel, ⟨by decide +kernel, by decide +kernel⟩, gw_t 10 (by decide +kernel) rfl, rfl, by decide⟩
theorem mvX9_enter : MV mX9_enter 0 := ⟨gw_t 986 (by decide +kernel) rfl, gw_s 31 (by decide +kernel) rfl, by decide +kernel⟩
abbrev mX9_look : Mth := (RX9, cX9_look, yX9_look, 2, Option.some .char, [])
theorem mfX9_look : MF mX9_look := ⟨gw_t 991 (by decide +kernel) rfl, by decide +kernel, ⟨by decide +kernel, by decide +kernel⟩, gw_t 10 (by decide +kernel) rfl, rfl, by decide⟩
theorem mvX9_look : MV mX9_look 1 := ⟨gw_t 990 (by decide +kernel) rfl, gw_s 32 (by decide +kernel) rfl, by decide +kernel⟩
abbrev mX9_rowDone : Mth := (RX9, cX9_rowDone, yX9_rowDone, 3, none, [])
theorem mfX9_rowDone : MF mX9_rowDone := ⟨gw_t 995 (by decide +kernel) rfl, by decide +kernel, ⟨by decide +kernel, by decide +kernel⟩, gw_t 10 (by decide +kernel) rfl, rfl, by decide⟩
theorem mvX9_rowDone : MV mX9_rowDone 0 := ⟨gw_t 994 (by decide +kernel) rfl, gw_s 33 (by decide +kernel) rfl, by decide +kernel⟩
abbrev mX9_made : Mth := (RX9, cX9_made, yX9_made, 5, Option.some .int, [])
theorem mfX9_made : MF mX9_made := ⟨gw_t 999 (by decide +kernel) rfl, by decide +kernel, ⟨by decide +kernel, by decide +kernel⟩, gw_t 10 (by decide +kernel) rfl, rfl, by decide⟩
theorem mvX9_made : MV mX9_made 3 := ⟨gw_t 998 (by decide +kernel) rfl, gw_s 34 (by decide +kernel) rfl, by decide +kernel⟩
abbrev mX9_choiceDone : Mth := (RX9, cX9_choiceDone, yX9_choiceDone, 3, Option.some .int, [])
theorem mfX9_choiceDone : MF mX9_choiceDone := ⟨gw_t 1003 (by decide +kernel) rfl, by decide +kernel, ⟨by decide +kernel, by decide +kernel⟩, gw_t 10 (by decide +kernel) rfl, rfl, by decide⟩
theorem mvX9_choiceDone : MV mX9_choiceDone 0 := ⟨gw_t 1002 (by decide +kernel) rfl, gw_s 35 (by decide +kernel) rfl, by decide +kernel⟩
abbrev mX9_partDone : Mth := (RX9, cX9_partDone, yX9_partDone, 5, Option.some .int, [])
theorem mfX9_partDone : MF mX9_partDone := ⟨gw_t 1007 (by decide +kernel) rfl, by decide +kernel, ⟨by decide +kernel, by decide +kernel⟩, gw_t 10 (by decide +kernel) rfl, rfl, by decide⟩
theorem mvX9_partDone : MV mX9_partDone 2 := ⟨gw_t 1006 (by decide +kernel) rfl, gw_s 36 (by decide +kernel) rfl, by decide +kernel⟩
abbrev mX9_simple : Mth := (RX9, cX9_simple, yX9_simple, 4, Option.some .int, [])
theorem mfX9_simple : MF mX9_simple := ⟨gw_t 1011 (by decide +kernel) rfl, by decide +kernel, ⟨by decide +kernel, by decide +kernel⟩, gw_t 10 (by decide +kernel) rfl, rfl, by decide⟩
theorem mvX9_simple : MV mX9_simple 1 := ⟨gw_t 1010 (by decide +kernel) rfl, gw_s 37 (by decide +kernel) rfl, by decide +kernel⟩
abbrev mX9_findDepths : Mth := (RX9, cX9_findDepths, yX9_findDepths, 4, none, [])
theorem mfX9_findDepths : MF mX9_findDepths := ⟨gw_t 1015 (by decide +kernel) rfl, by decide +kernel, ⟨by decide +kernel, by decide +kernel⟩, gw_t 10 (by decide +kernel) rfl, rfl, by decide⟩
theorem mvX9_findDepths : MV mX9_findDepths 1 := ⟨gw_t 1014 (by decide +kernel) rfl, gw_s 38 (by decide +kernel) rfl, by decide +kernel⟩
abbrev mX9_drop : Mth := (RX9, cX9_drop, yX9_drop, 2, Option.some .boolean, [])
theorem mfX9_drop : MF mX9_drop := ⟨gw_t 1019 (by decide +kernel) rfl, by decide +kernel, ⟨by decide +kernel, by decide +kernel⟩, gw_t 10 (by decide +kernel) rfl, rfl, by decide⟩
theorem mvX9_drop : MV mX9_drop 1 := ⟨gw_t 1017 (by decide +kernel) rfl, gw_t 1018 (by decide +kernel) rfl, by decide +kernel⟩
abbrev mX9_in : Mth := (RX9, cX9_in, yX9_in, 3, Option.some .boolean, [])
theorem mfX9_in : MF mX9_in := ⟨gw_t 1022 (by decide +kernel) rfl, by decide +kernel, ⟨by decide +kernel, by decide +kernel⟩, gw_t 10 (by decide +kernel) rfl, rfl, by decide⟩
theorem mvX9_in : MS mX9_in 3 := ⟨gw_t 1021 (by decide +kernel) rfl, by decide +kernel⟩
abbrev mX9_feed : Mth := (RX9, cX9_feed, yX9_feed, 2, Option.some .int, [])
theorem mfX9_feed : MF mX9_feed := ⟨gw_t 1026 (by decide +kernel) rfl, by decide +kernel, ⟨by decide +kernel, by decide +kernel⟩, gw_t 10 (by decide +kernel) rfl, rfl, by decide⟩
theorem mvX9_feed : MV mX9_feed 1 := ⟨gw_t 1024 (by decide +kernel) rfl, gw_t 1025 (by decide +kernel) rfl, by decide +kernel⟩
abbrev mX9_fail : Mth := (RX9, cX9_fail, yX9_fail, 2, Option.some .int, [])
theorem mfX9_fail : MF mX9_fail := ⟨gw_t 1030 (by decide +kernel) rfl, by decide +kernel, ⟨by decide +kernel, by decide +kernel⟩, gw_t 10 (by decide +kernel) rfl, rfl, by decide⟩
theorem mvX9_fail : MV mX9_fail 1 := ⟨gw_t 1029 (by decide +kernel) rfl, gw_s 39 (by decide +kernel) rfl, by decide +kernel⟩
abbrev mX9_clear : Mth := (RX9, cX9_clear, yX9_clear, 2, Option.some .int, [])
theorem mfX9_clear : MF mX9_clear := ⟨gw_t 1034 (by decide +kernel) rfl, by decide +kernel, ⟨by decide +kernel, by decide +kernel⟩, gw_t 10 (by decide +kernel) rfl, rfl, by decide⟩
theorem mvX9_clear : MV mX9_clear 0 := ⟨gw_t 1032 (by decide +kernel) rfl, gw_t 1033 (by decide +kernel) rfl, by decide +kernel⟩
abbrev mX9_outcomes : Mth := (RX9, cX9_outcomes, yX9_outcomes, 2, Option.some .int, [])
theorem mfX9_outcomes : MF mX9_outcomes := ⟨gw_t 1038 (by decide +kernel) rfl, by decide +kernel, ⟨by decide +kernel, by decide +kernel⟩, gw_t 10 (by decide +kernel) rfl, rfl, by decide⟩
theorem mvX9_outcomes : MV mX9_outcomes 1 := ⟨gw_t 1036 (by decide +kernel) rfl, gw_t 1037 (by decide +kernel) rfl, by decide +kernel⟩
abbrev mX9_hasRule : Mth := (RX9, cX9_hasRule, yX9_hasRule, 2, Option.some .boolean, [])
theorem mfX9_hasRule : MF mX9_hasRule := ⟨gw_t 1042 (by decide +kernel) rfl, by decide +kernel, ⟨by decide +kernel, by decide +kernel⟩, gw_t 10 (by decide +kernel) rfl, rfl, by decide⟩
theorem mvX9_hasRule : MV mX9_hasRule 1 := ⟨gw_t 1041 (by decide +kernel) rfl, gw_s 40 (by decide +kernel) rfl, by decide +kernel⟩
abbrev mX9_lacking : Mth := (RX9, cX9_lacking, yX9_lacking, 5, Option.some .int, [])
theorem mfX9_lacking : MF mX9_lacking := ⟨gw_t 1046 (by decide +kernel) rfl, by decide +kernel, ⟨by decide +kernel, by decide +kernel⟩, gw_t 10 (by decide +kernel) rfl, rfl, by decide⟩
theorem mvX9_lacking : MV mX9_lacking 0 := ⟨gw_t 1045 (by decide +kernel) rfl, gw_s 41 (by decide +kernel) rfl, by decide +kernel⟩
abbrev mX9_study : Mth := (RX9, cX9_study, yX9_study, 2, none, [])
theorem mfX9_study : MF mX9_study := ⟨gw_t 1050 (by decide +kernel) rfl, by decide +kernel, ⟨by decide +kernel, by decide +kernel⟩, gw_t 10 (by decide +kernel) rfl, rfl, by decide⟩
theorem mvX9_study : MV mX9_study 0 := ⟨gw_t 1049 (by decide +kernel) rfl, gw_s 42 (by decide +kernel) rfl, by decide +kernel⟩
abbrev mX9_more : Mth := (RX9, cX9_more, yX9_more, 6, Option.some .boolean, [])
theorem mfX9_more : MF mX9_more := ⟨gw_t 1054 (by decide +kernel) rfl, by decide +kernel, ⟨by decide +kernel, by decide +kernel⟩, gw_t 10 (by decide +kernel) rfl, rfl, by decide⟩
theorem mvX9_more : MV mX9_more 1 := ⟨gw_t 1053 (by decide +kernel) rfl, gw_s 43 (by decide +kernel) rfl, by decide +kernel⟩
abbrev mX9_goodOf : Mth := (RX9, cX9_goodOf, yX9_goodOf, 5, Option.some .boolean, [])
theorem mfX9_goodOf : MF mX9_goodOf := ⟨gw_t 1058 (by decide +kernel) rfl, by decide +kernel, ⟨by decide +kernel, by decide +kernel⟩, gw_t 10 (by decide +kernel) rfl, rfl, by decide⟩
theorem mvX9_goodOf : MV mX9_goodOf 2 := ⟨gw_t 1057 (by decide +kernel) rfl, gw_s 44 (by decide +kernel) rfl, by decide +kernel⟩
abbrev mX9_has : Mth := (RX9, cX9_has, yX9_has, 2, Option.some .boolean, [])
theorem mfX9_has : MF mX9_has := ⟨gw_t 1061 (by decide +kernel) rfl, by decide +kernel, ⟨by decide +kernel, by decide +kernel⟩, gw_t 10 (by decide +kernel) rfl, rfl, by decide⟩
theorem mvX9_has : MS mX9_has 2 := ⟨gw_t 1060 (by decide +kernel) rfl, by decide +kernel⟩
abbrev mX9_outcomeOf : Mth := (RX9, cX9_outcomeOf, yX9_outcomeOf, 6, Option.some .int, [])
theorem mfX9_outcomeOf : MF mX9_outcomeOf := ⟨gw_t 1065 (by decide +kernel) rfl, by decide +kernel, ⟨by decide +kernel, by decide +kernel⟩, gw_t 10 (by decide +kernel) rfl, rfl, by decide⟩
theorem mvX9_outcomeOf : MV mX9_outcomeOf 2 := ⟨gw_t 1064 (by decide +kernel) rfl, gw_s 45 (by decide +kernel) rfl, by decide +kernel⟩
abbrev mX9_row : Mth := (RX9, cX9_row, yX9_row, 4, Option.some .int, [])
theorem mfX9_row : MF mX9_row := ⟨gw_t 1068 (by decide +kernel) rfl, by decide +kernel, ⟨by decide +kernel, by decide +kernel⟩, gw_t 10 (by decide +kernel) rfl, rfl, by decide⟩
theorem mvX9_row : MS mX9_row 2 := ⟨gw_t 1067 (by decide +kernel) rfl, by decide +kernel⟩
abbrev mX9_bit : Mth := (RX9, cX9_bit, yX9_bit, 2, Option.some .int, [])
theorem mfX9_bit : MF mX9_bit := ⟨gw_t 1071 (by decide +kernel) rfl, by decide +kernel, ⟨by decide +kernel, by decide +kernel⟩, gw_t 10 (by decide +kernel) rfl, rfl, by decide⟩
theorem mvX9_bit : MS mX9_bit 2 := ⟨gw_t 1070 (by decide +kernel) rfl, by decide +kernel⟩
abbrev mX9_check : Mth := (RX9, cX9_check, yX9_check, 1, Option.some .int, [])
theorem mfX9_check : MF mX9_check := ⟨gw_t 1075 (by decide +kernel) rfl, by decide +kernel, ⟨by decide +kernel, by decide +kernel⟩, gw_t 10 (by decide +kernel) rfl, rfl, by decide⟩
theorem mvX9_check : MV mX9_check 0 := ⟨gw_t 1073 (by decide +kernel) rfl, gw_t 1074 (by decide +kernel) rfl, by decide +kernel⟩
abbrev mX9_fault : Mth := (RX9, cX9_fault, yX9_fault, 4, Option.some .int, [])
theorem mfX9_fault : MF mX9_fault := ⟨gw_t 1079 (by decide +kernel) rfl, by decide +kernel, ⟨by decide +kernel, by decide +kernel⟩, gw_t 10 (by decide +kernel) rfl, rfl, by decide⟩
theorem mvX9_fault : MV mX9_fault 0 := ⟨gw_t 1078 (by decide +kernel) rfl, gw_s 46 (by decide +kernel) rfl, by decide +kernel⟩
abbrev mX9_rules : Mth := (RX9, cX9_rules, yX9_rules, 3, Option.some .int, [])
theorem mfX9_rules : MF mX9_rules := ⟨gw_t 1083 (by decide +kernel) rfl, by decide +kernel, ⟨by decide +kernel, by decide +kernel⟩, gw_t 10 (by decide +kernel) rfl, rfl, by decide⟩
theorem mvX9_rules : MV mX9_rules 0 := ⟨gw_t 1082 (by decide +kernel) rfl, gw_s 47 (by decide +kernel) rfl, by decide +kernel⟩
abbrev mX9_match : Mth := (RX9, cX9_match, yX9_match, 4, Option.some .int, [])
theorem mfX9_match : MF mX9_match := ⟨gw_t 1087 (by decide +kernel) rfl, by decide +kernel, ⟨by decide +kernel, by decide +kernel⟩, gw_t 10 (by decide +kernel) rfl, rfl, by decide⟩
theorem mvX9_match : MV mX9_match 2 := ⟨gw_t 1085 (by decide +kernel) rfl, gw_t 1086 (by decide +kernel) rfl, by decide +kernel⟩
abbrev mX9_run : Mth := (RX9, cX9_run, yX9_run, 8, Option.some .int, [])
theorem mfX9_run : MF mX9_run := ⟨gw_t 1091 (by decide +kernel) rfl, by decide +kernel, ⟨by decide +kernel, by decide +kernel⟩, gw_t 10 (by decide +kernel) rfl, rfl, by decide⟩
theorem mvX9_run : MV mX9_run 2 := ⟨gw_t 1090 (by decide +kernel) rfl, gw_s 48 (by decide +kernel) rfl, by decide +kernel⟩
abbrev mX9_ask : Mth := (RX9, cX9_ask, yX9_ask, 5, Option.some .int, [])
theorem mfX9_ask : MF mX9_ask := ⟨gw_t 1095 (by decide +kernel) rfl, by decide +kernel, ⟨by decide +kernel, by decide +kernel⟩, gw_t 10 (by decide +kernel) rfl, rfl, by decide⟩
theorem mvX9_ask : MV mX9_ask 2 := ⟨gw_t 1094 (by decide +kernel) rfl, gw_s 49 (by decide +kernel) rfl, by decide +kernel⟩
abbrev mX9_push : Mth := (RX9, cX9_push, yX9_push, 3, none, [])
theorem mfX9_push : MF mX9_push := ⟨gw_t 1099 (by decide +kernel) rfl, by decide +kernel, ⟨by decide +kernel, by decide +kernel⟩, gw_t 10 (by decide +kernel) rfl, rfl, by decide⟩
theorem mvX9_push : MV mX9_push 2 := ⟨gw_t 1098 (by decide +kernel) rfl, gw_s 50 (by decide +kernel) rfl, by decide +kernel⟩
abbrev mX9_record : Mth := (RX9, cX9_record, yX9_record, 4, none, [])
theorem mfX9_record : MF mX9_record := ⟨gw_t 1103 (by decide +kernel) rfl, by decide +kernel, ⟨by decide +kernel, by decide +kernel⟩, gw_t 10 (by decide +kernel) rfl, rfl, by decide⟩
theorem mvX9_record : MV mX9_record 3 := ⟨gw_t 1102 (by decide +kernel) rfl, gw_s 51 (by decide +kernel) rfl, by decide +kernel⟩
abbrev mX9_wanted : Mth := (RX9, cX9_wanted, yX9_wanted, 2, Option.some .int, [])
theorem mfX9_wanted : MF mX9_wanted := ⟨gw_t 1107 (by decide +kernel) rfl, by decide +kernel, ⟨by decide +kernel, by decide +kernel⟩, gw_t 10 (by decide +kernel) rfl, rfl, by decide⟩
theorem mvX9_wanted : MV mX9_wanted 0 := ⟨gw_t 1106 (by decide +kernel) rfl, gw_s 52 (by decide +kernel) rfl, by decide +kernel⟩
abbrev mX9_base : Mth := (RX9, cX9_base, yX9_base, 1, Option.some .int, [])
theorem mfX9_base : MF mX9_base := ⟨gw_t 1110 (by decide +kernel) rfl, by decide +kernel, ⟨by decide +kernel, by decide +kernel⟩, gw_t 10 (by decide +kernel) rfl, rfl, by decide⟩
theorem mvX9_base : MS mX9_base 1 := ⟨gw_t 1109 (by decide +kernel) rfl, by decide +kernel⟩
abbrev mX9_answer : Mth := (RX9, cX9_answer, yX9_answer, 5, Option.some .int, [])
theorem mfX9_answer : MF mX9_answer := ⟨gw_t 1114 (by decide +kernel) rfl, by decide +kernel, ⟨by decide +kernel, by decide +kernel⟩, gw_t 10 (by decide +kernel) rfl, rfl, by decide⟩
theorem mvX9_answer : MV mX9_answer 1 := ⟨gw_t 1113 (by decide +kernel) rfl, gw_s 53 (by decide +kernel) rfl, by decide +kernel⟩
abbrev mX9_grow : Mth := (RX9, cX9_grow, yX9_grow, 8, none, [])
theorem mfX9_grow : MF mX9_grow := ⟨gw_t 1118 (by decide +kernel) rfl, by decide +kernel, ⟨by decide +kernel, by decide +kernel⟩, gw_t 10 (by decide +kernel) rfl, rfl, by decide⟩
theorem mvX9_grow : MV mX9_grow 3 := ⟨gw_t 1117 (by decide +kernel) rfl, gw_s 54 (by decide +kernel) rfl, by decide +kernel⟩
abbrev mX9_keep : Mth := (RX9, cX9_keep, yX9_keep, 5, none, [])
theorem mfX9_keep : MF mX9_keep := ⟨gw_t 1122 (by decide +kernel) rfl, by decide +kernel, ⟨by decide +kernel, by decide +kernel⟩, gw_t 10 (by decide +kernel) rfl, rfl, by decide⟩
theorem mvX9_keep : MV mX9_keep 4 := ⟨gw_t 1121 (by decide +kernel) rfl, gw_s 55 (by decide +kernel) rfl, by decide +kernel⟩
abbrev mX9_memory : Mth := (RX9, cX9_memory, yX9_memory, 3, Option.some .int, [])
theorem mfX9_memory : MF mX9_memory := ⟨gw_t 1126 (by decide +kernel) rfl, by decide +kernel, ⟨by decide +kernel, by decide +kernel⟩, gw_t 10 (by decide +kernel) rfl, rfl, by decide⟩
theorem mvX9_memory : MV mX9_memory 2 := ⟨gw_t 1124 (by decide +kernel) rfl, gw_t 1125 (by decide +kernel) rfl, by decide +kernel⟩
abbrev mX9_node : Mth := (RX9, cX9_node, yX9_node, 3, Option.some .int, [])
theorem mfX9_node : MF mX9_node := ⟨gw_t 1130 (by decide +kernel) rfl, by decide +kernel, ⟨by decide +kernel, by decide +kernel⟩, gw_t 10 (by decide +kernel) rfl, rfl, by decide⟩
theorem mvX9_node : MV mX9_node 2 := ⟨gw_t 1128 (by decide +kernel) rfl, gw_t 1129 (by decide +kernel) rfl, by decide +kernel⟩
abbrev mX9_count : Mth := (RX9, cX9_count, yX9_count, 2, Option.some .int, [])
theorem mfX9_count : MF mX9_count := ⟨gw_t 1134 (by decide +kernel) rfl, by decide +kernel, ⟨by decide +kernel, by decide +kernel⟩, gw_t 10 (by decide +kernel) rfl, rfl, by decide⟩
theorem mvX9_count : MV mX9_count 1 := ⟨gw_t 1132 (by decide +kernel) rfl, gw_t 1133 (by decide +kernel) rfl, by decide +kernel⟩
abbrev mX9_full : Mth := (RX9, cX9_full, yX9_full, 4, Option.some .float, [])
theorem mfX9_full : MF mX9_full := ⟨gw_t 1138 (by decide +kernel) rfl, by decide +kernel, ⟨by decide +kernel, by decide +kernel⟩, gw_t 10 (by decide +kernel) rfl, rfl, by decide⟩
theorem mvX9_full : MV mX9_full 0 := ⟨gw_t 1136 (by decide +kernel) rfl, gw_t 1137 (by decide +kernel) rfl, by decide +kernel⟩
end
section
theorem n_L_8 : Cond.classLink RL 8 RX8 ∈ gw ∧ Cond.instantiable RX8 7 ∈ gw ∧ Cond.initialized RX8 ∈ gw := ⟨gw_t 25 (by decide +kernel) rfl, gw_t 26 (by decide +kernel) rfl, gw_t 1 (by decide +kernel) rfl⟩
theorem l_L_42 : ML RL 42 mX8_init := gw_t 27 (by decide +kernel) rfl
theorem o_X8_3 : Cond.methodLink RX8 3 Lib.objectInit ∈ gw ∧ Cond.instanceMethod Lib.objectInit ∈ gw ∧ Cond.code Lib.objectInit ⟨#[0xb1]⟩ 1 none ∈ gw := ⟨gw_t 30 (by decide +kernel) rfl, gw_t 31 (by decide +kernel) rfl, gw_t 32 (by decide +kernel) rfl⟩
theorem n_X8_9 : Cond.classLink RX8 9 RX0 ∈ gw ∧ Cond.instantiable RX0 2 ∈ gw ∧ Cond.initialized RX0 ∈ gw := ⟨gw_t 33 (by decide +kernel) rfl, gw_t 34 (by decide +kernel) rfl, gw_t 2 (by decide +kernel) rfl⟩
theorem l_X8_11 : ML RX8 11 mX0_init := gw_t 35 (by decide +kernel) rfl
theorem o_X0_3 : Cond.methodLink RX0 3 Lib.objectInit ∈ gw ∧ Cond.instanceMethod Lib.objectInit ∈ gw ∧ Cond.code Lib.objectInit ⟨#[0xb1]⟩ 1 none ∈ gw := ⟨gw_t 38 (by decide +kernel) rfl, gw_t 31 (by decide +kernel) rfl, gw_t 32 (by decide +kernel) rfl⟩
theorem n_X8_21 : Cond.classLink RX8 21 RX6 ∈ gw ∧ Cond.instantiable RX6 4 ∈ gw ∧ Cond.initialized RX6 ∈ gw := ⟨gw_t 47 (by decide +kernel) rfl, gw_t 48 (by decide +kernel) rfl, gw_t 3 (by decide +kernel) rfl⟩
theorem l_X8_23 : ML RX8 23 mX6_init := gw_t 49 (by decide +kernel) rfl
theorem o_X6_3 : Cond.methodLink RX6 3 Lib.objectInit ∈ gw ∧ Cond.instanceMethod Lib.objectInit ∈ gw ∧ Cond.code Lib.objectInit ⟨#[0xb1]⟩ 1 none ∈ gw := ⟨gw_t 52 (by decide +kernel) rfl, gw_t 31 (by decide +kernel) rfl, gw_t 32 (by decide +kernel) rfl⟩
theorem n_X6_15 : Cond.classLink RX6 15 RX1 ∈ gw ∧ Cond.instantiable RX1 2 ∈ gw ∧ Cond.initialized RX1 ∈ gw := ⟨gw_t 53 (by decide +kernel) rfl, gw_t 54 (by decide +kernel) rfl, gw_t 4 (by decide +kernel) rfl⟩
theorem l_X6_17 : MN RX6 17 mX1_init := ⟨"ChoiceParser", List.mem_filter.mpr ⟨List.mem_append_right _ (List.mem_of_getElem? (i := 55) (by decide +kernel)), rfl⟩⟩
theorem o_X1_3 : Cond.methodLink RX1 3 Lib.objectInit ∈ gw ∧ Cond.instanceMethod Lib.objectInit ∈ gw ∧ Cond.code Lib.objectInit ⟨#[0xb1]⟩ 1 none ∈ gw := ⟨gw_t 58 (by decide +kernel) rfl, gw_t 31 (by decide +kernel) rfl, gw_t 32 (by decide +kernel) rfl⟩
theorem n_X8_30 : Cond.classLink RX8 30 RX2 ∈ gw ∧ Cond.instantiable RX2 2 ∈ gw ∧ Cond.initialized RX2 ∈ gw := ⟨gw_t 81 (by decide +kernel) rfl, gw_t 82 (by decide +kernel) rfl, gw_t 5 (by decide +kernel) rfl⟩
theorem l_X8_32 : MN RX8 32 mX2_init := ⟨"ChoiceParser", List.mem_filter.mpr ⟨List.mem_append_right _ (List.mem_of_getElem? (i := 83) (by decide +kernel)), rfl⟩⟩
theorem o_X2_3 : Cond.methodLink RX2 3 Lib.objectInit ∈ gw ∧ Cond.instanceMethod Lib.objectInit ∈ gw ∧ Cond.code Lib.objectInit ⟨#[0xb1]⟩ 1 none ∈ gw := ⟨gw_t 86 (by decide +kernel) rfl, gw_t 31 (by decide +kernel) rfl, gw_t 32 (by decide +kernel) rfl⟩
theorem n_X2_9 : Cond.classLink RX2 9 RX1 ∈ gw ∧ Cond.instantiable RX1 2 ∈ gw ∧ Cond.initialized RX1 ∈ gw := ⟨gw_t 87 (by decide +kernel) rfl, gw_t 54 (by decide +kernel) rfl, gw_t 4 (by decide +kernel) rfl⟩
theorem n_X8_37 : Cond.classLink RX8 37 RX4 ∈ gw ∧ Cond.instantiable RX4 3 ∈ gw ∧ Cond.initialized RX4 ∈ gw := ⟨gw_t 96 (by decide +kernel) rfl, gw_t 97 (by decide +kernel) rfl, gw_t 6 (by decide +kernel) rfl⟩
theorem l_X8_39 : ML RX8 39 mX4_init := gw_t 98 (by decide +kernel) rfl
theorem o_X4_3 : Cond.methodLink RX4 3 Lib.objectInit ∈ gw ∧ Cond.instanceMethod Lib.objectInit ∈ gw ∧ Cond.code Lib.objectInit ⟨#[0xb1]⟩ 1 none ∈ gw := ⟨gw_t 101 (by decide +kernel) rfl, gw_t 31 (by decide +kernel) rfl, gw_t 32 (by decide +kernel) rfl⟩
theorem l_X4_22 : ML RX4 22 mJ7_fill_53178 := gw_t 102 (by decide +kernel) rfl
theorem n_X8_44 : Cond.classLink RX8 44 RX3 ∈ gw ∧ Cond.instantiable RX3 5 ∈ gw ∧ Cond.initialized RX3 ∈ gw := ⟨gw_t 117 (by decide +kernel) rfl, gw_t 118 (by decide +kernel) rfl, gw_t 8 (by decide +kernel) rfl⟩
theorem l_X8_46 : ML RX8 46 mX3_init := gw_t 119 (by decide +kernel) rfl
theorem o_X3_3 : Cond.methodLink RX3 3 Lib.objectInit ∈ gw ∧ Cond.instanceMethod Lib.objectInit ∈ gw ∧ Cond.code Lib.objectInit ⟨#[0xb1]⟩ 1 none ∈ gw := ⟨gw_t 122 (by decide +kernel) rfl, gw_t 31 (by decide +kernel) rfl, gw_t 32 (by decide +kernel) rfl⟩
theorem n_X8_53 : Cond.classLink RX8 53 RX7 ∈ gw ∧ Cond.instantiable RX7 2 ∈ gw ∧ Cond.initialized RX7 ∈ gw := ⟨gw_t 139 (by decide +kernel) rfl, gw_t 140 (by decide +kernel) rfl, gw_t 9 (by decide +kernel) rfl⟩
theorem l_X8_55 : MN RX8 55 mX7_init := ⟨"ChoiceParser", List.mem_filter.mpr ⟨List.mem_append_right _ (List.mem_of_getElem? (i := 141) (by decide +kernel)), rfl⟩⟩
theorem o_X7_3 : Cond.methodLink RX7 3 Lib.objectInit ∈ gw ∧ Cond.instanceMethod Lib.objectInit ∈ gw ∧ Cond.code Lib.objectInit ⟨#[0xb1]⟩ 1 none ∈ gw := ⟨gw_t 144 (by decide +kernel) rfl, gw_t 31 (by decide +kernel) rfl, gw_t 32 (by decide +kernel) rfl⟩
theorem l_L_46 : ML RL 46 mX8_type := gw_t 176 (by decide +kernel) rfl
theorem l_X8_60 : ML RX8 60 mX8_standsInTexts := gw_t 180 (by decide +kernel) rfl
theorem l_X8_103 : ML RX8 103 mX8_isLetter := gw_t 183 (by decide +kernel) rfl
theorem l_X8_186 : ML RX8 186 mX8_isRuleLetter := gw_t 186 (by decide +kernel) rfl
theorem l_X8_64 : ML RX8 64 mX0_add := gw_t 276 (by decide +kernel) rfl
theorem l_L_51 : ML RL 51 mX8_rule := gw_t 280 (by decide +kernel) rfl
theorem l_X8_67 : ML RX8 67 mX6_read := gw_t 284 (by decide +kernel) rfl
theorem l_X6_29 : ML RX6 29 mX0_at := gw_t 288 (by decide +kernel) rfl
theorem l_X6_34 : MN RX6 34 mX8_isRuleLetter := ⟨"ChoiceParser", List.mem_filter.mpr ⟨List.mem_append_right _ (List.mem_of_getElem? (i := 292) (by decide +kernel)), rfl⟩⟩
theorem l_X6_38 : ML RX6 38 mX6_take := gw_t 293 (by decide +kernel) rfl
theorem l_X6_41 : ML RX6 41 mX6_readChoice := gw_t 297 (by decide +kernel) rfl
theorem l_X6_49 : ML RX6 49 mX6_readRow := gw_t 301 (by decide +kernel) rfl
theorem l_X6_62 : ML RX6 62 mX6_readPart := gw_t 305 (by decide +kernel) rfl
theorem l_X6_68 : ML RX6 68 mX6_signBefore := gw_t 309 (by decide +kernel) rfl
theorem l_X6_72 : ML RX6 72 mX6_readUnit := gw_t 312 (by decide +kernel) rfl
theorem l_X6_78 : ML RX6 78 mX6_readRange := gw_t 316 (by decide +kernel) rfl
theorem l_X6_85 : MN RX6 85 mX8_isLetter := ⟨"ChoiceParser", List.mem_filter.mpr ⟨List.mem_append_right _ (List.mem_of_getElem? (i := 320) (by decide +kernel)), rfl⟩⟩
theorem l_X6_58 : ML RX6 58 mX1_add := gw_t 321 (by decide +kernel) rfl
theorem n_X1_9 : Cond.classLink RX1 9 RX5 ∈ gw ∧ Cond.instantiable RX5 8 ∈ gw ∧ Cond.initialized RX5 ∈ gw := ⟨gw_t 325 (by decide +kernel) rfl, gw_t 326 (by decide +kernel) rfl, gw_t 17 (by decide +kernel) rfl⟩
theorem l_X1_11 : ML RX1 11 mX5_init := gw_t 327 (by decide +kernel) rfl
theorem o_X5_1 : Cond.methodLink RX5 1 Lib.objectInit ∈ gw ∧ Cond.instanceMethod Lib.objectInit ∈ gw ∧ Cond.code Lib.objectInit ⟨#[0xb1]⟩ 1 none ∈ gw := ⟨gw_t 330 (by decide +kernel) rfl, gw_t 31 (by decide +kernel) rfl, gw_t 32 (by decide +kernel) rfl⟩
theorem l_X6_82 : ML RX6 82 mX6_readGroup := gw_t 370 (by decide +kernel) rfl
theorem l_X6_75 : ML RX6 75 mX6_signBehind := gw_t 374 (by decide +kernel) rfl
theorem l_X6_65 : ML RX6 65 mX6_beginsPart := gw_t 377 (by decide +kernel) rfl
theorem l_X6_45 : ML RX6 45 mX0_size := gw_t 380 (by decide +kernel) rfl
theorem l_X8_71 : ML RX8 71 mX0_removeAll := gw_t 384 (by decide +kernel) rfl
theorem l_X8_74 : ML RX8 74 mX6_fault := gw_t 388 (by decide +kernel) rfl
theorem l_X8_78 : ML RX8 78 mX6_ruleRead := gw_t 392 (by decide +kernel) rfl
theorem l_X8_81 : ML RX8 81 mX2_put := gw_t 396 (by decide +kernel) rfl
theorem l_X2_21 : MN RX2 21 mX8_isRule := ⟨"ChoiceParser", List.mem_filter.mpr ⟨List.mem_append_right _ (List.mem_of_getElem? (i := 400) (by decide +kernel)), rfl⟩⟩
theorem l_X2_25 : ML RX2 25 mX2_examine := gw_t 403 (by decide +kernel) rfl
theorem l_X2_29 : ML RX2 29 mX2_size := gw_t 407 (by decide +kernel) rfl
theorem l_X2_32 : ML RX2 32 mX2_lowestMissing := gw_t 411 (by decide +kernel) rfl
theorem l_X2_47 : ML RX2 47 mX1_rulesInIt := gw_t 415 (by decide +kernel) rfl
theorem l_X2_35 : ML RX2 35 mX2_forgetFindings := gw_t 419 (by decide +kernel) rfl
theorem l_X2_54 : ML RX2 54 mX1_forgetFindings := gw_t 423 (by decide +kernel) rfl
theorem l_X2_38 : ML RX2 38 mX2_findOutcomes := gw_t 427 (by decide +kernel) rfl
theorem l_X2_55 : ML RX2 55 mX2_findOutcomesIn := gw_t 431 (by decide +kernel) rfl
theorem l_X2_59 : ML RX2 59 mX1_outcomesOfRoot := gw_t 435 (by decide +kernel) rfl
theorem l_X2_66 : ML RX2 66 mX2_outcomesOf := gw_t 439 (by decide +kernel) rfl
theorem l_X2_84 : ML RX2 84 mX2_expressionOf := gw_t 443 (by decide +kernel) rfl
theorem l_X2_91 : ML RX2 91 mX2_outcomesOfRow := gw_t 447 (by decide +kernel) rfl
theorem l_X2_104 : ML RX2 104 mX2_joinInRow := gw_t 450 (by decide +kernel) rfl
theorem l_X2_94 : ML RX2 94 mX2_outcomesOfChoice := gw_t 453 (by decide +kernel) rfl
theorem l_X2_107 : ML RX2 107 mX2_any := gw_t 456 (by decide +kernel) rfl
theorem l_X2_97 : ML RX2 97 mX2_outcomesOfSign := gw_t 459 (by decide +kernel) rfl
theorem l_X2_41 : ML RX2 41 mX2_findGood := gw_t 462 (by decide +kernel) rfl
theorem l_X2_111 : ML RX2 111 mX2_findGoodIn := gw_t 466 (by decide +kernel) rfl
theorem l_X2_114 : ML RX2 114 mX1_rootIsGood := gw_t 470 (by decide +kernel) rfl
theorem l_X2_117 : ML RX2 117 mX2_isGood := gw_t 474 (by decide +kernel) rfl
theorem l_X2_125 : ML RX2 125 mX2_isGoodRow := gw_t 478 (by decide +kernel) rfl
theorem l_X2_128 : ML RX2 128 mX2_isGoodChoice := gw_t 481 (by decide +kernel) rfl
theorem l_X2_44 : ML RX2 44 mX2_lowestNotGood := gw_t 484 (by decide +kernel) rfl
theorem l_X2_50 : ML RX2 50 mX1_allGood := gw_t 488 (by decide +kernel) rfl
theorem l_X8_85 : ML RX8 85 mX4_forget := gw_t 492 (by decide +kernel) rfl
theorem l_L_69 : ML RL 69 mX8_clear := gw_t 496 (by decide +kernel) rfl
theorem l_X8_116 : ML RX8 116 mX0_size := gw_t 500 (by decide +kernel) rfl
theorem l_L_76 : ML RL 76 mX8_check := gw_t 501 (by decide +kernel) rfl
theorem l_X8_132 : ML RX8 132 mX2_verdict := gw_t 505 (by decide +kernel) rfl
theorem l_L_93 : ML RL 93 mX8_full := gw_t 509 (by decide +kernel) rfl
theorem l_X8_175 : ML RX8 175 mX2_size := gw_t 513 (by decide +kernel) rfl
theorem l_X8_185 : ML RX8 185 mX4_size := gw_t 514 (by decide +kernel) rfl
theorem l_L_56 : ML RL 56 mL_drop := gw_t 518 (by decide +kernel) rfl
theorem l_L_7 : ML RL 7 mX8_drop := gw_t 522 (by decide +kernel) rfl
theorem l_X8_88 : ML RX8 88 mX8_isRule := gw_t 526 (by decide +kernel) rfl
theorem l_X8_99 : ML RX8 99 mX2_expressionOf := gw_t 595 (by decide +kernel) rfl
theorem l_L_65 : ML RL 65 mL_feed := gw_t 596 (by decide +kernel) rfl
theorem l_L_15 : ML RL 15 mX8_feed := gw_t 601 (by decide +kernel) rfl
theorem l_L_73 : ML RL 73 mL_outcomes := gw_t 637 (by decide +kernel) rfl
theorem l_L_23 : ML RL 23 mX8_outcomes := gw_t 640 (by decide +kernel) rfl
theorem l_X8_121 : ML RX8 121 mX2_misses := gw_t 645 (by decide +kernel) rfl
theorem l_X8_127 : ML RX8 127 mX1_outcomesOfRoot := gw_t 650 (by decide +kernel) rfl
theorem l_L_80 : ML RL 80 mL_match := gw_t 651 (by decide +kernel) rfl
theorem l_L_27 : ML RL 27 mX8_match := gw_t 654 (by decide +kernel) rfl
theorem l_X8_135 : ML RX8 135 mX7_fell := gw_t 658 (by decide +kernel) rfl
theorem l_X8_138 : ML RX8 138 mX8_isPlace := gw_t 662 (by decide +kernel) rfl
theorem l_X8_145 : ML RX8 145 mX3_matchRule := gw_t 668 (by decide +kernel) rfl
theorem l_X3_30 : ML RX3 30 mX4_cellOf := gw_t 672 (by decide +kernel) rfl
theorem l_X4_28 : MN RX4 28 mX8_isRule := ⟨"ChoiceParser", List.mem_filter.mpr ⟨List.mem_append_right _ (List.mem_of_getElem? (i := 675) (by decide +kernel)), rfl⟩⟩
theorem l_X3_36 : ML RX3 36 mX4_recall := gw_t 676 (by decide +kernel) rfl
theorem l_X4_32 : ML RX4 32 mX4_isCell := gw_t 680 (by decide +kernel) rfl
theorem l_X3_40 : ML RX3 40 mX3_workOut := gw_t 683 (by decide +kernel) rfl
theorem l_X3_51 : ML RX3 51 mX4_cutBelow := gw_t 690 (by decide +kernel) rfl
theorem l_X3_55 : ML RX3 55 mX2_expressionOf := gw_t 694 (by decide +kernel) rfl
theorem l_X3_67 : ML RX3 67 mX3_go := gw_t 695 (by decide +kernel) rfl
theorem l_X3_79 : ML RX3 79 mX3_goLetter := gw_t 699 (by decide +kernel) rfl
theorem l_X3_101 : ML RX3 101 mX0_at := gw_t 703 (by decide +kernel) rfl
theorem l_X3_86 : ML RX3 86 mX3_goRule := gw_t 704 (by decide +kernel) rfl
theorem l_X3_110 : ML RX3 110 mX3_matchRule := gw_t 708 (by decide +kernel) rfl
theorem l_X3_114 : ML RX3 114 mX4_addBelow := gw_t 709 (by decide +kernel) rfl
theorem l_X3_92 : ML RX3 92 mX3_goRow := gw_t 713 (by decide +kernel) rfl
theorem l_X3_95 : ML RX3 95 mX3_goChoice := gw_t 717 (by decide +kernel) rfl
theorem l_X3_120 : ML RX3 120 mX4_belowSize := gw_t 721 (by decide +kernel) rfl
theorem l_X3_98 : ML RX3 98 mX3_goRepeated := gw_t 725 (by decide +kernel) rfl
theorem l_X3_71 : ML RX3 71 mX4_keep := gw_t 729 (by decide +kernel) rfl
theorem l_X8_149 : ML RX8 149 mX4_cellOf := gw_t 733 (by decide +kernel) rfl
theorem l_X8_153 : ML RX8 153 mX7_grow := gw_t 734 (by decide +kernel) rfl
theorem l_X7_24 : ML RX7 24 mX7_set := gw_t 738 (by decide +kernel) rfl
theorem l_X7_57 : ML RX7 57 mX4_recall := gw_t 742 (by decide +kernel) rfl
theorem l_X7_28 : ML RX7 28 mX7_putBelow := gw_t 743 (by decide +kernel) rfl
theorem l_X7_32 : ML RX7 32 mX7_tell := gw_t 747 (by decide +kernel) rfl
theorem l_X7_20 : ML RX7 20 mX7_has := gw_t 751 (by decide +kernel) rfl
theorem l_X7_36 : ML RX7 36 mX4_cellOf := gw_t 755 (by decide +kernel) rfl
theorem l_X7_41 : ML RX7 41 mX4_belowSize := gw_t 756 (by decide +kernel) rfl
theorem l_X7_50 : ML RX7 50 mX7_makeRoom := gw_t 758 (by decide +kernel) rfl
theorem l_X7_54 : ML RX7 54 mX4_below := gw_t 762 (by decide +kernel) rfl
theorem l_L_84 : ML RL 84 mL_memory := gw_t 766 (by decide +kernel) rfl
theorem l_L_31 : ML RL 31 mX8_memory := gw_t 770 (by decide +kernel) rfl
theorem l_X8_162 : ML RX8 162 mX4_recall := gw_t 790 (by decide +kernel) rfl
theorem l_L_87 : ML RL 87 mL_node := gw_t 791 (by decide +kernel) rfl
theorem l_L_36 : ML RL 36 mX8_node := gw_t 794 (by decide +kernel) rfl
theorem l_X8_166 : ML RX8 166 mX7_has := gw_t 798 (by decide +kernel) rfl
theorem l_X8_172 : ML RX8 172 mX7_tell := gw_t 800 (by decide +kernel) rfl
theorem l_L_90 : ML RL 90 mL_count := gw_t 801 (by decide +kernel) rfl
theorem l_L_39 : ML RL 39 mX8_count := gw_t 804 (by decide +kernel) rfl
theorem l_X8_176 : ML RX8 176 mX7_size := gw_t 808 (by decide +kernel) rfl
theorem l_X8_177 : ML RX8 177 mX3_begun := gw_t 812 (by decide +kernel) rfl
theorem l_X8_180 : ML RX8 180 mX3_remembered := gw_t 816 (by decide +kernel) rfl
theorem n_L_43 : Cond.classLink RL 43 RX9 ∈ gw ∧ Cond.instantiable RX9 43 ∈ gw ∧ Cond.initialized RX9 ∈ gw := ⟨gw_t 821 (by decide +kernel) rfl, gw_t 822 (by decide +kernel) rfl, gw_t 10 (by decide +kernel) rfl⟩
theorem l_L_45 : ML RL 45 mX9_init := gw_t 823 (by decide +kernel) rfl
theorem o_X9_1 : Cond.methodLink RX9 1 Lib.objectInit ∈ gw ∧ Cond.instanceMethod Lib.objectInit ∈ gw ∧ Cond.code Lib.objectInit ⟨#[0xb1]⟩ 1 none ∈ gw := ⟨gw_t 826 (by decide +kernel) rfl, gw_t 31 (by decide +kernel) rfl, gw_t 32 (by decide +kernel) rfl⟩
theorem l_X9_102 : ML RX9 102 mX9_forget := gw_t 827 (by decide +kernel) rfl
theorem l_L_62 : ML RL 62 mX9_thrown := gw_t 962 (by decide +kernel) rfl
theorem l_L_50 : ML RL 50 mX9_type := gw_t 966 (by decide +kernel) rfl
theorem l_X9_113 : ML RX9 113 mX9_isLetter := gw_t 970 (by decide +kernel) rfl
theorem l_X9_117 : ML RX9 117 mX9_isRule := gw_t 973 (by decide +kernel) rfl
theorem l_L_55 : ML RL 55 mX9_rule := gw_t 976 (by decide +kernel) rfl
theorem l_X9_158 : ML RX9 158 mX9_read := gw_t 980 (by decide +kernel) rfl
theorem l_X9_147 : ML RX9 147 mX9_enter := gw_t 984 (by decide +kernel) rfl
theorem l_X9_123 : ML RX9 123 mX9_look := gw_t 988 (by decide +kernel) rfl
theorem l_X9_140 : ML RX9 140 mX9_rowDone := gw_t 992 (by decide +kernel) rfl
theorem l_X9_127 : ML RX9 127 mX9_made := gw_t 996 (by decide +kernel) rfl
theorem l_X9_150 : ML RX9 150 mX9_choiceDone := gw_t 1000 (by decide +kernel) rfl
theorem l_X9_143 : ML RX9 143 mX9_partDone := gw_t 1004 (by decide +kernel) rfl
theorem l_X9_154 : ML RX9 154 mX9_simple := gw_t 1008 (by decide +kernel) rfl
theorem l_X9_161 : ML RX9 161 mX9_findDepths := gw_t 1012 (by decide +kernel) rfl
theorem l_L_61 : ML RL 61 mX9_drop := gw_t 1016 (by decide +kernel) rfl
theorem l_X9_109 : ML RX9 109 mX9_in := gw_t 1020 (by decide +kernel) rfl
theorem l_L_68 : ML RL 68 mX9_feed := gw_t 1023 (by decide +kernel) rfl
theorem l_X9_165 : ML RX9 165 mX9_fail := gw_t 1027 (by decide +kernel) rfl
theorem l_L_72 : ML RL 72 mX9_clear := gw_t 1031 (by decide +kernel) rfl
theorem l_L_75 : ML RL 75 mX9_outcomes := gw_t 1035 (by decide +kernel) rfl
theorem l_X9_191 : ML RX9 191 mX9_hasRule := gw_t 1039 (by decide +kernel) rfl
theorem l_X9_195 : ML RX9 195 mX9_lacking := gw_t 1043 (by decide +kernel) rfl
theorem l_X9_198 : ML RX9 198 mX9_study := gw_t 1047 (by decide +kernel) rfl
theorem l_X9_187 : ML RX9 187 mX9_more := gw_t 1051 (by decide +kernel) rfl
theorem l_X9_181 : ML RX9 181 mX9_goodOf := gw_t 1055 (by decide +kernel) rfl
theorem l_X9_171 : ML RX9 171 mX9_has := gw_t 1059 (by decide +kernel) rfl
theorem l_X9_184 : ML RX9 184 mX9_outcomeOf := gw_t 1062 (by decide +kernel) rfl
theorem l_X9_179 : ML RX9 179 mX9_row := gw_t 1066 (by decide +kernel) rfl
theorem l_X9_175 : ML RX9 175 mX9_bit := gw_t 1069 (by decide +kernel) rfl
theorem l_L_79 : ML RL 79 mX9_check := gw_t 1072 (by decide +kernel) rfl
theorem l_X9_204 : ML RX9 204 mX9_fault := gw_t 1076 (by decide +kernel) rfl
theorem l_X9_201 : ML RX9 201 mX9_rules := gw_t 1080 (by decide +kernel) rfl
theorem l_L_83 : ML RL 83 mX9_match := gw_t 1084 (by decide +kernel) rfl
theorem l_X9_253 : ML RX9 253 mX9_run := gw_t 1088 (by decide +kernel) rfl
theorem l_X9_237 : ML RX9 237 mX9_ask := gw_t 1092 (by decide +kernel) rfl
theorem l_X9_213 : ML RX9 213 mX9_push := gw_t 1096 (by decide +kernel) rfl
theorem l_X9_221 : ML RX9 221 mX9_record := gw_t 1100 (by decide +kernel) rfl
theorem l_X9_240 : ML RX9 240 mX9_wanted := gw_t 1104 (by decide +kernel) rfl
theorem l_X9_234 : ML RX9 234 mX9_base := gw_t 1108 (by decide +kernel) rfl
theorem l_X9_243 : ML RX9 243 mX9_answer := gw_t 1111 (by decide +kernel) rfl
theorem l_X9_256 : ML RX9 256 mX9_grow := gw_t 1115 (by decide +kernel) rfl
theorem l_X9_249 : ML RX9 249 mX9_keep := gw_t 1119 (by decide +kernel) rfl
theorem l_L_86 : ML RL 86 mX9_memory := gw_t 1123 (by decide +kernel) rfl
theorem l_L_89 : ML RL 89 mX9_node := gw_t 1127 (by decide +kernel) rfl
theorem l_L_92 : ML RL 92 mX9_count := gw_t 1131 (by decide +kernel) rfl
theorem l_L_97 : ML RL 97 mX9_full := gw_t 1135 (by decide +kernel) rfl
end
section
/-- the judgement over an abstract state: I says which heaps a state stands for -/
def EW {S : Type} (I : S → Hp → Prop) (l : Launch) (D : va_G) (cy : Nat → ClassId) (base : Nat) (M : Mth) (d bc bs : Nat) (pc : Nat) (lv : List (Nat × Value)) (st : List Value) (s : S) (Q : Oc → S → Prop) : Prop :=
  ∀ hp, I s hp → E l D cy base M d bc bs pc lv st hp (fun o hp' => ∃ s', Q o s' ∧ I s' hp')
def EWX {S : Type} (I : S → Hp → Prop) (l : Launch) (D : va_G) (cy : Nat → ClassId) (base : Nat) (M : Mth) (d bc bs : Nat) (pc : Nat) (lv : List (Nat × Value)) (X : String) (s : S) (Q : Oc → S → Prop) : Prop :=
  ∀ hp, I s hp → EX l D cy base M d bc bs pc lv X hp (fun o hp' => ∃ s', Q o s' ∧ I s' hp')
def MtW {S : Type} (I : S → Hp → Prop) (l : Launch) (D : va_G) (cy : Nat → ClassId) (base : Nat) (M : Mth) (d mc ms : Nat) (As : List Value) (s : S) (Q : Oc → S → Prop) : Prop :=
  ∀ hp, I s hp → Mt l D cy base M d mc ms As hp (fun o hp' => ∃ s', Q o s' ∧ I s' hp')
section WORLD
variable {S : Type} {I : S → Hp → Prop} {l : Launch} {D : va_G} {cy : Nat → ClassId} {base : Nat} {M : Mth} {d bc bs pc : Nat} {lv : List (Nat × Value)} {st : List Value} {s : S} {Q : Oc → S → Prop}
theorem EW.loc {lv' : List (Nat × Value)} (h : lsubs lv lv') (k : EW I l D cy base M d bc bs pc lv' st s Q) : EW I l D cy base M d bc bs pc lv st s Q := fun hp8 h8 => E.loc h (k hp8 h8)
theorem EW.more {bc' bs' : Nat} (h1 : bc' ≤ bc) (h2 : bs' ≤ bs) (k : EW I l D cy base M d bc' bs' pc lv st s Q) : EW I l D cy base M d bc bs pc lv st s Q := fun hp8 h8 => E.more h1 h2 (k hp8 h8)
theorem EW.post {Q' : Oc → S → Prop} (h : ∀ o s, Q' o s → Q o s) (k : EW I l D cy base M d bc bs pc lv st s Q') : EW I l D cy base M d bc bs pc lv st s Q := fun hp8 h8 => E.post (fun o hp' ⟨s', q, i⟩ => ⟨s', h o s' q, i⟩) (k hp8 h8)
theorem EW.eqs {s' : S} (e : s = s') (k : EW I l D cy base M d bc bs pc lv st s' Q) : EW I l D cy base M d bc bs pc lv st s Q := e ▸ k
theorem EW.stk {st' : List Value} (e : st = st') (k : EW I l D cy base M d bc bs pc lv st' s Q) : EW I l D cy base M d bc bs pc lv st s Q := e ▸ k
theorem EW.top {x y : Int32} (e : x = y) (k : EW I l D cy base M d bc bs pc lv (.int y :: st) s Q) : EW I l D cy base M d bc bs pc lv (.int x :: st) s Q := e ▸ k
theorem MtW.post {mc ms : Nat} {As : List Value} {Q' : Oc → S → Prop} (h : ∀ o s, Q' o s → Q o s) (k : MtW I l D cy base M d mc ms As s Q') : MtW I l D cy base M d mc ms As s Q := fun hp8 h8 => Mt.post (fun o hp' ⟨s', q, i⟩ => ⟨s', h o s' q, i⟩) (k hp8 h8)
theorem MtW.of {mc ms : Nat} {As : List Value} (hl : l.stackTraces = false) (mf : MF M) (h0 : M.2.2.2.2.2 = []) (hlen : (lg_sl As).length ≤ M.2.2.2.1) (k : EW I l D cy base M d mc ms 0 (lv_args 0 As) [] s Q) : MtW I l D cy base M d mc ms As s Q := fun hp8 h8 => Mt.of hl mf h0 hlen (k hp8 h8)
theorem EW.iadd {x y : Int32} (hdg : decode M.2.1 pc = .ok (.iadd, 1))  (k : EW I l D cy base M d bc bs (pc + 1) lv (.int (x + y) :: st) s Q) : EW I l D cy base M d bc bs (pc) lv (.int y :: .int x :: st) s Q := fun hp8 h8 => E.iadd hdg (k hp8 h8)
theorem EW.isub {x y : Int32} (hdg : decode M.2.1 pc = .ok (.isub, 1))  (k : EW I l D cy base M d bc bs (pc + 1) lv (.int (x - y) :: st) s Q) : EW I l D cy base M d bc bs (pc) lv (.int y :: .int x :: st) s Q := fun hp8 h8 => E.isub hdg (k hp8 h8)
theorem EW.imul {x y : Int32} (hdg : decode M.2.1 pc = .ok (.imul, 1))  (k : EW I l D cy base M d bc bs (pc + 1) lv (.int (x * y) :: st) s Q) : EW I l D cy base M d bc bs (pc) lv (.int y :: .int x :: st) s Q := fun hp8 h8 => E.imul hdg (k hp8 h8)
theorem EW.iand {x y : Int32} (hdg : decode M.2.1 pc = .ok (.iand, 1))  (k : EW I l D cy base M d bc bs (pc + 1) lv (.int (x &&& y) :: st) s Q) : EW I l D cy base M d bc bs (pc) lv (.int y :: .int x :: st) s Q := fun hp8 h8 => E.iand hdg (k hp8 h8)
theorem EW.ior {x y : Int32} (hdg : decode M.2.1 pc = .ok (.ior, 1))  (k : EW I l D cy base M d bc bs (pc + 1) lv (.int (x ||| y) :: st) s Q) : EW I l D cy base M d bc bs (pc) lv (.int y :: .int x :: st) s Q := fun hp8 h8 => E.ior hdg (k hp8 h8)
theorem EW.ixor {x y : Int32} (hdg : decode M.2.1 pc = .ok (.ixor, 1))  (k : EW I l D cy base M d bc bs (pc + 1) lv (.int (x ^^^ y) :: st) s Q) : EW I l D cy base M d bc bs (pc) lv (.int y :: .int x :: st) s Q := fun hp8 h8 => E.ixor hdg (k hp8 h8)
theorem EW.ishl {x y : Int32} (hdg : decode M.2.1 pc = .ok (.ishl, 1))  (k : EW I l D cy base M d bc bs (pc + 1) lv (.int (x <<< (y &&& 31)) :: st) s Q) : EW I l D cy base M d bc bs (pc) lv (.int y :: .int x :: st) s Q := fun hp8 h8 => E.ishl hdg (k hp8 h8)
theorem EW.idiv {x y : Int32} (hdg : decode M.2.1 pc = .ok (.idiv, 1)) (hne : ¬ y = 0) (k : EW I l D cy base M d bc bs (pc + 1) lv (.int (x / y) :: st) s Q) : EW I l D cy base M d bc bs (pc) lv (.int y :: .int x :: st) s Q := fun hp8 h8 => E.idiv hdg hne (k hp8 h8)
theorem EW.irem {x y : Int32} (hdg : decode M.2.1 pc = .ok (.irem, 1)) (hne : ¬ y = 0) (k : EW I l D cy base M d bc bs (pc + 1) lv (.int (x - x / y * y) :: st) s Q) : EW I l D cy base M d bc bs (pc) lv (.int y :: .int x :: st) s Q := fun hp8 h8 => E.irem hdg hne (k hp8 h8)
theorem EW.iconst {n : Int} {v : Int32} (hdg : decode M.2.1 pc = .ok (.iconst n, 1)) (hv9 : Int32.ofInt n = v) (k : EW I l D cy base M d bc bs (pc + 1) lv (.int v :: st) s Q) : EW I l D cy base M d bc bs (pc) lv (st) s Q := fun hp8 h8 => E.iconst hdg hv9 (k hp8 h8)
theorem EW.bipush {n : Int} {v : Int32} (hdg : decode M.2.1 pc = .ok (.bipush n, 2)) (hv9 : (Int8.ofInt n).toInt32 = v) (k : EW I l D cy base M d bc bs (pc + 2) lv (.int v :: st) s Q) : EW I l D cy base M d bc bs (pc) lv (st) s Q := fun hp8 h8 => E.bipush hdg hv9 (k hp8 h8)
theorem EW.sipush {n : Int} {v : Int32} (hdg : decode M.2.1 pc = .ok (.sipush n, 3)) (hv9 : (Int16.ofInt n).toInt32 = v) (k : EW I l D cy base M d bc bs (pc + 3) lv (.int v :: st) s Q) : EW I l D cy base M d bc bs (pc) lv (st) s Q := fun hp8 h8 => E.sipush hdg hv9 (k hp8 h8)
theorem EW.lconst {n : Fin 2} {v : Int64} (hdg : decode M.2.1 pc = .ok (.lconst n, 1)) (hv9 : Int64.ofNat (n : Nat) = v) (k : EW I l D cy base M d bc bs (pc + 1) lv (.long v :: st) s Q) : EW I l D cy base M d bc bs (pc) lv (st) s Q := fun hp8 h8 => E.lconst hdg hv9 (k hp8 h8)
theorem EW.i2b {x v : Int32} (hdg : decode M.2.1 pc = .ok (.i2b, 1)) (hv9 : x.toInt8.toInt32 = v) (k : EW I l D cy base M d bc bs (pc + 1) lv (.int v :: st) s Q) : EW I l D cy base M d bc bs (pc) lv (.int x :: st) s Q := fun hp8 h8 => E.i2b hdg hv9 (k hp8 h8)
theorem EW.i2c {x v : Int32} (hdg : decode M.2.1 pc = .ok (.i2c, 1)) (hv9 : (x.toUInt32 % 65536).toInt32 = v) (k : EW I l D cy base M d bc bs (pc + 1) lv (.int v :: st) s Q) : EW I l D cy base M d bc bs (pc) lv (.int x :: st) s Q := fun hp8 h8 => E.i2c hdg hv9 (k hp8 h8)
theorem EW.i2l {x : Int32} {v : Int64} (hdg : decode M.2.1 pc = .ok (.i2l, 1)) (hv9 : x.toInt64 = v) (k : EW I l D cy base M d bc bs (pc + 1) lv (.long v :: st) s Q) : EW I l D cy base M d bc bs (pc) lv (.int x :: st) s Q := fun hp8 h8 => E.i2l hdg hv9 (k hp8 h8)
theorem EW.i2f {x : Int32} (hdg : decode M.2.1 pc = .ok (.i2f, 1))  (k : EW I l D cy base M d bc bs (pc + 1) lv (.float (FP.i2f x) :: st) s Q) : EW I l D cy base M d bc bs (pc) lv (.int x :: st) s Q := fun hp8 h8 => E.i2f hdg (k hp8 h8)
theorem EW.fdiv {x y : UInt32} (hdg : decode M.2.1 pc = .ok (.fdiv, 1)) (hne : vf_n32 (FP.fdiv x y)) (k : EW I l D cy base M d bc bs (pc + 1) lv (.float (FP.fdiv x y) :: st) s Q) : EW I l D cy base M d bc bs (pc) lv (.float y :: .float x :: st) s Q := fun hp8 h8 => E.fdiv hdg hne (k hp8 h8)
theorem EW.f2d {x : UInt32} (hdg : decode M.2.1 pc = .ok (.f2d, 1)) (hne : vf_n64 (FP.f2d x)) (k : EW I l D cy base M d bc bs (pc + 1) lv (.double (FP.f2d x) :: st) s Q) : EW I l D cy base M d bc bs (pc) lv (.float x :: st) s Q := fun hp8 h8 => E.f2d hdg hne (k hp8 h8)
theorem EW.fconst0  (hdg : decode M.2.1 pc = .ok (.fconst 0, 1))  (k : EW I l D cy base M d bc bs (pc + 1) lv (.float FP.fconst0 :: st) s Q) : EW I l D cy base M d bc bs (pc) lv (st) s Q := fun hp8 h8 => E.fconst0 hdg (k hp8 h8)
theorem EW.dcmp {x y : UInt64} {op : CmpOp} (hdg : decode M.2.1 pc = .ok (.dcmp op, 1))  (k : EW I l D cy base M d bc bs (pc + 1) lv (.int (Op.cmpValue (FP.dcmp x y) op) :: st) s Q) : EW I l D cy base M d bc bs (pc) lv (.double y :: .double x :: st) s Q := fun hp8 h8 => E.dcmp hdg (k hp8 h8)
theorem EW.lcmp {x y : Int64} (hdg : decode M.2.1 pc = .ok (.lcmp, 1)) (k : EW I l D cy base M d bc bs (pc + 1) lv (.int (lg_cmp x y) :: st) s Q) : EW I l D cy base M d bc bs (pc) lv (.long y :: .long x :: st) s Q := fun hp8 h8 => E.lcmp hdg (k hp8 h8)
theorem EW.dup {va : Value} (hdg : decode M.2.1 pc = .ok (.dup, 1)) (h1 : va.category = 1) (k : EW I l D cy base M d bc bs (pc + 1) lv (va :: va :: st) s Q) : EW I l D cy base M d bc bs (pc) lv (va :: st) s Q := fun hp8 h8 => E.dup hdg h1 (k hp8 h8)
theorem EW.pop {va : Value} (hdg : decode M.2.1 pc = .ok (.pop, 1)) (h1 : va.category = 1) (k : EW I l D cy base M d bc bs (pc + 1) lv (st) s Q) : EW I l D cy base M d bc bs (pc) lv (va :: st) s Q := fun hp8 h8 => E.pop hdg h1 (k hp8 h8)
theorem EW.dup_x1 {va vb : Value} (hdg : decode M.2.1 pc = .ok (.dup_x1, 1)) (h1 : va.category = 1) (h2 : vb.category = 1) (k : EW I l D cy base M d bc bs (pc + 1) lv (va :: vb :: va :: st) s Q) : EW I l D cy base M d bc bs (pc) lv (va :: vb :: st) s Q := fun hp8 h8 => E.dup_x1 hdg h1 h2 (k hp8 h8)
theorem EW.dup_x2 {va vb vd : Value} (hdg : decode M.2.1 pc = .ok (.dup_x2, 1)) (h1 : va.category = 1) (h2 : vb.category = 1) (h3 : vd.category = 1) (k : EW I l D cy base M d bc bs (pc + 1) lv (va :: vb :: vd :: va :: st) s Q) : EW I l D cy base M d bc bs (pc) lv (va :: vb :: vd :: st) s Q := fun hp8 h8 => E.dup_x2 hdg h1 h2 h3 (k hp8 h8)
theorem EW.dup2 {va vb : Value} (hdg : decode M.2.1 pc = .ok (.dup2, 1)) (h1 : va.category = 1) (h2 : vb.category = 1) (k : EW I l D cy base M d bc bs (pc + 1) lv (va :: vb :: va :: vb :: st) s Q) : EW I l D cy base M d bc bs (pc) lv (va :: vb :: st) s Q := fun hp8 h8 => E.dup2 hdg h1 h2 (k hp8 h8)
theorem EW.iload_n {k9 : Fin 4} {i : Nat} {x : Int32} (hdg : decode M.2.1 pc = .ok (.iload_n k9, 1)) (hi : (k9 : Nat) = i) (hg : lget lv i = some (.int x)) (k : EW I l D cy base M d bc bs (pc + 1) lv (.int x :: st) s Q) : EW I l D cy base M d bc bs (pc) lv (st) s Q := fun hp8 h8 => E.iload_n hdg hi hg (k hp8 h8)
theorem EW.iload {i : Nat} {x : Int32} (hdg : decode M.2.1 pc = .ok (.iload i, 2)) (hg : lget lv i = some (.int x)) (k : EW I l D cy base M d bc bs (pc + 2) lv (.int x :: st) s Q) : EW I l D cy base M d bc bs (pc) lv (st) s Q := fun hp8 h8 => E.iload hdg hg (k hp8 h8)
theorem EW.aload_n {k9 : Fin 4} {i : Nat} {x : Nat} (hdg : decode M.2.1 pc = .ok (.aload_n k9, 1)) (hi : (k9 : Nat) = i) (hg : lget lv i = some (.ref x)) (k : EW I l D cy base M d bc bs (pc + 1) lv (.ref x :: st) s Q) : EW I l D cy base M d bc bs (pc) lv (st) s Q := fun hp8 h8 => E.aload_n hdg hi hg (k hp8 h8)
theorem EW.aload {i : Nat} {x : Nat} (hdg : decode M.2.1 pc = .ok (.aload i, 2)) (hg : lget lv i = some (.ref x)) (k : EW I l D cy base M d bc bs (pc + 2) lv (.ref x :: st) s Q) : EW I l D cy base M d bc bs (pc) lv (st) s Q := fun hp8 h8 => E.aload hdg hg (k hp8 h8)
theorem EW.dload_n {k9 : Fin 4} {i : Nat} {x : UInt64} (hdg : decode M.2.1 pc = .ok (.dload_n k9, 1)) (hi : (k9 : Nat) = i) (hg : lget lv i = some (.double x)) (k : EW I l D cy base M d bc bs (pc + 1) lv (.double x :: st) s Q) : EW I l D cy base M d bc bs (pc) lv (st) s Q := fun hp8 h8 => E.dload_n hdg hi hg (k hp8 h8)
theorem EW.dload {i : Nat} {x : UInt64} (hdg : decode M.2.1 pc = .ok (.dload i, 2)) (hg : lget lv i = some (.double x)) (k : EW I l D cy base M d bc bs (pc + 2) lv (.double x :: st) s Q) : EW I l D cy base M d bc bs (pc) lv (st) s Q := fun hp8 h8 => E.dload hdg hg (k hp8 h8)
theorem EW.aloadq_n {k9 : Fin 4} {i : Nat} {r : Option Nat} (hdg : decode M.2.1 pc = .ok (.aload_n k9, 1)) (hi : (k9 : Nat) = i) (hg : lget lv i = some (va_rf r)) (k : EW I l D cy base M d bc bs (pc + 1) lv (va_rf r :: st) s Q) : EW I l D cy base M d bc bs (pc) lv (st) s Q := fun hp8 h8 => E.aloadq_n hdg hi hg (k hp8 h8)
theorem EW.aloadq {i : Nat} {r : Option Nat} (hdg : decode M.2.1 pc = .ok (.aload i, 2)) (hg : lget lv i = some (va_rf r)) (k : EW I l D cy base M d bc bs (pc + 2) lv (va_rf r :: st) s Q) : EW I l D cy base M d bc bs (pc) lv (st) s Q := fun hp8 h8 => E.aloadq hdg hg (k hp8 h8)
theorem EW.istore_n {k9 : Fin 4} {i : Nat} {x : Int32} (hdg : decode M.2.1 pc = .ok (.istore_n k9, 1)) (hi : (k9 : Nat) = i) (hn : i < M.2.2.2.1) (k : EW I l D cy base M d bc bs (pc + 1) (lset lv i (.int x)) (st) s Q) : EW I l D cy base M d bc bs (pc) lv (.int x :: st) s Q := fun hp8 h8 => E.istore_n hdg hi hn (k hp8 h8)
theorem EW.istore {i : Nat} {x : Int32} (hdg : decode M.2.1 pc = .ok (.istore i, 2)) (hn : i < M.2.2.2.1) (k : EW I l D cy base M d bc bs (pc + 2) (lset lv i (.int x)) (st) s Q) : EW I l D cy base M d bc bs (pc) lv (.int x :: st) s Q := fun hp8 h8 => E.istore hdg hn (k hp8 h8)
theorem EW.astore_n {k9 : Fin 4} {i : Nat} {x : Nat} (hdg : decode M.2.1 pc = .ok (.astore_n k9, 1)) (hi : (k9 : Nat) = i) (hn : i < M.2.2.2.1) (k : EW I l D cy base M d bc bs (pc + 1) (lset lv i (.ref x)) (st) s Q) : EW I l D cy base M d bc bs (pc) lv (.ref x :: st) s Q := fun hp8 h8 => E.astore_n hdg hi hn (k hp8 h8)
theorem EW.astore {i : Nat} {x : Nat} (hdg : decode M.2.1 pc = .ok (.astore i, 2)) (hn : i < M.2.2.2.1) (k : EW I l D cy base M d bc bs (pc + 2) (lset lv i (.ref x)) (st) s Q) : EW I l D cy base M d bc bs (pc) lv (.ref x :: st) s Q := fun hp8 h8 => E.astore hdg hn (k hp8 h8)
theorem EW.dstore_n {k9 : Fin 4} {i : Nat} {x : UInt64} (hdg : decode M.2.1 pc = .ok (.dstore_n k9, 1)) (hi : (k9 : Nat) = i) (hn : i + 1 < M.2.2.2.1) (k : EW I l D cy base M d bc bs (pc + 1) (lset2 lv i (.double x)) (st) s Q) : EW I l D cy base M d bc bs (pc) lv (.double x :: st) s Q := fun hp8 h8 => E.dstore_n hdg hi hn (k hp8 h8)
theorem EW.dstore {i : Nat} {x : UInt64} (hdg : decode M.2.1 pc = .ok (.dstore i, 2)) (hn : i + 1 < M.2.2.2.1) (k : EW I l D cy base M d bc bs (pc + 2) (lset2 lv i (.double x)) (st) s Q) : EW I l D cy base M d bc bs (pc) lv (.double x :: st) s Q := fun hp8 h8 => E.dstore hdg hn (k hp8 h8)
theorem EW.astoreq_n {k9 : Fin 4} {i : Nat} {r : Option Nat} (hdg : decode M.2.1 pc = .ok (.astore_n k9, 1)) (hi : (k9 : Nat) = i) (hn : i < M.2.2.2.1) (k : EW I l D cy base M d bc bs (pc + 1) (lset lv i (va_rf r)) (st) s Q) : EW I l D cy base M d bc bs (pc) lv (va_rf r :: st) s Q := fun hp8 h8 => E.astoreq_n hdg hi hn (k hp8 h8)
theorem EW.astoreq {i : Nat} {r : Option Nat} (hdg : decode M.2.1 pc = .ok (.astore i, 2)) (hn : i < M.2.2.2.1) (k : EW I l D cy base M d bc bs (pc + 2) (lset lv i (va_rf r)) (st) s Q) : EW I l D cy base M d bc bs (pc) lv (va_rf r :: st) s Q := fun hp8 h8 => E.astoreq hdg hn (k hp8 h8)
theorem EW.iinc {i : Nat} {n : Int} {x v : Int32} (hdg : decode M.2.1 pc = .ok (.iinc i n, 3)) (hg : lget lv i = some (.int x)) (hv9 : x + Int32.ofInt n = v) (hn : i < M.2.2.2.1) (k : EW I l D cy base M d bc bs (pc + 3) (lset lv i (.int v)) (st) s Q) : EW I l D cy base M d bc bs (pc) lv (st) s Q := fun hp8 h8 => E.iinc hdg hg hv9 hn (k hp8 h8)
theorem EW.if_eq {x : Int32} {off : Int} (tgt : Nat) (hdg : decode M.2.1 pc = .ok (.ifCond .eq off, 3)) (ht : (pc : Int) + off = (tgt : Int)) (kt : x = 0 → EW I l D cy base M d bc bs (tgt) lv (st) s Q) (kf : ¬ x = 0 → EW I l D cy base M d bc bs (pc + 3) lv (st) s Q) : EW I l D cy base M d bc bs (pc) lv (.int x :: st) s Q := fun hp8 h8 => E.if_eq tgt hdg ht (fun c9 => kt c9 hp8 h8) (fun c9 => kf c9 hp8 h8)
theorem EW.icmp_eq {x y : Int32} {off : Int} (tgt : Nat) (hdg : decode M.2.1 pc = .ok (.if_icmp .eq off, 3)) (ht : (pc : Int) + off = (tgt : Int)) (kt : x = y → EW I l D cy base M d bc bs (tgt) lv (st) s Q) (kf : ¬ x = y → EW I l D cy base M d bc bs (pc + 3) lv (st) s Q) : EW I l D cy base M d bc bs (pc) lv (.int y :: .int x :: st) s Q := fun hp8 h8 => E.icmp_eq tgt hdg ht (fun c9 => kt c9 hp8 h8) (fun c9 => kf c9 hp8 h8)
theorem EW.if_ne {x : Int32} {off : Int} (tgt : Nat) (hdg : decode M.2.1 pc = .ok (.ifCond .ne off, 3)) (ht : (pc : Int) + off = (tgt : Int)) (kt : ¬ x = 0 → EW I l D cy base M d bc bs (tgt) lv (st) s Q) (kf : x = 0 → EW I l D cy base M d bc bs (pc + 3) lv (st) s Q) : EW I l D cy base M d bc bs (pc) lv (.int x :: st) s Q := fun hp8 h8 => E.if_ne tgt hdg ht (fun c9 => kt c9 hp8 h8) (fun c9 => kf c9 hp8 h8)
theorem EW.icmp_ne {x y : Int32} {off : Int} (tgt : Nat) (hdg : decode M.2.1 pc = .ok (.if_icmp .ne off, 3)) (ht : (pc : Int) + off = (tgt : Int)) (kt : ¬ x = y → EW I l D cy base M d bc bs (tgt) lv (st) s Q) (kf : x = y → EW I l D cy base M d bc bs (pc + 3) lv (st) s Q) : EW I l D cy base M d bc bs (pc) lv (.int y :: .int x :: st) s Q := fun hp8 h8 => E.icmp_ne tgt hdg ht (fun c9 => kt c9 hp8 h8) (fun c9 => kf c9 hp8 h8)
theorem EW.if_lt {x : Int32} {off : Int} (tgt : Nat) (hdg : decode M.2.1 pc = .ok (.ifCond .lt off, 3)) (ht : (pc : Int) + off = (tgt : Int)) (kt : x < 0 → EW I l D cy base M d bc bs (tgt) lv (st) s Q) (kf : ¬ x < 0 → EW I l D cy base M d bc bs (pc + 3) lv (st) s Q) : EW I l D cy base M d bc bs (pc) lv (.int x :: st) s Q := fun hp8 h8 => E.if_lt tgt hdg ht (fun c9 => kt c9 hp8 h8) (fun c9 => kf c9 hp8 h8)
theorem EW.icmp_lt {x y : Int32} {off : Int} (tgt : Nat) (hdg : decode M.2.1 pc = .ok (.if_icmp .lt off, 3)) (ht : (pc : Int) + off = (tgt : Int)) (kt : x < y → EW I l D cy base M d bc bs (tgt) lv (st) s Q) (kf : ¬ x < y → EW I l D cy base M d bc bs (pc + 3) lv (st) s Q) : EW I l D cy base M d bc bs (pc) lv (.int y :: .int x :: st) s Q := fun hp8 h8 => E.icmp_lt tgt hdg ht (fun c9 => kt c9 hp8 h8) (fun c9 => kf c9 hp8 h8)
theorem EW.if_ge {x : Int32} {off : Int} (tgt : Nat) (hdg : decode M.2.1 pc = .ok (.ifCond .ge off, 3)) (ht : (pc : Int) + off = (tgt : Int)) (kt : 0 ≤ x → EW I l D cy base M d bc bs (tgt) lv (st) s Q) (kf : ¬ 0 ≤ x → EW I l D cy base M d bc bs (pc + 3) lv (st) s Q) : EW I l D cy base M d bc bs (pc) lv (.int x :: st) s Q := fun hp8 h8 => E.if_ge tgt hdg ht (fun c9 => kt c9 hp8 h8) (fun c9 => kf c9 hp8 h8)
theorem EW.icmp_ge {x y : Int32} {off : Int} (tgt : Nat) (hdg : decode M.2.1 pc = .ok (.if_icmp .ge off, 3)) (ht : (pc : Int) + off = (tgt : Int)) (kt : y ≤ x → EW I l D cy base M d bc bs (tgt) lv (st) s Q) (kf : ¬ y ≤ x → EW I l D cy base M d bc bs (pc + 3) lv (st) s Q) : EW I l D cy base M d bc bs (pc) lv (.int y :: .int x :: st) s Q := fun hp8 h8 => E.icmp_ge tgt hdg ht (fun c9 => kt c9 hp8 h8) (fun c9 => kf c9 hp8 h8)
theorem EW.if_gt {x : Int32} {off : Int} (tgt : Nat) (hdg : decode M.2.1 pc = .ok (.ifCond .gt off, 3)) (ht : (pc : Int) + off = (tgt : Int)) (kt : 0 < x → EW I l D cy base M d bc bs (tgt) lv (st) s Q) (kf : ¬ 0 < x → EW I l D cy base M d bc bs (pc + 3) lv (st) s Q) : EW I l D cy base M d bc bs (pc) lv (.int x :: st) s Q := fun hp8 h8 => E.if_gt tgt hdg ht (fun c9 => kt c9 hp8 h8) (fun c9 => kf c9 hp8 h8)
theorem EW.icmp_gt {x y : Int32} {off : Int} (tgt : Nat) (hdg : decode M.2.1 pc = .ok (.if_icmp .gt off, 3)) (ht : (pc : Int) + off = (tgt : Int)) (kt : y < x → EW I l D cy base M d bc bs (tgt) lv (st) s Q) (kf : ¬ y < x → EW I l D cy base M d bc bs (pc + 3) lv (st) s Q) : EW I l D cy base M d bc bs (pc) lv (.int y :: .int x :: st) s Q := fun hp8 h8 => E.icmp_gt tgt hdg ht (fun c9 => kt c9 hp8 h8) (fun c9 => kf c9 hp8 h8)
theorem EW.if_le {x : Int32} {off : Int} (tgt : Nat) (hdg : decode M.2.1 pc = .ok (.ifCond .le off, 3)) (ht : (pc : Int) + off = (tgt : Int)) (kt : x ≤ 0 → EW I l D cy base M d bc bs (tgt) lv (st) s Q) (kf : ¬ x ≤ 0 → EW I l D cy base M d bc bs (pc + 3) lv (st) s Q) : EW I l D cy base M d bc bs (pc) lv (.int x :: st) s Q := fun hp8 h8 => E.if_le tgt hdg ht (fun c9 => kt c9 hp8 h8) (fun c9 => kf c9 hp8 h8)
theorem EW.icmp_le {x y : Int32} {off : Int} (tgt : Nat) (hdg : decode M.2.1 pc = .ok (.if_icmp .le off, 3)) (ht : (pc : Int) + off = (tgt : Int)) (kt : x ≤ y → EW I l D cy base M d bc bs (tgt) lv (st) s Q) (kf : ¬ x ≤ y → EW I l D cy base M d bc bs (pc + 3) lv (st) s Q) : EW I l D cy base M d bc bs (pc) lv (.int y :: .int x :: st) s Q := fun hp8 h8 => E.icmp_le tgt hdg ht (fun c9 => kt c9 hp8 h8) (fun c9 => kf c9 hp8 h8)
theorem EW.acmp_ne {rx ry : Option Nat} {off : Int} (tgt : Nat) (hdg : decode M.2.1 pc = .ok (.if_acmp .ne off, 3)) (ht : (pc : Int) + off = (tgt : Int)) (kt : ¬ rx = ry → EW I l D cy base M d bc bs (tgt) lv (st) s Q) (kf : rx = ry → EW I l D cy base M d bc bs (pc + 3) lv (st) s Q) : EW I l D cy base M d bc bs (pc) lv (va_rf ry :: va_rf rx :: st) s Q := fun hp8 h8 => E.acmp_ne tgt hdg ht (fun c9 => kt c9 hp8 h8) (fun c9 => kf c9 hp8 h8)
theorem EW.goto {off : Int} (tgt : Nat) (hdg : decode M.2.1 pc = .ok (.goto off, 3)) (ht : (pc : Int) + off = (tgt : Int)) (k : EW I l D cy base M d bc bs (tgt) lv (st) s Q) : EW I l D cy base M d bc bs (pc) lv (st) s Q := fun hp8 h8 => E.goto tgt hdg ht (k hp8 h8)
theorem EW.ifnull {r : Option Nat} {off : Int} (tgt : Nat) (hdg : decode M.2.1 pc = .ok (.ifnull off, 3)) (ht : (pc : Int) + off = (tgt : Int)) (kt : r = none → EW I l D cy base M d bc bs (tgt) lv (st) s Q) (kf : ∀ a, r = some a → EW I l D cy base M d bc bs (pc + 3) lv (st) s Q) : EW I l D cy base M d bc bs (pc) lv (va_rf r :: st) s Q := fun hp8 h8 => E.ifnull tgt hdg ht (fun c9 => kt c9 hp8 h8) (fun a9 c9 => kf a9 c9 hp8 h8)
theorem EW.ifnonnull {r : Option Nat} {off : Int} (tgt : Nat) (hdg : decode M.2.1 pc = .ok (.ifnonnull off, 3)) (ht : (pc : Int) + off = (tgt : Int)) (kt : ∀ a, r = some a → EW I l D cy base M d bc bs (tgt) lv (st) s Q) (kf : r = none → EW I l D cy base M d bc bs (pc + 3) lv (st) s Q) : EW I l D cy base M d bc bs (pc) lv (va_rf r :: st) s Q := fun hp8 h8 => E.ifnonnull tgt hdg ht (fun a9 c9 => kt a9 c9 hp8 h8) (fun c9 => kf c9 hp8 h8)
theorem EW.null (hdg : decode M.2.1 pc = .ok (.aconst_null, 1)) (k : EW I l D cy base M d bc bs (pc + 1) lv (va_rf none :: st) s Q) : EW I l D cy base M d bc bs (pc) lv (st) s Q := fun hp8 h8 => E.null hdg (k hp8 h8)
theorem EW.tableIn {dflt lo hi : Int} {offs : Array Int} {len : Nat} {x : Int32} {off : Int} (tgt : Nat) (hdg : decode M.2.1 pc = .ok (.tableswitch dflt lo hi offs, len)) (h1 : ¬ x.toInt < lo) (h2 : ¬ hi < x.toInt) (ho : offs[(x.toInt - lo).toNat]? = some off) (ht : (pc : Int) + off = (tgt : Int)) (k : EW I l D cy base M d bc bs (tgt) lv (st) s Q) : EW I l D cy base M d bc bs (pc) lv (.int x :: st) s Q := fun hp8 h8 => E.tableIn tgt hdg h1 h2 ho ht (k hp8 h8)
theorem EW.tableOut {dflt lo hi : Int} {offs : Array Int} {len : Nat} {x : Int32} (tgt : Nat) (hdg : decode M.2.1 pc = .ok (.tableswitch dflt lo hi offs, len)) (h : x.toInt < lo ∨ hi < x.toInt) (ht : (pc : Int) + dflt = (tgt : Int)) (k : EW I l D cy base M d bc bs (tgt) lv (st) s Q) : EW I l D cy base M d bc bs (pc) lv (.int x :: st) s Q := fun hp8 h8 => E.tableOut tgt hdg h ht (k hp8 h8)
theorem EW.lookup {dflt : Int} {ps : Array (Int × Int)} {len : Nat} {x : Int32} {off : Int} (tgt : Nat) (hdg : decode M.2.1 pc = .ok (.lookupswitch dflt ps, len)) (hp9 : (ps.toList.zip (ps.toList.drop 1)).all (fun (a, next) => a.1 < next.1) = true) (ho : Op.lookupswitch.offset ps.toList dflt x.toInt = off) (ht : (pc : Int) + off = (tgt : Int)) (k : EW I l D cy base M d bc bs (tgt) lv (st) s Q) : EW I l D cy base M d bc bs (pc) lv (.int x :: st) s Q := fun hp8 h8 => E.lookup tgt hdg hp9 ho ht (k hp8 h8)
theorem EW.fload_n {k9 : Fin 4} {i : Nat} {x : UInt32} (hdg : decode M.2.1 pc = .ok (.fload_n k9, 1)) (hi : (k9 : Nat) = i) (hg : lget lv i = some (.float x)) (k : EW I l D cy base M d bc bs (pc + 1) lv (.float x :: st) s Q) : EW I l D cy base M d bc bs (pc) lv (st) s Q := fun hp8 h8 => E.fload_n hdg hi hg (k hp8 h8)
theorem EW.fstore_n {k9 : Fin 4} {i : Nat} {x : UInt32} (hdg : decode M.2.1 pc = .ok (.fstore_n k9, 1)) (hi : (k9 : Nat) = i) (hn : i < M.2.2.2.1) (k : EW I l D cy base M d bc bs (pc + 1) (lset lv i (.float x)) (st) s Q) : EW I l D cy base M d bc bs (pc) lv (.float x :: st) s Q := fun hp8 h8 => E.fstore_n hdg hi hn (k hp8 h8)
theorem EW.iret {v : Int32} (hr : M.2.2.2.2.1 = some .int) (hdg : decode M.2.1 pc = .ok (.ireturn, 1)) (hq : Q (.inl (some (.int v))) s) : EW I l D cy base M d bc bs pc lv [.int v] s Q := fun hp8 h8 => E.iret hr hdg ⟨s, hq, h8⟩
theorem EW.fret {v : UInt32} (hr : M.2.2.2.2.1 = some .float) (hdg : decode M.2.1 pc = .ok (.freturn, 1)) (hq : Q (.inl (some (.float v))) s) : EW I l D cy base M d bc bs pc lv [.float v] s Q := fun hp8 h8 => E.fret hr hdg ⟨s, hq, h8⟩
theorem EW.zret {v : Int32} {ty : FieldType} (hr : M.2.2.2.2.1 = some ty) (hn : narrow ty (.int v) = .int v) (hdg : decode M.2.1 pc = .ok (.ireturn, 1)) (hq : Q (.inl (some (.int v))) s) : EW I l D cy base M d bc bs pc lv [.int v] s Q := fun hp8 h8 => E.zret hr hn hdg ⟨s, hq, h8⟩
theorem EW.vret (hr : M.2.2.2.2.1 = none) (hdg : decode M.2.1 pc = .ok (.return_, 1)) (hq : Q (.inl none) s) : EW I l D cy base M d bc bs pc lv [] s Q := fun hp8 h8 => E.vret hr hdg ⟨s, hq, h8⟩
theorem EW.aret {r : Option Nat} {nm : String} (hr : M.2.2.2.2.1 = some (.object nm)) (hdg : decode M.2.1 pc = .ok (.areturn, 1)) (hq : Q (.inl (some (va_rf r))) s) : EW I l D cy base M d bc bs pc lv [va_rf r] s Q := fun hp8 h8 => E.aret hr hdg ⟨s, hq, h8⟩
/-- invokevirtual, over states -/
theorem EW.callV {M' : Mth} {idx d' mc' ms' n b ci : Nat} {As rest : List Value} {Q' : Oc → S → Prop} (hM : MtW I l D cy base M' d' mc' ms' (.ref b :: As) s Q') (mf : MF M') (h0 : M'.2.2.2.2.2 = []) (ml : ML M.1 idx M') (mv : MV M' n) (hd : d' < d) (hdg : decode M.2.1 pc = .ok (.invokevirtual idx, 3)) (hst : st = As.reverse ++ .ref b :: rest) (hn : As.length = n) (hb : ∀ hp, I s hp → ∃ fs, hp b = some (.inr (ci, fs))) (hc : clx[ci]?.map (fun q => q.1) = some M'.2.2.1.cls) (hw : (rest.map fun v => v.category).sum ≤ 8)
    (kk : ∀ v s', Q' (.inl v) s' → EW I l D cy base M d bc bs (pc + 3) lv (v.toList ++ rest) s' Q) (kx : ∀ X s', Q' (.inr X) s' → EWX I l D cy base M d bc bs pc lv X s' Q) : EW I l D cy base M d (bc + mc') (bs + ms') pc lv st s Q := fun hp8 h8 => by
  obtain ⟨fs, hb⟩ := hb hp8 h8
  exact E.callV (hM hp8 h8) mf h0 ml mv hd hdg hst hn hb hc hw (fun v hp' ⟨s', q, i⟩ => kk v s' q hp' i) (fun X hp' ⟨s', q, i⟩ => kx X s' q hp' i)
theorem EW.callS {M' : Mth} {idx d' mc' ms' n : Nat} {As rest : List Value} {Q' : Oc → S → Prop} (hM : MtW I l D cy base M' d' mc' ms' As s Q') (mf : MF M') (h0 : M'.2.2.2.2.2 = []) (ml : ML M.1 idx M') (mv : MS M' n) (hd : d' < d) (hdg : decode M.2.1 pc = .ok (.invokestatic idx, 3)) (hst : st = As.reverse ++ rest) (hn : As.length = n) (hw : (rest.map fun v => v.category).sum ≤ 8)
    (kk : ∀ v s', Q' (.inl v) s' → EW I l D cy base M d bc bs (pc + 3) lv (v.toList ++ rest) s' Q) (kx : ∀ X s', Q' (.inr X) s' → EWX I l D cy base M d bc bs pc lv X s' Q) : EW I l D cy base M d (bc + mc') (bs + ms') pc lv st s Q := fun hp8 h8 =>
  E.callS (hM hp8 h8) mf h0 ml mv hd hdg hst hn hw (fun v hp' ⟨s', q, i⟩ => kk v s' q hp' i) (fun X hp' ⟨s', q, i⟩ => kx X s' q hp' i)
theorem EW.callSN {M' : Mth} {idx d' mc' ms' n : Nat} {As rest : List Value} {Q' : Oc → S → Prop} (hM : MtW I l D cy base M' d' mc' ms' As s Q') (mf : MF M') (h0 : M'.2.2.2.2.2 = []) (ml : MN M.1 idx M') (mv : MS M' n) (hd : d' < d) (hdg : decode M.2.1 pc = .ok (.invokestatic idx, 3)) (hst : st = As.reverse ++ rest) (hn : As.length = n) (hw : (rest.map fun v => v.category).sum ≤ 8) (hno : ∀ X s, ¬ Q' (.inr X) s)
    (kk : ∀ v s', Q' (.inl v) s' → EW I l D cy base M d bc bs (pc + 3) lv (v.toList ++ rest) s' Q) : EW I l D cy base M d (bc + mc') (bs + ms') pc lv st s Q := fun hp8 h8 =>
  E.callSN (hM hp8 h8) mf h0 ml mv hd hdg hst hn hw (fun X hp' ⟨s', q, _⟩ => hno X s' q) (fun v hp' ⟨s', q, i⟩ => kk v s' q hp' i)
theorem EWX.out {X : String} (h0 : M.2.2.2.2.2 = []) (hq : Q (.inr X) s) : EWX I l D cy base M d bc bs pc lv X s Q := fun _ h8 => EX.out h0 ⟨s, hq, h8⟩
end WORLD
end
section
/-! The reference: its int fields g and its arrays h, by the slots of the fields: 0 thrown, 1 typed, 2 pad, 3 letters, 4 input, 5 kind, 6 first, 7 second, 8 deep, 9 goesOn, 10 size, 11 outcome, 12 good, 13 memory, 14 worked, 15 had, 16 height, 17 waits, 18 places, 19 marks, 20 again, 21 ahead, 22 depth, 23 recording, 24 records, 25 recordRule, 26 recordFrom, 27 recordTo, 28 nodes, 29 nodeRule, 30 nodeFrom, 31 nodeTo, 32 nodeLevel, 33 pathNode, 34 pathChild, 35 open, 36 parts, 37 part, 38 rows, 39 row, 40 partsBefore, 41 rowsBefore, 42 sign; 43 is the object. -/
abbrev MSt : Type := (Nat → Int32) × (Nat → Nat → Int32)
def mFld (ad : Nat → Nat) (g : Nat → Int32) : List Value := [.int (g 0), .int (g 1), .ref (ad 2), .int (g 3), .ref (ad 4), .ref (ad 5), .ref (ad 6), .ref (ad 7), .ref (ad 8), .ref (ad 9), .ref (ad 10), .ref (ad 11), .ref (ad 12), .ref (ad 13), .int (g 14), .int (g 15), .int (g 16), .ref (ad 17), .ref (ad 18), .ref (ad 19), .ref (ad 20), .ref (ad 21), .int (g 22), .int (g 23), .int (g 24), .ref (ad 25), .ref (ad 26), .ref (ad 27), .int (g 28), .ref (ad 29), .ref (ad 30), .ref (ad 31), .ref (ad 32), .ref (ad 33), .ref (ad 34), .int (g 35), .int (g 36), .ref (ad 37), .int (g 38), .ref (ad 39), .ref (ad 40), .ref (ad 41), .ref (ad 42)]
def mLen (k : Nat) : Nat := match k with
  | 2 => 24
  | 4 => 20
  | 5 => 448
  | 6 => 448
  | 7 => 448
  | 8 => 448
  | 9 => 448
  | 10 => 7
  | 11 => 384
  | 12 => 384
  | 13 => 126
  | 17 => 960
  | 18 => 960
  | 19 => 960
  | 20 => 960
  | 21 => 960
  | 25 => 64
  | 26 => 64
  | 27 => 64
  | 29 => 60
  | 30 => 60
  | 31 => 60
  | 32 => 60
  | 33 => 64
  | 34 => 64
  | 37 => 32
  | 39 => 32
  | 40 => 8
  | 41 => 8
  | 42 => 8
  | _ => 0
def mTy (k : Nat) : Nat := match k with
  | 2 => 1
  | 9 => 3
  | 12 => 3
  | 20 => 3
  | 42 => 1
  | _ => 2
def mArr (k : Nat) : Bool := match k with
  | 2 => true
  | 4 => true
  | 5 => true
  | 6 => true
  | 7 => true
  | 8 => true
  | 9 => true
  | 10 => true
  | 11 => true
  | 12 => true
  | 13 => true
  | 17 => true
  | 18 => true
  | 19 => true
  | 20 => true
  | 21 => true
  | 25 => true
  | 26 => true
  | 27 => true
  | 29 => true
  | 30 => true
  | 31 => true
  | 32 => true
  | 33 => true
  | 34 => true
  | 37 => true
  | 39 => true
  | 40 => true
  | 41 => true
  | 42 => true
  | _ => false
def mInt (k : Nat) : Bool := match k with
  | 0 => true
  | 1 => true
  | 3 => true
  | 14 => true
  | 15 => true
  | 16 => true
  | 22 => true
  | 23 => true
  | 24 => true
  | 28 => true
  | 35 => true
  | 36 => true
  | 38 => true
  | _ => false
def mSlot (k : Nat) : Bool := mArr k || k == 43
def MW (cy : Nat → ClassId) (ad : Nat → Nat) (s : MSt) (hp : Hp) : Prop := hp (ad 43) = some (.inr (9, mFld ad s.1)) ∧ (∀ k, mArr k = true → hp (ad k) = some (.inl (cy (mTy k), mLen k, .inl (s.2 k)))) ∧ ∀ i j, mSlot i = true → mSlot j = true → ad i = ad j → i = j
/-- the reference's world, the rest of the heap as in hp0 -/
def IM (cy : Nat → ClassId) (ad : Nat → Nat) (hp0 : Hp) (s : MSt) (hp : Hp) : Prop := MW cy ad s hp ∧ ∀ a, (∀ k, mSlot k = true → a ≠ ad k) → hp a = hp0 a
theorem mFld_set (ad : Nat → Nat) (g : Nat → Int32) (v : Int32) : ∀ k, mInt k = true → (mFld ad g).set k (.int v) = mFld ad (va_up g k v) := by
  intro k hk
  match k, hk with
  | 0, _ => rfl
  | 1, _ => rfl
  | 3, _ => rfl
  | 14, _ => rfl
  | 15, _ => rfl
  | 16, _ => rfl
  | 22, _ => rfl
  | 23, _ => rfl
  | 24, _ => rfl
  | 28, _ => rfl
  | 35, _ => rfl
  | 36, _ => rfl
  | 38, _ => rfl
theorem mFld_len (ad : Nat → Nat) (g : Nat → Int32) : (mFld ad g).length = 43 := rfl
theorem mInt_lt : ∀ k, mInt k = true → k < 43 := by
  intro k hk
  match k, hk with
  | 0, _ => decide
  | 1, _ => decide
  | 3, _ => decide
  | 14, _ => decide
  | 15, _ => decide
  | 16, _ => decide
  | 22, _ => decide
  | 23, _ => decide
  | 24, _ => decide
  | 28, _ => decide
  | 35, _ => decide
  | 36, _ => decide
  | 38, _ => decide
theorem IM.put {cy : Nat → ClassId} {ad : Nat → Nat} {hp0 hp : Hp} {s : MSt} (h : IM cy ad hp0 s hp) {k : Nat} (hk : mInt k = true) (v : Int32) : IM cy ad hp0 (va_up s.1 k v, s.2) (va_up hp (ad 43) (some (.inr (9, (mFld ad s.1).set k (.int v))))) := by
  obtain ⟨⟨h1, h2, h3⟩, h4⟩ := h
  refine ⟨⟨?_, fun j hj => ?_, h3⟩, fun a ha => ?_⟩
  · rw [va_up_self, mFld_set ad s.1 v k hk]
  · have hne : ad j ≠ ad 43 := fun e => by
      have := h3 j 43 (by simp [mSlot, hj]) rfl e
      subst this
      cases hj
    rw [va_up_ne _ _ hne]
    exact h2 j hj
  · rw [va_up_ne _ _ (ha 43 rfl)]
    exact h4 a ha
theorem IM.arr {cy : Nat → ClassId} {ad : Nat → Nat} {hp0 hp : Hp} {s : MSt} (h : IM cy ad hp0 s hp) {k : Nat} (hk : mArr k = true) (f : Nat → Int32) : IM cy ad hp0 (s.1, va_up s.2 k f) (va_up hp (ad k) (some (.inl (cy (mTy k), mLen k, .inl f)))) := by
  obtain ⟨⟨h1, h2, h3⟩, h4⟩ := h
  have hs : mSlot k = true := by simp [mSlot, hk]
  refine ⟨⟨?_, fun j hj => ?_, h3⟩, fun a ha => ?_⟩
  · have hne : ad 43 ≠ ad k := fun e => by
      have := h3 43 k rfl hs e
      subst this
      cases hk
    rw [va_up_ne _ _ hne]
    exact h1
  · by_cases hjk : j = k
    · subst hjk
      rw [va_up_self]
      simp [va_up]
    · have hne : ad j ≠ ad k := fun e => hjk (h3 j k (by simp [mSlot, hj]) hs e)
      rw [va_up_ne _ _ hne, h2 j hj]
      simp [va_up, hjk]
  · rw [va_up_ne _ _ (ha k hs)]
    exact h4 a ha
section MODEL
variable {cy : Nat → ClassId} {ad : Nat → Nat} {hp0 : Hp} {l : Launch} {D : va_G} {base : Nat} {M : Mth} {d pc : Nat} {lv : List (Nat × Value)} {st : List Value} {s : MSt} {Q : Oc → MSt → Prop}
theorem EM.get {idx k : Nat} {ty : FieldType} {fin : Bool} {v : Value} (hf : FLD M.1 idx 9 k ty fin) (hdg : decode M.2.1 pc = .ok (.getfield idx, 3)) (hv9 : (mFld ad s.1)[k]? = some v) (kk : EW (IM cy ad hp0) l D cy base M d 0 0 (pc + 3) lv (v :: st) s Q) : EW (IM cy ad hp0) l D cy base M d 0 0 pc lv (.ref (ad 43) :: st) s Q :=
  fun hp h => E.get hf hdg h.1.1 hv9 (kk hp h)
theorem EM.put {idx k : Nat} {v : Int32} (hf : FLD M.1 idx 9 k .int false) (hdg : decode M.2.1 pc = .ok (.putfield idx, 3)) (hk : mInt k = true) (kk : EW (IM cy ad hp0) l D cy base M d 0 0 (pc + 3) lv st (va_up s.1 k v, s.2) Q) : EW (IM cy ad hp0) l D cy base M d 0 0 pc lv (.int v :: .ref (ad 43) :: st) s Q :=
  fun hp h => E.put hf hdg h.1.1 (mInt_lt k hk) rfl rfl (kk _ (h.put hk v))
theorem EM.putz {idx k : Nat} {v : Int32} (hf : FLD M.1 idx 9 k .boolean false) (hdg : decode M.2.1 pc = .ok (.putfield idx, 3)) (hk : mInt k = true) (hv : v = 0 ∨ v = 1) (kk : EW (IM cy ad hp0) l D cy base M d 0 0 (pc + 3) lv st (va_up s.1 k v, s.2) Q) : EW (IM cy ad hp0) l D cy base M d 0 0 pc lv (.int v :: .ref (ad 43) :: st) s Q :=
  fun hp h => E.put hf hdg h.1.1 (mInt_lt k hk) (by rcases hv with rfl | rfl <;> decide +kernel) (by rcases hv with rfl | rfl <;> decide +kernel) (kk _ (h.put hk v))
theorem EM.iald {k : Nat} {i : Int32} (hdg : decode M.2.1 pc = .ok (.iaload, 1)) (hk : mArr k = true) (ht : mTy k = 2) (hin : vp_in i (mLen k)) (kk : EW (IM cy ad hp0) l D cy base M d 0 0 (pc + 1) lv (.int (s.2 k i.toNatClampNeg) :: st) s Q) : EW (IM cy ad hp0) l D cy base M d 0 0 pc lv (.int i :: .ref (ad k) :: st) s Q :=
  fun hp h => E.iald hdg (by rw [← ht]; exact h.1.2.1 k hk) hin (kk hp h)
theorem EM.cald {k : Nat} {i : Int32} (hdg : decode M.2.1 pc = .ok (.caload, 1)) (hk : mArr k = true) (ht : mTy k = 1) (hin : vp_in i (mLen k)) (kk : EW (IM cy ad hp0) l D cy base M d 0 0 (pc + 1) lv (.int (s.2 k i.toNatClampNeg) :: st) s Q) : EW (IM cy ad hp0) l D cy base M d 0 0 pc lv (.int i :: .ref (ad k) :: st) s Q :=
  fun hp h => E.cald hdg (by rw [← ht]; exact h.1.2.1 k hk) hin (kk hp h)
theorem EM.zald {k : Nat} {i : Int32} (hdg : decode M.2.1 pc = .ok (.baload, 1)) (hk : mArr k = true) (ht : mTy k = 3) (hin : vp_in i (mLen k)) (kk : EW (IM cy ad hp0) l D cy base M d 0 0 (pc + 1) lv (.int (s.2 k i.toNatClampNeg) :: st) s Q) : EW (IM cy ad hp0) l D cy base M d 0 0 pc lv (.int i :: .ref (ad k) :: st) s Q :=
  fun hp h => E.zald hdg (by rw [← ht]; exact h.1.2.1 k hk) hin (kk hp h)
theorem EM.iast {k : Nat} {i x : Int32} (hdg : decode M.2.1 pc = .ok (.iastore, 1)) (hk : mArr k = true) (ht : mTy k = 2) (hin : vp_in i (mLen k)) (kk : EW (IM cy ad hp0) l D cy base M d 0 0 (pc + 1) lv st (s.1, va_up s.2 k (upd (s.2 k) i.toNatClampNeg x)) Q) : EW (IM cy ad hp0) l D cy base M d 0 0 pc lv (.int x :: .int i :: .ref (ad k) :: st) s Q :=
  fun hp h => E.iast hdg (by rw [← ht]; exact h.1.2.1 k hk) hin (kk _ (by rw [← ht]; exact h.arr hk _))
theorem EM.cast {k : Nat} {i x : Int32} (hdg : decode M.2.1 pc = .ok (.castore, 1)) (hk : mArr k = true) (ht : mTy k = 1) (hin : vp_in i (mLen k)) (kk : EW (IM cy ad hp0) l D cy base M d 0 0 (pc + 1) lv st (s.1, va_up s.2 k (upd (s.2 k) i.toNatClampNeg (vp_nar .char x))) Q) : EW (IM cy ad hp0) l D cy base M d 0 0 pc lv (.int x :: .int i :: .ref (ad k) :: st) s Q :=
  fun hp h => E.cast hdg (by rw [← ht]; exact h.1.2.1 k hk) hin (kk _ (by rw [← ht]; exact h.arr hk _))
theorem EM.zast {k : Nat} {i x : Int32} (hdg : decode M.2.1 pc = .ok (.bastore, 1)) (hk : mArr k = true) (ht : mTy k = 3) (hin : vp_in i (mLen k)) (kk : EW (IM cy ad hp0) l D cy base M d 0 0 (pc + 1) lv st (s.1, va_up s.2 k (upd (s.2 k) i.toNatClampNeg (vp_nar .boolean x))) Q) : EW (IM cy ad hp0) l D cy base M d 0 0 pc lv (.int x :: .int i :: .ref (ad k) :: st) s Q :=
  fun hp h => E.zast hdg (by rw [← ht]; exact h.1.2.1 k hk) hin (kk _ (by rw [← ht]; exact h.arr hk _))
theorem EM.alen {k t0 : Nat} {ty : FieldType} {v : Int32} (ht : (tyx cy)[mTy k]? = some (cy (mTy k), ty)) (hdg : decode M.2.1 pc = .ok (.arraylength, 1)) (hk : mArr k = true) (hv9 : Int32.ofNat (mLen k) = v) (kk : EW (IM cy ad hp0) l D cy base M d 0 0 (pc + 1) lv (.int v :: st) s Q) : EW (IM cy ad hp0) l D cy base M d 0 0 pc lv (.ref (ad k) :: st) s Q :=
  fun hp h => E.alen ht hdg (h.1.2.1 k hk) hv9 (kk hp h)
/-- a call of one of the reference's own methods -/
theorem EM.callV {M' : Mth} {idx d' n : Nat} {As rest : List Value} {Q' : Oc → MSt → Prop} (hM : MtW (IM cy ad hp0) l D cy base M' d' 0 0 (.ref (ad 43) :: As) s Q') (mf : MF M') (ml : ML M.1 idx M') (mv : MV M' n) (hd : d' < d) (hdg : decode M.2.1 pc = .ok (.invokevirtual idx, 3)) (hst : st = As.reverse ++ .ref (ad 43) :: rest) (hn : As.length = n) (hc : RX9 = M'.2.2.1.cls) (h0 : M'.2.2.2.2.2 = []) (hw : (rest.map fun v => v.category).sum ≤ 8) (hno : ∀ X s, ¬ Q' (.inr X) s)
    (kk : ∀ v s', Q' (.inl v) s' → EW (IM cy ad hp0) l D cy base M d 0 0 (pc + 3) lv (v.toList ++ rest) s' Q) : EW (IM cy ad hp0) l D cy base M d 0 0 pc lv st s Q :=
  EW.callV (bc := 0) (bs := 0) (ci := 9) hM mf h0 ml mv hd hdg hst hn (fun hp h => ⟨_, h.1.1⟩) (by rw [← hc]; rfl) hw kk (fun X s' q => absurd q (hno X s'))
end MODEL
end
section
theorem i_ofNat (n : Nat) : Int32.ofInt (n : Int) = nI n := by
  apply Int32.toBitVec_inj.mp
  show BitVec.ofInt 32 (n : Int) = BitVec.ofNat 32 n
  exact BitVec.ofInt_natCast 32 n
theorem nI_inc (a : Nat) : nI a + Int32.ofInt 1 = nI (a + 1) := by
  rw [show Int32.ofInt 1 = (1 : Int32) by decide +kernel]
  exact nI_1 a
theorem nI_dec {a : Nat} (h : 1 ≤ a) : nI a + Int32.ofInt (-1) = nI (a - 1) := by
  rw [show Int32.ofInt (-1) = (-1 : Int32) by decide +kernel]
  exact sb_m1 h
theorem i_8 {n : Nat} (h : n < 128) : (Int8.ofInt (n : Int)).toInt32 = nI n := by
  have : ∀ n : Nat, n < 128 → (Int8.ofInt (n : Int)).toInt32 = nI n := by decide +kernel
  exact this n h
theorem i_16 {n : Nat} (h : n < 32768) : (Int16.ofInt (n : Int)).toInt32 = nI n := by
  apply Int32.toInt_inj.mp
  rw [nI_toInt (by omega)]
  rw [Int16.toInt_toInt32, Int16.toInt_ofInt]
  rw [Int.bmod_def, show Int16.size = 65536 from rfl]
  omega
theorem nI_eq0 {n : Nat} (h : n < 2 ^ 31) : nI n = 0 ↔ n = 0 := by
  rw [← nI_0]
  exact nI_eq h (by decide)
theorem nI_gt0 {n : Nat} (h : n < 2 ^ 31) : 0 < nI n ↔ 0 < n := by
  rw [← nI_0]
  exact nI_ltI (by decide) h
theorem nI_le0 {n : Nat} (h : n < 2 ^ 31) : nI n ≤ 0 ↔ n = 0 := by
  rw [← nI_0, nI_leI h (by decide)]
  omega
section SMALL
variable {S : Type} {I : S → Hp → Prop} {cy : Nat → ClassId} {ad : Nat → Nat} {hp0 : Hp} {l : Launch} {D : va_G} {base : Nat} {M : Mth} {d bc bs pc : Nat} {lv : List (Nat × Value)} {st : List Value}
theorem EW.ic {s : S} {Q : Oc → S → Prop} (n : Nat) (hdg : decode M.2.1 pc = .ok (.iconst (n : Int), 1)) (k : EW I l D cy base M d bc bs (pc + 1) lv (.int (nI n) :: st) s Q) : EW I l D cy base M d bc bs pc lv st s Q := EW.iconst hdg (i_ofNat n) k
theorem EW.bp {s : S} {Q : Oc → S → Prop} (n : Nat) (hdg : decode M.2.1 pc = .ok (.bipush (n : Int), 2)) (k : EW I l D cy base M d bc bs (pc + 2) lv (.int (nI n) :: st) s Q) (hn : n < 128 := by decide) : EW I l D cy base M d bc bs pc lv st s Q := EW.bipush hdg (i_8 hn) k
theorem EW.sp {s : S} {Q : Oc → S → Prop} (n : Nat) (hdg : decode M.2.1 pc = .ok (.sipush (n : Int), 3)) (k : EW I l D cy base M d bc bs (pc + 3) lv (.int (nI n) :: st) s Q) (hn : n < 32768 := by decide) : EW I l D cy base M d bc bs pc lv st s Q := EW.sipush hdg (i_16 hn) k
variable {s : MSt} {Q : Oc → MSt → Prop}
theorem EM.ialdN {k : Nat} (i : Nat) (hdg : decode M.2.1 pc = .ok (.iaload, 1)) (hk : mArr k = true) (ht : mTy k = 2) (hin : i < mLen k ∧ mLen k < 2000) (kk : EW (IM cy ad hp0) l D cy base M d 0 0 (pc + 1) lv (.int (s.2 k i) :: st) s Q) : EW (IM cy ad hp0) l D cy base M d 0 0 pc lv (.int (nI i) :: .ref (ad k) :: st) s Q :=
  EM.iald hdg hk ht (vp_in_nI hin.1 (by omega)) (by rw [nI_clamp (by omega)]; exact kk)
theorem EM.caldN {k : Nat} (i : Nat) (hdg : decode M.2.1 pc = .ok (.caload, 1)) (hk : mArr k = true) (ht : mTy k = 1) (hin : i < mLen k ∧ mLen k < 2000) (kk : EW (IM cy ad hp0) l D cy base M d 0 0 (pc + 1) lv (.int (s.2 k i) :: st) s Q) : EW (IM cy ad hp0) l D cy base M d 0 0 pc lv (.int (nI i) :: .ref (ad k) :: st) s Q :=
  EM.cald hdg hk ht (vp_in_nI hin.1 (by omega)) (by rw [nI_clamp (by omega)]; exact kk)
theorem EM.zaldN {k : Nat} (i : Nat) (hdg : decode M.2.1 pc = .ok (.baload, 1)) (hk : mArr k = true) (ht : mTy k = 3) (hin : i < mLen k ∧ mLen k < 2000) (kk : EW (IM cy ad hp0) l D cy base M d 0 0 (pc + 1) lv (.int (s.2 k i) :: st) s Q) : EW (IM cy ad hp0) l D cy base M d 0 0 pc lv (.int (nI i) :: .ref (ad k) :: st) s Q :=
  EM.zald hdg hk ht (vp_in_nI hin.1 (by omega)) (by rw [nI_clamp (by omega)]; exact kk)
theorem EM.iastN {k : Nat} {x : Int32} (i : Nat) (hdg : decode M.2.1 pc = .ok (.iastore, 1)) (hk : mArr k = true) (ht : mTy k = 2) (hin : i < mLen k ∧ mLen k < 2000) (kk : EW (IM cy ad hp0) l D cy base M d 0 0 (pc + 1) lv st (s.1, va_up s.2 k (upd (s.2 k) i x)) Q) : EW (IM cy ad hp0) l D cy base M d 0 0 pc lv (.int x :: .int (nI i) :: .ref (ad k) :: st) s Q :=
  EM.iast hdg hk ht (vp_in_nI hin.1 (by omega)) (by rw [nI_clamp (by omega)]; exact kk)
theorem EM.castN {k : Nat} {x : Int32} (i : Nat) (hdg : decode M.2.1 pc = .ok (.castore, 1)) (hk : mArr k = true) (ht : mTy k = 1) (hin : i < mLen k ∧ mLen k < 2000) (kk : EW (IM cy ad hp0) l D cy base M d 0 0 (pc + 1) lv st (s.1, va_up s.2 k (upd (s.2 k) i (vp_nar .char x))) Q) : EW (IM cy ad hp0) l D cy base M d 0 0 pc lv (.int x :: .int (nI i) :: .ref (ad k) :: st) s Q :=
  EM.cast hdg hk ht (vp_in_nI hin.1 (by omega)) (by rw [nI_clamp (by omega)]; exact kk)
theorem EM.zastN {k : Nat} {x : Int32} (i : Nat) (hdg : decode M.2.1 pc = .ok (.bastore, 1)) (hk : mArr k = true) (ht : mTy k = 3) (hin : i < mLen k ∧ mLen k < 2000) (kk : EW (IM cy ad hp0) l D cy base M d 0 0 (pc + 1) lv st (s.1, va_up s.2 k (upd (s.2 k) i (vp_nar .boolean x))) Q) : EW (IM cy ad hp0) l D cy base M d 0 0 pc lv (.int x :: .int (nI i) :: .ref (ad k) :: st) s Q :=
  EM.zast hdg hk ht (vp_in_nI hin.1 (by omega)) (by rw [nI_clamp (by omega)]; exact kk)
end SMALL
end
section
theorem nI_1v : nI 1 = 1 := by decide +kernel
theorem nI_0v : nI 0 = 0 := by decide +kernel
theorem nI_lits : nI 97 = 97 ∧ nI 105 = 105 ∧ nI 65 = 65 ∧ nI 70 = 70 := by decide +kernel
section M1
variable {cy : Nat → ClassId} {ad : Nat → Nat} {hp0 : Hp} {l : Launch} {D : va_G} {base : Nat}
set_option maxHeartbeats 4000000 in
theorem M_in (hl : l.stackTraces = false) {S : Type} (I : S → Hp → Prop) (d : Nat) (s : S) (v lo hi : Int32) : MtW I l D cy base mX9_in d 0 0 [.int v, .int lo, .int hi] s (fun o s2 => o = .inl (some (.int (if lo ≤ v ∧ v ≤ hi then 1 else 0))) ∧ s2 = s) := by
  refine MtW.of hl mfX9_in rfl (Nat.le_of_ble_eq_true rfl) ?_
  refine EW.iload_n dX9_in_0 rfl rfl ?_
  refine EW.iload_n dX9_in_1 rfl rfl ?_
  refine EW.icmp_lt 14 dX9_in_2 (by decide) (fun c2 => ?_) (fun c2 => ?_)
  · refine EW.ic 0 dX9_in_14 ?_
    refine EW.zret (ty := .boolean) rfl (by decide +kernel) dX9_in_15 ?_
    refine ⟨?_, rfl⟩; simp only [Int32.lt_iff_toInt_lt, Int32.le_iff_toInt_le, nI_1v, nI_0v, nI_lits] at *; split <;> first | rfl | omega
  · refine EW.iload_n dX9_in_5 rfl rfl ?_
    refine EW.iload_n dX9_in_6 rfl rfl ?_
    refine EW.icmp_gt 14 dX9_in_7 (by decide) (fun c7 => ?_) (fun c7 => ?_)
    · refine EW.ic 0 dX9_in_14 ?_
      refine EW.zret (ty := .boolean) rfl (by decide +kernel) dX9_in_15 ?_
      refine ⟨?_, rfl⟩; simp only [Int32.lt_iff_toInt_lt, Int32.le_iff_toInt_le, nI_1v, nI_0v, nI_lits] at *; split <;> first | rfl | omega
    · refine EW.ic 1 dX9_in_10 ?_
      refine EW.goto 15 dX9_in_11 (by decide) ?_
      refine EW.zret (ty := .boolean) rfl (by decide +kernel) dX9_in_15 ?_
      refine ⟨?_, rfl⟩; simp only [Int32.lt_iff_toInt_lt, Int32.le_iff_toInt_le, nI_1v, nI_0v, nI_lits] at *; split <;> first | rfl | omega
set_option maxHeartbeats 4000000 in
theorem M_isLetter (hl : l.stackTraces = false) {S : Type} (I : S → Hp → Prop) (d : Nat) (s : S) (c : Int32) : MtW I l D cy base mX9_isLetter d 0 0 [.int c] s (fun o s2 => o = .inl (some (.int (if 97 ≤ c ∧ c ≤ 105 then 1 else 0))) ∧ s2 = s) := by
  refine MtW.of hl mfX9_isLetter rfl (Nat.le_of_ble_eq_true rfl) ?_
  refine EW.iload_n dX9_isLetter_0 rfl rfl ?_
  refine EW.bp 97 dX9_isLetter_1 ?_
  refine EW.icmp_lt 16 dX9_isLetter_3 (by decide) (fun c3 => ?_) (fun c3 => ?_)
  · refine EW.ic 0 dX9_isLetter_16 ?_
    refine EW.zret (ty := .boolean) rfl (by decide +kernel) dX9_isLetter_17 ?_
    refine ⟨?_, rfl⟩; simp only [Int32.lt_iff_toInt_lt, Int32.le_iff_toInt_le, nI_1v, nI_0v, nI_lits] at *; split <;> first | rfl | omega
  · refine EW.iload_n dX9_isLetter_6 rfl rfl ?_
    refine EW.bp 105 dX9_isLetter_7 ?_
    refine EW.icmp_gt 16 dX9_isLetter_9 (by decide) (fun c9 => ?_) (fun c9 => ?_)
    · refine EW.ic 0 dX9_isLetter_16 ?_
      refine EW.zret (ty := .boolean) rfl (by decide +kernel) dX9_isLetter_17 ?_
      refine ⟨?_, rfl⟩; simp only [Int32.lt_iff_toInt_lt, Int32.le_iff_toInt_le, nI_1v, nI_0v, nI_lits] at *; split <;> first | rfl | omega
    · refine EW.ic 1 dX9_isLetter_12 ?_
      refine EW.goto 17 dX9_isLetter_13 (by decide) ?_
      refine EW.zret (ty := .boolean) rfl (by decide +kernel) dX9_isLetter_17 ?_
      refine ⟨?_, rfl⟩; simp only [Int32.lt_iff_toInt_lt, Int32.le_iff_toInt_le, nI_1v, nI_0v, nI_lits] at *; split <;> first | rfl | omega
set_option maxHeartbeats 4000000 in
theorem M_isRule (hl : l.stackTraces = false) {S : Type} (I : S → Hp → Prop) (d : Nat) (s : S) (c : Int32) : MtW I l D cy base mX9_isRule d 0 0 [.int c] s (fun o s2 => o = .inl (some (.int (if 65 ≤ c ∧ c ≤ 70 then 1 else 0))) ∧ s2 = s) := by
  refine MtW.of hl mfX9_isRule rfl (Nat.le_of_ble_eq_true rfl) ?_
  refine EW.iload_n dX9_isRule_0 rfl rfl ?_
  refine EW.bp 65 dX9_isRule_1 ?_
  refine EW.icmp_lt 16 dX9_isRule_3 (by decide) (fun c3 => ?_) (fun c3 => ?_)
  · refine EW.ic 0 dX9_isRule_16 ?_
    refine EW.zret (ty := .boolean) rfl (by decide +kernel) dX9_isRule_17 ?_
    refine ⟨?_, rfl⟩; simp only [Int32.lt_iff_toInt_lt, Int32.le_iff_toInt_le, nI_1v, nI_0v, nI_lits] at *; split <;> first | rfl | omega
  · refine EW.iload_n dX9_isRule_6 rfl rfl ?_
    refine EW.bp 70 dX9_isRule_7 ?_
    refine EW.icmp_gt 16 dX9_isRule_9 (by decide) (fun c9 => ?_) (fun c9 => ?_)
    · refine EW.ic 0 dX9_isRule_16 ?_
      refine EW.zret (ty := .boolean) rfl (by decide +kernel) dX9_isRule_17 ?_
      refine ⟨?_, rfl⟩; simp only [Int32.lt_iff_toInt_lt, Int32.le_iff_toInt_le, nI_1v, nI_0v, nI_lits] at *; split <;> first | rfl | omega
    · refine EW.ic 1 dX9_isRule_12 ?_
      refine EW.goto 17 dX9_isRule_13 (by decide) ?_
      refine EW.zret (ty := .boolean) rfl (by decide +kernel) dX9_isRule_17 ?_
      refine ⟨?_, rfl⟩; simp only [Int32.lt_iff_toInt_lt, Int32.le_iff_toInt_le, nI_1v, nI_0v, nI_lits] at *; split <;> first | rfl | omega
set_option maxHeartbeats 4000000 in
theorem M_bit (hl : l.stackTraces = false) {S : Type} (I : S → Hp → Prop) (d : Nat) (s : S) (b v : Int32) : MtW I l D cy base mX9_bit d 0 0 [.int b, .int v] s (fun o s2 => o = .inl (some (.int (if b = 0 then 0 else v))) ∧ s2 = s) := by
  refine MtW.of hl mfX9_bit rfl (Nat.le_of_ble_eq_true rfl) ?_
  refine EW.iload_n dX9_bit_0 rfl rfl ?_
  refine EW.if_eq 8 dX9_bit_1 (by decide) (fun c1 => ?_) (fun c1 => ?_)
  · refine EW.ic 0 dX9_bit_8 ?_
    refine EW.iret rfl dX9_bit_9 ?_
    exact ⟨by simp_all [nI_1v, nI_0v], rfl⟩
  · refine EW.iload_n dX9_bit_4 rfl rfl ?_
    refine EW.goto 9 dX9_bit_5 (by decide) ?_
    refine EW.iret rfl dX9_bit_9 ?_
    exact ⟨by simp_all [nI_1v, nI_0v], rfl⟩
set_option maxHeartbeats 4000000 in
theorem M_has (hl : l.stackTraces = false) {S : Type} (I : S → Hp → Prop) (d : Nat) (s : S) (o9 b : Int32) : MtW I l D cy base mX9_has d 0 0 [.int o9, .int b] s (fun o s2 => o = .inl (some (.int (if o9 &&& b = 0 then 0 else 1))) ∧ s2 = s) := by
  refine MtW.of hl mfX9_has rfl (Nat.le_of_ble_eq_true rfl) ?_
  refine EW.iload_n dX9_has_0 rfl rfl ?_
  refine EW.iload_n dX9_has_1 rfl rfl ?_
  refine EW.iand dX9_has_2 ?_
  refine EW.if_eq 10 dX9_has_3 (by decide) (fun c3 => ?_) (fun c3 => ?_)
  · refine EW.ic 0 dX9_has_10 ?_
    refine EW.zret (ty := .boolean) rfl (by decide +kernel) dX9_has_11 ?_
    exact ⟨by simp_all [nI_1v, nI_0v], rfl⟩
  · refine EW.ic 1 dX9_has_6 ?_
    refine EW.goto 11 dX9_has_7 (by decide) ?_
    refine EW.zret (ty := .boolean) rfl (by decide +kernel) dX9_has_11 ?_
    exact ⟨by simp_all [nI_1v, nI_0v], rfl⟩
end M1
end
section
/-! The class's world. Cells by number: 0 the object; 1 pad, 2 its row; 3 input, 4 its row; 5 reader; 6 grammar, 7 its expressions; 8 memory, 9 gave, 10 belowSizes, 11 below; 12 matcher; 13 tree, 14 its rows, 15 to 18 each of them. Ints: 0 pad's size, 1 input's size, 2 at, 3 ruleRead, 4 verdict, 5 begun, 6 remembered, 7 the tree's size. -/
abbrev ND : Type := Int32 × Int32 × Int32 × Option Nat × Option Nat × Option Nat × Int32 × Int32
abbrev CSt : Type := (Nat → Int32) × (Nat → Nat → Int32) × Option Nat × (Nat → Option Nat) × (Nat → Option ND) × (Nat → Option (Option Nat × Option Nat))
def ndF (n : ND) : List Value := [.int n.1, .int n.2.1, .int n.2.2.1, va_rf n.2.2.2.1, va_rf n.2.2.2.2.1, va_rf n.2.2.2.2.2.1, .int n.2.2.2.2.2.2.1, .int n.2.2.2.2.2.2.2]
def cCell (cy : Nat → ClassId) (ax : Nat → Nat) (s : CSt) (k : Nat) : va_E := match k with
  | 0 => .inr (8, [.ref (ax 1), .ref (ax 3), .ref (ax 5), .ref (ax 6), .ref (ax 8), .ref (ax 12), .ref (ax 13)])
  | 1 => .inr (0, [.ref (ax 2), .int (s.1 0)])
  | 2 => .inl (cy 1, 24, .inl (s.2.1 2))
  | 3 => .inr (0, [.ref (ax 4), .int (s.1 1)])
  | 4 => .inl (cy 1, 20, .inl (s.2.1 4))
  | 5 => .inr (6, [.ref (ax 1), va_rf s.2.2.1, .int (s.1 2), .int (s.1 3)])
  | 6 => .inr (2, [.ref (ax 7), .int (s.1 4)])
  | 7 => .inl (cy 5, 6, .inr (.inr (.inr (.inr s.2.2.2.1))))
  | 8 => .inr (4, [.ref (ax 9), .ref (ax 10), .ref (ax 11)])
  | 9 => .inl (cy 2, 126, .inl (s.2.1 9))
  | 10 => .inl (cy 2, 126, .inl (s.2.1 10))
  | 11 => .inl (cy 0, 7560, .inl (s.2.1 11))
  | 12 => .inr (3, [.ref (ax 6), .ref (ax 3), .ref (ax 8), .int (s.1 5), .int (s.1 6)])
  | 13 => .inr (7, [.ref (ax 14), .int (s.1 7)])
  | 14 => .inl (cy 6, 4, .inr (.inr (.inr (.inr (fun i => if i < 4 then some (ax (15 + i)) else none)))))
  | 15 => .inl (cy 2, 60, .inl (s.2.1 15))
  | 16 => .inl (cy 2, 60, .inl (s.2.1 16))
  | 17 => .inl (cy 2, 60, .inl (s.2.1 17))
  | _ => .inl (cy 2, 60, .inl (s.2.1 18))
def IC (cy : Nat → ClassId) (ax : Nat → Nat) (hp0 : Hp) (s : CSt) (hp : Hp) : Prop :=
  (∀ k, k < 19 → hp (ax k) = some (cCell cy ax s k)) ∧ (∀ i j, i < 19 → j < 19 → ax i = ax j → i = j) ∧ (∀ a n, s.2.2.2.2.1 a = some n → hp a = some (.inr (5, ndF n))) ∧ (∀ a e, s.2.2.2.2.2 a = some e → hp a = some (.inr (1, [va_rf e.1, va_rf e.2]))) ∧ ∀ a, (∀ k, k < 19 → a ≠ ax k) → s.2.2.2.2.1 a = none → s.2.2.2.2.2 a = none → hp a = hp0 a
theorem cCell_no5 {cy : Nat → ClassId} {ax : Nat → Nat} {s : CSt} {k : Nat} (hk : k < 19) (f : List Value) : cCell cy ax s k ≠ .inr (5, f) ∧ cCell cy ax s k ≠ .inr (1, f) := by
  have : k = 0 ∨ k = 1 ∨ k = 2 ∨ k = 3 ∨ k = 4 ∨ k = 5 ∨ k = 6 ∨ k = 7 ∨ k = 8 ∨ k = 9 ∨ k = 10 ∨ k = 11 ∨ k = 12 ∨ k = 13 ∨ k = 14 ∨ k = 15 ∨ k = 16 ∨ k = 17 ∨ k = 18 := by omega
  rcases this with rfl | rfl | rfl | rfl | rfl | rfl | rfl | rfl | rfl | rfl | rfl | rfl | rfl | rfl | rfl | rfl | rfl | rfl | rfl <;> exact ⟨fun h => by simp [cCell] at h, fun h => by simp [cCell] at h⟩
theorem IC.ndne {cy : Nat → ClassId} {ax : Nat → Nat} {hp0 hp : Hp} {s : CSt} (h : IC cy ax hp0 s hp) {a : Nat} {n : ND} (hn : s.2.2.2.2.1 a = some n) : ∀ k, k < 19 → a ≠ ax k := fun k hk e => by
  have h1 := h.2.2.1 a n hn
  rw [e, h.1 k hk] at h1
  exact (cCell_no5 hk _).1 (Option.some.inj h1)
theorem IC.exne {cy : Nat → ClassId} {ax : Nat → Nat} {hp0 hp : Hp} {s : CSt} (h : IC cy ax hp0 s hp) {a : Nat} {n : Option Nat × Option Nat} (hn : s.2.2.2.2.2 a = some n) : ∀ k, k < 19 → a ≠ ax k := fun k hk e => by
  have h1 := h.2.2.2.1 a n hn
  rw [e, h.1 k hk] at h1
  exact (cCell_no5 hk _).2 (Option.some.inj h1)
theorem IC.apart {cy : Nat → ClassId} {ax : Nat → Nat} {hp0 hp : Hp} {s : CSt} (h : IC cy ax hp0 s hp) {a b : Nat} {n : ND} {e : Option Nat × Option Nat} (hn : s.2.2.2.2.1 a = some n) (he : s.2.2.2.2.2 b = some e) : a ≠ b := fun q => by
  subst q
  have h1 := (h.2.2.1 a n hn).symm.trans (h.2.2.2.1 a e he)
  simp at h1
/-- one fixed cell changes -/
theorem IC.cell {cy : Nat → ClassId} {ax : Nat → Nat} {hp0 hp : Hp} {s s' : CSt} (h : IC cy ax hp0 s hp) {k : Nat} {c : va_E} (hk : k < 19) (hc : cCell cy ax s' k = c) (ho : ∀ j, j < 19 → j ≠ k → cCell cy ax s' j = cCell cy ax s j) (hn : s'.2.2.2.2 = s.2.2.2.2) : IC cy ax hp0 s' (va_up hp (ax k) (some c)) := by
  obtain ⟨h1, h2, h3, h4, h5⟩ := id h
  refine ⟨fun j hj => ?_, h2, fun a n ha => ?_, fun a e ha => ?_, fun a ha g1 g2 => ?_⟩
  · by_cases hjk : j = k
    · subst hjk
      rw [va_up_self, hc]
    · rw [va_up_ne _ _ (fun e => hjk (h2 j k hj hk e)), h1 j hj, ho j hj hjk]
  · rw [hn] at ha
    rw [va_up_ne _ _ (h.ndne ha k hk)]
    exact h3 a n ha
  · rw [hn] at ha
    rw [va_up_ne _ _ (h.exne ha k hk)]
    exact h4 a e ha
  · rw [hn] at g1 g2
    rw [va_up_ne _ _ (ha k hk)]
    exact h5 a ha g1 g2
def ndP (s : CSt) (f : Nat → Option ND) : CSt := (s.1, s.2.1, s.2.2.1, s.2.2.2.1, f, s.2.2.2.2.2)
def exP (s : CSt) (f : Nat → Option (Option Nat × Option Nat)) : CSt := (s.1, s.2.1, s.2.2.1, s.2.2.2.1, s.2.2.2.2.1, f)
/-- a node changes, or comes -/
theorem IC.nd {cy : Nat → ClassId} {ax : Nat → Nat} {hp0 hp : Hp} {s : CSt} (h : IC cy ax hp0 s hp) {a : Nat} (n : ND) (ha : (∃ n0, s.2.2.2.2.1 a = some n0) ∨ hp a = none) : IC cy ax hp0 (ndP s (va_up s.2.2.2.2.1 a (some n))) (va_up hp a (some (.inr (5, ndF n)))) := by
  obtain ⟨h1, h2, h3, h4, h5⟩ := id h
  have hx : ∀ k, k < 19 → a ≠ ax k := by
    rcases ha with ⟨n0, ha⟩ | ha
    · exact h.ndne ha
    · intro k hk e
      rw [e, h1 k hk] at ha
      cases ha
  have hy : ∀ b e, s.2.2.2.2.2 b = some e → b ≠ a := by
    intro b e hb q
    rcases ha with ⟨n0, ha⟩ | ha
    · exact h.apart ha hb q.symm
    · rw [← q, h4 b e hb] at ha
      cases ha
  refine ⟨fun j hj => ?_, h2, fun b m hb => ?_, fun b e hb => ?_, fun b hb g1 g2 => ?_⟩
  · rw [va_up_ne _ _ (fun e => hx j hj e.symm)]
    exact h1 j hj
  · by_cases hba : b = a
    · subst hba
      have hb : va_up s.2.2.2.2.1 b (some n) b = some m := hb
      rw [va_up_self] at hb ⊢
      rw [Option.some.inj hb]
    · have hb : va_up s.2.2.2.2.1 a (some n) b = some m := hb
      rw [va_up_ne _ _ hba] at hb ⊢
      exact h3 b m hb
  · rw [va_up_ne _ _ (hy b e hb)]
    exact h4 b e hb
  · have g1 : va_up s.2.2.2.2.1 a (some n) b = none := g1
    by_cases hba : b = a
    · subst hba
      rw [va_up_self] at g1
      cases g1
    · rw [va_up_ne _ _ hba] at g1 ⊢
      exact h5 b hb g1 g2
/-- an expression changes, or comes -/
theorem IC.ex {cy : Nat → ClassId} {ax : Nat → Nat} {hp0 hp : Hp} {s : CSt} (h : IC cy ax hp0 s hp) {a : Nat} (n : Option Nat × Option Nat) (ha : (∃ n0, s.2.2.2.2.2 a = some n0) ∨ hp a = none) : IC cy ax hp0 (exP s (va_up s.2.2.2.2.2 a (some n))) (va_up hp a (some (.inr (1, [va_rf n.1, va_rf n.2])))) := by
  obtain ⟨h1, h2, h3, h4, h5⟩ := id h
  have hx : ∀ k, k < 19 → a ≠ ax k := by
    rcases ha with ⟨n0, ha⟩ | ha
    · exact h.exne ha
    · intro k hk e
      rw [e, h1 k hk] at ha
      cases ha
  have hy : ∀ b e, s.2.2.2.2.1 b = some e → b ≠ a := by
    intro b e hb q
    rcases ha with ⟨n0, ha⟩ | ha
    · exact h.apart hb ha q
    · rw [← q, h3 b e hb] at ha
      cases ha
  refine ⟨fun j hj => ?_, h2, fun b m hb => ?_, fun b e hb => ?_, fun b hb g1 g2 => ?_⟩
  · rw [va_up_ne _ _ (fun e => hx j hj e.symm)]
    exact h1 j hj
  · rw [va_up_ne _ _ (hy b m hb)]
    exact h3 b m hb
  · by_cases hba : b = a
    · subst hba
      have hb : va_up s.2.2.2.2.2 b (some n) b = some e := hb
      rw [va_up_self] at hb ⊢
      rw [Option.some.inj hb]
    · have hb : va_up s.2.2.2.2.2 a (some n) b = some e := hb
      rw [va_up_ne _ _ hba] at hb ⊢
      exact h4 b e hb
  · have g2 : va_up s.2.2.2.2.2 a (some n) b = none := g2
    by_cases hba : b = a
    · subst hba
      rw [va_up_self] at g2
      cases g2
    · rw [va_up_ne _ _ hba] at g2 ⊢
      exact h5 b hb g1 g2
theorem k19 {P : Nat → Prop} (h : P 0 ∧ P 1 ∧ P 2 ∧ P 3 ∧ P 4 ∧ P 5 ∧ P 6 ∧ P 7 ∧ P 8 ∧ P 9 ∧ P 10 ∧ P 11 ∧ P 12 ∧ P 13 ∧ P 14 ∧ P 15 ∧ P 16 ∧ P 17 ∧ P 18) : ∀ k, k < 19 → P k := by
  intro k hk
  have : k = 0 ∨ k = 1 ∨ k = 2 ∨ k = 3 ∨ k = 4 ∨ k = 5 ∨ k = 6 ∨ k = 7 ∨ k = 8 ∨ k = 9 ∨ k = 10 ∨ k = 11 ∨ k = 12 ∨ k = 13 ∨ k = 14 ∨ k = 15 ∨ k = 16 ∨ k = 17 ∨ k = 18 := by omega
  obtain ⟨h0, h1, h2, h3, h4, h5, h6, h7, h8, h9, h10, h11, h12, h13, h14, h15, h16, h17, h18⟩ := h
  rcases this with rfl | rfl | rfl | rfl | rfl | rfl | rfl | rfl | rfl | rfl | rfl | rfl | rfl | rfl | rfl | rfl | rfl | rfl | rfl <;> assumption
/-- which cell an int or an array belongs to -/
def cI (i : Nat) : Nat × Nat := match i with
  | 0 => (1, 1)
  | 1 => (3, 1)
  | 2 => (5, 2)
  | 3 => (5, 3)
  | 4 => (6, 1)
  | 5 => (12, 3)
  | 6 => (12, 4)
  | _ => (13, 1)
section KLASS
variable {cy : Nat → ClassId} {ax : Nat → Nat} {hp0 : Hp} {l : Launch} {D : va_G} {base : Nat} {M : Mth} {d bc bs pc : Nat} {lv : List (Nat × Value)} {st : List Value} {s : CSt} {Q : Oc → CSt → Prop}
theorem EC.get {idx ci k j : Nat} {ty : FieldType} {fin : Bool} {fs : List Value} {v : Value} (hf : FLD M.1 idx ci j ty fin) (hdg : decode M.2.1 pc = .ok (.getfield idx, 3)) (hk : k < 19) (hc : cCell cy ax s k = .inr (ci, fs)) (hv9 : fs[j]? = some v) (kk : EW (IC cy ax hp0) l D cy base M d bc bs (pc + 3) lv (v :: st) s Q) : EW (IC cy ax hp0) l D cy base M d bc bs pc lv (.ref (ax k) :: st) s Q :=
  fun hp h => E.get hf hdg (by rw [h.1 k hk, hc]) hv9 (kk hp h)
theorem EC.ndget {idx j a : Nat} {ty : FieldType} {fin : Bool} {n : ND} {v : Value} (hf : FLD M.1 idx 5 j ty fin) (hdg : decode M.2.1 pc = .ok (.getfield idx, 3)) (hn : s.2.2.2.2.1 a = some n) (hv9 : (ndF n)[j]? = some v) (kk : EW (IC cy ax hp0) l D cy base M d bc bs (pc + 3) lv (v :: st) s Q) : EW (IC cy ax hp0) l D cy base M d bc bs pc lv (.ref a :: st) s Q :=
  fun hp h => E.get hf hdg (h.2.2.1 a n hn) hv9 (kk hp h)
theorem EC.exget {idx j a : Nat} {ty : FieldType} {fin : Bool} {n : Option Nat × Option Nat} {v : Value} (hf : FLD M.1 idx 1 j ty fin) (hdg : decode M.2.1 pc = .ok (.getfield idx, 3)) (hn : s.2.2.2.2.2 a = some n) (hv9 : ([va_rf n.1, va_rf n.2] : List Value)[j]? = some v) (kk : EW (IC cy ax hp0) l D cy base M d bc bs (pc + 3) lv (v :: st) s Q) : EW (IC cy ax hp0) l D cy base M d bc bs pc lv (.ref a :: st) s Q :=
  fun hp h => E.get hf hdg (h.2.2.2.1 a n hn) hv9 (kk hp h)
theorem EC.put0 {idx : Nat} {v : Int32} (hf : FLD M.1 idx 0 1 .int false) (hdg : decode M.2.1 pc = .ok (.putfield idx, 3)) (kk : EW (IC cy ax hp0) l D cy base M d bc bs (pc + 3) lv st (va_up s.1 0 v, s.2) Q) : EW (IC cy ax hp0) l D cy base M d bc bs pc lv (.int v :: .ref (ax 1) :: st) s Q :=
  fun hp h => E.put hf hdg (h.1 1 (by decide)) (Nat.le_of_ble_eq_true rfl) rfl rfl (kk _ (h.cell (s' := (va_up s.1 0 v, s.2)) (by decide) rfl (k19 ⟨fun _ => rfl, fun h => absurd rfl h, fun _ => rfl, fun _ => rfl, fun _ => rfl, fun _ => rfl, fun _ => rfl, fun _ => rfl, fun _ => rfl, fun _ => rfl, fun _ => rfl, fun _ => rfl, fun _ => rfl, fun _ => rfl, fun _ => rfl, fun _ => rfl, fun _ => rfl, fun _ => rfl, fun _ => rfl⟩) rfl))
theorem EC.put1 {idx : Nat} {v : Int32} (hf : FLD M.1 idx 0 1 .int false) (hdg : decode M.2.1 pc = .ok (.putfield idx, 3)) (kk : EW (IC cy ax hp0) l D cy base M d bc bs (pc + 3) lv st (va_up s.1 1 v, s.2) Q) : EW (IC cy ax hp0) l D cy base M d bc bs pc lv (.int v :: .ref (ax 3) :: st) s Q :=
  fun hp h => E.put hf hdg (h.1 3 (by decide)) (Nat.le_of_ble_eq_true rfl) rfl rfl (kk _ (h.cell (s' := (va_up s.1 1 v, s.2)) (by decide) rfl (k19 ⟨fun _ => rfl, fun _ => rfl, fun _ => rfl, fun h => absurd rfl h, fun _ => rfl, fun _ => rfl, fun _ => rfl, fun _ => rfl, fun _ => rfl, fun _ => rfl, fun _ => rfl, fun _ => rfl, fun _ => rfl, fun _ => rfl, fun _ => rfl, fun _ => rfl, fun _ => rfl, fun _ => rfl, fun _ => rfl⟩) rfl))
theorem EC.put2 {idx : Nat} {v : Int32} (hf : FLD M.1 idx 6 2 .int false) (hdg : decode M.2.1 pc = .ok (.putfield idx, 3)) (kk : EW (IC cy ax hp0) l D cy base M d bc bs (pc + 3) lv st (va_up s.1 2 v, s.2) Q) : EW (IC cy ax hp0) l D cy base M d bc bs pc lv (.int v :: .ref (ax 5) :: st) s Q :=
  fun hp h => E.put hf hdg (h.1 5 (by decide)) (Nat.le_of_ble_eq_true rfl) rfl rfl (kk _ (h.cell (s' := (va_up s.1 2 v, s.2)) (by decide) rfl (k19 ⟨fun _ => rfl, fun _ => rfl, fun _ => rfl, fun _ => rfl, fun _ => rfl, fun h => absurd rfl h, fun _ => rfl, fun _ => rfl, fun _ => rfl, fun _ => rfl, fun _ => rfl, fun _ => rfl, fun _ => rfl, fun _ => rfl, fun _ => rfl, fun _ => rfl, fun _ => rfl, fun _ => rfl, fun _ => rfl⟩) rfl))
theorem EC.put3 {idx : Nat} {v : Int32} (hf : FLD M.1 idx 6 3 .int false) (hdg : decode M.2.1 pc = .ok (.putfield idx, 3)) (kk : EW (IC cy ax hp0) l D cy base M d bc bs (pc + 3) lv st (va_up s.1 3 v, s.2) Q) : EW (IC cy ax hp0) l D cy base M d bc bs pc lv (.int v :: .ref (ax 5) :: st) s Q :=
  fun hp h => E.put hf hdg (h.1 5 (by decide)) (Nat.le_of_ble_eq_true rfl) rfl rfl (kk _ (h.cell (s' := (va_up s.1 3 v, s.2)) (by decide) rfl (k19 ⟨fun _ => rfl, fun _ => rfl, fun _ => rfl, fun _ => rfl, fun _ => rfl, fun h => absurd rfl h, fun _ => rfl, fun _ => rfl, fun _ => rfl, fun _ => rfl, fun _ => rfl, fun _ => rfl, fun _ => rfl, fun _ => rfl, fun _ => rfl, fun _ => rfl, fun _ => rfl, fun _ => rfl, fun _ => rfl⟩) rfl))
theorem EC.put4 {idx : Nat} {v : Int32} (hf : FLD M.1 idx 2 1 .int false) (hdg : decode M.2.1 pc = .ok (.putfield idx, 3)) (kk : EW (IC cy ax hp0) l D cy base M d bc bs (pc + 3) lv st (va_up s.1 4 v, s.2) Q) : EW (IC cy ax hp0) l D cy base M d bc bs pc lv (.int v :: .ref (ax 6) :: st) s Q :=
  fun hp h => E.put hf hdg (h.1 6 (by decide)) (Nat.le_of_ble_eq_true rfl) rfl rfl (kk _ (h.cell (s' := (va_up s.1 4 v, s.2)) (by decide) rfl (k19 ⟨fun _ => rfl, fun _ => rfl, fun _ => rfl, fun _ => rfl, fun _ => rfl, fun _ => rfl, fun h => absurd rfl h, fun _ => rfl, fun _ => rfl, fun _ => rfl, fun _ => rfl, fun _ => rfl, fun _ => rfl, fun _ => rfl, fun _ => rfl, fun _ => rfl, fun _ => rfl, fun _ => rfl, fun _ => rfl⟩) rfl))
theorem EC.put5 {idx : Nat} {v : Int32} (hf : FLD M.1 idx 3 3 .int false) (hdg : decode M.2.1 pc = .ok (.putfield idx, 3)) (kk : EW (IC cy ax hp0) l D cy base M d bc bs (pc + 3) lv st (va_up s.1 5 v, s.2) Q) : EW (IC cy ax hp0) l D cy base M d bc bs pc lv (.int v :: .ref (ax 12) :: st) s Q :=
  fun hp h => E.put hf hdg (h.1 12 (by decide)) (Nat.le_of_ble_eq_true rfl) rfl rfl (kk _ (h.cell (s' := (va_up s.1 5 v, s.2)) (by decide) rfl (k19 ⟨fun _ => rfl, fun _ => rfl, fun _ => rfl, fun _ => rfl, fun _ => rfl, fun _ => rfl, fun _ => rfl, fun _ => rfl, fun _ => rfl, fun _ => rfl, fun _ => rfl, fun _ => rfl, fun h => absurd rfl h, fun _ => rfl, fun _ => rfl, fun _ => rfl, fun _ => rfl, fun _ => rfl, fun _ => rfl⟩) rfl))
theorem EC.put6 {idx : Nat} {v : Int32} (hf : FLD M.1 idx 3 4 .int false) (hdg : decode M.2.1 pc = .ok (.putfield idx, 3)) (kk : EW (IC cy ax hp0) l D cy base M d bc bs (pc + 3) lv st (va_up s.1 6 v, s.2) Q) : EW (IC cy ax hp0) l D cy base M d bc bs pc lv (.int v :: .ref (ax 12) :: st) s Q :=
  fun hp h => E.put hf hdg (h.1 12 (by decide)) (Nat.le_of_ble_eq_true rfl) rfl rfl (kk _ (h.cell (s' := (va_up s.1 6 v, s.2)) (by decide) rfl (k19 ⟨fun _ => rfl, fun _ => rfl, fun _ => rfl, fun _ => rfl, fun _ => rfl, fun _ => rfl, fun _ => rfl, fun _ => rfl, fun _ => rfl, fun _ => rfl, fun _ => rfl, fun _ => rfl, fun h => absurd rfl h, fun _ => rfl, fun _ => rfl, fun _ => rfl, fun _ => rfl, fun _ => rfl, fun _ => rfl⟩) rfl))
theorem EC.put7 {idx : Nat} {v : Int32} (hf : FLD M.1 idx 7 1 .int false) (hdg : decode M.2.1 pc = .ok (.putfield idx, 3)) (kk : EW (IC cy ax hp0) l D cy base M d bc bs (pc + 3) lv st (va_up s.1 7 v, s.2) Q) : EW (IC cy ax hp0) l D cy base M d bc bs pc lv (.int v :: .ref (ax 13) :: st) s Q :=
  fun hp h => E.put hf hdg (h.1 13 (by decide)) (Nat.le_of_ble_eq_true rfl) rfl rfl (kk _ (h.cell (s' := (va_up s.1 7 v, s.2)) (by decide) rfl (k19 ⟨fun _ => rfl, fun _ => rfl, fun _ => rfl, fun _ => rfl, fun _ => rfl, fun _ => rfl, fun _ => rfl, fun _ => rfl, fun _ => rfl, fun _ => rfl, fun _ => rfl, fun _ => rfl, fun _ => rfl, fun h => absurd rfl h, fun _ => rfl, fun _ => rfl, fun _ => rfl, fun _ => rfl, fun _ => rfl⟩) rfl))
theorem EC.putX {idx : Nat} {r : Option Nat} {nm : String} (hf : FLD M.1 idx 6 1 (.object nm) false) (hdg : decode M.2.1 pc = .ok (.putfield idx, 3)) (kk : EW (IC cy ax hp0) l D cy base M d bc bs (pc + 3) lv st (s.1, s.2.1, r, s.2.2.2) Q) : EW (IC cy ax hp0) l D cy base M d bc bs pc lv (va_rf r :: .ref (ax 5) :: st) s Q :=
  fun hp h => E.put hf hdg (h.1 5 (by decide)) (Nat.le_of_ble_eq_true rfl) (by cases r <;> rfl) (by cases r <;> rfl) (kk _ (h.cell (s' := (s.1, s.2.1, r, s.2.2.2)) (by decide) rfl (k19 ⟨fun _ => rfl, fun _ => rfl, fun _ => rfl, fun _ => rfl, fun _ => rfl, fun h => absurd rfl h, fun _ => rfl, fun _ => rfl, fun _ => rfl, fun _ => rfl, fun _ => rfl, fun _ => rfl, fun _ => rfl, fun _ => rfl, fun _ => rfl, fun _ => rfl, fun _ => rfl, fun _ => rfl, fun _ => rfl⟩) rfl))
theorem EC.ald2 (i : Nat) (hdg : decode M.2.1 pc = .ok (.caload, 1)) (hin : i < 24) (kk : EW (IC cy ax hp0) l D cy base M d bc bs (pc + 1) lv (.int (s.2.1 2 i) :: st) s Q) : EW (IC cy ax hp0) l D cy base M d bc bs pc lv (.int (nI i) :: .ref (ax 2) :: st) s Q :=
  fun hp h => E.cald hdg (h.1 2 (by decide)) (vp_in_nI hin (by decide)) (by rw [nI_clamp (by omega)]; exact kk hp h)
theorem EC.ast2 {x : Int32} (i : Nat) (hdg : decode M.2.1 pc = .ok (.castore, 1)) (hin : i < 24) (kk : EW (IC cy ax hp0) l D cy base M d bc bs (pc + 1) lv st (s.1, va_up s.2.1 2 (upd (s.2.1 2) i (vp_nar .char x)), s.2.2) Q) : EW (IC cy ax hp0) l D cy base M d bc bs pc lv (.int x :: .int (nI i) :: .ref (ax 2) :: st) s Q :=
  fun hp h => E.cast hdg (h.1 2 (by decide)) (vp_in_nI hin (by decide)) (by rw [nI_clamp (by omega)]; exact kk _ (h.cell (s' := (s.1, va_up s.2.1 2 (upd (s.2.1 2) i (vp_nar .char x)), s.2.2)) (by decide) rfl (k19 ⟨fun _ => rfl, fun _ => rfl, fun h => absurd rfl h, fun _ => rfl, fun _ => rfl, fun _ => rfl, fun _ => rfl, fun _ => rfl, fun _ => rfl, fun _ => rfl, fun _ => rfl, fun _ => rfl, fun _ => rfl, fun _ => rfl, fun _ => rfl, fun _ => rfl, fun _ => rfl, fun _ => rfl, fun _ => rfl⟩) rfl))
theorem EC.len2 (hdg : decode M.2.1 pc = .ok (.arraylength, 1)) (kk : EW (IC cy ax hp0) l D cy base M d bc bs (pc + 1) lv (.int (nI 24) :: st) s Q) : EW (IC cy ax hp0) l D cy base M d bc bs pc lv (.ref (ax 2) :: st) s Q :=
  fun hp h => E.alen (t0 := 1) rfl hdg (h.1 2 (by decide)) rfl (kk hp h)
theorem EC.ald4 (i : Nat) (hdg : decode M.2.1 pc = .ok (.caload, 1)) (hin : i < 20) (kk : EW (IC cy ax hp0) l D cy base M d bc bs (pc + 1) lv (.int (s.2.1 4 i) :: st) s Q) : EW (IC cy ax hp0) l D cy base M d bc bs pc lv (.int (nI i) :: .ref (ax 4) :: st) s Q :=
  fun hp h => E.cald hdg (h.1 4 (by decide)) (vp_in_nI hin (by decide)) (by rw [nI_clamp (by omega)]; exact kk hp h)
theorem EC.ast4 {x : Int32} (i : Nat) (hdg : decode M.2.1 pc = .ok (.castore, 1)) (hin : i < 20) (kk : EW (IC cy ax hp0) l D cy base M d bc bs (pc + 1) lv st (s.1, va_up s.2.1 4 (upd (s.2.1 4) i (vp_nar .char x)), s.2.2) Q) : EW (IC cy ax hp0) l D cy base M d bc bs pc lv (.int x :: .int (nI i) :: .ref (ax 4) :: st) s Q :=
  fun hp h => E.cast hdg (h.1 4 (by decide)) (vp_in_nI hin (by decide)) (by rw [nI_clamp (by omega)]; exact kk _ (h.cell (s' := (s.1, va_up s.2.1 4 (upd (s.2.1 4) i (vp_nar .char x)), s.2.2)) (by decide) rfl (k19 ⟨fun _ => rfl, fun _ => rfl, fun _ => rfl, fun _ => rfl, fun h => absurd rfl h, fun _ => rfl, fun _ => rfl, fun _ => rfl, fun _ => rfl, fun _ => rfl, fun _ => rfl, fun _ => rfl, fun _ => rfl, fun _ => rfl, fun _ => rfl, fun _ => rfl, fun _ => rfl, fun _ => rfl, fun _ => rfl⟩) rfl))
theorem EC.len4 (hdg : decode M.2.1 pc = .ok (.arraylength, 1)) (kk : EW (IC cy ax hp0) l D cy base M d bc bs (pc + 1) lv (.int (nI 20) :: st) s Q) : EW (IC cy ax hp0) l D cy base M d bc bs pc lv (.ref (ax 4) :: st) s Q :=
  fun hp h => E.alen (t0 := 1) rfl hdg (h.1 4 (by decide)) rfl (kk hp h)
theorem EC.ald9 (i : Nat) (hdg : decode M.2.1 pc = .ok (.iaload, 1)) (hin : i < 126) (kk : EW (IC cy ax hp0) l D cy base M d bc bs (pc + 1) lv (.int (s.2.1 9 i) :: st) s Q) : EW (IC cy ax hp0) l D cy base M d bc bs pc lv (.int (nI i) :: .ref (ax 9) :: st) s Q :=
  fun hp h => E.iald hdg (h.1 9 (by decide)) (vp_in_nI hin (by decide)) (by rw [nI_clamp (by omega)]; exact kk hp h)
theorem EC.ast9 {x : Int32} (i : Nat) (hdg : decode M.2.1 pc = .ok (.iastore, 1)) (hin : i < 126) (kk : EW (IC cy ax hp0) l D cy base M d bc bs (pc + 1) lv st (s.1, va_up s.2.1 9 (upd (s.2.1 9) i x), s.2.2) Q) : EW (IC cy ax hp0) l D cy base M d bc bs pc lv (.int x :: .int (nI i) :: .ref (ax 9) :: st) s Q :=
  fun hp h => E.iast hdg (h.1 9 (by decide)) (vp_in_nI hin (by decide)) (by rw [nI_clamp (by omega)]; exact kk _ (h.cell (s' := (s.1, va_up s.2.1 9 (upd (s.2.1 9) i x), s.2.2)) (by decide) rfl (k19 ⟨fun _ => rfl, fun _ => rfl, fun _ => rfl, fun _ => rfl, fun _ => rfl, fun _ => rfl, fun _ => rfl, fun _ => rfl, fun _ => rfl, fun h => absurd rfl h, fun _ => rfl, fun _ => rfl, fun _ => rfl, fun _ => rfl, fun _ => rfl, fun _ => rfl, fun _ => rfl, fun _ => rfl, fun _ => rfl⟩) rfl))
theorem EC.len9 (hdg : decode M.2.1 pc = .ok (.arraylength, 1)) (kk : EW (IC cy ax hp0) l D cy base M d bc bs (pc + 1) lv (.int (nI 126) :: st) s Q) : EW (IC cy ax hp0) l D cy base M d bc bs pc lv (.ref (ax 9) :: st) s Q :=
  fun hp h => E.alen (t0 := 2) rfl hdg (h.1 9 (by decide)) rfl (kk hp h)
theorem EC.ald10 (i : Nat) (hdg : decode M.2.1 pc = .ok (.iaload, 1)) (hin : i < 126) (kk : EW (IC cy ax hp0) l D cy base M d bc bs (pc + 1) lv (.int (s.2.1 10 i) :: st) s Q) : EW (IC cy ax hp0) l D cy base M d bc bs pc lv (.int (nI i) :: .ref (ax 10) :: st) s Q :=
  fun hp h => E.iald hdg (h.1 10 (by decide)) (vp_in_nI hin (by decide)) (by rw [nI_clamp (by omega)]; exact kk hp h)
theorem EC.ast10 {x : Int32} (i : Nat) (hdg : decode M.2.1 pc = .ok (.iastore, 1)) (hin : i < 126) (kk : EW (IC cy ax hp0) l D cy base M d bc bs (pc + 1) lv st (s.1, va_up s.2.1 10 (upd (s.2.1 10) i x), s.2.2) Q) : EW (IC cy ax hp0) l D cy base M d bc bs pc lv (.int x :: .int (nI i) :: .ref (ax 10) :: st) s Q :=
  fun hp h => E.iast hdg (h.1 10 (by decide)) (vp_in_nI hin (by decide)) (by rw [nI_clamp (by omega)]; exact kk _ (h.cell (s' := (s.1, va_up s.2.1 10 (upd (s.2.1 10) i x), s.2.2)) (by decide) rfl (k19 ⟨fun _ => rfl, fun _ => rfl, fun _ => rfl, fun _ => rfl, fun _ => rfl, fun _ => rfl, fun _ => rfl, fun _ => rfl, fun _ => rfl, fun _ => rfl, fun h => absurd rfl h, fun _ => rfl, fun _ => rfl, fun _ => rfl, fun _ => rfl, fun _ => rfl, fun _ => rfl, fun _ => rfl, fun _ => rfl⟩) rfl))
theorem EC.len10 (hdg : decode M.2.1 pc = .ok (.arraylength, 1)) (kk : EW (IC cy ax hp0) l D cy base M d bc bs (pc + 1) lv (.int (nI 126) :: st) s Q) : EW (IC cy ax hp0) l D cy base M d bc bs pc lv (.ref (ax 10) :: st) s Q :=
  fun hp h => E.alen (t0 := 2) rfl hdg (h.1 10 (by decide)) rfl (kk hp h)
theorem EC.ald11 (i : Nat) (hdg : decode M.2.1 pc = .ok (.baload, 1)) (hin : i < 7560) (kk : EW (IC cy ax hp0) l D cy base M d bc bs (pc + 1) lv (.int (s.2.1 11 i) :: st) s Q) : EW (IC cy ax hp0) l D cy base M d bc bs pc lv (.int (nI i) :: .ref (ax 11) :: st) s Q :=
  fun hp h => E.bald hdg (h.1 11 (by decide)) (vp_in_nI hin (by decide)) (by rw [nI_clamp (by omega)]; exact kk hp h)
theorem EC.ast11 {x : Int32} (i : Nat) (hdg : decode M.2.1 pc = .ok (.bastore, 1)) (hin : i < 7560) (kk : EW (IC cy ax hp0) l D cy base M d bc bs (pc + 1) lv st (s.1, va_up s.2.1 11 (upd (s.2.1 11) i (vp_nar .byte x)), s.2.2) Q) : EW (IC cy ax hp0) l D cy base M d bc bs pc lv (.int x :: .int (nI i) :: .ref (ax 11) :: st) s Q :=
  fun hp h => E.bast hdg (h.1 11 (by decide)) (vp_in_nI hin (by decide)) (by rw [nI_clamp (by omega)]; exact kk _ (h.cell (s' := (s.1, va_up s.2.1 11 (upd (s.2.1 11) i (vp_nar .byte x)), s.2.2)) (by decide) rfl (k19 ⟨fun _ => rfl, fun _ => rfl, fun _ => rfl, fun _ => rfl, fun _ => rfl, fun _ => rfl, fun _ => rfl, fun _ => rfl, fun _ => rfl, fun _ => rfl, fun _ => rfl, fun h => absurd rfl h, fun _ => rfl, fun _ => rfl, fun _ => rfl, fun _ => rfl, fun _ => rfl, fun _ => rfl, fun _ => rfl⟩) rfl))
theorem EC.len11 (hdg : decode M.2.1 pc = .ok (.arraylength, 1)) (kk : EW (IC cy ax hp0) l D cy base M d bc bs (pc + 1) lv (.int (nI 7560) :: st) s Q) : EW (IC cy ax hp0) l D cy base M d bc bs pc lv (.ref (ax 11) :: st) s Q :=
  fun hp h => E.alen (t0 := 0) rfl hdg (h.1 11 (by decide)) rfl (kk hp h)
theorem EC.ald15 (i : Nat) (hdg : decode M.2.1 pc = .ok (.iaload, 1)) (hin : i < 60) (kk : EW (IC cy ax hp0) l D cy base M d bc bs (pc + 1) lv (.int (s.2.1 15 i) :: st) s Q) : EW (IC cy ax hp0) l D cy base M d bc bs pc lv (.int (nI i) :: .ref (ax 15) :: st) s Q :=
  fun hp h => E.iald hdg (h.1 15 (by decide)) (vp_in_nI hin (by decide)) (by rw [nI_clamp (by omega)]; exact kk hp h)
theorem EC.ast15 {x : Int32} (i : Nat) (hdg : decode M.2.1 pc = .ok (.iastore, 1)) (hin : i < 60) (kk : EW (IC cy ax hp0) l D cy base M d bc bs (pc + 1) lv st (s.1, va_up s.2.1 15 (upd (s.2.1 15) i x), s.2.2) Q) : EW (IC cy ax hp0) l D cy base M d bc bs pc lv (.int x :: .int (nI i) :: .ref (ax 15) :: st) s Q :=
  fun hp h => E.iast hdg (h.1 15 (by decide)) (vp_in_nI hin (by decide)) (by rw [nI_clamp (by omega)]; exact kk _ (h.cell (s' := (s.1, va_up s.2.1 15 (upd (s.2.1 15) i x), s.2.2)) (by decide) rfl (k19 ⟨fun _ => rfl, fun _ => rfl, fun _ => rfl, fun _ => rfl, fun _ => rfl, fun _ => rfl, fun _ => rfl, fun _ => rfl, fun _ => rfl, fun _ => rfl, fun _ => rfl, fun _ => rfl, fun _ => rfl, fun _ => rfl, fun _ => rfl, fun h => absurd rfl h, fun _ => rfl, fun _ => rfl, fun _ => rfl⟩) rfl))
theorem EC.len15 (hdg : decode M.2.1 pc = .ok (.arraylength, 1)) (kk : EW (IC cy ax hp0) l D cy base M d bc bs (pc + 1) lv (.int (nI 60) :: st) s Q) : EW (IC cy ax hp0) l D cy base M d bc bs pc lv (.ref (ax 15) :: st) s Q :=
  fun hp h => E.alen (t0 := 2) rfl hdg (h.1 15 (by decide)) rfl (kk hp h)
theorem EC.ald16 (i : Nat) (hdg : decode M.2.1 pc = .ok (.iaload, 1)) (hin : i < 60) (kk : EW (IC cy ax hp0) l D cy base M d bc bs (pc + 1) lv (.int (s.2.1 16 i) :: st) s Q) : EW (IC cy ax hp0) l D cy base M d bc bs pc lv (.int (nI i) :: .ref (ax 16) :: st) s Q :=
  fun hp h => E.iald hdg (h.1 16 (by decide)) (vp_in_nI hin (by decide)) (by rw [nI_clamp (by omega)]; exact kk hp h)
theorem EC.ast16 {x : Int32} (i : Nat) (hdg : decode M.2.1 pc = .ok (.iastore, 1)) (hin : i < 60) (kk : EW (IC cy ax hp0) l D cy base M d bc bs (pc + 1) lv st (s.1, va_up s.2.1 16 (upd (s.2.1 16) i x), s.2.2) Q) : EW (IC cy ax hp0) l D cy base M d bc bs pc lv (.int x :: .int (nI i) :: .ref (ax 16) :: st) s Q :=
  fun hp h => E.iast hdg (h.1 16 (by decide)) (vp_in_nI hin (by decide)) (by rw [nI_clamp (by omega)]; exact kk _ (h.cell (s' := (s.1, va_up s.2.1 16 (upd (s.2.1 16) i x), s.2.2)) (by decide) rfl (k19 ⟨fun _ => rfl, fun _ => rfl, fun _ => rfl, fun _ => rfl, fun _ => rfl, fun _ => rfl, fun _ => rfl, fun _ => rfl, fun _ => rfl, fun _ => rfl, fun _ => rfl, fun _ => rfl, fun _ => rfl, fun _ => rfl, fun _ => rfl, fun _ => rfl, fun h => absurd rfl h, fun _ => rfl, fun _ => rfl⟩) rfl))
theorem EC.len16 (hdg : decode M.2.1 pc = .ok (.arraylength, 1)) (kk : EW (IC cy ax hp0) l D cy base M d bc bs (pc + 1) lv (.int (nI 60) :: st) s Q) : EW (IC cy ax hp0) l D cy base M d bc bs pc lv (.ref (ax 16) :: st) s Q :=
  fun hp h => E.alen (t0 := 2) rfl hdg (h.1 16 (by decide)) rfl (kk hp h)
theorem EC.ald17 (i : Nat) (hdg : decode M.2.1 pc = .ok (.iaload, 1)) (hin : i < 60) (kk : EW (IC cy ax hp0) l D cy base M d bc bs (pc + 1) lv (.int (s.2.1 17 i) :: st) s Q) : EW (IC cy ax hp0) l D cy base M d bc bs pc lv (.int (nI i) :: .ref (ax 17) :: st) s Q :=
  fun hp h => E.iald hdg (h.1 17 (by decide)) (vp_in_nI hin (by decide)) (by rw [nI_clamp (by omega)]; exact kk hp h)
theorem EC.ast17 {x : Int32} (i : Nat) (hdg : decode M.2.1 pc = .ok (.iastore, 1)) (hin : i < 60) (kk : EW (IC cy ax hp0) l D cy base M d bc bs (pc + 1) lv st (s.1, va_up s.2.1 17 (upd (s.2.1 17) i x), s.2.2) Q) : EW (IC cy ax hp0) l D cy base M d bc bs pc lv (.int x :: .int (nI i) :: .ref (ax 17) :: st) s Q :=
  fun hp h => E.iast hdg (h.1 17 (by decide)) (vp_in_nI hin (by decide)) (by rw [nI_clamp (by omega)]; exact kk _ (h.cell (s' := (s.1, va_up s.2.1 17 (upd (s.2.1 17) i x), s.2.2)) (by decide) rfl (k19 ⟨fun _ => rfl, fun _ => rfl, fun _ => rfl, fun _ => rfl, fun _ => rfl, fun _ => rfl, fun _ => rfl, fun _ => rfl, fun _ => rfl, fun _ => rfl, fun _ => rfl, fun _ => rfl, fun _ => rfl, fun _ => rfl, fun _ => rfl, fun _ => rfl, fun _ => rfl, fun h => absurd rfl h, fun _ => rfl⟩) rfl))
theorem EC.len17 (hdg : decode M.2.1 pc = .ok (.arraylength, 1)) (kk : EW (IC cy ax hp0) l D cy base M d bc bs (pc + 1) lv (.int (nI 60) :: st) s Q) : EW (IC cy ax hp0) l D cy base M d bc bs pc lv (.ref (ax 17) :: st) s Q :=
  fun hp h => E.alen (t0 := 2) rfl hdg (h.1 17 (by decide)) rfl (kk hp h)
theorem EC.ald18 (i : Nat) (hdg : decode M.2.1 pc = .ok (.iaload, 1)) (hin : i < 60) (kk : EW (IC cy ax hp0) l D cy base M d bc bs (pc + 1) lv (.int (s.2.1 18 i) :: st) s Q) : EW (IC cy ax hp0) l D cy base M d bc bs pc lv (.int (nI i) :: .ref (ax 18) :: st) s Q :=
  fun hp h => E.iald hdg (h.1 18 (by decide)) (vp_in_nI hin (by decide)) (by rw [nI_clamp (by omega)]; exact kk hp h)
theorem EC.ast18 {x : Int32} (i : Nat) (hdg : decode M.2.1 pc = .ok (.iastore, 1)) (hin : i < 60) (kk : EW (IC cy ax hp0) l D cy base M d bc bs (pc + 1) lv st (s.1, va_up s.2.1 18 (upd (s.2.1 18) i x), s.2.2) Q) : EW (IC cy ax hp0) l D cy base M d bc bs pc lv (.int x :: .int (nI i) :: .ref (ax 18) :: st) s Q :=
  fun hp h => E.iast hdg (h.1 18 (by decide)) (vp_in_nI hin (by decide)) (by rw [nI_clamp (by omega)]; exact kk _ (h.cell (s' := (s.1, va_up s.2.1 18 (upd (s.2.1 18) i x), s.2.2)) (by decide) rfl (k19 ⟨fun _ => rfl, fun _ => rfl, fun _ => rfl, fun _ => rfl, fun _ => rfl, fun _ => rfl, fun _ => rfl, fun _ => rfl, fun _ => rfl, fun _ => rfl, fun _ => rfl, fun _ => rfl, fun _ => rfl, fun _ => rfl, fun _ => rfl, fun _ => rfl, fun _ => rfl, fun _ => rfl, fun h => absurd rfl h⟩) rfl))
theorem EC.len18 (hdg : decode M.2.1 pc = .ok (.arraylength, 1)) (kk : EW (IC cy ax hp0) l D cy base M d bc bs (pc + 1) lv (.int (nI 60) :: st) s Q) : EW (IC cy ax hp0) l D cy base M d bc bs pc lv (.ref (ax 18) :: st) s Q :=
  fun hp h => E.alen (t0 := 2) rfl hdg (h.1 18 (by decide)) rfl (kk hp h)
theorem EC.len7 (hdg : decode M.2.1 pc = .ok (.arraylength, 1)) (kk : EW (IC cy ax hp0) l D cy base M d bc bs (pc + 1) lv (.int (nI 6) :: st) s Q) : EW (IC cy ax hp0) l D cy base M d bc bs pc lv (.ref (ax 7) :: st) s Q :=
  fun hp h => E.alen (t0 := 5) rfl hdg (h.1 7 (by decide)) rfl (kk hp h)
theorem EC.ald7 (i : Nat) (hdg : decode M.2.1 pc = .ok (.aaload, 1)) (hin : i < 6) (kk : EW (IC cy ax hp0) l D cy base M d bc bs (pc + 1) lv (va_rf (s.2.2.2.1 i) :: st) s Q) : EW (IC cy ax hp0) l D cy base M d bc bs pc lv (.int (nI i) :: .ref (ax 7) :: st) s Q :=
  fun hp h => E.aldE hdg (h.1 7 (by decide)) (vp_in_nI hin (by decide)) (by rw [nI_clamp (by omega)]; exact kk hp h)
theorem EC.ast7 {r : Option Nat} (i : Nat) (hdg : decode M.2.1 pc = .ok (.aastore, 1)) (hin : i < 6) (hr : ∀ b, r = some b → ∃ e, s.2.2.2.2.2 b = some e) (kk : EW (IC cy ax hp0) l D cy base M d bc bs (pc + 1) lv st (s.1, s.2.1, s.2.2.1, va_up s.2.2.2.1 i r, s.2.2.2.2) Q) : EW (IC cy ax hp0) l D cy base M d bc bs pc lv (va_rf r :: .int (nI i) :: .ref (ax 7) :: st) s Q :=
  fun hp h => E.astE hdg (h.1 7 (by decide)) (fun b hb => (hr b hb).elim (fun e he => ⟨_, h.2.2.2.1 b e he⟩)) (vp_in_nI hin (by decide)) (by rw [nI_clamp (by omega)]; exact kk _ (h.cell (s' := (s.1, s.2.1, s.2.2.1, va_up s.2.2.2.1 i r, s.2.2.2.2)) (by decide) rfl (k19 ⟨fun _ => rfl, fun _ => rfl, fun _ => rfl, fun _ => rfl, fun _ => rfl, fun _ => rfl, fun _ => rfl, fun h => absurd rfl h, fun _ => rfl, fun _ => rfl, fun _ => rfl, fun _ => rfl, fun _ => rfl, fun _ => rfl, fun _ => rfl, fun _ => rfl, fun _ => rfl, fun _ => rfl, fun _ => rfl⟩) rfl))
theorem EC.ald14 (i : Nat) (hdg : decode M.2.1 pc = .ok (.aaload, 1)) (hin : i < 4) (kk : EW (IC cy ax hp0) l D cy base M d bc bs (pc + 1) lv (.ref (ax (15 + i)) :: st) s Q) : EW (IC cy ax hp0) l D cy base M d bc bs pc lv (.int (nI i) :: .ref (ax 14) :: st) s Q :=
  fun hp h => E.aldI hdg (h.1 14 (by decide)) (vp_in_nI hin (by decide)) (by rw [nI_clamp (by omega), if_pos hin]; exact kk hp h)
theorem EC.ndput {idx j a : Nat} {ty : FieldType} {n n' : ND} {v : Value} (hf : FLD M.1 idx 5 j ty false) (hdg : decode M.2.1 pc = .ok (.putfield idx, 3)) (hn : s.2.2.2.2.1 a = some n) (hj : j < 8) (hna : narrow ty v = v) (hfi : fits ty v = true) (he : (ndF n).set j v = ndF n') (kk : EW (IC cy ax hp0) l D cy base M d bc bs (pc + 3) lv st (ndP s (va_up s.2.2.2.2.1 a (some n'))) Q) : EW (IC cy ax hp0) l D cy base M d bc bs pc lv (v :: .ref a :: st) s Q :=
  fun hp h => E.put hf hdg (h.2.2.1 a n hn) hj hna hfi (by rw [he]; exact kk _ (h.nd n' (Or.inl ⟨n, hn⟩)))
theorem EC.exput {idx j a : Nat} {ty : FieldType} {n n' : Option Nat × Option Nat} {v : Value} (hf : FLD M.1 idx 1 j ty false) (hdg : decode M.2.1 pc = .ok (.putfield idx, 3)) (hn : s.2.2.2.2.2 a = some n) (hj : j < 2) (hna : narrow ty v = v) (hfi : fits ty v = true) (he : ([va_rf n.1, va_rf n.2] : List Value).set j v = [va_rf n'.1, va_rf n'.2]) (kk : EW (IC cy ax hp0) l D cy base M d bc bs (pc + 3) lv st (exP s (va_up s.2.2.2.2.2 a (some n'))) Q) : EW (IC cy ax hp0) l D cy base M d bc bs pc lv (v :: .ref a :: st) s Q :=
  fun hp h => E.put hf hdg (h.2.2.2.1 a n hn) hj hna hfi (by rw [he]; exact kk _ (h.ex n' (Or.inl ⟨n, hn⟩)))
theorem EC.newNode {idx : Nat} (hw : Cond.classLink M.1 idx RX5 ∈ gw ∧ Cond.instantiable RX5 8 ∈ gw ∧ Cond.initialized RX5 ∈ gw) (hdg : decode M.2.1 pc = .ok (.new idx, 3)) (kk : ∀ q, s.2.2.2.2.1 q = none → s.2.2.2.2.2 q = none → EW (IC cy ax hp0) l D cy base M d bc bs (pc + 3) lv (.ref q :: st) (ndP s (va_up s.2.2.2.2.1 q (some (0, 0, 0, none, none, none, 0, 0)))) Q) : EW (IC cy ax hp0) l D cy base M d (bc + 1) (bs + 8) pc lv st s Q :=
  fun hp h => E.new cf5 hw hdg (fs := ndF (0, 0, 0, none, none, none, 0, 0)) (fun j hj => by rcases (show j = 0 ∨ j = 1 ∨ j = 2 ∨ j = 3 ∨ j = 4 ∨ j = 5 ∨ j = 6 ∨ j = 7 by omega) with rfl | rfl | rfl | rfl | rfl | rfl | rfl | rfl <;> rfl) (fun q hq => kk q (by cases hx : s.2.2.2.2.1 q with | none => rfl | some n => rw [h.2.2.1 q n hx] at hq; cases hq) (by cases hx : s.2.2.2.2.2 q with | none => rfl | some n => rw [h.2.2.2.1 q n hx] at hq; cases hq) _ (h.nd _ (Or.inr hq)))
theorem EC.newExpr {idx : Nat} (hw : Cond.classLink M.1 idx RX1 ∈ gw ∧ Cond.instantiable RX1 2 ∈ gw ∧ Cond.initialized RX1 ∈ gw) (hdg : decode M.2.1 pc = .ok (.new idx, 3)) (kk : ∀ q, s.2.2.2.2.1 q = none → s.2.2.2.2.2 q = none → EW (IC cy ax hp0) l D cy base M d bc bs (pc + 3) lv (.ref q :: st) (exP s (va_up s.2.2.2.2.2 q (some (none, none)))) Q) : EW (IC cy ax hp0) l D cy base M d (bc + 1) (bs + 2) pc lv st s Q :=
  fun hp h => E.new cf1 hw hdg (fs := [va_rf none, va_rf none]) (fun j hj => by rcases (show j = 0 ∨ j = 1 by omega) with rfl | rfl <;> rfl) (fun q hq => kk q (by cases hx : s.2.2.2.2.1 q with | none => rfl | some n => rw [h.2.2.1 q n hx] at hq; cases hq) (by cases hx : s.2.2.2.2.2 q with | none => rfl | some n => rw [h.2.2.2.1 q n hx] at hq; cases hq) _ (h.ex (none, none) (Or.inr hq)))
/-- a call on a fixed object -/
theorem EC.callV {M' : Mth} {idx d' mc' ms' n k ci : Nat} {As rest fs : List Value} {Q' : Oc → CSt → Prop} (hM : MtW (IC cy ax hp0) l D cy base M' d' mc' ms' (.ref (ax k) :: As) s Q') (mf : MF M') (ml : ML M.1 idx M') (mv : MV M' n) (hd : d' < d) (hdg : decode M.2.1 pc = .ok (.invokevirtual idx, 3)) (hst : st = As.reverse ++ .ref (ax k) :: rest) (hn : As.length = n) (hk : k < 19) (hcc : cCell cy ax s k = .inr (ci, fs)) (hc : clx[ci]?.map (fun q => q.1) = some M'.2.2.1.cls) (h0 : M'.2.2.2.2.2 = []) (hw : (rest.map fun v => v.category).sum ≤ 8)
    (kk : ∀ v s', Q' (.inl v) s' → EW (IC cy ax hp0) l D cy base M d bc bs (pc + 3) lv (v.toList ++ rest) s' Q) (kx : ∀ X s', Q' (.inr X) s' → EWX (IC cy ax hp0) l D cy base M d bc bs pc lv X s' Q) : EW (IC cy ax hp0) l D cy base M d (bc + mc') (bs + ms') pc lv st s Q :=
  EW.callV (ci := ci) hM mf h0 ml mv hd hdg hst hn (fun hp h => ⟨fs, by rw [h.1 k hk, hcc]⟩) hc hw kk kx
/-- a call on an expression -/
theorem EC.callE {M' : Mth} {idx d' mc' ms' n b : Nat} {As rest : List Value} {e9 : Option Nat × Option Nat} {Q' : Oc → CSt → Prop} (hM : MtW (IC cy ax hp0) l D cy base M' d' mc' ms' (.ref b :: As) s Q') (mf : MF M') (ml : ML M.1 idx M') (mv : MV M' n) (hd : d' < d) (hdg : decode M.2.1 pc = .ok (.invokevirtual idx, 3)) (hst : st = As.reverse ++ .ref b :: rest) (hn : As.length = n) (he : s.2.2.2.2.2 b = some e9) (hc : RX1 = M'.2.2.1.cls) (h0 : M'.2.2.2.2.2 = []) (hw : (rest.map fun v => v.category).sum ≤ 8)
    (kk : ∀ v s', Q' (.inl v) s' → EW (IC cy ax hp0) l D cy base M d bc bs (pc + 3) lv (v.toList ++ rest) s' Q) (kx : ∀ X s', Q' (.inr X) s' → EWX (IC cy ax hp0) l D cy base M d bc bs pc lv X s' Q) : EW (IC cy ax hp0) l D cy base M d (bc + mc') (bs + ms') pc lv st s Q :=
  EW.callV (ci := 1) hM mf h0 ml mv hd hdg hst hn (fun hp h => ⟨_, h.2.2.2.1 b e9 he⟩) (by rw [← hc]; rfl) hw kk kx
end KLASS
end
section
theorem nI_6v : nI 6 = 6 := by decide +kernel
section C1
variable {cy : Nat → ClassId} {ax : Nat → Nat} {hp0 : Hp} {l : Launch} {D : va_G} {base : Nat}
set_option maxHeartbeats 4000000 in
theorem C_isLetter (hl : l.stackTraces = false) {S : Type} (I : S → Hp → Prop) (d : Nat) (s : S) (c : Int32) : MtW I l D cy base mX8_isLetter d 0 0 [.int c] s (fun o s2 => o = .inl (some (.int (if 97 ≤ c ∧ c ≤ 105 then 1 else 0))) ∧ s2 = s) := by
  refine MtW.of hl mfX8_isLetter rfl (Nat.le_of_ble_eq_true rfl) ?_
  refine EW.iload_n dX8_isLetter_0 rfl rfl ?_
  refine EW.bp 97 dX8_isLetter_1 ?_
  refine EW.icmp_lt 16 dX8_isLetter_3 (by decide) (fun c3 => ?_) (fun c3 => ?_)
  · refine EW.ic 0 dX8_isLetter_16 ?_
    refine EW.zret (ty := .boolean) rfl (by decide +kernel) dX8_isLetter_17 ?_
    refine ⟨?_, rfl⟩; simp only [Int32.lt_iff_toInt_lt, Int32.le_iff_toInt_le, nI_1v, nI_0v, nI_lits, nI_6v] at *; split <;> first | rfl | omega
  · refine EW.iload_n dX8_isLetter_6 rfl rfl ?_
    refine EW.bp 105 dX8_isLetter_7 ?_
    refine EW.icmp_gt 16 dX8_isLetter_9 (by decide) (fun c9 => ?_) (fun c9 => ?_)
    · refine EW.ic 0 dX8_isLetter_16 ?_
      refine EW.zret (ty := .boolean) rfl (by decide +kernel) dX8_isLetter_17 ?_
      refine ⟨?_, rfl⟩; simp only [Int32.lt_iff_toInt_lt, Int32.le_iff_toInt_le, nI_1v, nI_0v, nI_lits, nI_6v] at *; split <;> first | rfl | omega
    · refine EW.ic 1 dX8_isLetter_12 ?_
      refine EW.goto 17 dX8_isLetter_13 (by decide) ?_
      refine EW.zret (ty := .boolean) rfl (by decide +kernel) dX8_isLetter_17 ?_
      refine ⟨?_, rfl⟩; simp only [Int32.lt_iff_toInt_lt, Int32.le_iff_toInt_le, nI_1v, nI_0v, nI_lits, nI_6v] at *; split <;> first | rfl | omega
set_option maxHeartbeats 4000000 in
theorem C_isRuleLetter (hl : l.stackTraces = false) {S : Type} (I : S → Hp → Prop) (d : Nat) (s : S) (c : Int32) : MtW I l D cy base mX8_isRuleLetter d 0 0 [.int c] s (fun o s2 => o = .inl (some (.int (if 65 ≤ c ∧ c ≤ 70 then 1 else 0))) ∧ s2 = s) := by
  refine MtW.of hl mfX8_isRuleLetter rfl (Nat.le_of_ble_eq_true rfl) ?_
  refine EW.iload_n dX8_isRuleLetter_0 rfl rfl ?_
  refine EW.bp 65 dX8_isRuleLetter_1 ?_
  refine EW.icmp_lt 16 dX8_isRuleLetter_3 (by decide) (fun c3 => ?_) (fun c3 => ?_)
  · refine EW.ic 0 dX8_isRuleLetter_16 ?_
    refine EW.zret (ty := .boolean) rfl (by decide +kernel) dX8_isRuleLetter_17 ?_
    refine ⟨?_, rfl⟩; simp only [Int32.lt_iff_toInt_lt, Int32.le_iff_toInt_le, nI_1v, nI_0v, nI_lits, nI_6v] at *; split <;> first | rfl | omega
  · refine EW.iload_n dX8_isRuleLetter_6 rfl rfl ?_
    refine EW.bp 70 dX8_isRuleLetter_7 ?_
    refine EW.icmp_gt 16 dX8_isRuleLetter_9 (by decide) (fun c9 => ?_) (fun c9 => ?_)
    · refine EW.ic 0 dX8_isRuleLetter_16 ?_
      refine EW.zret (ty := .boolean) rfl (by decide +kernel) dX8_isRuleLetter_17 ?_
      refine ⟨?_, rfl⟩; simp only [Int32.lt_iff_toInt_lt, Int32.le_iff_toInt_le, nI_1v, nI_0v, nI_lits, nI_6v] at *; split <;> first | rfl | omega
    · refine EW.ic 1 dX8_isRuleLetter_12 ?_
      refine EW.goto 17 dX8_isRuleLetter_13 (by decide) ?_
      refine EW.zret (ty := .boolean) rfl (by decide +kernel) dX8_isRuleLetter_17 ?_
      refine ⟨?_, rfl⟩; simp only [Int32.lt_iff_toInt_lt, Int32.le_iff_toInt_le, nI_1v, nI_0v, nI_lits, nI_6v] at *; split <;> first | rfl | omega
set_option maxHeartbeats 4000000 in
theorem C_isRule (hl : l.stackTraces = false) {S : Type} (I : S → Hp → Prop) (d : Nat) (s : S) (r : Int32) : MtW I l D cy base mX8_isRule d 0 0 [.int r] s (fun o s2 => o = .inl (some (.int (if 0 ≤ r ∧ r < 6 then 1 else 0))) ∧ s2 = s) := by
  refine MtW.of hl mfX8_isRule rfl (Nat.le_of_ble_eq_true rfl) ?_
  refine EW.iload_n dX8_isRule_0 rfl rfl ?_
  refine EW.if_lt 14 dX8_isRule_1 (by decide) (fun c1 => ?_) (fun c1 => ?_)
  · refine EW.ic 0 dX8_isRule_14 ?_
    refine EW.zret (ty := .boolean) rfl (by decide +kernel) dX8_isRule_15 ?_
    refine ⟨?_, rfl⟩; simp only [Int32.lt_iff_toInt_lt, Int32.le_iff_toInt_le, nI_1v, nI_0v, nI_lits, nI_6v] at *; split <;> first | rfl | omega
  · refine EW.iload_n dX8_isRule_4 rfl rfl ?_
    refine EW.bp 6 dX8_isRule_5 ?_
    refine EW.icmp_ge 14 dX8_isRule_7 (by decide) (fun c7 => ?_) (fun c7 => ?_)
    · refine EW.ic 0 dX8_isRule_14 ?_
      refine EW.zret (ty := .boolean) rfl (by decide +kernel) dX8_isRule_15 ?_
      refine ⟨?_, rfl⟩; simp only [Int32.lt_iff_toInt_lt, Int32.le_iff_toInt_le, nI_1v, nI_0v, nI_lits, nI_6v] at *; split <;> first | rfl | omega
    · refine EW.ic 1 dX8_isRule_10 ?_
      refine EW.goto 15 dX8_isRule_11 (by decide) ?_
      refine EW.zret (ty := .boolean) rfl (by decide +kernel) dX8_isRule_15 ?_
      refine ⟨?_, rfl⟩; simp only [Int32.lt_iff_toInt_lt, Int32.le_iff_toInt_le, nI_1v, nI_0v, nI_lits, nI_6v] at *; split <;> first | rfl | omega
set_option maxHeartbeats 4000000 in
theorem C_size_pad (hl : l.stackTraces = false) (d : Nat) (s : CSt) : MtW (IC cy ax hp0) l D cy base mX0_size d 0 0 [.ref (ax 1)] s (fun o s2 => o = .inl (some (.int (s.1 0))) ∧ s2 = s) := by
  refine MtW.of hl mfX0_size rfl (Nat.le_of_ble_eq_true rfl) ?_
  refine EW.aload_n dX0_size_0 rfl rfl ?_
  refine EC.get (k := 1) f_X0_15 dX0_size_1 (by decide) rfl rfl ?_
  refine EW.iret rfl dX0_size_4 ?_
  exact ⟨rfl, rfl⟩
set_option maxHeartbeats 4000000 in
theorem C_removeAll_pad (hl : l.stackTraces = false) (d : Nat) (s : CSt) : MtW (IC cy ax hp0) l D cy base mX0_removeAll d 0 0 [.ref (ax 1)] s (fun o s2 => o = .inl none ∧ s2 = (va_up s.1 0 0, s.2)) := by
  refine MtW.of hl mfX0_removeAll rfl (Nat.le_of_ble_eq_true rfl) ?_
  refine EW.aload_n dX0_removeAll_0 rfl rfl ?_
  refine EW.ic 0 dX0_removeAll_1 ?_
  refine EC.put0 f_X0_15 dX0_removeAll_2 ?_
  refine EW.vret rfl dX0_removeAll_5 ?_
  exact ⟨rfl, rfl⟩
set_option maxHeartbeats 4000000 in
theorem C_add_pad (hl : l.stackTraces = false) (d n : Nat) (s : CSt) (hn : s.1 0 = nI n) (hb : n ≤ 24) (c : Int32) : MtW (IC cy ax hp0) l D cy base mX0_add d 0 0 [.ref (ax 1), .int c] s (fun o s2 => if n < 24 then o = .inl (some (.int 1)) ∧ s2 = (va_up s.1 0 (nI (n + 1)), va_up s.2.1 2 (upd (s.2.1 2) n (vp_nar .char c)), s.2.2) else o = .inl (some (.int 0)) ∧ s2 = s) := by
  refine MtW.of hl mfX0_add rfl (Nat.le_of_ble_eq_true rfl) ?_
  refine EW.aload_n dX0_add_0 rfl rfl ?_
  refine EC.get (k := 1) f_X0_15 dX0_add_1 (by decide) rfl rfl ?_
  refine EW.top hn ?_
  refine EW.if_lt 19 dX0_add_4 (by decide) (fun c4 => ?_) (fun c4 => ?_)
  · exact absurd c4 (nI_pos (by omega))
  · refine EW.aload_n dX0_add_7 rfl rfl ?_
    refine EC.get (k := 1) f_X0_15 dX0_add_8 (by decide) rfl rfl ?_
    refine EW.top hn ?_
    refine EW.aload_n dX0_add_11 rfl rfl ?_
    refine EC.get (k := 1) f_X0_9 dX0_add_12 (by decide) rfl rfl ?_
    refine EC.len2 dX0_add_15 ?_
    refine EW.icmp_lt 21 dX0_add_16 (by decide) (fun c16 => ?_) (fun c16 => ?_)
    · have c16 : n < 24 := (nI_ltI (by omega) (by omega)).mp c16
      refine EW.aload_n dX0_add_21 rfl rfl ?_
      refine EC.get (k := 1) f_X0_9 dX0_add_22 (by decide) rfl rfl ?_
      refine EW.aload_n dX0_add_25 rfl rfl ?_
      refine EC.get (k := 1) f_X0_15 dX0_add_26 (by decide) rfl rfl ?_
      refine EW.top hn ?_
      refine EW.iload_n dX0_add_29 rfl rfl ?_
      refine EC.ast2 (n) dX0_add_30 (by omega) ?_
      refine EW.aload_n dX0_add_31 rfl rfl ?_
      refine EW.dup dX0_add_32 rfl ?_
      refine EC.get (k := 1) f_X0_15 dX0_add_33 (by decide) rfl rfl ?_
      refine EW.top hn ?_
      refine EW.ic 1 dX0_add_36 ?_
      refine EW.iadd dX0_add_37 ?_
      refine EW.top (nI_add _ _) ?_
      refine EC.put0 f_X0_15 dX0_add_38 ?_
      refine EW.ic 1 dX0_add_41 ?_
      refine EW.zret (ty := .boolean) rfl (by decide +kernel) dX0_add_42 ?_
      rw [if_pos (by omega)]; exact ⟨rfl, rfl⟩
    · have c16 : ¬ (n < 24) := fun h => c16 ((nI_ltI (by omega) (by omega)).mpr h)
      refine EW.ic 0 dX0_add_19 ?_
      refine EW.zret (ty := .boolean) rfl (by decide +kernel) dX0_add_20 ?_
      rw [if_neg (by omega)]; exact ⟨rfl, rfl⟩
set_option maxHeartbeats 4000000 in
theorem C_at_pad (hl : l.stackTraces = false) (d n : Nat) (s : CSt) (hn : s.1 0 = nI n) (hb : n ≤ 24) (j : Nat) (hj : j < 2000) (hc : j < n → ∃ q, q < 65536 ∧ s.2.1 2 j = nI q) : MtW (IC cy ax hp0) l D cy base mX0_at d 0 0 [.ref (ax 1), .int (nI j)] s (fun o s2 => o = .inl (some (.int (if j < n then s.2.1 2 j else 0))) ∧ s2 = s) := by
  refine MtW.of hl mfX0_at rfl (Nat.le_of_ble_eq_true rfl) ?_
  refine EW.iload_n dX0_at_0 rfl rfl ?_
  refine EW.if_lt 30 dX0_at_1 (by decide) (fun c1 => ?_) (fun c1 => ?_)
  · exact absurd c1 (nI_pos (by omega))
  · refine EW.iload_n dX0_at_4 rfl rfl ?_
    refine EW.aload_n dX0_at_5 rfl rfl ?_
    refine EC.get (k := 1) f_X0_15 dX0_at_6 (by decide) rfl rfl ?_
    refine EW.top hn ?_
    refine EW.icmp_ge 30 dX0_at_9 (by decide) (fun c9 => ?_) (fun c9 => ?_)
    · have c9 : n ≤ j := (nI_leI (by omega) (by omega)).mp c9
      refine EW.ic 0 dX0_at_30 ?_
      refine EW.zret (ty := .char) rfl (by decide +kernel) dX0_at_31 ?_
      rw [if_neg (by omega)]; exact ⟨rfl, rfl⟩
    · have c9 : ¬ (n ≤ j) := fun h => c9 ((nI_leI (by omega) (by omega)).mpr h)
      refine EW.iload_n dX0_at_12 rfl rfl ?_
      refine EW.aload_n dX0_at_13 rfl rfl ?_
      refine EC.get (k := 1) f_X0_9 dX0_at_14 (by decide) rfl rfl ?_
      refine EC.len2 dX0_at_17 ?_
      refine EW.icmp_ge 30 dX0_at_18 (by decide) (fun c18 => ?_) (fun c18 => ?_)
      · have c18 : 24 ≤ j := (nI_leI (by omega) (by omega)).mp c18
        refine EW.ic 0 dX0_at_30 ?_
        refine EW.zret (ty := .char) rfl (by decide +kernel) dX0_at_31 ?_
        rw [if_neg (by omega)]; exact ⟨rfl, rfl⟩
      · have c18 : ¬ (24 ≤ j) := fun h => c18 ((nI_leI (by omega) (by omega)).mpr h)
        refine EW.aload_n dX0_at_21 rfl rfl ?_
        refine EC.get (k := 1) f_X0_9 dX0_at_22 (by decide) rfl rfl ?_
        refine EW.iload_n dX0_at_25 rfl rfl ?_
        refine EC.ald2 (j) dX0_at_26 (by omega) ?_
        refine EW.goto 31 dX0_at_27 (by decide) ?_
        refine EW.zret (ty := .char) rfl (by obtain ⟨q, hq, e⟩ := hc (by omega); rw [e]; exact (pk_charN hq).1) dX0_at_31 ?_
        rw [if_pos (by omega)]; exact ⟨rfl, rfl⟩
set_option maxHeartbeats 4000000 in
theorem C_size_in (hl : l.stackTraces = false) (d : Nat) (s : CSt) : MtW (IC cy ax hp0) l D cy base mX0_size d 0 0 [.ref (ax 3)] s (fun o s2 => o = .inl (some (.int (s.1 1))) ∧ s2 = s) := by
  refine MtW.of hl mfX0_size rfl (Nat.le_of_ble_eq_true rfl) ?_
  refine EW.aload_n dX0_size_0 rfl rfl ?_
  refine EC.get (k := 3) f_X0_15 dX0_size_1 (by decide) rfl rfl ?_
  refine EW.iret rfl dX0_size_4 ?_
  exact ⟨rfl, rfl⟩
set_option maxHeartbeats 4000000 in
theorem C_removeAll_in (hl : l.stackTraces = false) (d : Nat) (s : CSt) : MtW (IC cy ax hp0) l D cy base mX0_removeAll d 0 0 [.ref (ax 3)] s (fun o s2 => o = .inl none ∧ s2 = (va_up s.1 1 0, s.2)) := by
  refine MtW.of hl mfX0_removeAll rfl (Nat.le_of_ble_eq_true rfl) ?_
  refine EW.aload_n dX0_removeAll_0 rfl rfl ?_
  refine EW.ic 0 dX0_removeAll_1 ?_
  refine EC.put1 f_X0_15 dX0_removeAll_2 ?_
  refine EW.vret rfl dX0_removeAll_5 ?_
  exact ⟨rfl, rfl⟩
set_option maxHeartbeats 4000000 in
theorem C_add_in (hl : l.stackTraces = false) (d n : Nat) (s : CSt) (hn : s.1 1 = nI n) (hb : n ≤ 20) (c : Int32) : MtW (IC cy ax hp0) l D cy base mX0_add d 0 0 [.ref (ax 3), .int c] s (fun o s2 => if n < 20 then o = .inl (some (.int 1)) ∧ s2 = (va_up s.1 1 (nI (n + 1)), va_up s.2.1 4 (upd (s.2.1 4) n (vp_nar .char c)), s.2.2) else o = .inl (some (.int 0)) ∧ s2 = s) := by
  refine MtW.of hl mfX0_add rfl (Nat.le_of_ble_eq_true rfl) ?_
  refine EW.aload_n dX0_add_0 rfl rfl ?_
  refine EC.get (k := 3) f_X0_15 dX0_add_1 (by decide) rfl rfl ?_
  refine EW.top hn ?_
  refine EW.if_lt 19 dX0_add_4 (by decide) (fun c4 => ?_) (fun c4 => ?_)
  · exact absurd c4 (nI_pos (by omega))
  · refine EW.aload_n dX0_add_7 rfl rfl ?_
    refine EC.get (k := 3) f_X0_15 dX0_add_8 (by decide) rfl rfl ?_
    refine EW.top hn ?_
    refine EW.aload_n dX0_add_11 rfl rfl ?_
    refine EC.get (k := 3) f_X0_9 dX0_add_12 (by decide) rfl rfl ?_
    refine EC.len4 dX0_add_15 ?_
    refine EW.icmp_lt 21 dX0_add_16 (by decide) (fun c16 => ?_) (fun c16 => ?_)
    · have c16 : n < 20 := (nI_ltI (by omega) (by omega)).mp c16
      refine EW.aload_n dX0_add_21 rfl rfl ?_
      refine EC.get (k := 3) f_X0_9 dX0_add_22 (by decide) rfl rfl ?_
      refine EW.aload_n dX0_add_25 rfl rfl ?_
      refine EC.get (k := 3) f_X0_15 dX0_add_26 (by decide) rfl rfl ?_
      refine EW.top hn ?_
      refine EW.iload_n dX0_add_29 rfl rfl ?_
      refine EC.ast4 (n) dX0_add_30 (by omega) ?_
      refine EW.aload_n dX0_add_31 rfl rfl ?_
      refine EW.dup dX0_add_32 rfl ?_
      refine EC.get (k := 3) f_X0_15 dX0_add_33 (by decide) rfl rfl ?_
      refine EW.top hn ?_
      refine EW.ic 1 dX0_add_36 ?_
      refine EW.iadd dX0_add_37 ?_
      refine EW.top (nI_add _ _) ?_
      refine EC.put1 f_X0_15 dX0_add_38 ?_
      refine EW.ic 1 dX0_add_41 ?_
      refine EW.zret (ty := .boolean) rfl (by decide +kernel) dX0_add_42 ?_
      rw [if_pos (by omega)]; exact ⟨rfl, rfl⟩
    · have c16 : ¬ (n < 20) := fun h => c16 ((nI_ltI (by omega) (by omega)).mpr h)
      refine EW.ic 0 dX0_add_19 ?_
      refine EW.zret (ty := .boolean) rfl (by decide +kernel) dX0_add_20 ?_
      rw [if_neg (by omega)]; exact ⟨rfl, rfl⟩
set_option maxHeartbeats 4000000 in
theorem C_at_in (hl : l.stackTraces = false) (d n : Nat) (s : CSt) (hn : s.1 1 = nI n) (hb : n ≤ 20) (j : Nat) (hj : j < 2000) (hc : j < n → ∃ q, q < 65536 ∧ s.2.1 4 j = nI q) : MtW (IC cy ax hp0) l D cy base mX0_at d 0 0 [.ref (ax 3), .int (nI j)] s (fun o s2 => o = .inl (some (.int (if j < n then s.2.1 4 j else 0))) ∧ s2 = s) := by
  refine MtW.of hl mfX0_at rfl (Nat.le_of_ble_eq_true rfl) ?_
  refine EW.iload_n dX0_at_0 rfl rfl ?_
  refine EW.if_lt 30 dX0_at_1 (by decide) (fun c1 => ?_) (fun c1 => ?_)
  · exact absurd c1 (nI_pos (by omega))
  · refine EW.iload_n dX0_at_4 rfl rfl ?_
    refine EW.aload_n dX0_at_5 rfl rfl ?_
    refine EC.get (k := 3) f_X0_15 dX0_at_6 (by decide) rfl rfl ?_
    refine EW.top hn ?_
    refine EW.icmp_ge 30 dX0_at_9 (by decide) (fun c9 => ?_) (fun c9 => ?_)
    · have c9 : n ≤ j := (nI_leI (by omega) (by omega)).mp c9
      refine EW.ic 0 dX0_at_30 ?_
      refine EW.zret (ty := .char) rfl (by decide +kernel) dX0_at_31 ?_
      rw [if_neg (by omega)]; exact ⟨rfl, rfl⟩
    · have c9 : ¬ (n ≤ j) := fun h => c9 ((nI_leI (by omega) (by omega)).mpr h)
      refine EW.iload_n dX0_at_12 rfl rfl ?_
      refine EW.aload_n dX0_at_13 rfl rfl ?_
      refine EC.get (k := 3) f_X0_9 dX0_at_14 (by decide) rfl rfl ?_
      refine EC.len4 dX0_at_17 ?_
      refine EW.icmp_ge 30 dX0_at_18 (by decide) (fun c18 => ?_) (fun c18 => ?_)
      · have c18 : 20 ≤ j := (nI_leI (by omega) (by omega)).mp c18
        refine EW.ic 0 dX0_at_30 ?_
        refine EW.zret (ty := .char) rfl (by decide +kernel) dX0_at_31 ?_
        rw [if_neg (by omega)]; exact ⟨rfl, rfl⟩
      · have c18 : ¬ (20 ≤ j) := fun h => c18 ((nI_leI (by omega) (by omega)).mpr h)
        refine EW.aload_n dX0_at_21 rfl rfl ?_
        refine EC.get (k := 3) f_X0_9 dX0_at_22 (by decide) rfl rfl ?_
        refine EW.iload_n dX0_at_25 rfl rfl ?_
        refine EC.ald4 (j) dX0_at_26 (by omega) ?_
        refine EW.goto 31 dX0_at_27 (by decide) ?_
        refine EW.zret (ty := .char) rfl (by obtain ⟨q, hq, e⟩ := hc (by omega); rw [e]; exact (pk_charN hq).1) dX0_at_31 ?_
        rw [if_pos (by omega)]; exact ⟨rfl, rfl⟩
end C1
end
section
theorem nI_i2b {q : Nat} (h : q < 128) : (nI q).toInt8.toInt32 = nI q := by
  have : ∀ q : Nat, q < 128 → (nI q).toInt8.toInt32 = nI q := by decide +kernel
  exact this q h
theorem nar_b {q : Nat} (h : q < 128) : vp_nar .byte (nI q) = nI q := nI_i2b h
theorem va_same {α : Type} {f : Nat → α} {k : Nat} : va_up f k (f k) = f := by
  funext j
  by_cases h : j = k
  · subst h; rw [va_up_self]
  · rw [va_up_ne _ _ h]
theorem va_uu {α : Type} {f : Nat → α} {k : Nat} {a b : α} : va_up (va_up f k a) k b = va_up f k b := bx_uu f k a b
section C2
variable {cy : Nat → ClassId} {ax : Nat → Nat} {hp0 : Hp} {l : Launch} {D : va_G} {base : Nat}
set_option maxHeartbeats 4000000 in
theorem C_fill_loop (d : Nat) (v : Int32) : ∀ (n i : Nat) (s : CSt), i + n = 126 → (∀ j, j < i → s.2.1 9 j = v) → EW (IC cy ax hp0) l D cy base mJ7_fill_53178 d 0 0 5 [(0, .ref (ax 9)), (1, .int v), (2, .int (nI i)), (3, .int (nI 126))] [] s (fun o s2 => ∃ f, o = .inl none ∧ s2 = (s.1, va_up s.2.1 9 f, s.2.2) ∧ ∀ j, j < 126 → f j = v) := by
  intro n
  induction n with
  | zero =>
    intro i s hi hv
    refine EW.iload_n dJ7_fill_53178_5 rfl rfl ?_
    refine EW.iload_n dJ7_fill_53178_6 rfl rfl ?_
    refine EW.icmp_ge 20 dJ7_fill_53178_7 (by decide) (fun c7 => ?_) (fun c7 => ?_)
    · have c7 : 126 ≤ i := (nI_leI (by omega) (by omega)).mp c7
      refine EW.vret rfl dJ7_fill_53178_20 ?_
      refine ⟨s.2.1 9, rfl, ?_, fun j hj => hv j (by omega)⟩; rw [va_same]
    · have c7 : ¬ (126 ≤ i) := fun h => c7 ((nI_leI (by omega) (by omega)).mpr h); omega
  | succ n ih =>
    intro i s hi hv
    refine EW.iload_n dJ7_fill_53178_5 rfl rfl ?_
    refine EW.iload_n dJ7_fill_53178_6 rfl rfl ?_
    refine EW.icmp_ge 20 dJ7_fill_53178_7 (by decide) (fun c7 => ?_) (fun c7 => ?_)
    · have c7 : 126 ≤ i := (nI_leI (by omega) (by omega)).mp c7; omega
    · have c7 : ¬ (126 ≤ i) := fun h => c7 ((nI_leI (by omega) (by omega)).mpr h)
      refine EW.aload_n dJ7_fill_53178_10 rfl rfl ?_
      refine EW.iload_n dJ7_fill_53178_11 rfl rfl ?_
      refine EW.iload_n dJ7_fill_53178_12 rfl rfl ?_
      refine EC.ast9 (i) dJ7_fill_53178_13 (by omega) ?_
      refine EW.iinc dJ7_fill_53178_14 rfl (nI_inc _) (by decide) ?_
      refine EW.goto 5 dJ7_fill_53178_17 (by decide) ?_
      refine EW.loc (lv' := [(0, .ref (ax 9)), (1, .int v), (2, .int (nI (i + 1))), (3, .int (nI 126))]) ⟨rfl, rfl, rfl, rfl, trivial⟩ ?_
      refine EW.post ?_ (ih (i + 1) _ (by omega) (fun j hj => ?_))
      · intro o s2 ⟨f, h1, h2, h3⟩
        refine ⟨f, h1, ?_, h3⟩
        rw [h2, va_uu]
      · show upd (s.2.1 9) i v j = v
        by_cases h : j = i
        · subst h; exact pk_us
        · rw [pk_un h]; exact hv j (by omega)
set_option maxHeartbeats 4000000 in
theorem C_fill (hl : l.stackTraces = false) (d : Nat) (s : CSt) (v : Int32) : MtW (IC cy ax hp0) l D cy base mJ7_fill_53178 d 0 0 [.ref (ax 9), .int v] s (fun o s2 => ∃ f, o = .inl none ∧ s2 = (s.1, va_up s.2.1 9 f, s.2.2) ∧ ∀ j, j < 126 → f j = v) := by
  refine MtW.of hl mfJ7_fill_53178 rfl (Nat.le_of_ble_eq_true rfl) ?_
  refine EW.ic 0 dJ7_fill_53178_0 ?_
  refine EW.istore_n dJ7_fill_53178_1 rfl (by decide) ?_
  refine EW.aload_n dJ7_fill_53178_2 rfl rfl ?_
  refine EC.len9 dJ7_fill_53178_3 ?_
  refine EW.istore_n dJ7_fill_53178_4 rfl (by decide) ?_
  exact EW.loc (lv' := [(0, .ref (ax 9)), (1, .int v), (2, .int (nI 0)), (3, .int (nI 126))]) ⟨rfl, rfl, rfl, rfl, trivial⟩ (C_fill_loop d v 126 0 s rfl (fun j hj => absurd hj (Nat.not_lt_zero j)))
set_option maxHeartbeats 4000000 in
theorem C_isCell (hl : l.stackTraces = false) {S : Type} (I : S → Hp → Prop) (d : Nat) (s : S) (c : Nat) (hc : c < 126) : MtW I l D cy base mX4_isCell d 0 0 [.int (nI c)] s (fun o s2 => o = .inl (some (.int (nI 1))) ∧ s2 = s) := by
  refine MtW.of hl mfX4_isCell rfl (Nat.le_of_ble_eq_true rfl) ?_
  refine EW.iload_n dX4_isCell_0 rfl rfl ?_
  refine EW.if_lt 14 dX4_isCell_1 (by decide) (fun c1 => ?_) (fun c1 => ?_)
  · exact absurd c1 (nI_pos (by omega))
  · refine EW.iload_n dX4_isCell_4 rfl rfl ?_
    refine EW.bp 126 dX4_isCell_5 ?_
    refine EW.icmp_ge 14 dX4_isCell_7 (by decide) (fun c7 => ?_) (fun c7 => ?_)
    · have c7 : 126 ≤ c := (nI_leI (by omega) (by omega)).mp c7; omega
    · have c7 : ¬ (126 ≤ c) := fun h => c7 ((nI_leI (by omega) (by omega)).mpr h)
      refine EW.ic 1 dX4_isCell_10 ?_
      refine EW.goto 15 dX4_isCell_11 (by decide) ?_
      refine EW.zret (ty := .boolean) rfl (by decide +kernel) dX4_isCell_15 ?_
      exact ⟨rfl, rfl⟩
set_option maxHeartbeats 4000000 in
theorem C_isCellN (hl : l.stackTraces = false) {S : Type} (I : S → Hp → Prop) (d : Nat) (s : S) : MtW I l D cy base mX4_isCell d 0 0 [.int (-1)] s (fun o s2 => o = .inl (some (.int (nI 0))) ∧ s2 = s) := by
  refine MtW.of hl mfX4_isCell rfl (Nat.le_of_ble_eq_true rfl) ?_
  refine EW.iload_n dX4_isCell_0 rfl rfl ?_
  refine EW.if_lt 14 dX4_isCell_1 (by decide) (fun c1 => ?_) (fun c1 => ?_)
  · refine EW.ic 0 dX4_isCell_14 ?_
    refine EW.zret (ty := .boolean) rfl (by decide +kernel) dX4_isCell_15 ?_
    exact ⟨rfl, rfl⟩
  · exact absurd (by decide +kernel) c1
set_option maxHeartbeats 4000000 in
theorem C_recall (hl : l.stackTraces = false) (d : Nat) (s : CSt) (c : Nat) (hc : c < 126) : MtW (IC cy ax hp0) l D cy base mX4_recall (d + 1) 0 0 [.ref (ax 8), .int (nI c)] s (fun o s2 => o = .inl (some (.int (s.2.1 9 c))) ∧ s2 = s) := by
  refine MtW.of hl mfX4_recall rfl (Nat.le_of_ble_eq_true rfl) ?_
  refine EW.iload_n dX4_recall_0 rfl rfl ?_
  refine EW.callS (bc := 0) (bs := 0) (mc' := 0) (ms' := 0) (C_isCell hl _ d s c hc) mfX4_isCell rfl l_X4_32 mvX4_isCell (by omega) dX4_recall_1 rfl rfl (Nat.le_of_ble_eq_true rfl) (fun v1 s1 q1 => ?_) (fun _ _ q => nomatch q.1)
  obtain ⟨e1, h1⟩ := q1; cases e1; replace h1 := h1.symm; subst h1
  refine EW.if_eq 16 dX4_recall_4 (by decide) (fun c4 => ?_) (fun c4 => ?_)
  · exact absurd c4 (by decide +kernel)
  · refine EW.aload_n dX4_recall_7 rfl rfl ?_
    refine EC.get (k := 8) f_X4_9 dX4_recall_8 (by decide) rfl rfl ?_
    refine EW.iload_n dX4_recall_11 rfl rfl ?_
    refine EC.ald9 (c) dX4_recall_12 (by omega) ?_
    refine EW.goto 18 dX4_recall_13 (by decide) ?_
    refine EW.iret rfl dX4_recall_18 ?_
    exact ⟨rfl, rfl⟩
set_option maxHeartbeats 4000000 in
theorem C_keep (hl : l.stackTraces = false) (d : Nat) (s : CSt) (c : Nat) (hc : c < 126) (v : Int32) : MtW (IC cy ax hp0) l D cy base mX4_keep (d + 1) 0 0 [.ref (ax 8), .int (nI c), .int v] s (fun o s2 => o = .inl none ∧ s2 = (s.1, va_up s.2.1 9 (upd (s.2.1 9) c v), s.2.2)) := by
  refine MtW.of hl mfX4_keep rfl (Nat.le_of_ble_eq_true rfl) ?_
  refine EW.iload_n dX4_keep_0 rfl rfl ?_
  refine EW.callS (bc := 0) (bs := 0) (mc' := 0) (ms' := 0) (C_isCell hl _ d s c hc) mfX4_isCell rfl l_X4_32 mvX4_isCell (by omega) dX4_keep_1 rfl rfl (Nat.le_of_ble_eq_true rfl) (fun v1 s1 q1 => ?_) (fun _ _ q => nomatch q.1)
  obtain ⟨e1, h1⟩ := q1; cases e1; replace h1 := h1.symm; subst h1
  refine EW.if_eq 14 dX4_keep_4 (by decide) (fun c4 => ?_) (fun c4 => ?_)
  · exact absurd c4 (by decide +kernel)
  · refine EW.aload_n dX4_keep_7 rfl rfl ?_
    refine EC.get (k := 8) f_X4_9 dX4_keep_8 (by decide) rfl rfl ?_
    refine EW.iload_n dX4_keep_11 rfl rfl ?_
    refine EW.iload_n dX4_keep_12 rfl rfl ?_
    refine EC.ast9 (c) dX4_keep_13 (by omega) ?_
    refine EW.vret rfl dX4_keep_14 ?_
    exact ⟨rfl, rfl⟩
set_option maxHeartbeats 4000000 in
theorem C_belowSize (hl : l.stackTraces = false) (d : Nat) (s : CSt) (c : Nat) (hc : c < 126) : MtW (IC cy ax hp0) l D cy base mX4_belowSize (d + 1) 0 0 [.ref (ax 8), .int (nI c)] s (fun o s2 => o = .inl (some (.int (s.2.1 10 c))) ∧ s2 = s) := by
  refine MtW.of hl mfX4_belowSize rfl (Nat.le_of_ble_eq_true rfl) ?_
  refine EW.iload_n dX4_belowSize_0 rfl rfl ?_
  refine EW.callS (bc := 0) (bs := 0) (mc' := 0) (ms' := 0) (C_isCell hl _ d s c hc) mfX4_isCell rfl l_X4_32 mvX4_isCell (by omega) dX4_belowSize_1 rfl rfl (Nat.le_of_ble_eq_true rfl) (fun v1 s1 q1 => ?_) (fun _ _ q => nomatch q.1)
  obtain ⟨e1, h1⟩ := q1; cases e1; replace h1 := h1.symm; subst h1
  refine EW.if_eq 16 dX4_belowSize_4 (by decide) (fun c4 => ?_) (fun c4 => ?_)
  · exact absurd c4 (by decide +kernel)
  · refine EW.aload_n dX4_belowSize_7 rfl rfl ?_
    refine EC.get (k := 8) f_X4_15 dX4_belowSize_8 (by decide) rfl rfl ?_
    refine EW.iload_n dX4_belowSize_11 rfl rfl ?_
    refine EC.ald10 (c) dX4_belowSize_12 (by omega) ?_
    refine EW.goto 17 dX4_belowSize_13 (by decide) ?_
    refine EW.iret rfl dX4_belowSize_17 ?_
    exact ⟨rfl, rfl⟩
set_option maxHeartbeats 4000000 in
theorem C_belowSizeN (hl : l.stackTraces = false) (d : Nat) (s : CSt) : MtW (IC cy ax hp0) l D cy base mX4_belowSize (d + 1) 0 0 [.ref (ax 8), .int (-1)] s (fun o s2 => o = .inl (some (.int (nI 0))) ∧ s2 = s) := by
  refine MtW.of hl mfX4_belowSize rfl (Nat.le_of_ble_eq_true rfl) ?_
  refine EW.iload_n dX4_belowSize_0 rfl rfl ?_
  refine EW.callS (bc := 0) (bs := 0) (mc' := 0) (ms' := 0) (C_isCellN hl _ d s) mfX4_isCell rfl l_X4_32 mvX4_isCell (by omega) dX4_belowSize_1 rfl rfl (Nat.le_of_ble_eq_true rfl) (fun v1 s1 q1 => ?_) (fun _ _ q => nomatch q.1)
  obtain ⟨e1, h1⟩ := q1; cases e1; replace h1 := h1.symm; subst h1
  refine EW.if_eq 16 dX4_belowSize_4 (by decide) (fun c4 => ?_) (fun c4 => ?_)
  · refine EW.ic 0 dX4_belowSize_16 ?_
    refine EW.iret rfl dX4_belowSize_17 ?_
    exact ⟨rfl, rfl⟩
  · exact absurd c4 (by decide +kernel)
set_option maxHeartbeats 4000000 in
theorem C_cutBelow (hl : l.stackTraces = false) (d : Nat) (s : CSt) (c : Nat) (hc : c < 126) (v : Int32) : MtW (IC cy ax hp0) l D cy base mX4_cutBelow (d + 1) 0 0 [.ref (ax 8), .int (nI c), .int v] s (fun o s2 => o = .inl none ∧ s2 = (s.1, va_up s.2.1 10 (upd (s.2.1 10) c v), s.2.2)) := by
  refine MtW.of hl mfX4_cutBelow rfl (Nat.le_of_ble_eq_true rfl) ?_
  refine EW.iload_n dX4_cutBelow_0 rfl rfl ?_
  refine EW.callS (bc := 0) (bs := 0) (mc' := 0) (ms' := 0) (C_isCell hl _ d s c hc) mfX4_isCell rfl l_X4_32 mvX4_isCell (by omega) dX4_cutBelow_1 rfl rfl (Nat.le_of_ble_eq_true rfl) (fun v1 s1 q1 => ?_) (fun _ _ q => nomatch q.1)
  obtain ⟨e1, h1⟩ := q1; cases e1; replace h1 := h1.symm; subst h1
  refine EW.if_eq 14 dX4_cutBelow_4 (by decide) (fun c4 => ?_) (fun c4 => ?_)
  · exact absurd c4 (by decide +kernel)
  · refine EW.aload_n dX4_cutBelow_7 rfl rfl ?_
    refine EC.get (k := 8) f_X4_15 dX4_cutBelow_8 (by decide) rfl rfl ?_
    refine EW.iload_n dX4_cutBelow_11 rfl rfl ?_
    refine EW.iload_n dX4_cutBelow_12 rfl rfl ?_
    refine EC.ast10 (c) dX4_cutBelow_13 (by omega) ?_
    refine EW.vret rfl dX4_cutBelow_14 ?_
    exact ⟨rfl, rfl⟩
set_option maxHeartbeats 4000000 in
theorem C_cutBelowN (hl : l.stackTraces = false) (d : Nat) (s : CSt) (v : Int32) : MtW (IC cy ax hp0) l D cy base mX4_cutBelow (d + 1) 0 0 [.ref (ax 8), .int (-1), .int v] s (fun o s2 => o = .inl none ∧ s2 = s) := by
  refine MtW.of hl mfX4_cutBelow rfl (Nat.le_of_ble_eq_true rfl) ?_
  refine EW.iload_n dX4_cutBelow_0 rfl rfl ?_
  refine EW.callS (bc := 0) (bs := 0) (mc' := 0) (ms' := 0) (C_isCellN hl _ d s) mfX4_isCell rfl l_X4_32 mvX4_isCell (by omega) dX4_cutBelow_1 rfl rfl (Nat.le_of_ble_eq_true rfl) (fun v1 s1 q1 => ?_) (fun _ _ q => nomatch q.1)
  obtain ⟨e1, h1⟩ := q1; cases e1; replace h1 := h1.symm; subst h1
  refine EW.if_eq 14 dX4_cutBelow_4 (by decide) (fun c4 => ?_) (fun c4 => ?_)
  · refine EW.vret rfl dX4_cutBelow_14 ?_
    exact ⟨rfl, rfl⟩
  · exact absurd c4 (by decide +kernel)
set_option maxHeartbeats 4000000 in
theorem C_addBelowN (hl : l.stackTraces = false) (d : Nat) (s : CSt) (v : Int32) : MtW (IC cy ax hp0) l D cy base mX4_addBelow (d + 1) 0 0 [.ref (ax 8), .int (-1), .int v] s (fun o s2 => o = .inl none ∧ s2 = s) := by
  refine MtW.of hl mfX4_addBelow rfl (Nat.le_of_ble_eq_true rfl) ?_
  refine EW.iload_n dX4_addBelow_0 rfl rfl ?_
  refine EW.callS (bc := 0) (bs := 0) (mc' := 0) (ms' := 0) (C_isCellN hl _ d s) mfX4_isCell rfl l_X4_32 mvX4_isCell (by omega) dX4_addBelow_1 rfl rfl (Nat.le_of_ble_eq_true rfl) (fun v1 s1 q1 => ?_) (fun _ _ q => nomatch q.1)
  obtain ⟨e1, h1⟩ := q1; cases e1; replace h1 := h1.symm; subst h1
  refine EW.if_eq 53 dX4_addBelow_4 (by decide) (fun c4 => ?_) (fun c4 => ?_)
  · refine EW.vret rfl dX4_addBelow_53 ?_
    exact ⟨rfl, rfl⟩
  · exact absurd c4 (by decide +kernel)
set_option maxHeartbeats 4000000 in
theorem C_addBelow (hl : l.stackTraces = false) (d : Nat) (s : CSt) (c : Nat) (hc : c < 126) (q z : Nat) (hq : q < 126) (hz : s.2.1 10 c = nI z) (hzb : z < 2000000) : MtW (IC cy ax hp0) l D cy base mX4_addBelow (d + 1) 0 0 [.ref (ax 8), .int (nI c), .int (nI q)] s (fun o s2 => o = .inl none ∧ s2 = (s.1, va_up (if z < 60 then va_up s.2.1 11 (upd (s.2.1 11) (c * 60 + z) (nI q)) else s.2.1) 10 (upd (s.2.1 10) c (nI (z + 1))), s.2.2)) := by
  refine MtW.of hl mfX4_addBelow rfl (Nat.le_of_ble_eq_true rfl) ?_
  refine EW.iload_n dX4_addBelow_0 rfl rfl ?_
  refine EW.callS (bc := 0) (bs := 0) (mc' := 0) (ms' := 0) (C_isCell hl _ d s c hc) mfX4_isCell rfl l_X4_32 mvX4_isCell (by omega) dX4_addBelow_1 rfl rfl (Nat.le_of_ble_eq_true rfl) (fun v1 s1 q1 => ?_) (fun _ _ q => nomatch q.1)
  obtain ⟨e1, h1⟩ := q1; cases e1; replace h1 := h1.symm; subst h1
  refine EW.if_eq 53 dX4_addBelow_4 (by decide) (fun c4 => ?_) (fun c4 => ?_)
  · exact absurd c4 (by decide +kernel)
  · refine EW.iload_n dX4_addBelow_7 rfl rfl ?_
    refine EW.callS (bc := 0) (bs := 0) (mc' := 0) (ms' := 0) (C_isCell hl _ d s q hq) mfX4_isCell rfl l_X4_32 mvX4_isCell (by omega) dX4_addBelow_8 rfl rfl (Nat.le_of_ble_eq_true rfl) (fun v8 s8 q8 => ?_) (fun _ _ q => nomatch q.1)
    obtain ⟨e8, h8⟩ := q8; cases e8; replace h8 := h8.symm; subst h8
    refine EW.if_eq 53 dX4_addBelow_11 (by decide) (fun c11 => ?_) (fun c11 => ?_)
    · exact absurd c11 (by decide +kernel)
    · refine EW.aload_n dX4_addBelow_14 rfl rfl ?_
      refine EC.get (k := 8) f_X4_15 dX4_addBelow_15 (by decide) rfl rfl ?_
      refine EW.iload_n dX4_addBelow_18 rfl rfl ?_
      refine EC.ald10 (c) dX4_addBelow_19 (by omega) ?_
      refine EW.top hz ?_
      refine EW.istore_n dX4_addBelow_20 rfl (by decide) ?_
      refine EW.iload_n dX4_addBelow_21 rfl rfl ?_
      refine EW.if_lt 44 dX4_addBelow_22 (by decide) (fun c22 => ?_) (fun c22 => ?_)
      · exact absurd c22 (nI_pos (by omega))
      · refine EW.iload_n dX4_addBelow_25 rfl rfl ?_
        refine EW.bp 60 dX4_addBelow_26 ?_
        refine EW.icmp_ge 44 dX4_addBelow_28 (by decide) (fun c28 => ?_) (fun c28 => ?_)
        · have c28 : 60 ≤ z := (nI_leI (by omega) (by omega)).mp c28
          refine EW.aload_n dX4_addBelow_44 rfl rfl ?_
          refine EC.get (k := 8) f_X4_15 dX4_addBelow_45 (by decide) rfl rfl ?_
          refine EW.iload_n dX4_addBelow_48 rfl rfl ?_
          refine EW.iload_n dX4_addBelow_49 rfl rfl ?_
          refine EW.ic 1 dX4_addBelow_50 ?_
          refine EW.iadd dX4_addBelow_51 ?_
          refine EW.top (nI_add _ _) ?_
          refine EC.ast10 (c) dX4_addBelow_52 (by omega) ?_
          refine EW.vret rfl dX4_addBelow_53 ?_
          first | (rw [if_pos (by omega), nar_b (by omega)]; exact ⟨rfl, rfl⟩) | (rw [if_neg (by omega)]; exact ⟨rfl, rfl⟩)
        · have c28 : ¬ (60 ≤ z) := fun h => c28 ((nI_leI (by omega) (by omega)).mpr h)
          refine EW.aload_n dX4_addBelow_31 rfl rfl ?_
          refine EC.get (k := 8) f_X4_18 dX4_addBelow_32 (by decide) rfl rfl ?_
          refine EW.iload_n dX4_addBelow_35 rfl rfl ?_
          refine EW.bp 60 dX4_addBelow_36 ?_
          refine EW.imul dX4_addBelow_38 ?_
          refine EW.top (pk_mul _ _) ?_
          refine EW.iload_n dX4_addBelow_39 rfl rfl ?_
          refine EW.iadd dX4_addBelow_40 ?_
          refine EW.top (nI_add _ _) ?_
          refine EW.iload_n dX4_addBelow_41 rfl rfl ?_
          refine EW.i2b dX4_addBelow_42 (nI_i2b (by omega)) ?_
          refine EC.ast11 ((c * 60) + z) dX4_addBelow_43 (by omega) ?_
          refine EW.aload_n dX4_addBelow_44 rfl rfl ?_
          refine EC.get (k := 8) f_X4_15 dX4_addBelow_45 (by decide) rfl rfl ?_
          refine EW.iload_n dX4_addBelow_48 rfl rfl ?_
          refine EW.iload_n dX4_addBelow_49 rfl rfl ?_
          refine EW.ic 1 dX4_addBelow_50 ?_
          refine EW.iadd dX4_addBelow_51 ?_
          refine EW.top (nI_add _ _) ?_
          refine EC.ast10 (c) dX4_addBelow_52 (by omega) ?_
          refine EW.vret rfl dX4_addBelow_53 ?_
          first | (rw [if_pos (by omega), nar_b (by omega)]; exact ⟨rfl, rfl⟩) | (rw [if_neg (by omega)]; exact ⟨rfl, rfl⟩)
set_option maxHeartbeats 4000000 in
theorem C_below (hl : l.stackTraces = false) (d : Nat) (s : CSt) (c : Nat) (hc : c < 126) (i : Nat) (hi : i < 60) : MtW (IC cy ax hp0) l D cy base mX4_below (d + 1) 0 0 [.ref (ax 8), .int (nI c), .int (nI i)] s (fun o s2 => o = .inl (some (.int (s.2.1 11 (c * 60 + i)))) ∧ s2 = s) := by
  refine MtW.of hl mfX4_below rfl (Nat.le_of_ble_eq_true rfl) ?_
  refine EW.iload_n dX4_below_0 rfl rfl ?_
  refine EW.callS (bc := 0) (bs := 0) (mc' := 0) (ms' := 0) (C_isCell hl _ d s c hc) mfX4_isCell rfl l_X4_32 mvX4_isCell (by omega) dX4_below_1 rfl rfl (Nat.le_of_ble_eq_true rfl) (fun v1 s1 q1 => ?_) (fun _ _ q => nomatch q.1)
  obtain ⟨e1, h1⟩ := q1; cases e1; replace h1 := h1.symm; subst h1
  refine EW.if_eq 31 dX4_below_4 (by decide) (fun c4 => ?_) (fun c4 => ?_)
  · exact absurd c4 (by decide +kernel)
  · refine EW.iload_n dX4_below_7 rfl rfl ?_
    refine EW.if_lt 31 dX4_below_8 (by decide) (fun c8 => ?_) (fun c8 => ?_)
    · exact absurd c8 (nI_pos (by omega))
    · refine EW.iload_n dX4_below_11 rfl rfl ?_
      refine EW.bp 60 dX4_below_12 ?_
      refine EW.icmp_ge 31 dX4_below_14 (by decide) (fun c14 => ?_) (fun c14 => ?_)
      · have c14 : 60 ≤ i := (nI_leI (by omega) (by omega)).mp c14; omega
      · have c14 : ¬ (60 ≤ i) := fun h => c14 ((nI_leI (by omega) (by omega)).mpr h)
        refine EW.aload_n dX4_below_17 rfl rfl ?_
        refine EC.get (k := 8) f_X4_18 dX4_below_18 (by decide) rfl rfl ?_
        refine EW.iload_n dX4_below_21 rfl rfl ?_
        refine EW.bp 60 dX4_below_22 ?_
        refine EW.imul dX4_below_24 ?_
        refine EW.top (pk_mul _ _) ?_
        refine EW.iload_n dX4_below_25 rfl rfl ?_
        refine EW.iadd dX4_below_26 ?_
        refine EW.top (nI_add _ _) ?_
        refine EC.ald11 ((c * 60) + i) dX4_below_27 (by omega) ?_
        refine EW.goto 32 dX4_below_28 (by decide) ?_
        refine EW.iret rfl dX4_below_32 ?_
        exact ⟨rfl, rfl⟩
set_option maxHeartbeats 4000000 in
theorem C_cellOf (hl : l.stackTraces = false) {S : Type} (I : S → Hp → Prop) (d : Nat) (s : S) (r p : Nat) (hr : r < 6) (hp : p < 21) : MtW I l D cy base mX4_cellOf (d + 1) 0 0 [.int (nI r), .int (nI p)] s (fun o s2 => o = .inl (some (.int (nI (r * 21 + p)))) ∧ s2 = s) := by
  refine MtW.of hl mfX4_cellOf rfl (Nat.le_of_ble_eq_true rfl) ?_
  refine EW.iload_n dX4_cellOf_0 rfl rfl ?_
  refine EW.callSN (bc := 0) (bs := 0) (mc' := 0) (ms' := 0) (C_isRule hl _ d s (nI r)) mfX8_isRule rfl l_X4_28 mvX8_isRule (by omega) dX4_cellOf_1 rfl rfl (Nat.le_of_ble_eq_true rfl) (fun _ _ q => nomatch q.1) (fun v1 s1 q1 => ?_)
  obtain ⟨e1, h1⟩ := q1; cases e1; replace h1 := h1.symm; subst h1; refine EW.top (y := nI 1) (if_pos ⟨nI_pos' (by omega), by rw [← nI_6v]; exact nI_lt hr (by decide)⟩) ?_
  refine EW.if_eq 21 dX4_cellOf_4 (by decide) (fun c4 => ?_) (fun c4 => ?_)
  · exact absurd c4 (by decide +kernel)
  · refine EW.iload_n dX4_cellOf_7 rfl rfl ?_
    refine EW.if_lt 21 dX4_cellOf_8 (by decide) (fun c8 => ?_) (fun c8 => ?_)
    · exact absurd c8 (nI_pos (by omega))
    · refine EW.iload_n dX4_cellOf_11 rfl rfl ?_
      refine EW.bp 21 dX4_cellOf_12 ?_
      refine EW.icmp_ge 21 dX4_cellOf_14 (by decide) (fun c14 => ?_) (fun c14 => ?_)
      · have c14 : 21 ≤ p := (nI_leI (by omega) (by omega)).mp c14; omega
      · have c14 : ¬ (21 ≤ p) := fun h => c14 ((nI_leI (by omega) (by omega)).mpr h)
        refine EW.ic 1 dX4_cellOf_17 ?_
        refine EW.goto 22 dX4_cellOf_18 (by decide) ?_
        refine EW.istore_n dX4_cellOf_22 rfl (by decide) ?_
        refine EW.iload_n dX4_cellOf_23 rfl rfl ?_
        refine EW.if_eq 36 dX4_cellOf_24 (by decide) (fun c24 => ?_) (fun c24 => ?_)
        · exact absurd c24 (by decide +kernel)
        · refine EW.iload_n dX4_cellOf_27 rfl rfl ?_
          refine EW.bp 21 dX4_cellOf_28 ?_
          refine EW.imul dX4_cellOf_30 ?_
          refine EW.top (pk_mul _ _) ?_
          refine EW.iload_n dX4_cellOf_31 rfl rfl ?_
          refine EW.iadd dX4_cellOf_32 ?_
          refine EW.top (nI_add _ _) ?_
          refine EW.goto 37 dX4_cellOf_33 (by decide) ?_
          refine EW.iret rfl dX4_cellOf_37 ?_
          exact ⟨rfl, rfl⟩
set_option maxHeartbeats 4000000 in
theorem C_forget (hl : l.stackTraces = false) (d : Nat) (s : CSt) : MtW (IC cy ax hp0) l D cy base mX4_forget (d + 1) 0 0 [.ref (ax 8)] s (fun o s2 => ∃ f, o = .inl none ∧ s2 = (s.1, va_up s.2.1 9 f, s.2.2) ∧ ∀ j, j < 126 → f j = -2) := by
  refine MtW.of hl mfX4_forget rfl (Nat.le_of_ble_eq_true rfl) ?_
  refine EW.aload_n dX4_forget_0 rfl rfl ?_
  refine EC.get (k := 8) f_X4_9 dX4_forget_1 (by decide) rfl rfl ?_
  refine EW.bipush (v := -2) dX4_forget_4 (by decide +kernel) ?_
  refine EW.callS (bc := 0) (bs := 0) (mc' := 0) (ms' := 0) (C_fill hl d s (-2)) mfJ7_fill_53178 rfl l_X4_22 mvJ7_fill_53178 (by omega) dX4_forget_6 rfl rfl (Nat.le_of_ble_eq_true rfl) (fun v6 s6 q6 => ?_) (fun _ _ q => by obtain ⟨f, e, _⟩ := q; cases e)
  obtain ⟨f, e6, h6, hf⟩ := q6; cases e6; replace h6 := h6.symm; subst h6
  refine EW.vret rfl dX4_forget_9 ?_
  exact ⟨f, rfl, rfl, hf⟩
end C2
end
section
section C3
theorem EW.rf {S : Type} {I : S → Hp → Prop} {l : Launch} {D : va_G} {cy : Nat → ClassId} {base : Nat} {M : Mth} {d bc bs pc : Nat} {lv : List (Nat × Value)} {st : List Value} {s : S} {Q : Oc → S → Prop} {r : Option Nat} {a : Nat} (e : r = some a) (k : EW I l D cy base M d bc bs pc lv (.ref a :: st) s Q) : EW I l D cy base M d bc bs pc lv (va_rf r :: st) s Q := by
  subst e
  exact k
/-- the nodes ps hang together by f, the first of them is r -/
def lnk (nd : Nat → Option ND) (f : ND → Option Nat) : List Nat → Option Nat → Prop
  | [], r => r = none
  | p :: t, r => r = some p ∧ ∃ n, nd p = some n ∧ lnk nd f t (f n)
abbrev nLater (n : ND) : Option Nat := n.2.2.2.2.2.1
abbrev nNext (n : ND) : Option Nat := n.2.2.2.2.1
def rulF (nd : Nat → Option ND) : List Nat → Int32 → Int32
  | [], acc => acc
  | p :: t, acc => rulF nd t (match nd p with
    | some n => if n.1 = nI 2 then acc ||| (nI 1 <<< (n.2.1 &&& 31)) else acc
    | none => acc)
def algF (nd : Nat → Option ND) : List Nat → Bool
  | [] => true
  | p :: t => (match nd p with
    | some n => !(n.2.2.2.2.2.2.2 == 0)
    | none => true) && algF nd t
def fgtN (n : ND) : ND := (n.1, n.2.1, n.2.2.1, n.2.2.2.1, n.2.2.2.2.1, n.2.2.2.2.2.1, nI 0, nI 0)
def fgtF : List Nat → (Nat → Option ND) → (Nat → Option ND)
  | [], nd => nd
  | p :: t, nd => fgtF t (va_up nd p ((nd p).map fgtN))
variable {cy : Nat → ClassId} {ax : Nat → Nat} {hp0 : Hp} {l : Launch} {D : va_G} {base : Nat}
set_option maxHeartbeats 4000000 in
theorem C_rulesInIt_loop (d : Nat) (x : Nat) : ∀ (ps : List Nat) (r : Option Nat) (acc : Int32) (s : CSt), lnk s.2.2.2.2.1 nLater ps r → EW (IC cy ax hp0) l D cy base mX1_rulesInIt d 0 0 7 [(0, .ref x), (1, .int acc), (2, va_rf r)] [] s (fun o s2 => o = .inl (some (.int (rulF s.2.2.2.2.1 ps acc))) ∧ s2 = s) := by
  intro ps
  induction ps with
  | nil =>
    intro r acc s h
    subst h
    refine EW.aloadq_n dX1_rulesInIt_7 rfl rfl ?_
    refine EW.ifnull (r := none) 36 dX1_rulesInIt_8 (by decide) (fun _ => ?_) (fun _ h => nomatch h)
    refine EW.iload_n dX1_rulesInIt_36 rfl rfl ?_
    refine EW.iret rfl dX1_rulesInIt_37 ?_
    exact ⟨rfl, rfl⟩
  | cons p t ih =>
    intro r acc s h
    obtain ⟨rfl, n, hn, ht⟩ := h
    have hu : rulF s.2.2.2.2.1 (p :: t) acc = rulF s.2.2.2.2.1 t (if n.1 = nI 2 then acc ||| (nI 1 <<< (n.2.1 &&& 31)) else acc) := by simp only [rulF, hn]
    rw [hu]
    refine EW.aload_n dX1_rulesInIt_7 rfl rfl ?_
    refine EW.ifnull (r := some p) 36 dX1_rulesInIt_8 (by decide) (fun h => nomatch h) (fun _ _ => ?_)
    refine EW.aload_n dX1_rulesInIt_11 rfl rfl ?_
    refine EC.ndget f_X1_34 dX1_rulesInIt_12 hn rfl ?_
    refine EW.ic 2 dX1_rulesInIt_15 ?_
    refine EW.icmp_ne 28 dX1_rulesInIt_16 (by decide) (fun c16 => ?_) (fun c16 => ?_)
    · rw [if_neg c16]
      refine EW.aload_n dX1_rulesInIt_28 rfl rfl ?_
      refine EC.ndget f_X1_23 dX1_rulesInIt_29 hn rfl ?_
      refine EW.astoreq_n dX1_rulesInIt_32 rfl (by decide) ?_
      refine EW.goto 7 dX1_rulesInIt_33 (by decide) ?_
      exact EW.loc (lv' := [(0, .ref x), (1, .int _), (2, va_rf (nLater n))]) ⟨rfl, rfl, rfl, trivial⟩ (ih (nLater n) _ s ht)
    · rw [if_pos c16]
      refine EW.iload_n dX1_rulesInIt_19 rfl rfl ?_
      refine EW.ic 1 dX1_rulesInIt_20 ?_
      refine EW.aload_n dX1_rulesInIt_21 rfl rfl ?_
      refine EC.ndget f_X1_37 dX1_rulesInIt_22 hn rfl ?_
      refine EW.ishl dX1_rulesInIt_25 ?_
      refine EW.ior dX1_rulesInIt_26 ?_
      refine EW.istore_n dX1_rulesInIt_27 rfl (by decide) ?_
      refine EW.aload_n dX1_rulesInIt_28 rfl rfl ?_
      refine EC.ndget f_X1_23 dX1_rulesInIt_29 hn rfl ?_
      refine EW.astoreq_n dX1_rulesInIt_32 rfl (by decide) ?_
      refine EW.goto 7 dX1_rulesInIt_33 (by decide) ?_
      exact EW.loc (lv' := [(0, .ref x), (1, .int _), (2, va_rf (nLater n))]) ⟨rfl, rfl, rfl, trivial⟩ (ih (nLater n) _ s ht)
set_option maxHeartbeats 4000000 in
theorem C_rulesInIt (hl : l.stackTraces = false) (d : Nat) (s : CSt) (x : Nat) (e9 : Option Nat × Option Nat) (he : s.2.2.2.2.2 x = some e9) (ps : List Nat) (hps : lnk s.2.2.2.2.1 nLater ps e9.1) : MtW (IC cy ax hp0) l D cy base mX1_rulesInIt d 0 0 [.ref x] s (fun o s2 => o = .inl (some (.int (rulF s.2.2.2.2.1 ps 0))) ∧ s2 = s) := by
  refine MtW.of hl mfX1_rulesInIt rfl (Nat.le_of_ble_eq_true rfl) ?_
  refine EW.ic 0 dX1_rulesInIt_0 ?_
  refine EW.istore_n dX1_rulesInIt_1 rfl (by decide) ?_
  refine EW.aload_n dX1_rulesInIt_2 rfl rfl ?_
  refine EC.exget f_X1_20 dX1_rulesInIt_3 he rfl ?_
  refine EW.astoreq_n dX1_rulesInIt_6 rfl (by decide) ?_
  exact EW.loc (lv' := [(0, .ref x), (1, .int (nI 0)), (2, va_rf e9.1)]) ⟨rfl, rfl, rfl, trivial⟩ (C_rulesInIt_loop d x ps e9.1 (nI 0) s hps)
set_option maxHeartbeats 4000000 in
theorem C_allGood_loop (d : Nat) (x : Nat) : ∀ (ps : List Nat) (r : Option Nat) (s : CSt), lnk s.2.2.2.2.1 nLater ps r → EW (IC cy ax hp0) l D cy base mX1_allGood d 0 0 5 [(0, .ref x), (1, va_rf r)] [] s (fun o s2 => o = .inl (some (.int (if algF s.2.2.2.2.1 ps = true then nI 1 else nI 0))) ∧ s2 = s) := by
  intro ps
  induction ps with
  | nil =>
    intro r s h
    subst h
    refine EW.aloadq_n dX1_allGood_5 rfl rfl ?_
    refine EW.ifnull (r := none) 26 dX1_allGood_6 (by decide) (fun _ => ?_) (fun _ h => nomatch h)
    refine EW.ic 1 dX1_allGood_26 ?_
    refine EW.zret (ty := .boolean) rfl (by decide +kernel) dX1_allGood_27 ?_
    exact ⟨rfl, rfl⟩
  | cons p t ih =>
    intro r s h
    obtain ⟨rfl, n, hn, ht⟩ := h
    have hu : algF s.2.2.2.2.1 (p :: t) = (!(n.2.2.2.2.2.2.2 == 0) && algF s.2.2.2.2.1 t) := by simp only [algF, hn]
    rw [hu]
    refine EW.aload_n dX1_allGood_5 rfl rfl ?_
    refine EW.ifnull (r := some p) 26 dX1_allGood_6 (by decide) (fun h => nomatch h) (fun _ _ => ?_)
    refine EW.aload_n dX1_allGood_9 rfl rfl ?_
    refine EC.ndget f_X1_30 dX1_allGood_10 hn rfl ?_
    refine EW.if_ne 18 dX1_allGood_13 (by decide) (fun c13 => ?_) (fun c13 => ?_)
    · rw [show (!(n.2.2.2.2.2.2.2 == 0) && algF s.2.2.2.2.1 t) = algF s.2.2.2.2.1 t by simp [c13]]
      refine EW.aload_n dX1_allGood_18 rfl rfl ?_
      refine EC.ndget f_X1_23 dX1_allGood_19 hn rfl ?_
      refine EW.astoreq_n dX1_allGood_22 rfl (by decide) ?_
      refine EW.goto 5 dX1_allGood_23 (by decide) ?_
      exact EW.loc (lv' := [(0, .ref x), (1, va_rf (nLater n))]) ⟨rfl, rfl, trivial⟩ (ih (nLater n) s ht)
    · rw [show (!(n.2.2.2.2.2.2.2 == 0) && algF s.2.2.2.2.1 t) = false by simp [c13]]
      refine EW.ic 0 dX1_allGood_16 ?_
      refine EW.zret (ty := .boolean) rfl (by decide +kernel) dX1_allGood_17 ?_
      exact ⟨rfl, rfl⟩
set_option maxHeartbeats 4000000 in
theorem C_allGood (hl : l.stackTraces = false) (d : Nat) (s : CSt) (x : Nat) (e9 : Option Nat × Option Nat) (he : s.2.2.2.2.2 x = some e9) (ps : List Nat) (hps : lnk s.2.2.2.2.1 nLater ps e9.1) : MtW (IC cy ax hp0) l D cy base mX1_allGood d 0 0 [.ref x] s (fun o s2 => o = .inl (some (.int (if algF s.2.2.2.2.1 ps = true then nI 1 else nI 0))) ∧ s2 = s) := by
  refine MtW.of hl mfX1_allGood rfl (Nat.le_of_ble_eq_true rfl) ?_
  refine EW.aload_n dX1_allGood_0 rfl rfl ?_
  refine EC.exget f_X1_20 dX1_allGood_1 he rfl ?_
  refine EW.astoreq_n dX1_allGood_4 rfl (by decide) ?_
  exact EW.loc (lv' := [(0, .ref x), (1, va_rf e9.1)]) ⟨rfl, rfl, trivial⟩ (C_allGood_loop d x ps e9.1 s hps)
theorem lnk_put {nd : Nat → Option ND} {f : ND → Option Nat} {p : Nat} {n m : ND} (hn : nd p = some n) (hf : f m = f n) : ∀ (ps : List Nat) (r : Option Nat), lnk nd f ps r → lnk (va_up nd p (some m)) f ps r
  | [], _, h => h
  | q :: t, r, ⟨h1, k, hk, ht⟩ => by
    refine ⟨h1, ?_⟩
    by_cases hq : q = p
    · subst hq
      cases hn.symm.trans hk
      exact ⟨m, va_up_self _ _ _, by rw [hf]; exact lnk_put hn hf t _ ht⟩
    · exact ⟨k, by rw [va_up_ne _ _ hq]; exact hk, lnk_put hn hf t _ ht⟩
set_option maxHeartbeats 4000000 in
theorem C_forgetF_loop (d : Nat) (x : Nat) : ∀ (ps : List Nat) (r : Option Nat) (s : CSt), lnk s.2.2.2.2.1 nLater ps r → EW (IC cy ax hp0) l D cy base mX1_forgetFindings d 0 0 5 [(0, .ref x), (1, va_rf r)] [] s (fun o s2 => o = .inl none ∧ s2 = ndP s (fgtF ps s.2.2.2.2.1)) := by
  intro ps
  induction ps with
  | nil =>
    intro r s h
    subst h
    refine EW.aloadq_n dX1_forgetFindings_5 rfl rfl ?_
    refine EW.ifnull (r := none) 27 dX1_forgetFindings_6 (by decide) (fun _ => ?_) (fun _ h => nomatch h)
    refine EW.vret rfl dX1_forgetFindings_27 ?_
    exact ⟨rfl, rfl⟩
  | cons p t ih =>
    intro r s h
    obtain ⟨rfl, n, hn, ht⟩ := h
    have hu : fgtF (p :: t) s.2.2.2.2.1 = fgtF t (va_up s.2.2.2.2.1 p (some (fgtN n))) := by simp only [fgtF, hn, Option.map]
    rw [hu]
    refine EW.aload_n dX1_forgetFindings_5 rfl rfl ?_
    refine EW.ifnull (r := some p) 27 dX1_forgetFindings_6 (by decide) (fun h => nomatch h) (fun _ _ => ?_)
    refine EW.aload_n dX1_forgetFindings_9 rfl rfl ?_
    refine EW.ic 0 dX1_forgetFindings_10 ?_
    refine EC.ndput (n' := (n.1, n.2.1, n.2.2.1, n.2.2.2.1, n.2.2.2.2.1, n.2.2.2.2.2.1, nI 0, n.2.2.2.2.2.2.2)) f_X1_26 dX1_forgetFindings_11 hn (by decide) rfl rfl rfl ?_
    refine EW.aload_n dX1_forgetFindings_14 rfl rfl ?_
    refine EW.ic 0 dX1_forgetFindings_15 ?_
    refine EC.ndput (n' := fgtN n) f_X1_30 dX1_forgetFindings_16 (va_up_self _ _ _) (by decide) (by decide +kernel) (by decide +kernel) rfl ?_
    refine EW.eqs (s' := ndP s (va_up s.2.2.2.2.1 p (some (fgtN n)))) (by unfold ndP; rw [va_uu]) ?_
    refine EW.aload_n dX1_forgetFindings_19 rfl rfl ?_
    refine EC.ndget f_X1_23 dX1_forgetFindings_20 (va_up_self _ _ _) rfl ?_
    refine EW.astoreq_n (r := nLater n) dX1_forgetFindings_23 rfl (by decide) ?_
    refine EW.goto 5 dX1_forgetFindings_24 (by decide) ?_
    refine EW.loc (lv' := [(0, .ref x), (1, va_rf (nLater n))]) ⟨rfl, rfl, trivial⟩ ?_
    exact ih (nLater n) (ndP s (va_up s.2.2.2.2.1 p (some (fgtN n)))) (lnk_put (m := fgtN n) hn rfl t _ ht)
set_option maxHeartbeats 4000000 in
theorem C_forgetF (hl : l.stackTraces = false) (d : Nat) (s : CSt) (x : Nat) (e9 : Option Nat × Option Nat) (he : s.2.2.2.2.2 x = some e9) (ps : List Nat) (hps : lnk s.2.2.2.2.1 nLater ps e9.1) : MtW (IC cy ax hp0) l D cy base mX1_forgetFindings d 0 0 [.ref x] s (fun o s2 => o = .inl none ∧ s2 = ndP s (fgtF ps s.2.2.2.2.1)) := by
  refine MtW.of hl mfX1_forgetFindings rfl (Nat.le_of_ble_eq_true rfl) ?_
  refine EW.aload_n dX1_forgetFindings_0 rfl rfl ?_
  refine EC.exget f_X1_20 dX1_forgetFindings_1 he rfl ?_
  refine EW.astoreq_n dX1_forgetFindings_4 rfl (by decide) ?_
  exact EW.loc (lv' := [(0, .ref x), (1, va_rf e9.1)]) ⟨rfl, rfl, trivial⟩ (C_forgetF_loop d x ps e9.1 s hps)
set_option maxHeartbeats 4000000 in
theorem C_outcomesOfRoot (hl : l.stackTraces = false) (d : Nat) (s : CSt) (x q : Nat) (e9 : Option Nat × Option Nat) (he : s.2.2.2.2.2 x = some e9) (hr : e9.2 = some q) (n : ND) (hn : s.2.2.2.2.1 q = some n) : MtW (IC cy ax hp0) l D cy base mX1_outcomesOfRoot d 0 0 [.ref x] s (fun o s2 => o = .inl (some (.int n.2.2.2.2.2.2.1)) ∧ s2 = s) := by
  refine MtW.of hl mfX1_outcomesOfRoot rfl (Nat.le_of_ble_eq_true rfl) ?_
  refine EW.aload_n dX1_outcomesOfRoot_0 rfl rfl ?_
  refine EC.exget f_X1_14 dX1_outcomesOfRoot_1 he rfl ?_
  refine EW.rf hr ?_
  refine EW.ifnonnull (r := some q) 11 dX1_outcomesOfRoot_4 (by decide) (fun _ _ => ?_) (fun h => nomatch h)
  refine EW.aload_n dX1_outcomesOfRoot_11 rfl rfl ?_
  refine EC.exget f_X1_14 dX1_outcomesOfRoot_12 he rfl ?_
  refine EW.rf hr ?_
  refine EC.ndget f_X1_26 dX1_outcomesOfRoot_15 hn rfl ?_
  refine EW.iret rfl dX1_outcomesOfRoot_18 ?_
  exact ⟨rfl, rfl⟩
set_option maxHeartbeats 4000000 in
theorem C_rootIsGood (hl : l.stackTraces = false) (d : Nat) (s : CSt) (x q : Nat) (e9 : Option Nat × Option Nat) (he : s.2.2.2.2.2 x = some e9) (hr : e9.2 = some q) (n : ND) (hn : s.2.2.2.2.1 q = some n) : MtW (IC cy ax hp0) l D cy base mX1_rootIsGood d 0 0 [.ref x] s (fun o s2 => o = .inl (some (.int (if n.2.2.2.2.2.2.2 = 0 then nI 0 else nI 1))) ∧ s2 = s) := by
  refine MtW.of hl mfX1_rootIsGood rfl (Nat.le_of_ble_eq_true rfl) ?_
  refine EW.aload_n dX1_rootIsGood_0 rfl rfl ?_
  refine EC.exget f_X1_14 dX1_rootIsGood_1 he rfl ?_
  refine EW.rf hr ?_
  refine EW.ifnull (r := some q) 21 dX1_rootIsGood_4 (by decide) (fun h => nomatch h) (fun _ _ => ?_)
  refine EW.aload_n dX1_rootIsGood_7 rfl rfl ?_
  refine EC.exget f_X1_14 dX1_rootIsGood_8 he rfl ?_
  refine EW.rf hr ?_
  refine EC.ndget f_X1_30 dX1_rootIsGood_11 hn rfl ?_
  refine EW.if_eq 21 dX1_rootIsGood_14 (by decide) (fun c14 => ?_) (fun c14 => ?_)
  · refine EW.ic 0 dX1_rootIsGood_21 ?_
    refine EW.zret (ty := .boolean) rfl (by decide +kernel) dX1_rootIsGood_22 ?_
    first | (rw [if_pos c14]; exact ⟨rfl, rfl⟩) | (rw [if_neg c14]; exact ⟨rfl, rfl⟩)
  · refine EW.ic 1 dX1_rootIsGood_17 ?_
    refine EW.goto 22 dX1_rootIsGood_18 (by decide) ?_
    refine EW.zret (ty := .boolean) rfl (by decide +kernel) dX1_rootIsGood_22 ?_
    first | (rw [if_pos c14]; exact ⟨rfl, rfl⟩) | (rw [if_neg c14]; exact ⟨rfl, rfl⟩)
end C3
end
