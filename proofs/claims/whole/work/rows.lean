section
-- ===== PART A: goes FIRST, ahead of the names: the tables' words, and 'selects' of the private methods out of them =====
/-- a private method of a class that the tables say can be made, by its rows of tables_1 -/
def lw_okq (q : MethodName × Nat) : Prop := (q.1.cls ≠ "java/lang/invoke/MethodHandle" ∧ q.1.cls ≠ "java/lang/invoke/VarHandle") ∧ Cond.instantiable q.1.cls q.2 ∈ tables_1 ∧ Cond.privateMethod q.1 ∈ tables_1 ∧ Cond.instanceMethod q.1 ∈ tables_1
theorem lw_p0 : lw_okq (⟨"WrongEnd$Fort", "addStep", "(IZ)V"⟩, 17) := ⟨⟨by decide +kernel, by decide +kernel⟩, List.mem_of_getElem? (i := 34) (by decide +kernel), List.mem_of_getElem? (i := 342) (by decide +kernel), List.mem_of_getElem? (i := 343) (by decide +kernel)⟩
theorem lw_p1 : lw_okq (⟨"WrongEnd$Fort", "dropOldestStep", "()V"⟩, 17) := ⟨⟨by decide +kernel, by decide +kernel⟩, List.mem_of_getElem? (i := 34) (by decide +kernel), List.mem_of_getElem? (i := 346) (by decide +kernel), List.mem_of_getElem? (i := 347) (by decide +kernel)⟩
theorem lw_p2 : lw_okq (⟨"WrongEnd$Tokens", "splitWord", "()V"⟩, 6) := ⟨⟨by decide +kernel, by decide +kernel⟩, List.mem_of_getElem? (i := 158) (by decide +kernel), List.mem_of_getElem? (i := 402) (by decide +kernel), List.mem_of_getElem? (i := 403) (by decide +kernel)⟩
theorem lw_p3 : lw_okq (⟨"WrongEnd$Tokens", "wordNumber", "(II)I"⟩, 6) := ⟨⟨by decide +kernel, by decide +kernel⟩, List.mem_of_getElem? (i := 158) (by decide +kernel), List.mem_of_getElem? (i := 406) (by decide +kernel), List.mem_of_getElem? (i := 407) (by decide +kernel)⟩
theorem lw_p4 : lw_okq (⟨"WrongEnd$Tokens", "add", "(III)V"⟩, 6) := ⟨⟨by decide +kernel, by decide +kernel⟩, List.mem_of_getElem? (i := 158) (by decide +kernel), List.mem_of_getElem? (i := 459) (by decide +kernel), List.mem_of_getElem? (i := 460) (by decide +kernel)⟩
theorem lw_p5 : lw_okq (⟨"WrongEnd$Tokens", "splitNumber", "()V"⟩, 6) := ⟨⟨by decide +kernel, by decide +kernel⟩, List.mem_of_getElem? (i := 158) (by decide +kernel), List.mem_of_getElem? (i := 466) (by decide +kernel), List.mem_of_getElem? (i := 467) (by decide +kernel)⟩
theorem lw_p6 : lw_okq (⟨"WrongEnd$Tokens", "splitMark", "(I)V"⟩, 6) := ⟨⟨by decide +kernel, by decide +kernel⟩, List.mem_of_getElem? (i := 158) (by decide +kernel), List.mem_of_getElem? (i := 471) (by decide +kernel), List.mem_of_getElem? (i := 472) (by decide +kernel)⟩
theorem lw_p7 : lw_okq (⟨"WrongEnd$Reader", "advance", "()V"⟩, 8) := ⟨⟨by decide +kernel, by decide +kernel⟩, List.mem_of_getElem? (i := 128) (by decide +kernel), List.mem_of_getElem? (i := 531) (by decide +kernel), List.mem_of_getElem? (i := 532) (by decide +kernel)⟩
theorem lw_p8 : lw_okq (⟨"WrongEnd$Reader", "readClause", "()V"⟩, 8) := ⟨⟨by decide +kernel, by decide +kernel⟩, List.mem_of_getElem? (i := 128) (by decide +kernel), List.mem_of_getElem? (i := 543) (by decide +kernel), List.mem_of_getElem? (i := 544) (by decide +kernel)⟩
theorem lw_p9 : lw_okq (⟨"WrongEnd$Reader", "refuse", "(I)V"⟩, 8) := ⟨⟨by decide +kernel, by decide +kernel⟩, List.mem_of_getElem? (i := 128) (by decide +kernel), List.mem_of_getElem? (i := 551) (by decide +kernel), List.mem_of_getElem? (i := 552) (by decide +kernel)⟩
theorem lw_p10 : lw_okq (⟨"WrongEnd$Reader", "readSum", "(I)V"⟩, 8) := ⟨⟨by decide +kernel, by decide +kernel⟩, List.mem_of_getElem? (i := 128) (by decide +kernel), List.mem_of_getElem? (i := 563) (by decide +kernel), List.mem_of_getElem? (i := 564) (by decide +kernel)⟩
theorem lw_p11 : lw_okq (⟨"WrongEnd$Reader", "readProduct", "(I)V"⟩, 8) := ⟨⟨by decide +kernel, by decide +kernel⟩, List.mem_of_getElem? (i := 128) (by decide +kernel), List.mem_of_getElem? (i := 567) (by decide +kernel), List.mem_of_getElem? (i := 568) (by decide +kernel)⟩
theorem lw_p12 : lw_okq (⟨"WrongEnd$Reader", "readOne", "(I)V"⟩, 8) := ⟨⟨by decide +kernel, by decide +kernel⟩, List.mem_of_getElem? (i := 128) (by decide +kernel), List.mem_of_getElem? (i := 571) (by decide +kernel), List.mem_of_getElem? (i := 572) (by decide +kernel)⟩
theorem lw_p13 : lw_okq (⟨"WrongEnd$Reader", "takeNumber", "()V"⟩, 8) := ⟨⟨by decide +kernel, by decide +kernel⟩, List.mem_of_getElem? (i := 128) (by decide +kernel), List.mem_of_getElem? (i := 575) (by decide +kernel), List.mem_of_getElem? (i := 576) (by decide +kernel)⟩
theorem lw_p14 : lw_okq (⟨"WrongEnd$Reader", "takeName", "()V"⟩, 8) := ⟨⟨by decide +kernel, by decide +kernel⟩, List.mem_of_getElem? (i := 128) (by decide +kernel), List.mem_of_getElem? (i := 583) (by decide +kernel), List.mem_of_getElem? (i := 584) (by decide +kernel)⟩
theorem lw_p15 : lw_okq (⟨"WrongEnd$Reader", "enters", "(I)Z"⟩, 8) := ⟨⟨by decide +kernel, by decide +kernel⟩, List.mem_of_getElem? (i := 128) (by decide +kernel), List.mem_of_getElem? (i := 590) (by decide +kernel), List.mem_of_getElem? (i := 591) (by decide +kernel)⟩
def lw_privs_1 : List (MethodName × Nat) := [(⟨"WrongEnd$Fort", "addStep", "(IZ)V"⟩, 17), (⟨"WrongEnd$Fort", "dropOldestStep", "()V"⟩, 17), (⟨"WrongEnd$Tokens", "splitWord", "()V"⟩, 6), (⟨"WrongEnd$Tokens", "wordNumber", "(II)I"⟩, 6), (⟨"WrongEnd$Tokens", "add", "(III)V"⟩, 6), (⟨"WrongEnd$Tokens", "splitNumber", "()V"⟩, 6), (⟨"WrongEnd$Tokens", "splitMark", "(I)V"⟩, 6), (⟨"WrongEnd$Reader", "advance", "()V"⟩, 8), (⟨"WrongEnd$Reader", "readClause", "()V"⟩, 8), (⟨"WrongEnd$Reader", "refuse", "(I)V"⟩, 8), (⟨"WrongEnd$Reader", "readSum", "(I)V"⟩, 8), (⟨"WrongEnd$Reader", "readProduct", "(I)V"⟩, 8), (⟨"WrongEnd$Reader", "readOne", "(I)V"⟩, 8), (⟨"WrongEnd$Reader", "takeNumber", "()V"⟩, 8), (⟨"WrongEnd$Reader", "takeName", "()V"⟩, 8), (⟨"WrongEnd$Reader", "enters", "(I)Z"⟩, 8)]
theorem lw_r1 : ∀ q ∈ lw_privs_1, lw_okq q := List.forall_mem_cons.mpr ⟨lw_p0, List.forall_mem_cons.mpr ⟨lw_p1, List.forall_mem_cons.mpr ⟨lw_p2, List.forall_mem_cons.mpr ⟨lw_p3, List.forall_mem_cons.mpr ⟨lw_p4, List.forall_mem_cons.mpr ⟨lw_p5, List.forall_mem_cons.mpr ⟨lw_p6, List.forall_mem_cons.mpr ⟨lw_p7, List.forall_mem_cons.mpr ⟨lw_p8, List.forall_mem_cons.mpr ⟨lw_p9, List.forall_mem_cons.mpr ⟨lw_p10, List.forall_mem_cons.mpr ⟨lw_p11, List.forall_mem_cons.mpr ⟨lw_p12, List.forall_mem_cons.mpr ⟨lw_p13, List.forall_mem_cons.mpr ⟨lw_p14, List.forall_mem_cons.mpr ⟨lw_p15, fun _ h => absurd h List.not_mem_nil⟩⟩⟩⟩⟩⟩⟩⟩⟩⟩⟩⟩⟩⟩⟩⟩
theorem lw_p16 : lw_okq (⟨"WrongEnd$Reader", "expect", "(I)V"⟩, 8) := ⟨⟨by decide +kernel, by decide +kernel⟩, List.mem_of_getElem? (i := 128) (by decide +kernel), List.mem_of_getElem? (i := 594) (by decide +kernel), List.mem_of_getElem? (i := 595) (by decide +kernel)⟩
theorem lw_p17 : lw_okq (⟨"WrongEnd$Reader", "readChoice", "(I)V"⟩, 8) := ⟨⟨by decide +kernel, by decide +kernel⟩, List.mem_of_getElem? (i := 128) (by decide +kernel), List.mem_of_getElem? (i := 598) (by decide +kernel), List.mem_of_getElem? (i := 599) (by decide +kernel)⟩
theorem lw_p18 : lw_okq (⟨"WrongEnd$Reader", "readEither", "(I)V"⟩, 8) := ⟨⟨by decide +kernel, by decide +kernel⟩, List.mem_of_getElem? (i := 128) (by decide +kernel), List.mem_of_getElem? (i := 602) (by decide +kernel), List.mem_of_getElem? (i := 603) (by decide +kernel)⟩
theorem lw_p19 : lw_okq (⟨"WrongEnd$Reader", "readBoth", "(I)V"⟩, 8) := ⟨⟨by decide +kernel, by decide +kernel⟩, List.mem_of_getElem? (i := 128) (by decide +kernel), List.mem_of_getElem? (i := 606) (by decide +kernel), List.mem_of_getElem? (i := 607) (by decide +kernel)⟩
theorem lw_p20 : lw_okq (⟨"WrongEnd$Reader", "readAsk", "(I)V"⟩, 8) := ⟨⟨by decide +kernel, by decide +kernel⟩, List.mem_of_getElem? (i := 128) (by decide +kernel), List.mem_of_getElem? (i := 610) (by decide +kernel), List.mem_of_getElem? (i := 611) (by decide +kernel)⟩
theorem lw_p21 : lw_okq (⟨"WrongEnd$Optics", "without", "(I)I"⟩, 4) := ⟨⟨by decide +kernel, by decide +kernel⟩, List.mem_of_getElem? (i := 214) (by decide +kernel), List.mem_of_getElem? (i := 664) (by decide +kernel), List.mem_of_getElem? (i := 665) (by decide +kernel)⟩
theorem lw_p22 : lw_okq (⟨"WrongEnd$Machine", "push", "(I)V"⟩, 3) := ⟨⟨by decide +kernel, by decide +kernel⟩, List.mem_of_getElem? (i := 222) (by decide +kernel), List.mem_of_getElem? (i := 686) (by decide +kernel), List.mem_of_getElem? (i := 687) (by decide +kernel)⟩
theorem lw_p23 : lw_okq (⟨"WrongEnd$Machine", "pop", "()I"⟩, 3) := ⟨⟨by decide +kernel, by decide +kernel⟩, List.mem_of_getElem? (i := 222) (by decide +kernel), List.mem_of_getElem? (i := 690) (by decide +kernel), List.mem_of_getElem? (i := 691) (by decide +kernel)⟩
theorem lw_p24 : lw_okq (⟨"WrongEnd$Machine", "join", "(I)V"⟩, 3) := ⟨⟨by decide +kernel, by decide +kernel⟩, List.mem_of_getElem? (i := 222) (by decide +kernel), List.mem_of_getElem? (i := 695) (by decide +kernel), List.mem_of_getElem? (i := 696) (by decide +kernel)⟩
theorem lw_p25 : lw_okq (⟨"WrongEnd$Scales", "share", "(I)I"⟩, 6) := ⟨⟨by decide +kernel, by decide +kernel⟩, List.mem_of_getElem? (i := 252) (by decide +kernel), List.mem_of_getElem? (i := 763) (by decide +kernel), List.mem_of_getElem? (i := 764) (by decide +kernel)⟩
theorem lw_p26 : lw_okq (⟨"WrongEnd", "isFreeHold", "(I)Z"⟩, 7) := ⟨⟨by decide +kernel, by decide +kernel⟩, List.mem_of_getElem? (i := 20) (by decide +kernel), List.mem_of_getElem? (i := 799) (by decide +kernel), List.mem_of_getElem? (i := 800) (by decide +kernel)⟩
theorem lw_p27 : lw_okq (⟨"WrongEnd$Scales", "clearGreatest", "(I)V"⟩, 6) := ⟨⟨by decide +kernel, by decide +kernel⟩, List.mem_of_getElem? (i := 252) (by decide +kernel), List.mem_of_getElem? (i := 812) (by decide +kernel), List.mem_of_getElem? (i := 813) (by decide +kernel)⟩
theorem lw_p28 : lw_okq (⟨"WrongEnd$Scales", "raise", "(IIJ)V"⟩, 6) := ⟨⟨by decide +kernel, by decide +kernel⟩, List.mem_of_getElem? (i := 252) (by decide +kernel), List.mem_of_getElem? (i := 816) (by decide +kernel), List.mem_of_getElem? (i := 817) (by decide +kernel)⟩
theorem lw_p29 : lw_okq (⟨"WrongEnd$Scales", "sumGreatest", "(I)J"⟩, 6) := ⟨⟨by decide +kernel, by decide +kernel⟩, List.mem_of_getElem? (i := 252) (by decide +kernel), List.mem_of_getElem? (i := 821) (by decide +kernel), List.mem_of_getElem? (i := 822) (by decide +kernel)⟩
theorem lw_p30 : lw_okq (⟨"WrongEndModel", "isCell", "(I)Z"⟩, 31) := ⟨⟨by decide +kernel, by decide +kernel⟩, List.mem_of_getElem? (i := 916) (by decide +kernel), List.mem_of_getElem? (i := 1021) (by decide +kernel), List.mem_of_getElem? (i := 1022) (by decide +kernel)⟩
theorem lw_p31 : lw_okq (⟨"WrongEndModel", "make", "(IIZ)Z"⟩, 31) := ⟨⟨by decide +kernel, by decide +kernel⟩, List.mem_of_getElem? (i := 916) (by decide +kernel), List.mem_of_getElem? (i := 1039) (by decide +kernel), List.mem_of_getElem? (i := 1040) (by decide +kernel)⟩
def lw_privs_2 : List (MethodName × Nat) := [(⟨"WrongEnd$Reader", "expect", "(I)V"⟩, 8), (⟨"WrongEnd$Reader", "readChoice", "(I)V"⟩, 8), (⟨"WrongEnd$Reader", "readEither", "(I)V"⟩, 8), (⟨"WrongEnd$Reader", "readBoth", "(I)V"⟩, 8), (⟨"WrongEnd$Reader", "readAsk", "(I)V"⟩, 8), (⟨"WrongEnd$Optics", "without", "(I)I"⟩, 4), (⟨"WrongEnd$Machine", "push", "(I)V"⟩, 3), (⟨"WrongEnd$Machine", "pop", "()I"⟩, 3), (⟨"WrongEnd$Machine", "join", "(I)V"⟩, 3), (⟨"WrongEnd$Scales", "share", "(I)I"⟩, 6), (⟨"WrongEnd", "isFreeHold", "(I)Z"⟩, 7), (⟨"WrongEnd$Scales", "clearGreatest", "(I)V"⟩, 6), (⟨"WrongEnd$Scales", "raise", "(IIJ)V"⟩, 6), (⟨"WrongEnd$Scales", "sumGreatest", "(I)J"⟩, 6), (⟨"WrongEndModel", "isCell", "(I)Z"⟩, 31), (⟨"WrongEndModel", "make", "(IIZ)Z"⟩, 31)]
theorem lw_r2 : ∀ q ∈ lw_privs_2, lw_okq q := List.forall_mem_cons.mpr ⟨lw_p16, List.forall_mem_cons.mpr ⟨lw_p17, List.forall_mem_cons.mpr ⟨lw_p18, List.forall_mem_cons.mpr ⟨lw_p19, List.forall_mem_cons.mpr ⟨lw_p20, List.forall_mem_cons.mpr ⟨lw_p21, List.forall_mem_cons.mpr ⟨lw_p22, List.forall_mem_cons.mpr ⟨lw_p23, List.forall_mem_cons.mpr ⟨lw_p24, List.forall_mem_cons.mpr ⟨lw_p25, List.forall_mem_cons.mpr ⟨lw_p26, List.forall_mem_cons.mpr ⟨lw_p27, List.forall_mem_cons.mpr ⟨lw_p28, List.forall_mem_cons.mpr ⟨lw_p29, List.forall_mem_cons.mpr ⟨lw_p30, List.forall_mem_cons.mpr ⟨lw_p31, fun _ h => absurd h List.not_mem_nil⟩⟩⟩⟩⟩⟩⟩⟩⟩⟩⟩⟩⟩⟩⟩⟩
theorem lw_p32 : lw_okq (⟨"WrongEndModel", "isScope", "(I)Z"⟩, 31) := ⟨⟨by decide +kernel, by decide +kernel⟩, List.mem_of_getElem? (i := 916) (by decide +kernel), List.mem_of_getElem? (i := 1043) (by decide +kernel), List.mem_of_getElem? (i := 1044) (by decide +kernel)⟩
theorem lw_p33 : lw_okq (⟨"WrongEndModel", "four", "(I)V"⟩, 31) := ⟨⟨by decide +kernel, by decide +kernel⟩, List.mem_of_getElem? (i := 916) (by decide +kernel), List.mem_of_getElem? (i := 1059) (by decide +kernel), List.mem_of_getElem? (i := 1060) (by decide +kernel)⟩
theorem lw_p34 : lw_okq (⟨"WrongEndModel", "readText", "()I"⟩, 31) := ⟨⟨by decide +kernel, by decide +kernel⟩, List.mem_of_getElem? (i := 916) (by decide +kernel), List.mem_of_getElem? (i := 1071) (by decide +kernel), List.mem_of_getElem? (i := 1072) (by decide +kernel)⟩
theorem lw_p35 : lw_okq (⟨"WrongEndModel", "nextToken", "()V"⟩, 31) := ⟨⟨by decide +kernel, by decide +kernel⟩, List.mem_of_getElem? (i := 916) (by decide +kernel), List.mem_of_getElem? (i := 1075) (by decide +kernel), List.mem_of_getElem? (i := 1076) (by decide +kernel)⟩
theorem lw_p36 : lw_okq (⟨"WrongEndModel", "byteAt", "(I)I"⟩, 31) := ⟨⟨by decide +kernel, by decide +kernel⟩, List.mem_of_getElem? (i := 916) (by decide +kernel), List.mem_of_getElem? (i := 1079) (by decide +kernel), List.mem_of_getElem? (i := 1080) (by decide +kernel)⟩
theorem lw_p37 : lw_okq (⟨"WrongEndModel", "clause", "()I"⟩, 31) := ⟨⟨by decide +kernel, by decide +kernel⟩, List.mem_of_getElem? (i := 916) (by decide +kernel), List.mem_of_getElem? (i := 1090) (by decide +kernel), List.mem_of_getElem? (i := 1091) (by decide +kernel)⟩
theorem lw_p38 : lw_okq (⟨"WrongEndModel", "sortOf", "()I"⟩, 31) := ⟨⟨by decide +kernel, by decide +kernel⟩, List.mem_of_getElem? (i := 916) (by decide +kernel), List.mem_of_getElem? (i := 1094) (by decide +kernel), List.mem_of_getElem? (i := 1095) (by decide +kernel)⟩
theorem lw_p39 : lw_okq (⟨"WrongEndModel", "isWord", "(J)Z"⟩, 31) := ⟨⟨by decide +kernel, by decide +kernel⟩, List.mem_of_getElem? (i := 916) (by decide +kernel), List.mem_of_getElem? (i := 1104) (by decide +kernel), List.mem_of_getElem? (i := 1105) (by decide +kernel)⟩
theorem lw_p40 : lw_okq (⟨"WrongEndModel", "parsed", "(Z)I"⟩, 31) := ⟨⟨by decide +kernel, by decide +kernel⟩, List.mem_of_getElem? (i := 916) (by decide +kernel), List.mem_of_getElem? (i := 1111) (by decide +kernel), List.mem_of_getElem? (i := 1112) (by decide +kernel)⟩
theorem lw_p41 : lw_okq (⟨"WrongEndModel", "behindOne", "(Z)Z"⟩, 31) := ⟨⟨by decide +kernel, by decide +kernel⟩, List.mem_of_getElem? (i := 916) (by decide +kernel), List.mem_of_getElem? (i := 1115) (by decide +kernel), List.mem_of_getElem? (i := 1116) (by decide +kernel)⟩
theorem lw_p42 : lw_okq (⟨"WrongEndModel", "betweenOf", "(Z)I"⟩, 31) := ⟨⟨by decide +kernel, by decide +kernel⟩, List.mem_of_getElem? (i := 916) (by decide +kernel), List.mem_of_getElem? (i := 1119) (by decide +kernel), List.mem_of_getElem? (i := 1120) (by decide +kernel)⟩
theorem lw_p43 : lw_okq (⟨"WrongEndModel", "kindOpen", "(Z)I"⟩, 31) := ⟨⟨by decide +kernel, by decide +kernel⟩, List.mem_of_getElem? (i := 916) (by decide +kernel), List.mem_of_getElem? (i := 1123) (by decide +kernel), List.mem_of_getElem? (i := 1124) (by decide +kernel)⟩
theorem lw_p44 : lw_okq (⟨"WrongEndModel", "marker", "()I"⟩, 31) := ⟨⟨by decide +kernel, by decide +kernel⟩, List.mem_of_getElem? (i := 916) (by decide +kernel), List.mem_of_getElem? (i := 1127) (by decide +kernel), List.mem_of_getElem? (i := 1128) (by decide +kernel)⟩
theorem lw_p45 : lw_okq (⟨"WrongEndModel", "isCompared", "()Z"⟩, 31) := ⟨⟨by decide +kernel, by decide +kernel⟩, List.mem_of_getElem? (i := 916) (by decide +kernel), List.mem_of_getElem? (i := 1131) (by decide +kernel), List.mem_of_getElem? (i := 1132) (by decide +kernel)⟩
theorem lw_p46 : lw_okq (⟨"WrongEndModel", "compareOf", "()I"⟩, 31) := ⟨⟨by decide +kernel, by decide +kernel⟩, List.mem_of_getElem? (i := 916) (by decide +kernel), List.mem_of_getElem? (i := 1138) (by decide +kernel), List.mem_of_getElem? (i := 1139) (by decide +kernel)⟩
theorem lw_p47 : lw_okq (⟨"WrongEndModel", "settle", "(I)V"⟩, 31) := ⟨⟨by decide +kernel, by decide +kernel⟩, List.mem_of_getElem? (i := 916) (by decide +kernel), List.mem_of_getElem? (i := 1143) (by decide +kernel), List.mem_of_getElem? (i := 1144) (by decide +kernel)⟩
def lw_privs_3 : List (MethodName × Nat) := [(⟨"WrongEndModel", "isScope", "(I)Z"⟩, 31), (⟨"WrongEndModel", "four", "(I)V"⟩, 31), (⟨"WrongEndModel", "readText", "()I"⟩, 31), (⟨"WrongEndModel", "nextToken", "()V"⟩, 31), (⟨"WrongEndModel", "byteAt", "(I)I"⟩, 31), (⟨"WrongEndModel", "clause", "()I"⟩, 31), (⟨"WrongEndModel", "sortOf", "()I"⟩, 31), (⟨"WrongEndModel", "isWord", "(J)Z"⟩, 31), (⟨"WrongEndModel", "parsed", "(Z)I"⟩, 31), (⟨"WrongEndModel", "behindOne", "(Z)Z"⟩, 31), (⟨"WrongEndModel", "betweenOf", "(Z)I"⟩, 31), (⟨"WrongEndModel", "kindOpen", "(Z)I"⟩, 31), (⟨"WrongEndModel", "marker", "()I"⟩, 31), (⟨"WrongEndModel", "isCompared", "()Z"⟩, 31), (⟨"WrongEndModel", "compareOf", "()I"⟩, 31), (⟨"WrongEndModel", "settle", "(I)V"⟩, 31)]
theorem lw_r3 : ∀ q ∈ lw_privs_3, lw_okq q := List.forall_mem_cons.mpr ⟨lw_p32, List.forall_mem_cons.mpr ⟨lw_p33, List.forall_mem_cons.mpr ⟨lw_p34, List.forall_mem_cons.mpr ⟨lw_p35, List.forall_mem_cons.mpr ⟨lw_p36, List.forall_mem_cons.mpr ⟨lw_p37, List.forall_mem_cons.mpr ⟨lw_p38, List.forall_mem_cons.mpr ⟨lw_p39, List.forall_mem_cons.mpr ⟨lw_p40, List.forall_mem_cons.mpr ⟨lw_p41, List.forall_mem_cons.mpr ⟨lw_p42, List.forall_mem_cons.mpr ⟨lw_p43, List.forall_mem_cons.mpr ⟨lw_p44, List.forall_mem_cons.mpr ⟨lw_p45, List.forall_mem_cons.mpr ⟨lw_p46, List.forall_mem_cons.mpr ⟨lw_p47, fun _ h => absurd h List.not_mem_nil⟩⟩⟩⟩⟩⟩⟩⟩⟩⟩⟩⟩⟩⟩⟩⟩
theorem lw_p48 : lw_okq (⟨"WrongEndModel", "emit", "(II)V"⟩, 31) := ⟨⟨by decide +kernel, by decide +kernel⟩, List.mem_of_getElem? (i := 916) (by decide +kernel), List.mem_of_getElem? (i := 1147) (by decide +kernel), List.mem_of_getElem? (i := 1148) (by decide +kernel)⟩
theorem lw_p49 : lw_okq (⟨"WrongEndModel", "push", "(I)V"⟩, 31) := ⟨⟨by decide +kernel, by decide +kernel⟩, List.mem_of_getElem? (i := 916) (by decide +kernel), List.mem_of_getElem? (i := 1151) (by decide +kernel), List.mem_of_getElem? (i := 1152) (by decide +kernel)⟩
theorem lw_p50 : lw_okq (⟨"WrongEndModel", "whole", "()V"⟩, 31) := ⟨⟨by decide +kernel, by decide +kernel⟩, List.mem_of_getElem? (i := 916) (by decide +kernel), List.mem_of_getElem? (i := 1155) (by decide +kernel), List.mem_of_getElem? (i := 1156) (by decide +kernel)⟩
theorem lw_p51 : lw_okq (⟨"WrongEndModel", "beginOne", "(Z)I"⟩, 31) := ⟨⟨by decide +kernel, by decide +kernel⟩, List.mem_of_getElem? (i := 916) (by decide +kernel), List.mem_of_getElem? (i := 1159) (by decide +kernel), List.mem_of_getElem? (i := 1160) (by decide +kernel)⟩
theorem lw_p52 : lw_okq (⟨"WrongEndModel", "nameOf", "()I"⟩, 31) := ⟨⟨by decide +kernel, by decide +kernel⟩, List.mem_of_getElem? (i := 916) (by decide +kernel), List.mem_of_getElem? (i := 1163) (by decide +kernel), List.mem_of_getElem? (i := 1164) (by decide +kernel)⟩
theorem lw_p53 : lw_okq (⟨"WrongEndModel", "isOf", "(I)Z"⟩, 31) := ⟨⟨by decide +kernel, by decide +kernel⟩, List.mem_of_getElem? (i := 916) (by decide +kernel), List.mem_of_getElem? (i := 1172) (by decide +kernel), List.mem_of_getElem? (i := 1173) (by decide +kernel)⟩
theorem lw_p54 : lw_okq (⟨"WrongEndModel", "opensBy", "(I)I"⟩, 31) := ⟨⟨by decide +kernel, by decide +kernel⟩, List.mem_of_getElem? (i := 916) (by decide +kernel), List.mem_of_getElem? (i := 1176) (by decide +kernel), List.mem_of_getElem? (i := 1177) (by decide +kernel)⟩
theorem lw_p55 : lw_okq (⟨"WrongEndModel", "isAskAhead", "(Z)Z"⟩, 31) := ⟨⟨by decide +kernel, by decide +kernel⟩, List.mem_of_getElem? (i := 916) (by decide +kernel), List.mem_of_getElem? (i := 1181) (by decide +kernel), List.mem_of_getElem? (i := 1182) (by decide +kernel)⟩
theorem lw_p56 : lw_okq (⟨"WrongEndModel", "isState", "(I)Z"⟩, 31) := ⟨⟨by decide +kernel, by decide +kernel⟩, List.mem_of_getElem? (i := 916) (by decide +kernel), List.mem_of_getElem? (i := 1197) (by decide +kernel), List.mem_of_getElem? (i := 1198) (by decide +kernel)⟩
theorem lw_p57 : lw_okq (⟨"WrongEndModel", "states", "()I"⟩, 31) := ⟨⟨by decide +kernel, by decide +kernel⟩, List.mem_of_getElem? (i := 916) (by decide +kernel), List.mem_of_getElem? (i := 1201) (by decide +kernel), List.mem_of_getElem? (i := 1202) (by decide +kernel)⟩
theorem lw_p58 : lw_okq (⟨"WrongEndModel", "priorOf", "(I)I"⟩, 31) := ⟨⟨by decide +kernel, by decide +kernel⟩, List.mem_of_getElem? (i := 916) (by decide +kernel), List.mem_of_getElem? (i := 1205) (by decide +kernel), List.mem_of_getElem? (i := 1206) (by decide +kernel)⟩
theorem lw_p59 : lw_okq (⟨"WrongEndModel", "name", "(I)V"⟩, 31) := ⟨⟨by decide +kernel, by decide +kernel⟩, List.mem_of_getElem? (i := 916) (by decide +kernel), List.mem_of_getElem? (i := 1209) (by decide +kernel), List.mem_of_getElem? (i := 1210) (by decide +kernel)⟩
theorem lw_p60 : lw_okq (⟨"WrongEndModel", "sumOf", "(III)I"⟩, 31) := ⟨⟨by decide +kernel, by decide +kernel⟩, List.mem_of_getElem? (i := 916) (by decide +kernel), List.mem_of_getElem? (i := 1216) (by decide +kernel), List.mem_of_getElem? (i := 1217) (by decide +kernel)⟩
theorem lw_p61 : lw_okq (⟨"WrongEndModel", "work", "(I)V"⟩, 31) := ⟨⟨by decide +kernel, by decide +kernel⟩, List.mem_of_getElem? (i := 916) (by decide +kernel), List.mem_of_getElem? (i := 1220) (by decide +kernel), List.mem_of_getElem? (i := 1221) (by decide +kernel)⟩
theorem lw_p62 : lw_okq (⟨"WrongEndModel", "nameBy", "(IIIII)V"⟩, 31) := ⟨⟨by decide +kernel, by decide +kernel⟩, List.mem_of_getElem? (i := 916) (by decide +kernel), List.mem_of_getElem? (i := 1245) (by decide +kernel), List.mem_of_getElem? (i := 1246) (by decide +kernel)⟩
theorem lw_p63 : lw_okq (⟨"WrongEndModel", "seenBy", "(I)I"⟩, 31) := ⟨⟨by decide +kernel, by decide +kernel⟩, List.mem_of_getElem? (i := 916) (by decide +kernel), List.mem_of_getElem? (i := 1252) (by decide +kernel), List.mem_of_getElem? (i := 1253) (by decide +kernel)⟩
def lw_privs_4 : List (MethodName × Nat) := [(⟨"WrongEndModel", "emit", "(II)V"⟩, 31), (⟨"WrongEndModel", "push", "(I)V"⟩, 31), (⟨"WrongEndModel", "whole", "()V"⟩, 31), (⟨"WrongEndModel", "beginOne", "(Z)I"⟩, 31), (⟨"WrongEndModel", "nameOf", "()I"⟩, 31), (⟨"WrongEndModel", "isOf", "(I)Z"⟩, 31), (⟨"WrongEndModel", "opensBy", "(I)I"⟩, 31), (⟨"WrongEndModel", "isAskAhead", "(Z)Z"⟩, 31), (⟨"WrongEndModel", "isState", "(I)Z"⟩, 31), (⟨"WrongEndModel", "states", "()I"⟩, 31), (⟨"WrongEndModel", "priorOf", "(I)I"⟩, 31), (⟨"WrongEndModel", "name", "(I)V"⟩, 31), (⟨"WrongEndModel", "sumOf", "(III)I"⟩, 31), (⟨"WrongEndModel", "work", "(I)V"⟩, 31), (⟨"WrongEndModel", "nameBy", "(IIIII)V"⟩, 31), (⟨"WrongEndModel", "seenBy", "(I)I"⟩, 31)]
theorem lw_r4 : ∀ q ∈ lw_privs_4, lw_okq q := List.forall_mem_cons.mpr ⟨lw_p48, List.forall_mem_cons.mpr ⟨lw_p49, List.forall_mem_cons.mpr ⟨lw_p50, List.forall_mem_cons.mpr ⟨lw_p51, List.forall_mem_cons.mpr ⟨lw_p52, List.forall_mem_cons.mpr ⟨lw_p53, List.forall_mem_cons.mpr ⟨lw_p54, List.forall_mem_cons.mpr ⟨lw_p55, List.forall_mem_cons.mpr ⟨lw_p56, List.forall_mem_cons.mpr ⟨lw_p57, List.forall_mem_cons.mpr ⟨lw_p58, List.forall_mem_cons.mpr ⟨lw_p59, List.forall_mem_cons.mpr ⟨lw_p60, List.forall_mem_cons.mpr ⟨lw_p61, List.forall_mem_cons.mpr ⟨lw_p62, List.forall_mem_cons.mpr ⟨lw_p63, fun _ h => absurd h List.not_mem_nil⟩⟩⟩⟩⟩⟩⟩⟩⟩⟩⟩⟩⟩⟩⟩⟩
theorem lw_p64 : lw_okq (⟨"WrongEndModel", "weightOf", "(II)J"⟩, 31) := ⟨⟨by decide +kernel, by decide +kernel⟩, List.mem_of_getElem? (i := 916) (by decide +kernel), List.mem_of_getElem? (i := 1268) (by decide +kernel), List.mem_of_getElem? (i := 1269) (by decide +kernel)⟩
theorem lw_p65 : lw_okq (⟨"WrongEndModel", "findWeights", "(I)V"⟩, 31) := ⟨⟨by decide +kernel, by decide +kernel⟩, List.mem_of_getElem? (i := 916) (by decide +kernel), List.mem_of_getElem? (i := 1280) (by decide +kernel), List.mem_of_getElem? (i := 1281) (by decide +kernel)⟩
theorem lw_p66 : lw_okq (⟨"WrongEndModel", "canAsk", "(I)Z"⟩, 31) := ⟨⟨by decide +kernel, by decide +kernel⟩, List.mem_of_getElem? (i := 916) (by decide +kernel), List.mem_of_getElem? (i := 1295) (by decide +kernel), List.mem_of_getElem? (i := 1296) (by decide +kernel)⟩
theorem lw_p67 : lw_okq (⟨"WrongEndModel", "layAll", "(I)V"⟩, 31) := ⟨⟨by decide +kernel, by decide +kernel⟩, List.mem_of_getElem? (i := 916) (by decide +kernel), List.mem_of_getElem? (i := 1299) (by decide +kernel), List.mem_of_getElem? (i := 1300) (by decide +kernel)⟩
theorem lw_p68 : lw_okq (⟨"WrongEndModel", "lay", "(III)V"⟩, 31) := ⟨⟨by decide +kernel, by decide +kernel⟩, List.mem_of_getElem? (i := 916) (by decide +kernel), List.mem_of_getElem? (i := 1303) (by decide +kernel), List.mem_of_getElem? (i := 1304) (by decide +kernel)⟩
theorem lw_p69 : lw_okq (⟨"WrongEndModel", "sureBy", "(I)J"⟩, 31) := ⟨⟨by decide +kernel, by decide +kernel⟩, List.mem_of_getElem? (i := 916) (by decide +kernel), List.mem_of_getElem? (i := 1307) (by decide +kernel), List.mem_of_getElem? (i := 1308) (by decide +kernel)⟩
theorem lw_p70 : lw_okq (⟨"WrongEndModel", "oftenBy", "(III)I"⟩, 31) := ⟨⟨by decide +kernel, by decide +kernel⟩, List.mem_of_getElem? (i := 916) (by decide +kernel), List.mem_of_getElem? (i := 1311) (by decide +kernel), List.mem_of_getElem? (i := 1312) (by decide +kernel)⟩
theorem lw_p71 : lw_okq (⟨"WrongEndModel", "sureByTwo", "(II)J"⟩, 31) := ⟨⟨by decide +kernel, by decide +kernel⟩, List.mem_of_getElem? (i := 916) (by decide +kernel), List.mem_of_getElem? (i := 1315) (by decide +kernel), List.mem_of_getElem? (i := 1316) (by decide +kernel)⟩
theorem lw_p72 : lw_okq (⟨"WrongEndModel", "askOne", "()I"⟩, 31) := ⟨⟨by decide +kernel, by decide +kernel⟩, List.mem_of_getElem? (i := 916) (by decide +kernel), List.mem_of_getElem? (i := 1323) (by decide +kernel), List.mem_of_getElem? (i := 1324) (by decide +kernel)⟩
theorem lw_p73 : lw_okq (⟨"WrongEndModel", "askTwo", "()I"⟩, 31) := ⟨⟨by decide +kernel, by decide +kernel⟩, List.mem_of_getElem? (i := 916) (by decide +kernel), List.mem_of_getElem? (i := 1327) (by decide +kernel), List.mem_of_getElem? (i := 1328) (by decide +kernel)⟩
def lw_privs_5 : List (MethodName × Nat) := [(⟨"WrongEndModel", "weightOf", "(II)J"⟩, 31), (⟨"WrongEndModel", "findWeights", "(I)V"⟩, 31), (⟨"WrongEndModel", "canAsk", "(I)Z"⟩, 31), (⟨"WrongEndModel", "layAll", "(I)V"⟩, 31), (⟨"WrongEndModel", "lay", "(III)V"⟩, 31), (⟨"WrongEndModel", "sureBy", "(I)J"⟩, 31), (⟨"WrongEndModel", "oftenBy", "(III)I"⟩, 31), (⟨"WrongEndModel", "sureByTwo", "(II)J"⟩, 31), (⟨"WrongEndModel", "askOne", "()I"⟩, 31), (⟨"WrongEndModel", "askTwo", "()I"⟩, 31)]
theorem lw_r5 : ∀ q ∈ lw_privs_5, lw_okq q := List.forall_mem_cons.mpr ⟨lw_p64, List.forall_mem_cons.mpr ⟨lw_p65, List.forall_mem_cons.mpr ⟨lw_p66, List.forall_mem_cons.mpr ⟨lw_p67, List.forall_mem_cons.mpr ⟨lw_p68, List.forall_mem_cons.mpr ⟨lw_p69, List.forall_mem_cons.mpr ⟨lw_p70, List.forall_mem_cons.mpr ⟨lw_p71, List.forall_mem_cons.mpr ⟨lw_p72, List.forall_mem_cons.mpr ⟨lw_p73, fun _ h => absurd h List.not_mem_nil⟩⟩⟩⟩⟩⟩⟩⟩⟩⟩
def lw_privs : List (MethodName × Nat) := lw_privs_1 ++ (lw_privs_2 ++ (lw_privs_3 ++ (lw_privs_4 ++ (lw_privs_5))))
def lw_tbl : List Cond := k2_sels lw_privs ++ tables_1
theorem lw_privs_ok : ∀ q ∈ lw_privs, lw_okq q := by
  show ∀ q ∈ lw_privs_1 ++ (lw_privs_2 ++ (lw_privs_3 ++ (lw_privs_4 ++ (lw_privs_5)))), lw_okq q
  exact List.forall_mem_append.mpr ⟨lw_r1, List.forall_mem_append.mpr ⟨lw_r2, List.forall_mem_append.mpr ⟨lw_r3, List.forall_mem_append.mpr ⟨lw_r4, lw_r5⟩⟩⟩⟩
end
section
def va_AOA (ty : FieldType) (U : State) : Prop := (Cond.arrayOver (.array ty)).before #[] U = true
theorem va_AOA.use {ty : FieldType} {A : Array Value} {U : State} (h : va_AOA ty U) : (Cond.arrayOver (.array ty)).before A U = true := h
/-! ===== BEGIN words of one list among another's, by their places ===== -/
theorem goodIn_r {big : List Cond} (ws : List Cond) (ps : List Nat) (hp : ws = ps.filterMap (fun i => big[i]?)) (h : ws.all goodWord = true) : GoodIn big ws := by
  intro w hw
  have h1 := List.all_eq_true.mp h w hw
  rw [hp] at hw
  obtain ⟨i, -, hi⟩ := List.mem_filterMap.mp hw
  have hm : w ∈ big := by first | exact List.mem_of_getElem? hi | exact List.getElem?_mem hi
  exact ⟨hm, good_of_word h1⟩
theorem goodIn_app {big a b : List Cond} (ha : GoodIn big a) (hb : GoodIn big b) : GoodIn big (a ++ b) := fun w h => (List.mem_append.mp h).elim (ha w) (hb w)
theorem goodIn_ca {big a b : List Cond} {c : Cond} (ha : GoodIn big (c :: a)) (hb : GoodIn big b) : GoodIn big (c :: (a ++ b)) := fun w h => (List.mem_cons.mp h).elim (fun e => ha w (List.mem_cons.mpr (Or.inl e))) (fun h => (List.mem_append.mp h).elim (fun h => ha w (List.mem_cons.mpr (Or.inr h))) (hb w))
theorem goodIn_sub {big ws : List Cond} (hm : ∀ w ∈ ws, w ∈ big) (h : ws.all goodWord = true) : GoodIn big ws := fun w hw => ⟨hm w hw, good_of_word (List.all_eq_true.mp h w hw)⟩
/-! ===== END ===== -/

/-! ===== BEGIN new T[n][m]: the outer array a place, the inner ones among the pooled ===== -/
/-- f, but v at every address of l -/
def vr_up {α : Type} (f : Nat → α) (l : List Nat) (v : α) : Nat → α := fun a => if a ∈ l then v else f a
theorem vr_up_in {α : Type} {f : Nat → α} {l : List Nat} {v : α} {a : Nat} (h : a ∈ l) : vr_up f l v a = v := if_pos h
theorem vr_up_ne {α : Type} {f : Nat → α} {l : List Nat} {v : α} {a : Nat} (h : a ∉ l) : vr_up f l v a = f a := if_neg h
theorem vr_rows {L l : List Nat} {f : Nat → va_E} {e : va_E} (h : ∀ a, a ∈ l → a ∉ L) : va_pl L f ++ l.map (fun a => (a, e)) = va_pl (L ++ l) (vr_up f l e) := by
  unfold va_pl
  rw [List.map_append]
  congr 1
  · apply List.map_congr_left
    intro a ha
    rw [vr_up_ne (fun q => h a q ha)]
  · apply List.map_congr_left
    intro a ha
    rw [vr_up_in ha]
theorem vr_lay {X rows : va_W} {x : Nat × va_E} {pl : va_W} {D : va_G} {cl : List vw_C} {H : Heap} (hP : va_P D cl (((X ++ pl) ++ [x]) ++ rows) H) : va_P D cl ((X ++ [x]) ++ (pl ++ rows)) H := by
  rw [List.append_assoc (X ++ pl)] at hP
  have h := va_P.swap hP
  rw [← List.append_assoc X] at h
  have h2 := va_P.swap h
  rw [List.append_assoc (X ++ [x])] at h2
  exact h2
theorem vr_layD {X rows : va_W} {x : Nat × va_E} {pl : va_W} {A : Nat → Prop} (hD : va_D A (((X ++ pl) ++ [x]) ++ rows)) : va_D A ((X ++ [x]) ++ (pl ++ rows)) := by
  rw [List.append_assoc (X ++ pl)] at hD
  have h := va_D.swap hD
  rw [← List.append_assoc X] at h
  have h2 := va_D.swap h
  rw [List.append_assoc (X ++ [x])] at h2
  exact h2
theorem vr_outer (c : ClassId) (N h0 : Nat) : ∀ i : Nat, Jvm.Free.Multi.outerC c N h0 i = arrV c N (fun j => va_rf (if j < i then some (h0 + 1 + j) else none))
  | 0 => by
    show ({ cls := c, slots := Array.replicate N .null, vm := .none } : Cell) = _
    rw [arrV_new]
    refine congrArg (arrV c N) (funext fun j => ?_)
    simp [va_rf]
  | i + 1 => by
    show (Jvm.Free.Multi.outerC c N h0 i).setSlot i (.ref (h0 + 1 + i)) = _
    rw [vr_outer c N h0 i, arrV_store]
    refine congrArg (arrV c N) (funext fun j => ?_)
    by_cases e : j = i
    · subst e
      simp [updV, va_rf]
    · by_cases h : j < i
      · simp [updV, e, h, Nat.lt_succ_of_lt h]
      · simp [updV, e, h, show ¬ j < i + 1 by omega]
section VGM
variable {p : Program} {l : Launch} {e : Env} {R : Room} {s : State} {m : MethodId} {args : Array Value} {below : List Frame} {meth : Method} {c : Code} {H : Heap} {locs : List Loc} {cells slots : Nat} {Q : State → Prop}
variable {cc : ByteArray} {pc : Nat} {ls : Array Slot} {rest : List Value} {D : va_G} {cl : List vw_C} {A : Nat → Prop} {a : Nat} {tys : List (ClassId × FieldType)} {ws : va_W} {H0 : Heap}
theorem va_mna {X : va_W} {L : List Nat} {f : Nat → va_E} {cc : ByteArray} (hexec : p.tables.exec = Jvm.exec) (hb : c.code = cc) {own : String} {index : Nat} {ty : FieldType} {cy : ClassId} (hown : s.vm.findClass own = some m.cls) (hclink : (Cond.classLink own index ("[" ++ (FieldType.array ty).toString)).before args s = true) (hover : va_AOA ty s) (harr : (Cond.arrayClass ty).before args s = true) (hcy : s.vm.findClass (FieldType.array ty).toString = some cy)
    (hK : va_K D cl tys s) (hP : va_P D cl (X ++ va_pl L f) H) (hD : va_D A (X ++ va_pl L f)) (hS : va_S A H0 H locs) (hA : ∀ q, H0.size ≤ q → A q) {n k : Int32} {N' K' : Nat} {z : vp_A} (hn : ¬ n < 0) (hk : ¬ k < 0) (hN : n.toNatClampNeg = N') (hM : k.toNatClampNeg = K')
    (hb1 : N' * 4 ≤ 536870912) (hb2 : K' * componentBytes ty ≤ 536870912) (hb3 : K' ≤ 536870912) (hdf : fits ty (defaultValue ty) = true) (hdd : (defaultValue ty).isDefault = true) (hcells : cells + (1 + N') ≤ R.cells) (hslots : slots + (N' + N' * K') ≤ R.slots) (hz : ∀ c : ClassId, Jvm.Free.Multi.innerC c K' (defaultValue ty) = vp_cell c z) (hdg : decode cc pc = .ok (.multianewarray index 2, 4))
    (kk : ∀ (q : Nat) (r : Nat → Nat) (cA : ClassId) (H1 : Heap), (∀ i j : Nat, i < N' → j < N' → r i = r j → i = j) → (∀ i : Nat, i < N' → r i ∉ L) → va_K D cl (tys ++ [(cA, .array ty)]) s →
      va_P D cl ((X ++ [(q, .inl (cA, N', .inr (.inr (.inr (.inr (fun i => if i < N' then some (r i) else none))))))]) ++ va_pl (L ++ (List.range N').map r) (vr_up f ((List.range N').map r) (.inl (cy, z)))) H1 → va_D A ((X ++ [(q, .inl (cA, N', .inr (.inr (.inr (.inr (fun i => if i < N' then some (r i) else none))))))]) ++ va_pl (L ++ (List.range N').map r) (vr_up f ((List.range N').map r) (.inl (cy, z)))) → va_S A H0 H1 locs →
      W p l e R s m args below meth c H1 locs (cells + 1 + N') (slots + N' + N' * K') Q (F0 m (pc + 4) ls (.ref q :: rest))) : W p l e R s m args below meth c H locs cells slots Q (F0 m pc ls (.int k :: .int n :: rest)) := by
  subst hN
  subst hM
  intro T hT Xs
  obtain ⟨vm₁, cA, comp, -, fA, fC, hO, -, X', step⟩ := Xs.multianewarray2F hexec hown hclink (va_AOA.use hover) harr (g := F0 m pc ls (.int k :: .int n :: rest)) rfl (by rw [hb]; exact hdg) rfl hn hk hb1 hb2 hb3 hdf hdd hcells hslots
  have ec : some cy = some comp := hcy.symm.trans fC
  cases ec
  generalize hF : Jvm.Free.Multi.fill (T.setVm vm₁) cA cy n.toNatClampNeg k.toNatClampNeg (defaultValue ty) n.toNatClampNeg = F at X' step
  have hTh : (T.setVm vm₁).heap = H := hT
  obtain ⟨f1, f2, -, -⟩ := Jvm.Free.Multi.fill_facts (T.setVm vm₁) cA cy n.toNatClampNeg k.toNatClampNeg (defaultValue ty) n.toNatClampNeg
  rw [hF, hTh] at f1 f2
  have hold : ∀ x : Nat, x < H.size → F.heap[x]? = H[x]? := fun x hx => by
    have := Jvm.Free.Multi.fill_old (T.setVm vm₁) cA cy n.toNatClampNeg k.toNatClampNeg (defaultValue ty) (a := x) (by rw [hTh]; exact hx) n.toNatClampNeg
    rw [hF, hTh] at this
    exact this
  have hrow : ∀ j : Nat, j < n.toNatClampNeg → F.heap[H.size + 1 + j]? = some (vp_cell cy z) := fun j hj => by
    have := Jvm.Free.Multi.fill_inner (T.setVm vm₁) cA cy n.toNatClampNeg k.toNatClampNeg (defaultValue ty) n.toNatClampNeg j hj
    rw [hF, hTh, hz] at this
    exact this
  have hout : Jvm.Free.Multi.outerC cA n.toNatClampNeg H.size n.toNatClampNeg = vp_cell cA (n.toNatClampNeg, .inr (.inr (.inr (.inr (fun i => if i < n.toNatClampNeg then some (H.size + 1 + i) else none))))) := by
    rw [vp_cell_q]
    exact vr_outer cA n.toNatClampNeg H.size n.toNatClampNeg
  rw [hout] at f2
  have hlt : ∀ a, a ∈ L → a < H.size := fun a ha => by
    obtain ⟨k9, hk9⟩ := va_pl_get (X := X) (f := f) ha
    exact (hP k9 _ hk9).lt
  have hnl : ∀ i : Nat, i < n.toNatClampNeg → H.size + 1 + i ∉ L := fun i _ h => by
    have := hlt _ h
    omega
  have hnm : ∀ a, a ∈ (List.range n.toNatClampNeg).map (fun i => H.size + 1 + i) → a ∉ L := fun a ha h => by
    obtain ⟨i, -, rfl⟩ := List.mem_map.mp ha
    have := hlt _ h
    omega
  have hP0 : va_P D cl (X ++ va_pl L f) F.heap := hP.kept (fun k9 x hx => hold x.1 ((hP k9 x hx).lt))
  have hP1 : va_P D cl ((X ++ va_pl L f) ++ [(H.size, .inl (cA, n.toNatClampNeg, .inr (.inr (.inr (.inr (fun i => if i < n.toNatClampNeg then some (H.size + 1 + i) else none))))))]) F.heap := hP0.app (fun k9 x hx => by
    have h0 : k9 < 1 := (List.getElem?_eq_some_iff.mp hx).1
    rw [show k9 = 0 by omega] at hx
    cases hx
    exact f2)
  have hP2 : va_P D cl (((X ++ va_pl L f) ++ [(H.size, .inl (cA, n.toNatClampNeg, .inr (.inr (.inr (.inr (fun i => if i < n.toNatClampNeg then some (H.size + 1 + i) else none))))))]) ++ ((List.range n.toNatClampNeg).map (fun i => H.size + 1 + i)).map (fun a => (a, .inl (cy, z)))) F.heap := hP1.app (fun k9 x hx => by
    obtain ⟨a, ha, rfl⟩ := List.mem_map.mp (List.mem_of_getElem? hx)
    obtain ⟨i, hi, rfl⟩ := List.mem_map.mp ha
    exact hrow i (List.mem_range.mp hi))
  have hD2 : va_D A (((X ++ va_pl L f) ++ [(H.size, .inl (cA, n.toNatClampNeg, .inr (.inr (.inr (.inr (fun i => if i < n.toNatClampNeg then some (H.size + 1 + i) else none))))))]) ++ ((List.range n.toNatClampNeg).map (fun i => H.size + 1 + i)).map (fun a => (a, .inl (cy, z)))) := by
    have hD1 := hD.push (e := .inl (cA, n.toNatClampNeg, .inr (.inr (.inr (.inr (fun i => if i < n.toNatClampNeg then some (H.size + 1 + i) else none)))))) hP rfl (hA _ hS.1)
    generalize hW1 : (X ++ va_pl L f) ++ [(H.size, .inl (cA, n.toNatClampNeg, .inr (.inr (.inr (.inr (fun i => if i < n.toNatClampNeg then some (H.size + 1 + i) else none))))))] = W1 at hD1 hP1 ⊢
    have hle : ∀ (k9 : Nat) (x : Nat × va_E), W1[k9]? = some x → x.1 ≤ H.size := fun k9 x hx => by
      rw [← hW1] at hx
      by_cases hl : k9 < (X ++ va_pl L f).length
      · rw [List.getElem?_append_left hl] at hx
        exact Nat.le_of_lt ((hP k9 x hx).lt)
      · rw [List.getElem?_append_right (by omega)] at hx
        have h0 : k9 - (X ++ va_pl L f).length < 1 := (List.getElem?_eq_some_iff.mp hx).1
        rw [show k9 - (X ++ va_pl L f).length = 0 by omega] at hx
        cases hx
        exact Nat.le_refl _
    have hr : ∀ (k9 : Nat) (x : Nat × va_E), (((List.range n.toNatClampNeg).map (fun i => H.size + 1 + i)).map (fun a => ((a, .inl (cy, z)) : Nat × va_E)))[k9]? = some x → x.1 = H.size + 1 + k9 := fun k9 x hx => by
      rw [List.getElem?_map, List.getElem?_map] at hx
      by_cases h9 : k9 < n.toNatClampNeg
      · rw [List.getElem?_range h9] at hx
        cases hx
        rfl
      · have hn0 : (List.range n.toNatClampNeg)[k9]? = none := List.getElem?_eq_none (by rw [List.length_range]; omega)
        rw [hn0] at hx
        cases hx
    refine ⟨fun i j x y hi hj hxy => ?_, fun k9 x hx => ?_⟩
    · by_cases h1 : i < W1.length <;> by_cases h2 : j < W1.length
      · rw [List.getElem?_append_left h1] at hi
        rw [List.getElem?_append_left h2] at hj
        exact hD1.1 i j x y hi hj hxy
      · rw [List.getElem?_append_left h1] at hi
        rw [List.getElem?_append_right (by omega)] at hj
        have := hle _ _ hi
        have := hr _ _ hj
        omega
      · rw [List.getElem?_append_right (by omega)] at hi
        rw [List.getElem?_append_left h2] at hj
        have := hle _ _ hj
        have := hr _ _ hi
        omega
      · rw [List.getElem?_append_right (by omega)] at hi hj
        have := hr _ _ hi
        have := hr _ _ hj
        omega
    · by_cases h1 : k9 < W1.length
      · rw [List.getElem?_append_left h1] at hx
        exact hD1.2 k9 x hx
      · rw [List.getElem?_append_right (by omega)] at hx
        have := hr _ _ hx
        exact hA _ (by have := hS.1; omega)
  have hAr : ArrOfT s cA (.array ty) := fun N9 z9 => by
    obtain ⟨-, k9, hk9, cm9, hkk9⟩ := (hO 0 0 0).1
    exact ⟨(fun q hq => by cases hq), k9, hk9, cm9, hkk9⟩
  have hK2 : va_K D cl (tys ++ [(cA, .array ty)]) s := ⟨hK.1, fun k9 x hx => by
    by_cases hl : k9 < tys.length
    · rw [List.getElem?_append_left hl] at hx
      exact hK.2 k9 x hx
    · rw [List.getElem?_append_right (by omega)] at hx
      have h0 : k9 - tys.length < 1 := (List.getElem?_eq_some_iff.mp hx).1
      rw [show k9 - tys.length = 0 by omega] at hx
      cases hx
      exact ⟨hAr, fA⟩⟩
  obtain ⟨t, a1, b1⟩ := kk H.size (fun i => H.size + 1 + i) cA F.heap (fun i j _ _ h => by have h9 : H.size + 1 + i = H.size + 1 + j := h; omega) hnl hK2 (by rw [← vr_rows hnm]; exact vr_lay hP2) (by rw [← vr_rows hnm]; exact vr_layD hD2) ⟨by rw [f1]; have := hS.1; omega, fun x h1 h2 => (hold x (Nat.lt_of_lt_of_le h1 hS.1)).trans (hS.2.1 x h1 h2), hS.2.2⟩ F rfl X'
  refine ⟨t, step t ?_, b1⟩
  have e : T.heap.size = H.size := by rw [hT]
  rw [e]
  exact a1
end VGM
/-! ===== END ===== -/

def RX0 : String := "WrongEnd$Fort"
def TX0 : u_T := fun k => match k with
  | 0 => ("WrongEnd$Fort", "wide", "I", true)
  | 1 => ("WrongEnd$Fort", "high", "I", true)
  | 2 => ("WrongEnd$Fort", "hills", "[I", true)
  | 3 => ("WrongEnd$Fort", "cells", "[I", true)
  | 4 => ("WrongEnd$Fort", "turned", "[Z", true)
  | 5 => ("WrongEnd$Fort", "lent", "[Z", true)
  | 6 => ("WrongEnd$Fort", "reporters", "[I", true)
  | 7 => ("WrongEnd$Fort", "heldTurned", "[Z", true)
  | 8 => ("WrongEnd$Fort", "hours", "[I", true)
  | 9 => ("WrongEnd$Fort", "told", "[I", true)
  | 10 => ("WrongEnd$Fort", "stepScopes", "[I", true)
  | 11 => ("WrongEnd$Fort", "stepLends", "[Z", true)
  | 12 => ("WrongEnd$Fort", "scopes", "I", false)
  | 13 => ("WrongEnd$Fort", "reports", "I", false)
  | 14 => ("WrongEnd$Fort", "steps", "I", false)
  | 15 => ("WrongEnd$Fort", "texts", "I", false)
  | _ => ("WrongEnd$Fort", "ruling", "I", false)
def tyX0 : Nat → FieldType := fun k => match k with
  | 0 => .int
  | 1 => .int
  | 2 => .array .int
  | 3 => .array .int
  | 4 => .array .boolean
  | 5 => .array .boolean
  | 6 => .array .int
  | 7 => .array .boolean
  | 8 => .array .int
  | 9 => .array .int
  | 10 => .array .int
  | 11 => .array .boolean
  | 12 => .int
  | 13 => .int
  | 14 => .int
  | 15 => .int
  | _ => .int
abbrev wsX00 : List Cond := u_ws RX0 TX0 17
theorem nmX0 : ∀ a, a < 17 → ∀ b, b < 17 → a ≠ b → (TX0 a).2.1 ≠ (TX0 b).2.1 := by decide +kernel
theorem tyX0_ok : ∀ k, k < 17 → parseFieldDescriptor (TX0 k).2.2.1 = some (tyX0 k) := by decide +kernel
abbrev cX0_init : ByteArray := prog_2_method_1_code
def yX0_init : MethodName := ⟨RX0, "<init>", "(II)V"⟩
abbrev cX0_hasCell : ByteArray := prog_2_method_2_code
def yX0_hasCell : MethodName := ⟨RX0, "hasCell", "(I)Z"⟩
abbrev cX0_hasScope : ByteArray := prog_2_method_3_code
def yX0_hasScope : MethodName := ⟨RX0, "hasScope", "(I)Z"⟩
abbrev cX0_isFree : ByteArray := prog_2_method_4_code
def yX0_isFree : MethodName := ⟨RX0, "isFree", "(I)Z"⟩
abbrev cX0_hasState : ByteArray := prog_2_method_5_code
def yX0_hasState : MethodName := ⟨RX0, "hasState", "(I)Z"⟩
abbrev cX0_hasReports : ByteArray := prog_2_method_6_code
def yX0_hasReports : MethodName := ⟨RX0, "hasReports", "(I)Z"⟩
abbrev cX0_hasText : ByteArray := prog_2_method_7_code
def yX0_hasText : MethodName := ⟨RX0, "hasText", "(I)Z"⟩
abbrev cX0_countCells : ByteArray := prog_2_method_8_code
def yX0_countCells : MethodName := ⟨RX0, "countCells", "()I"⟩
abbrev cX0_countStates : ByteArray := prog_2_method_9_code
def yX0_countStates : MethodName := ⟨RX0, "countStates", "()I"⟩
abbrev cX0_countFree : ByteArray := prog_2_method_10_code
def yX0_countFree : MethodName := ⟨RX0, "countFree", "()I"⟩
abbrev cX0_freeScope : ByteArray := prog_2_method_11_code
def yX0_freeScope : MethodName := ⟨RX0, "freeScope", "(I)I"⟩
abbrev cX0_place : ByteArray := prog_2_method_12_code
def yX0_place : MethodName := ⟨RX0, "place", "(I)I"⟩
abbrev cX0_change : ByteArray := prog_2_method_13_code
def yX0_change : MethodName := ⟨RX0, "change", "(IZZ)Z"⟩
abbrev cX0_addStep : ByteArray := prog_2_method_14_code
def yX0_addStep : MethodName := ⟨RX0, "addStep", "(IZ)V"⟩
abbrev cX0_dropOldestStep : ByteArray := prog_2_method_15_code
def yX0_dropOldestStep : MethodName := ⟨RX0, "dropOldestStep", "()V"⟩
abbrev cX0_stepBack : ByteArray := prog_2_method_16_code
def yX0_stepBack : MethodName := ⟨RX0, "stepBack", "()I"⟩
abbrev cX0_write : ByteArray := prog_2_method_17_code
def yX0_write : MethodName := ⟨RX0, "write", "(III)I"⟩
abbrev cX0_tellOne : ByteArray := prog_2_method_18_code
def yX0_tellOne : MethodName := ⟨RX0, "tellOne", "(I)I"⟩
abbrev cX0_copy : ByteArray := prog_2_method_19_code
def yX0_copy : MethodName := ⟨RX0, "copy", "(LWrongEnd$Fort;)V"⟩
abbrev cX0_copyRow : ByteArray := prog_2_method_20_code
def yX0_copyRow : MethodName := ⟨RX0, "copyRow", "([Z[Z)V"⟩
def RX1 : String := "WrongEnd$Machine"
def TX1 : u_T := fun k => match k with
  | 0 => ("WrongEnd$Machine", "names", "[I", true)
  | 1 => ("WrongEnd$Machine", "pile", "[I", true)
  | _ => ("WrongEnd$Machine", "top", "I", false)
def tyX1 : Nat → FieldType := fun k => match k with
  | 0 => .array .int
  | 1 => .array .int
  | _ => .int
abbrev wsX10 : List Cond := u_ws RX1 TX1 3
theorem nmX1 : ∀ a, a < 3 → ∀ b, b < 3 → a ≠ b → (TX1 a).2.1 ≠ (TX1 b).2.1 := by decide +kernel
theorem tyX1_ok : ∀ k, k < 3 → parseFieldDescriptor (TX1 k).2.2.1 = some (tyX1 k) := by decide +kernel
abbrev cX1_init : ByteArray := prog_3_method_1_code
def yX1_init : MethodName := ⟨RX1, "<init>", "()V"⟩
abbrev cX1_work : ByteArray := prog_3_method_2_code
def yX1_work : MethodName := ⟨RX1, "work", "(LWrongEnd$Program;I)I"⟩
abbrev cX1_push : ByteArray := prog_3_method_3_code
def yX1_push : MethodName := ⟨RX1, "push", "(I)V"⟩
abbrev cX1_pop : ByteArray := prog_3_method_4_code
def yX1_pop : MethodName := ⟨RX1, "pop", "()I"⟩
abbrev cX1_join : ByteArray := prog_3_method_5_code
def yX1_join : MethodName := ⟨RX1, "join", "(I)V"⟩
abbrev cX1_reckoned : ByteArray := prog_3_method_6_code
def yX1_reckoned : MethodName := ⟨RX1, "reckoned", "(III)I"⟩
abbrev cX1_holds : ByteArray := prog_3_method_7_code
def yX1_holds : MethodName := ⟨RX1, "holds", "(III)Z"⟩
def RX2 : String := "WrongEnd$Name"
def TX2 : u_T := fun k => match k with
  | _ => ("", "", "", false)
def tyX2 : Nat → FieldType := fun k => match k with
  | _ => .int
abbrev wsX20 : List Cond := u_ws RX2 TX2 0
theorem nmX2 : ∀ a, a < 0 → ∀ b, b < 0 → a ≠ b → (TX2 a).2.1 ≠ (TX2 b).2.1 := by decide +kernel
theorem tyX2_ok : ∀ k, k < 0 → parseFieldDescriptor (TX2 k).2.2.1 = some (tyX2 k) := by decide +kernel
abbrev cX2_isOf : ByteArray := prog_4_method_2_code
def yX2_isOf : MethodName := ⟨RX2, "isOf", "(II)Z"⟩
def RX3 : String := "WrongEnd$Optics"
def TX3 : u_T := fun k => match k with
  | 0 => ("WrongEnd$Optics", "fort", "LWrongEnd$Fort;", true)
  | 1 => ("WrongEnd$Optics", "texts", "[LWrongEnd$Program;", true)
  | 2 => ("WrongEnd$Optics", "blank", "LWrongEnd$Program;", true)
  | _ => ("WrongEnd$Optics", "machine", "LWrongEnd$Machine;", true)
def tyX3 : Nat → FieldType := fun k => match k with
  | 0 => .object "WrongEnd$Fort"
  | 1 => .array (.object "WrongEnd$Program")
  | 2 => .object "WrongEnd$Program"
  | _ => .object "WrongEnd$Machine"
abbrev wsX30 : List Cond := u_ws RX3 TX3 4
theorem nmX3 : ∀ a, a < 4 → ∀ b, b < 4 → a ≠ b → (TX3 a).2.1 ≠ (TX3 b).2.1 := by decide +kernel
theorem tyX3_ok : ∀ k, k < 4 → parseFieldDescriptor (TX3 k).2.2.1 = some (tyX3 k) := by decide +kernel
abbrev cX3_init : ByteArray := prog_5_method_1_code
def yX3_init : MethodName := ⟨RX3, "<init>", "(LWrongEnd$Fort;[LWrongEnd$Program;)V"⟩
abbrev cX3_face : ByteArray := prog_5_method_2_code
def yX3_face : MethodName := ⟨RX3, "face", "(I)V"⟩
abbrev cX3_aim : ByteArray := prog_5_method_3_code
def yX3_aim : MethodName := ⟨RX3, "aim", "(IIZI)V"⟩
abbrev cX3_choose : ByteArray := prog_5_method_4_code
def yX3_choose : MethodName := ⟨RX3, "choose", "(I)V"⟩
abbrev cX3_tell : ByteArray := prog_5_method_5_code
def yX3_tell : MethodName := ⟨RX3, "tell", "(I)I"⟩
abbrev cX3_without : ByteArray := prog_5_method_6_code
def yX3_without : MethodName := ⟨RX3, "without", "(I)I"⟩
def RX4 : String := "WrongEnd$Program"
def TX4 : u_T := fun k => match k with
  | 0 => ("WrongEnd$Program", "orders", "[I", true)
  | 1 => ("WrongEnd$Program", "starts", "[I", true)
  | 2 => ("WrongEnd$Program", "stops", "[I", true)
  | _ => ("WrongEnd$Program", "size", "I", false)
def tyX4 : Nat → FieldType := fun k => match k with
  | 0 => .array .int
  | 1 => .array .int
  | 2 => .array .int
  | _ => .int
abbrev wsX40 : List Cond := u_ws RX4 TX4 4
theorem nmX4 : ∀ a, a < 4 → ∀ b, b < 4 → a ≠ b → (TX4 a).2.1 ≠ (TX4 b).2.1 := by decide +kernel
theorem tyX4_ok : ∀ k, k < 4 → parseFieldDescriptor (TX4 k).2.2.1 = some (tyX4 k) := by decide +kernel
abbrev cX4_init : ByteArray := prog_6_method_1_code
def yX4_init : MethodName := ⟨RX4, "<init>", "(I)V"⟩
abbrev cX4_clear : ByteArray := prog_6_method_2_code
def yX4_clear : MethodName := ⟨RX4, "clear", "()V"⟩
abbrev cX4_has : ByteArray := prog_6_method_3_code
def yX4_has : MethodName := ⟨RX4, "has", "(I)Z"⟩
abbrev cX4_open : ByteArray := prog_6_method_4_code
def yX4_open : MethodName := ⟨RX4, "open", "(I)V"⟩
abbrev cX4_close : ByteArray := prog_6_method_5_code
def yX4_close : MethodName := ⟨RX4, "close", "(I)V"⟩
abbrev cX4_add : ByteArray := prog_6_method_6_code
def yX4_add : MethodName := ⟨RX4, "add", "(II)I"⟩
abbrev cX4_landHere : ByteArray := prog_6_method_7_code
def yX4_landHere : MethodName := ⟨RX4, "landHere", "(I)V"⟩
abbrev cX4_start : ByteArray := prog_6_method_8_code
def yX4_start : MethodName := ⟨RX4, "start", "(I)I"⟩
abbrev cX4_stop : ByteArray := prog_6_method_9_code
def yX4_stop : MethodName := ⟨RX4, "stop", "(I)I"⟩
abbrev cX4_orderAt : ByteArray := prog_6_method_10_code
def yX4_orderAt : MethodName := ⟨RX4, "orderAt", "(I)I"⟩
abbrev cX4_copy : ByteArray := prog_6_method_11_code
def yX4_copy : MethodName := ⟨RX4, "copy", "(LWrongEnd$Program;)V"⟩
def RX5 : String := "WrongEnd$Reader"
def TX5 : u_T := fun k => match k with
  | 0 => ("WrongEnd$Reader", "draft", "LWrongEnd$Program;", true)
  | 1 => ("WrongEnd$Reader", "faultKind", "I", false)
  | 2 => ("WrongEnd$Reader", "faultPlace", "I", false)
  | 3 => ("WrongEnd$Reader", "tokens", "LWrongEnd$Tokens;", true)
  | 4 => ("WrongEnd$Reader", "at", "I", false)
  | 5 => ("WrongEnd$Reader", "kind", "I", false)
  | 6 => ("WrongEnd$Reader", "value", "I", false)
  | _ => ("WrongEnd$Reader", "clause", "I", false)
def tyX5 : Nat → FieldType := fun k => match k with
  | 0 => .object "WrongEnd$Program"
  | 1 => .int
  | 2 => .int
  | 3 => .object "WrongEnd$Tokens"
  | 4 => .int
  | 5 => .int
  | 6 => .int
  | _ => .int
abbrev wsX50 : List Cond := u_ws RX5 TX5 8
theorem nmX5 : ∀ a, a < 8 → ∀ b, b < 8 → a ≠ b → (TX5 a).2.1 ≠ (TX5 b).2.1 := by decide +kernel
theorem tyX5_ok : ∀ k, k < 8 → parseFieldDescriptor (TX5 k).2.2.1 = some (tyX5 k) := by decide +kernel
abbrev cX5_init : ByteArray := prog_7_method_1_code
def yX5_init : MethodName := ⟨RX5, "<init>", "(LWrongEnd$Tape;)V"⟩
abbrev cX5_read : ByteArray := prog_7_method_2_code
def yX5_read : MethodName := ⟨RX5, "read", "()Z"⟩
abbrev cX5_readClause : ByteArray := prog_7_method_3_code
def yX5_readClause : MethodName := ⟨RX5, "readClause", "()V"⟩
abbrev cX5_readSum : ByteArray := prog_7_method_4_code
def yX5_readSum : MethodName := ⟨RX5, "readSum", "(I)V"⟩
abbrev cX5_readProduct : ByteArray := prog_7_method_5_code
def yX5_readProduct : MethodName := ⟨RX5, "readProduct", "(I)V"⟩
abbrev cX5_readOne : ByteArray := prog_7_method_6_code
def yX5_readOne : MethodName := ⟨RX5, "readOne", "(I)V"⟩
abbrev cX5_takeNumber : ByteArray := prog_7_method_7_code
def yX5_takeNumber : MethodName := ⟨RX5, "takeNumber", "()V"⟩
abbrev cX5_takeName : ByteArray := prog_7_method_8_code
def yX5_takeName : MethodName := ⟨RX5, "takeName", "()V"⟩
abbrev cX5_enters : ByteArray := prog_7_method_9_code
def yX5_enters : MethodName := ⟨RX5, "enters", "(I)Z"⟩
abbrev cX5_readChoice : ByteArray := prog_7_method_10_code
def yX5_readChoice : MethodName := ⟨RX5, "readChoice", "(I)V"⟩
abbrev cX5_readEither : ByteArray := prog_7_method_11_code
def yX5_readEither : MethodName := ⟨RX5, "readEither", "(I)V"⟩
abbrev cX5_readBoth : ByteArray := prog_7_method_12_code
def yX5_readBoth : MethodName := ⟨RX5, "readBoth", "(I)V"⟩
abbrev cX5_readAsk : ByteArray := prog_7_method_13_code
def yX5_readAsk : MethodName := ⟨RX5, "readAsk", "(I)V"⟩
abbrev cX5_expect : ByteArray := prog_7_method_14_code
def yX5_expect : MethodName := ⟨RX5, "expect", "(I)V"⟩
abbrev cX5_refuse : ByteArray := prog_7_method_15_code
def yX5_refuse : MethodName := ⟨RX5, "refuse", "(I)V"⟩
abbrev cX5_advance : ByteArray := prog_7_method_16_code
def yX5_advance : MethodName := ⟨RX5, "advance", "()V"⟩
def RX6 : String := "WrongEnd$Scales"
def TX6 : u_T := fun k => match k with
  | 0 => ("WrongEnd$Scales", "fort", "LWrongEnd$Fort;", true)
  | 1 => ("WrongEnd$Scales", "optics", "LWrongEnd$Optics;", true)
  | 2 => ("WrongEnd$Scales", "states", "I", true)
  | 3 => ("WrongEnd$Scales", "weights", "[J", true)
  | 4 => ("WrongEnd$Scales", "views", "[[I", true)
  | _ => ("WrongEnd$Scales", "greatest", "[J", true)
def tyX6 : Nat → FieldType := fun k => match k with
  | 0 => .object "WrongEnd$Fort"
  | 1 => .object "WrongEnd$Optics"
  | 2 => .int
  | 3 => .array .long
  | 4 => .array (.array .int)
  | _ => .array .long
abbrev wsX60 : List Cond := u_ws RX6 TX6 6
theorem nmX6 : ∀ a, a < 6 → ∀ b, b < 6 → a ≠ b → (TX6 a).2.1 ≠ (TX6 b).2.1 := by decide +kernel
theorem tyX6_ok : ∀ k, k < 6 → parseFieldDescriptor (TX6 k).2.2.1 = some (tyX6 k) := by decide +kernel
abbrev cX6_init : ByteArray := prog_8_method_1_code
def yX6_init : MethodName := ⟨RX6, "<init>", "(LWrongEnd$Fort;LWrongEnd$Optics;)V"⟩
abbrev cX6_weightAsOf : ByteArray := prog_8_method_2_code
def yX6_weightAsOf : MethodName := ⟨RX6, "weightAsOf", "(II)J"⟩
abbrev cX6_share : ByteArray := prog_8_method_3_code
def yX6_share : MethodName := ⟨RX6, "share", "(I)I"⟩
abbrev cX6_weigh : ByteArray := prog_8_method_4_code
def yX6_weigh : MethodName := ⟨RX6, "weigh", "(I)J"⟩
abbrev cX6_weightOf : ByteArray := prog_8_method_5_code
def yX6_weightOf : MethodName := ⟨RX6, "weightOf", "(III)J"⟩
abbrev cX6_heaviest : ByteArray := prog_8_method_6_code
def yX6_heaviest : MethodName := ⟨RX6, "heaviest", "()I"⟩
abbrev cX6_cheapest : ByteArray := prog_8_method_7_code
def yX6_cheapest : MethodName := ⟨RX6, "cheapest", "(I)I"⟩
abbrev cX6_costOf : ByteArray := prog_8_method_8_code
def yX6_costOf : MethodName := ⟨RX6, "costOf", "(I)J"⟩
abbrev cX6_lookAll : ByteArray := prog_8_method_9_code
def yX6_lookAll : MethodName := ⟨RX6, "lookAll", "(I)V"⟩
abbrev cX6_look : ByteArray := prog_8_method_10_code
def yX6_look : MethodName := ⟨RX6, "look", "(III)V"⟩
abbrev cX6_sureByOne : ByteArray := prog_8_method_11_code
def yX6_sureByOne : MethodName := ⟨RX6, "sureByOne", "(I)J"⟩
abbrev cX6_sureByTwo : ByteArray := prog_8_method_12_code
def yX6_sureByTwo : MethodName := ⟨RX6, "sureByTwo", "(II)J"⟩
abbrev cX6_raise : ByteArray := prog_8_method_13_code
def yX6_raise : MethodName := ⟨RX6, "raise", "(IIJ)V"⟩
abbrev cX6_clearGreatest : ByteArray := prog_8_method_14_code
def yX6_clearGreatest : MethodName := ⟨RX6, "clearGreatest", "(I)V"⟩
abbrev cX6_sumGreatest : ByteArray := prog_8_method_15_code
def yX6_sumGreatest : MethodName := ⟨RX6, "sumGreatest", "(I)J"⟩
abbrev cX6_bestOfOne : ByteArray := prog_8_method_16_code
def yX6_bestOfOne : MethodName := ⟨RX6, "bestOfOne", "()I"⟩
abbrev cX6_bestOfTwo : ByteArray := prog_8_method_17_code
def yX6_bestOfTwo : MethodName := ⟨RX6, "bestOfTwo", "(I)I"⟩
abbrev cX6_bestNewCell : ByteArray := prog_8_method_18_code
def yX6_bestNewCell : MethodName := ⟨RX6, "bestNewCell", "(I)I"⟩
def RX7 : String := "WrongEnd$Sign"
def TX7 : u_T := fun k => match k with
  | _ => ("", "", "", false)
def tyX7 : Nat → FieldType := fun k => match k with
  | _ => .int
abbrev wsX70 : List Cond := u_ws RX7 TX7 0
theorem nmX7 : ∀ a, a < 0 → ∀ b, b < 0 → a ≠ b → (TX7 a).2.1 ≠ (TX7 b).2.1 := by decide +kernel
theorem tyX7_ok : ∀ k, k < 0 → parseFieldDescriptor (TX7 k).2.2.1 = some (tyX7 k) := by decide +kernel
def RX8 : String := "WrongEnd$Tape"
def TX8 : u_T := fun k => match k with
  | 0 => ("WrongEnd$Tape", "bytes", "[I", true)
  | _ => ("WrongEnd$Tape", "length", "I", false)
def tyX8 : Nat → FieldType := fun k => match k with
  | 0 => .array .int
  | _ => .int
abbrev wsX80 : List Cond := u_ws RX8 TX8 2
theorem nmX8 : ∀ a, a < 2 → ∀ b, b < 2 → a ≠ b → (TX8 a).2.1 ≠ (TX8 b).2.1 := by decide +kernel
theorem tyX8_ok : ∀ k, k < 2 → parseFieldDescriptor (TX8 k).2.2.1 = some (tyX8 k) := by decide +kernel
abbrev cX8_init : ByteArray := prog_10_method_1_code
def yX8_init : MethodName := ⟨RX8, "<init>", "()V"⟩
abbrev cX8_hasRoom : ByteArray := prog_10_method_2_code
def yX8_hasRoom : MethodName := ⟨RX8, "hasRoom", "(I)Z"⟩
abbrev cX8_put : ByteArray := prog_10_method_3_code
def yX8_put : MethodName := ⟨RX8, "put", "(I)V"⟩
abbrev cX8_at : ByteArray := prog_10_method_4_code
def yX8_at : MethodName := ⟨RX8, "at", "(I)I"⟩
def RX9 : String := "WrongEnd$Tokens"
def TX9 : u_T := fun k => match k with
  | 0 => ("WrongEnd$Tokens", "tape", "LWrongEnd$Tape;", true)
  | 1 => ("WrongEnd$Tokens", "kinds", "[I", true)
  | 2 => ("WrongEnd$Tokens", "values", "[I", true)
  | 3 => ("WrongEnd$Tokens", "places", "[I", true)
  | 4 => ("WrongEnd$Tokens", "count", "I", false)
  | _ => ("WrongEnd$Tokens", "next", "I", false)
def tyX9 : Nat → FieldType := fun k => match k with
  | 0 => .object "WrongEnd$Tape"
  | 1 => .array .int
  | 2 => .array .int
  | 3 => .array .int
  | 4 => .int
  | _ => .int
abbrev wsX90 : List Cond := u_ws RX9 TX9 6
theorem nmX9 : ∀ a, a < 6 → ∀ b, b < 6 → a ≠ b → (TX9 a).2.1 ≠ (TX9 b).2.1 := by decide +kernel
theorem tyX9_ok : ∀ k, k < 6 → parseFieldDescriptor (TX9 k).2.2.1 = some (tyX9 k) := by decide +kernel
abbrev cX9_init : ByteArray := prog_11_method_1_code
def yX9_init : MethodName := ⟨RX9, "<init>", "(LWrongEnd$Tape;)V"⟩
abbrev cX9_kindAt : ByteArray := prog_11_method_2_code
def yX9_kindAt : MethodName := ⟨RX9, "kindAt", "(I)I"⟩
abbrev cX9_valueAt : ByteArray := prog_11_method_3_code
def yX9_valueAt : MethodName := ⟨RX9, "valueAt", "(I)I"⟩
abbrev cX9_placeAt : ByteArray := prog_11_method_4_code
def yX9_placeAt : MethodName := ⟨RX9, "placeAt", "(I)I"⟩
abbrev cX9_split : ByteArray := prog_11_method_5_code
def yX9_split : MethodName := ⟨RX9, "split", "()V"⟩
abbrev cX9_add : ByteArray := prog_11_method_6_code
def yX9_add : MethodName := ⟨RX9, "add", "(III)V"⟩
abbrev cX9_splitWord : ByteArray := prog_11_method_7_code
def yX9_splitWord : MethodName := ⟨RX9, "splitWord", "()V"⟩
abbrev cX9_wordNumber : ByteArray := prog_11_method_8_code
def yX9_wordNumber : MethodName := ⟨RX9, "wordNumber", "(II)I"⟩
abbrev cX9_splitNumber : ByteArray := prog_11_method_9_code
def yX9_splitNumber : MethodName := ⟨RX9, "splitNumber", "()V"⟩
abbrev cX9_splitMark : ByteArray := prog_11_method_10_code
def yX9_splitMark : MethodName := ⟨RX9, "splitMark", "(I)V"⟩
abbrev cX9_isBlank : ByteArray := prog_11_method_11_code
def yX9_isBlank : MethodName := ⟨RX9, "isBlank", "(I)Z"⟩
abbrev cX9_isLetter : ByteArray := prog_11_method_12_code
def yX9_isLetter : MethodName := ⟨RX9, "isLetter", "(I)Z"⟩
abbrev cX9_isFigure : ByteArray := prog_11_method_13_code
def yX9_isFigure : MethodName := ⟨RX9, "isFigure", "(I)Z"⟩
def RX10 : String := "WrongEnd"
def TX10 : u_T := fun k => match k with
  | 0 => ("WrongEnd", "fort", "LWrongEnd$Fort;", true)
  | 1 => ("WrongEnd", "kept", "LWrongEnd$Fort;", true)
  | 2 => ("WrongEnd", "tape", "LWrongEnd$Tape;", true)
  | 3 => ("WrongEnd", "reader", "LWrongEnd$Reader;", true)
  | 4 => ("WrongEnd", "texts", "[LWrongEnd$Program;", true)
  | 5 => ("WrongEnd", "optics", "LWrongEnd$Optics;", true)
  | _ => ("WrongEnd", "scales", "LWrongEnd$Scales;", true)
def tyX10 : Nat → FieldType := fun k => match k with
  | 0 => .object "WrongEnd$Fort"
  | 1 => .object "WrongEnd$Fort"
  | 2 => .object "WrongEnd$Tape"
  | 3 => .object "WrongEnd$Reader"
  | 4 => .array (.object "WrongEnd$Program")
  | 5 => .object "WrongEnd$Optics"
  | _ => .object "WrongEnd$Scales"
abbrev wsX100 : List Cond := u_ws RX10 TX10 7
theorem nmX10 : ∀ a, a < 7 → ∀ b, b < 7 → a ≠ b → (TX10 a).2.1 ≠ (TX10 b).2.1 := by decide +kernel
theorem tyX10_ok : ∀ k, k < 7 → parseFieldDescriptor (TX10 k).2.2.1 = some (tyX10 k) := by decide +kernel
abbrev cX10_init : ByteArray := prog_1_method_1_code
def yX10_init : MethodName := ⟨RX10, "<init>", "(II)V"⟩
abbrev cX10_hill : ByteArray := prog_1_method_2_code
def yX10_hill : MethodName := ⟨RX10, "hill", "(II)Z"⟩
abbrev cX10_scope : ByteArray := prog_1_method_3_code
def yX10_scope : MethodName := ⟨RX10, "scope", "(I)I"⟩
abbrev cX10_turn : ByteArray := prog_1_method_4_code
def yX10_turn : MethodName := ⟨RX10, "turn", "(IZ)Z"⟩
abbrev cX10_lend : ByteArray := prog_1_method_5_code
def yX10_lend : MethodName := ⟨RX10, "lend", "(IZ)Z"⟩
abbrev cX10_undo : ByteArray := prog_1_method_6_code
def yX10_undo : MethodName := ⟨RX10, "undo", "()I"⟩
abbrev cX10_feed : ByteArray := prog_1_method_7_code
def yX10_feed : MethodName := ⟨RX10, "feed", "(IIIII)I"⟩
abbrev cX10_end : ByteArray := prog_1_method_8_code
def yX10_end : MethodName := ⟨RX10, "end", "(I)I"⟩
abbrev cX10_text : ByteArray := prog_1_method_9_code
def yX10_text : MethodName := ⟨RX10, "text", "()I"⟩
abbrev cX10_fault : ByteArray := prog_1_method_10_code
def yX10_fault : MethodName := ⟨RX10, "fault", "(I)I"⟩
abbrev cX10_by : ByteArray := prog_1_method_11_code
def yX10_by : MethodName := ⟨RX10, "by", "(I)Z"⟩
abbrev cX10_prior : ByteArray := prog_1_method_12_code
def yX10_prior : MethodName := ⟨RX10, "prior", "(I)I"⟩
abbrev cX10_sees : ByteArray := prog_1_method_13_code
def yX10_sees : MethodName := ⟨RX10, "sees", "(IZIIZ)I"⟩
abbrev cX10_report : ByteArray := prog_1_method_14_code
def yX10_report : MethodName := ⟨RX10, "report", "(III)I"⟩
abbrev cX10_forget : ByteArray := prog_1_method_15_code
def yX10_forget : MethodName := ⟨RX10, "forget", "()I"⟩
abbrev cX10_weight : ByteArray := prog_1_method_16_code
def yX10_weight : MethodName := ⟨RX10, "weight", "(II)J"⟩
abbrev cX10_odds : ByteArray := prog_1_method_17_code
def yX10_odds : MethodName := ⟨RX10, "odds", "(IIIII)J"⟩
abbrev cX10_likely : ByteArray := prog_1_method_18_code
def yX10_likely : MethodName := ⟨RX10, "likely", "(I)I"⟩
abbrev cX10_sure : ByteArray := prog_1_method_19_code
def yX10_sure : MethodName := ⟨RX10, "sure", "(III)J"⟩
abbrev cX10_ask : ByteArray := prog_1_method_20_code
def yX10_ask : MethodName := ⟨RX10, "ask", "(IZI)I"⟩
abbrev cX10_eighth : ByteArray := prog_1_method_21_code
def yX10_eighth : MethodName := ⟨RX10, "eighth", "(I)I"⟩
abbrev cX10_does : ByteArray := prog_1_method_22_code
def yX10_does : MethodName := ⟨RX10, "does", "(II)J"⟩
abbrev cX10_spied : ByteArray := prog_1_method_23_code
def yX10_spied : MethodName := ⟨RX10, "spied", "(IIIII)I"⟩
abbrev cX10_image : ByteArray := prog_1_method_24_code
def yX10_image : MethodName := ⟨RX10, "image", "()I"⟩
abbrev cX10_back : ByteArray := prog_1_method_25_code
def yX10_back : MethodName := ⟨RX10, "back", "()I"⟩
abbrev cX10_about : ByteArray := prog_1_method_26_code
def yX10_about : MethodName := ⟨RX10, "about", "(I)I"⟩
abbrev cX10_isFreeHold : ByteArray := prog_1_method_27_code
def yX10_isFreeHold : MethodName := ⟨RX10, "isFreeHold", "(I)Z"⟩
abbrev cX10_isHour : ByteArray := prog_1_method_28_code
def yX10_isHour : MethodName := ⟨RX10, "isHour", "(I)Z"⟩
abbrev cX10_isDigit : ByteArray := prog_1_method_29_code
def yX10_isDigit : MethodName := ⟨RX10, "isDigit", "(I)Z"⟩
abbrev cX10_oneMore : ByteArray := prog_1_method_30_code
def yX10_oneMore : MethodName := ⟨RX10, "oneMore", "(I)I"⟩
abbrev cX10_inLowestTerms : ByteArray := prog_1_method_31_code
def yX10_inLowestTerms : MethodName := ⟨RX10, "inLowestTerms", "(JJJ)J"⟩
def RX11 : String := "WrongEndModel"
def TX11 : u_T := fun k => match k with
  | 0 => ("WrongEndModel", "a", "[I", true)
  | 1 => ("WrongEndModel", "image", "[I", true)
  | 2 => ("WrongEndModel", "wide", "I", true)
  | 3 => ("WrongEndModel", "high", "I", true)
  | 4 => ("WrongEndModel", "texts", "[I", true)
  | 5 => ("WrongEndModel", "tape", "[I", true)
  | 6 => ("WrongEndModel", "taped", "I", false)
  | 7 => ("WrongEndModel", "fault", "I", false)
  | 8 => ("WrongEndModel", "faultPlace", "I", false)
  | 9 => ("WrongEndModel", "at", "I", false)
  | 10 => ("WrongEndModel", "place", "I", false)
  | 11 => ("WrongEndModel", "token", "I", false)
  | 12 => ("WrongEndModel", "number", "I", false)
  | 13 => ("WrongEndModel", "word", "J", false)
  | 14 => ("WrongEndModel", "text0", "I", false)
  | 15 => ("WrongEndModel", "clauses", "I", false)
  | 16 => ("WrongEndModel", "written", "I", false)
  | 17 => ("WrongEndModel", "came", "I", false)
  | 18 => ("WrongEndModel", "pile", "[I", true)
  | 19 => ("WrongEndModel", "piled", "I", false)
  | 20 => ("WrongEndModel", "opens", "I", false)
  | 21 => ("WrongEndModel", "isWhole", "Z", false)
  | 22 => ("WrongEndModel", "sort0", "I", false)
  | 23 => ("WrongEndModel", "once", "I", false)
  | 24 => ("WrongEndModel", "named", "[I", true)
  | 25 => ("WrongEndModel", "values", "[J", true)
  | 26 => ("WrongEndModel", "truth", "[Z", true)
  | 27 => ("WrongEndModel", "weights", "[J", true)
  | 28 => ("WrongEndModel", "all", "J", false)
  | 29 => ("WrongEndModel", "seen", "[I", true)
  | _ => ("WrongEndModel", "slips", "[I", true)
def tyX11 : Nat → FieldType := fun k => match k with
  | 0 => .array .int
  | 1 => .array .int
  | 2 => .int
  | 3 => .int
  | 4 => .array .int
  | 5 => .array .int
  | 6 => .int
  | 7 => .int
  | 8 => .int
  | 9 => .int
  | 10 => .int
  | 11 => .int
  | 12 => .int
  | 13 => .long
  | 14 => .int
  | 15 => .int
  | 16 => .int
  | 17 => .int
  | 18 => .array .int
  | 19 => .int
  | 20 => .int
  | 21 => .boolean
  | 22 => .int
  | 23 => .int
  | 24 => .array .int
  | 25 => .array .long
  | 26 => .array .boolean
  | 27 => .array .long
  | 28 => .long
  | 29 => .array .int
  | _ => .array .int
abbrev wsX110 : List Cond := u_ws RX11 TX11 31
theorem nmX11 : ∀ a, a < 31 → ∀ b, b < 31 → a ≠ b → (TX11 a).2.1 ≠ (TX11 b).2.1 := by decide +kernel
theorem tyX11_ok : ∀ k, k < 31 → parseFieldDescriptor (TX11 k).2.2.1 = some (tyX11 k) := by decide +kernel
abbrev cX11_init : ByteArray := prog_13_method_1_code
def yX11_init : MethodName := ⟨RX11, "<init>", "(II)V"⟩
abbrev cX11_copy : ByteArray := prog_13_method_2_code
def yX11_copy : MethodName := ⟨RX11, "copy", "([I[I)V"⟩
abbrev cX11_isIn : ByteArray := prog_13_method_3_code
def yX11_isIn : MethodName := ⟨RX11, "isIn", "(III)Z"⟩
abbrev cX11_held : ByteArray := prog_13_method_4_code
def yX11_held : MethodName := ⟨RX11, "held", "(JII)I"⟩
abbrev cX11_states : ByteArray := prog_13_method_5_code
def yX11_states : MethodName := ⟨RX11, "states", "()I"⟩
abbrev cX11_isCell : ByteArray := prog_13_method_6_code
def yX11_isCell : MethodName := ⟨RX11, "isCell", "(I)Z"⟩
abbrev cX11_isState : ByteArray := prog_13_method_7_code
def yX11_isState : MethodName := ⟨RX11, "isState", "(I)Z"⟩
abbrev cX11_isScope : ByteArray := prog_13_method_8_code
def yX11_isScope : MethodName := ⟨RX11, "isScope", "(I)Z"⟩
abbrev cX11_scopeAt : ByteArray := prog_13_method_9_code
def yX11_scopeAt : MethodName := ⟨RX11, "scopeAt", "(I)I"⟩
abbrev cX11_isHour : ByteArray := prog_13_method_10_code
def yX11_isHour : MethodName := ⟨RX11, "isHour", "(I)Z"⟩
abbrev cX11_hill : ByteArray := prog_13_method_11_code
def yX11_hill : MethodName := ⟨RX11, "hill", "(II)Z"⟩
abbrev cX11_scope : ByteArray := prog_13_method_12_code
def yX11_scope : MethodName := ⟨RX11, "scope", "(I)I"⟩
abbrev cX11_make : ByteArray := prog_13_method_13_code
def yX11_make : MethodName := ⟨RX11, "make", "(IIZ)Z"⟩
abbrev cX11_turn : ByteArray := prog_13_method_14_code
def yX11_turn : MethodName := ⟨RX11, "turn", "(IZ)Z"⟩
abbrev cX11_lend : ByteArray := prog_13_method_15_code
def yX11_lend : MethodName := ⟨RX11, "lend", "(IZ)Z"⟩
abbrev cX11_undo : ByteArray := prog_13_method_16_code
def yX11_undo : MethodName := ⟨RX11, "undo", "()I"⟩
abbrev cX11_four : ByteArray := prog_13_method_17_code
def yX11_four : MethodName := ⟨RX11, "four", "(I)V"⟩
abbrev cX11_feed : ByteArray := prog_13_method_18_code
def yX11_feed : MethodName := ⟨RX11, "feed", "(IIIII)I"⟩
abbrev cX11_end : ByteArray := prog_13_method_19_code
def yX11_end : MethodName := ⟨RX11, "end", "(I)I"⟩
abbrev cX11_byteAt : ByteArray := prog_13_method_20_code
def yX11_byteAt : MethodName := ⟨RX11, "byteAt", "(I)I"⟩
abbrev cX11_isLetter : ByteArray := prog_13_method_21_code
def yX11_isLetter : MethodName := ⟨RX11, "isLetter", "(I)Z"⟩
abbrev cX11_isDigit : ByteArray := prog_13_method_22_code
def yX11_isDigit : MethodName := ⟨RX11, "isDigit", "(I)Z"⟩
abbrev cX11_nextToken : ByteArray := prog_13_method_23_code
def yX11_nextToken : MethodName := ⟨RX11, "nextToken", "()V"⟩
abbrev cX11_w3 : ByteArray := prog_13_method_24_code
def yX11_w3 : MethodName := ⟨RX11, "w3", "(III)J"⟩
abbrev cX11_w5 : ByteArray := prog_13_method_25_code
def yX11_w5 : MethodName := ⟨RX11, "w5", "(IIIII)J"⟩
abbrev cX11_w4 : ByteArray := prog_13_method_26_code
def yX11_w4 : MethodName := ⟨RX11, "w4", "(IIII)J"⟩
abbrev cX11_w6 : ByteArray := prog_13_method_27_code
def yX11_w6 : MethodName := ⟨RX11, "w6", "(IIIIII)J"⟩
abbrev cX11_isWord : ByteArray := prog_13_method_28_code
def yX11_isWord : MethodName := ⟨RX11, "isWord", "(J)Z"⟩
abbrev cX11_emit : ByteArray := prog_13_method_29_code
def yX11_emit : MethodName := ⟨RX11, "emit", "(II)V"⟩
abbrev cX11_push : ByteArray := prog_13_method_30_code
def yX11_push : MethodName := ⟨RX11, "push", "(I)V"⟩
abbrev cX11_rank : ByteArray := prog_13_method_31_code
def yX11_rank : MethodName := ⟨RX11, "rank", "(I)I"⟩
abbrev cX11_settle : ByteArray := prog_13_method_32_code
def yX11_settle : MethodName := ⟨RX11, "settle", "(I)V"⟩
abbrev cX11_whole : ByteArray := prog_13_method_33_code
def yX11_whole : MethodName := ⟨RX11, "whole", "()V"⟩
abbrev cX11_marker : ByteArray := prog_13_method_34_code
def yX11_marker : MethodName := ⟨RX11, "marker", "()I"⟩
abbrev cX11_kindOpen : ByteArray := prog_13_method_35_code
def yX11_kindOpen : MethodName := ⟨RX11, "kindOpen", "(Z)I"⟩
abbrev cX11_isCompared : ByteArray := prog_13_method_36_code
def yX11_isCompared : MethodName := ⟨RX11, "isCompared", "()Z"⟩
abbrev cX11_isAskAhead : ByteArray := prog_13_method_37_code
def yX11_isAskAhead : MethodName := ⟨RX11, "isAskAhead", "(Z)Z"⟩
abbrev cX11_opensBy : ByteArray := prog_13_method_38_code
def yX11_opensBy : MethodName := ⟨RX11, "opensBy", "(I)I"⟩
abbrev cX11_beginOne : ByteArray := prog_13_method_39_code
def yX11_beginOne : MethodName := ⟨RX11, "beginOne", "(Z)I"⟩
abbrev cX11_compareOf : ByteArray := prog_13_method_40_code
def yX11_compareOf : MethodName := ⟨RX11, "compareOf", "()I"⟩
abbrev cX11_betweenOf : ByteArray := prog_13_method_41_code
def yX11_betweenOf : MethodName := ⟨RX11, "betweenOf", "(Z)I"⟩
abbrev cX11_behindOne : ByteArray := prog_13_method_42_code
def yX11_behindOne : MethodName := ⟨RX11, "behindOne", "(Z)Z"⟩
abbrev cX11_parsed : ByteArray := prog_13_method_43_code
def yX11_parsed : MethodName := ⟨RX11, "parsed", "(Z)I"⟩
abbrev cX11_nameOf : ByteArray := prog_13_method_44_code
def yX11_nameOf : MethodName := ⟨RX11, "nameOf", "()I"⟩
abbrev cX11_isOf : ByteArray := prog_13_method_45_code
def yX11_isOf : MethodName := ⟨RX11, "isOf", "(I)Z"⟩
abbrev cX11_sortOf : ByteArray := prog_13_method_46_code
def yX11_sortOf : MethodName := ⟨RX11, "sortOf", "()I"⟩
abbrev cX11_clause : ByteArray := prog_13_method_47_code
def yX11_clause : MethodName := ⟨RX11, "clause", "()I"⟩
abbrev cX11_readText : ByteArray := prog_13_method_48_code
def yX11_readText : MethodName := ⟨RX11, "readText", "()I"⟩
abbrev cX11_text : ByteArray := prog_13_method_49_code
def yX11_text : MethodName := ⟨RX11, "text", "()I"⟩
abbrev cX11_fault : ByteArray := prog_13_method_50_code
def yX11_fault : MethodName := ⟨RX11, "fault", "(I)I"⟩
abbrev cX11_by : ByteArray := prog_13_method_51_code
def yX11_by : MethodName := ⟨RX11, "by", "(I)Z"⟩
abbrev cX11_clip : ByteArray := prog_13_method_52_code
def yX11_clip : MethodName := ⟨RX11, "clip", "(J)J"⟩
abbrev cX11_two : ByteArray := prog_13_method_53_code
def yX11_two : MethodName := ⟨RX11, "two", "(IJJ)J"⟩
abbrev cX11_isAsked : ByteArray := prog_13_method_54_code
def yX11_isAsked : MethodName := ⟨RX11, "isAsked", "(IJJ)Z"⟩
abbrev cX11_work : ByteArray := prog_13_method_55_code
def yX11_work : MethodName := ⟨RX11, "work", "(I)V"⟩
abbrev cX11_sumOf : ByteArray := prog_13_method_56_code
def yX11_sumOf : MethodName := ⟨RX11, "sumOf", "(III)I"⟩
abbrev cX11_sizeOf : ByteArray := prog_13_method_57_code
def yX11_sizeOf : MethodName := ⟨RX11, "sizeOf", "(I)I"⟩
abbrev cX11_name : ByteArray := prog_13_method_58_code
def yX11_name : MethodName := ⟨RX11, "name", "(I)V"⟩
abbrev cX11_apart : ByteArray := prog_13_method_59_code
def yX11_apart : MethodName := ⟨RX11, "apart", "(II)I"⟩
abbrev cX11_nameBy : ByteArray := prog_13_method_60_code
def yX11_nameBy : MethodName := ⟨RX11, "nameBy", "(IIIII)V"⟩
abbrev cX11_seenBy : ByteArray := prog_13_method_61_code
def yX11_seenBy : MethodName := ⟨RX11, "seenBy", "(I)I"⟩
abbrev cX11_priorOf : ByteArray := prog_13_method_62_code
def yX11_priorOf : MethodName := ⟨RX11, "priorOf", "(I)I"⟩
abbrev cX11_prior : ByteArray := prog_13_method_63_code
def yX11_prior : MethodName := ⟨RX11, "prior", "(I)I"⟩
abbrev cX11_sees : ByteArray := prog_13_method_64_code
def yX11_sees : MethodName := ⟨RX11, "sees", "(IZIIZ)I"⟩
abbrev cX11_report : ByteArray := prog_13_method_65_code
def yX11_report : MethodName := ⟨RX11, "report", "(III)I"⟩
abbrev cX11_forget : ByteArray := prog_13_method_66_code
def yX11_forget : MethodName := ⟨RX11, "forget", "()I"⟩
abbrev cX11_often : ByteArray := prog_13_method_67_code
def yX11_often : MethodName := ⟨RX11, "often", "(III)I"⟩
abbrev cX11_weightOf : ByteArray := prog_13_method_68_code
def yX11_weightOf : MethodName := ⟨RX11, "weightOf", "(II)J"⟩
abbrev cX11_weight : ByteArray := prog_13_method_69_code
def yX11_weight : MethodName := ⟨RX11, "weight", "(II)J"⟩
abbrev cX11_findWeights : ByteArray := prog_13_method_70_code
def yX11_findWeights : MethodName := ⟨RX11, "findWeights", "(I)V"⟩
abbrev cX11_common : ByteArray := prog_13_method_71_code
def yX11_common : MethodName := ⟨RX11, "common", "(JJ)J"⟩
abbrev cX11_odds : ByteArray := prog_13_method_72_code
def yX11_odds : MethodName := ⟨RX11, "odds", "(IIIII)J"⟩
abbrev cX11_likely : ByteArray := prog_13_method_73_code
def yX11_likely : MethodName := ⟨RX11, "likely", "(I)I"⟩
abbrev cX11_lay : ByteArray := prog_13_method_74_code
def yX11_lay : MethodName := ⟨RX11, "lay", "(III)V"⟩
abbrev cX11_oftenBy : ByteArray := prog_13_method_75_code
def yX11_oftenBy : MethodName := ⟨RX11, "oftenBy", "(III)I"⟩
abbrev cX11_sureBy : ByteArray := prog_13_method_76_code
def yX11_sureBy : MethodName := ⟨RX11, "sureBy", "(I)J"⟩
abbrev cX11_sureByTwo : ByteArray := prog_13_method_77_code
def yX11_sureByTwo : MethodName := ⟨RX11, "sureByTwo", "(II)J"⟩
abbrev cX11_canAsk : ByteArray := prog_13_method_78_code
def yX11_canAsk : MethodName := ⟨RX11, "canAsk", "(I)Z"⟩
abbrev cX11_layAll : ByteArray := prog_13_method_79_code
def yX11_layAll : MethodName := ⟨RX11, "layAll", "(I)V"⟩
abbrev cX11_sure : ByteArray := prog_13_method_80_code
def yX11_sure : MethodName := ⟨RX11, "sure", "(III)J"⟩
abbrev cX11_askOne : ByteArray := prog_13_method_81_code
def yX11_askOne : MethodName := ⟨RX11, "askOne", "()I"⟩
abbrev cX11_askTwo : ByteArray := prog_13_method_82_code
def yX11_askTwo : MethodName := ⟨RX11, "askTwo", "()I"⟩
abbrev cX11_ask : ByteArray := prog_13_method_83_code
def yX11_ask : MethodName := ⟨RX11, "ask", "(IZI)I"⟩
abbrev cX11_eighth : ByteArray := prog_13_method_84_code
def yX11_eighth : MethodName := ⟨RX11, "eighth", "(I)I"⟩
abbrev cX11_does : ByteArray := prog_13_method_85_code
def yX11_does : MethodName := ⟨RX11, "does", "(II)J"⟩
abbrev cX11_spied : ByteArray := prog_13_method_86_code
def yX11_spied : MethodName := ⟨RX11, "spied", "(IIIII)I"⟩
abbrev cX11_image : ByteArray := prog_13_method_87_code
def yX11_image : MethodName := ⟨RX11, "image", "()I"⟩
abbrev cX11_back : ByteArray := prog_13_method_88_code
def yX11_back : MethodName := ⟨RX11, "back", "()I"⟩
abbrev cX11_about : ByteArray := prog_13_method_89_code
def yX11_about : MethodName := ⟨RX11, "about", "(I)I"⟩
def RJ11 : String := "java/lang/Character"
def TJ11 : u_T := fun k => match k with
  | _ => ("", "", "", false)
def tyJ11 : Nat → FieldType := fun k => match k with
  | _ => .int
abbrev wsJ110 : List Cond := u_ws RJ11 TJ11 0
theorem nmJ11 : ∀ a, a < 0 → ∀ b, b < 0 → a ≠ b → (TJ11 a).2.1 ≠ (TJ11 b).2.1 := by decide +kernel
theorem tyJ11_ok : ∀ k, k < 0 → parseFieldDescriptor (TJ11 k).2.2.1 = some (tyJ11 k) := by decide +kernel
abbrev cJ11_isValidCodePoint_9a6ad : ByteArray := prog_14_method_11_code
def yJ11_isValidCodePoint_9a6ad : MethodName := ⟨RJ11, "isValidCodePoint", "(I)Z"⟩
abbrev cJ11_highSurrogate_5068e : ByteArray := prog_14_method_28_code
def yJ11_highSurrogate_5068e : MethodName := ⟨RJ11, "highSurrogate", "(I)C"⟩
abbrev cJ11_lowSurrogate_5068e : ByteArray := prog_14_method_29_code
def yJ11_lowSurrogate_5068e : MethodName := ⟨RJ11, "lowSurrogate", "(I)C"⟩
def RJ9 : String := "java/lang/Math"
def TJ9 : u_T := fun k => match k with
  | _ => ("", "", "", false)
def tyJ9 : Nat → FieldType := fun k => match k with
  | _ => .int
abbrev wsJ90 : List Cond := u_ws RJ9 TJ9 0
theorem nmJ9 : ∀ a, a < 0 → ∀ b, b < 0 → a ≠ b → (TJ9 a).2.1 ≠ (TJ9 b).2.1 := by decide +kernel
theorem tyJ9_ok : ∀ k, k < 0 → parseFieldDescriptor (TJ9 k).2.2.1 = some (tyJ9 k) := by decide +kernel
abbrev cJ9_abs_0f7a4 : ByteArray := prog_15_method_59_code
def yJ9_abs_0f7a4 : MethodName := ⟨RJ9, "abs", "(I)I"⟩
abbrev cJ9_max_7cf53 : ByteArray := prog_15_method_65_code
def yJ9_max_7cf53 : MethodName := ⟨RJ9, "max", "(II)I"⟩
abbrev cJ9_max_f86c9 : ByteArray := prog_15_method_66_code
def yJ9_max_f86c9 : MethodName := ⟨RJ9, "max", "(JJ)J"⟩
abbrev cJ9_min_7cf53 : ByteArray := prog_15_method_69_code
def yJ9_min_7cf53 : MethodName := ⟨RJ9, "min", "(II)I"⟩
abbrev cJ9_min_f86c9 : ByteArray := prog_15_method_70_code
def yJ9_min_f86c9 : MethodName := ⟨RJ9, "min", "(JJ)J"⟩
def RJ0 : String := "java/lang/String"
def TJ0 : u_T := fun k => match k with
  | _ => ("", "", "", false)
def tyJ0 : Nat → FieldType := fun k => match k with
  | _ => .int
abbrev wsJ00 : List Cond := u_ws RJ0 TJ0 0
theorem nmJ0 : ∀ a, a < 0 → ∀ b, b < 0 → a ≠ b → (TJ0 a).2.1 ≠ (TJ0 b).2.1 := by decide +kernel
theorem tyJ0_ok : ∀ k, k < 0 → parseFieldDescriptor (TJ0 k).2.2.1 = some (tyJ0 k) := by decide +kernel
abbrev cJ0_length_8abf5 : ByteArray := prog_16_method_54_code
def yJ0_length_8abf5 : MethodName := ⟨RJ0, "length", "()I"⟩
abbrev cJ0_charAt_5068e : ByteArray := prog_16_method_56_code
def yJ0_charAt_5068e : MethodName := ⟨RJ0, "charAt", "(I)C"⟩
abbrev cJ0_indexOf_0f7a4 : ByteArray := prog_16_method_79_code
def yJ0_indexOf_0f7a4 : MethodName := ⟨RJ0, "indexOf", "(I)I"⟩
abbrev cJ0_indexOf_7cf53 : ByteArray := prog_16_method_80_code
def yJ0_indexOf_7cf53 : MethodName := ⟨RJ0, "indexOf", "(II)I"⟩
abbrev cJ0_coder_7d493 : ByteArray := prog_16_method_152_code
def yJ0_coder_7d493 : MethodName := ⟨RJ0, "coder", "()B"⟩
abbrev cJ0_isLatin1_aae02 : ByteArray := prog_16_method_154_code
def yJ0_isLatin1_aae02 : MethodName := ⟨RJ0, "isLatin1", "()Z"⟩
abbrev cJ0_checkIndex_df160 : ByteArray := prog_16_method_155_code
def yJ0_checkIndex_df160 : MethodName := ⟨RJ0, "checkIndex", "(II)V"⟩
abbrev cJ0_checkBoundsBeginEnd_23922 : ByteArray := prog_16_method_158_code
def yJ0_checkBoundsBeginEnd_23922 : MethodName := ⟨RJ0, "checkBoundsBeginEnd", "(III)V"⟩
def RJ1 : String := "java/lang/StringLatin1"
def TJ1 : u_T := fun k => match k with
  | _ => ("", "", "", false)
def tyJ1 : Nat → FieldType := fun k => match k with
  | _ => .int
abbrev wsJ10 : List Cond := u_ws RJ1 TJ1 0
theorem nmJ1 : ∀ a, a < 0 → ∀ b, b < 0 → a ≠ b → (TJ1 a).2.1 ≠ (TJ1 b).2.1 := by decide +kernel
theorem tyJ1_ok : ∀ k, k < 0 → parseFieldDescriptor (TJ1 k).2.2.1 = some (tyJ1 k) := by decide +kernel
abbrev cJ1_charAt_3b067 : ByteArray := prog_17_method_2_code
def yJ1_charAt_3b067 : MethodName := ⟨RJ1, "charAt", "([BI)C"⟩
abbrev cJ1_canEncode_9a6ad : ByteArray := prog_17_method_4_code
def yJ1_canEncode_9a6ad : MethodName := ⟨RJ1, "canEncode", "(I)Z"⟩
abbrev cJ1_indexOf_4cfef : ByteArray := prog_17_method_22_code
def yJ1_indexOf_4cfef : MethodName := ⟨RJ1, "indexOf", "([BIII)I"⟩
abbrev cJ1_indexOfChar_4cfef : ByteArray := prog_17_method_23_code
def yJ1_indexOfChar_4cfef : MethodName := ⟨RJ1, "indexOfChar", "([BIII)I"⟩
def RJ2 : String := "java/lang/StringUTF16"
def TJ2 : u_T := fun k => match k with
  | _ => ("", "", "", false)
def tyJ2 : Nat → FieldType := fun k => match k with
  | _ => .int
abbrev wsJ20 : List Cond := u_ws RJ2 TJ2 0
theorem nmJ2 : ∀ a, a < 0 → ∀ b, b < 0 → a ≠ b → (TJ2 a).2.1 ≠ (TJ2 b).2.1 := by decide +kernel
theorem tyJ2_ok : ∀ k, k < 0 → parseFieldDescriptor (TJ2 k).2.2.1 = some (tyJ2 k) := by decide +kernel
abbrev cJ2_getChar_3b067 : ByteArray := prog_18_method_5_code
def yJ2_getChar_3b067 : MethodName := ⟨RJ2, "getChar", "([BI)C"⟩
abbrev cJ2_length_9d52b : ByteArray := prog_18_method_6_code
def yJ2_length_9d52b : MethodName := ⟨RJ2, "length", "([B)I"⟩
abbrev cJ2_indexOf_4cfef : ByteArray := prog_18_method_40_code
def yJ2_indexOf_4cfef : MethodName := ⟨RJ2, "indexOf", "([BIII)I"⟩
abbrev cJ2_indexOfChar_4cfef : ByteArray := prog_18_method_47_code
def yJ2_indexOfChar_4cfef : MethodName := ⟨RJ2, "indexOfChar", "([BIII)I"⟩
abbrev cJ2_indexOfCharUnsafe_4cfef : ByteArray := prog_18_method_48_code
def yJ2_indexOfCharUnsafe_4cfef : MethodName := ⟨RJ2, "indexOfCharUnsafe", "([BIII)I"⟩
abbrev cJ2_indexOfSupplementary_4cfef : ByteArray := prog_18_method_49_code
def yJ2_indexOfSupplementary_4cfef : MethodName := ⟨RJ2, "indexOfSupplementary", "([BIII)I"⟩
abbrev cJ2_charAt_3b067 : ByteArray := prog_18_method_83_code
def yJ2_charAt_3b067 : MethodName := ⟨RJ2, "charAt", "([BI)C"⟩
abbrev cJ2_checkIndex_2214a : ByteArray := prog_18_method_91_code
def yJ2_checkIndex_2214a : MethodName := ⟨RJ2, "checkIndex", "(I[B)V"⟩
abbrev cJ2_checkBoundsBeginEnd_d044e : ByteArray := prog_18_method_93_code
def yJ2_checkBoundsBeginEnd_d044e : MethodName := ⟨RJ2, "checkBoundsBeginEnd", "(II[B)V"⟩
def RJ10 : String := "java/lang/System"
def TJ10 : u_T := fun k => match k with
  | _ => ("", "", "", false)
def tyJ10 : Nat → FieldType := fun k => match k with
  | _ => .int
abbrev wsJ100 : List Cond := u_ws RJ10 TJ10 0
theorem nmJ10 : ∀ a, a < 0 → ∀ b, b < 0 → a ≠ b → (TJ10 a).2.1 ≠ (TJ10 b).2.1 := by decide +kernel
theorem tyJ10_ok : ∀ k, k < 0 → parseFieldDescriptor (TJ10 k).2.2.1 = some (tyJ10 k) := by decide +kernel
def RJ3 : String := "jdk/internal/util/Preconditions"
def TJ3 : u_T := fun k => match k with
  | _ => ("", "", "", false)
def tyJ3 : Nat → FieldType := fun k => match k with
  | _ => .int
abbrev wsJ30 : List Cond := u_ws RJ3 TJ3 0
theorem nmJ3 : ∀ a, a < 0 → ∀ b, b < 0 → a ≠ b → (TJ3 a).2.1 ≠ (TJ3 b).2.1 := by decide +kernel
theorem tyJ3_ok : ∀ k, k < 0 → parseFieldDescriptor (TJ3 k).2.2.1 = some (tyJ3 k) := by decide +kernel
abbrev cJ3_checkIndex_8e157 : ByteArray := prog_20_method_11_code
def yJ3_checkIndex_8e157 : MethodName := ⟨RJ3, "checkIndex", "(IILjava/util/function/BiFunction;)I"⟩
abbrev cJ3_checkFromToIndex_8c36e : ByteArray := prog_20_method_12_code
def yJ3_checkFromToIndex_8c36e : MethodName := ⟨RJ3, "checkFromToIndex", "(IIILjava/util/function/BiFunction;)I"⟩
def RL : String := "WrongEndLaw"
abbrev cL_cell : ByteArray := method_2_code
def yL_cell : MethodName := ⟨RL, "cell", "([II)I"⟩
abbrev cL_law : ByteArray := code
def yL_law : MethodName := ⟨RL, "law", "([I)Z"⟩
abbrev vwCl : List vw_C := [(RX0, TX0, 17), (RX1, TX1, 3), (RX3, TX3, 4), (RX4, TX4, 4), (RX5, TX5, 8), (RX6, TX6, 6), (RX8, TX8, 2), (RX9, TX9, 6), (RX10, TX10, 7), (RX11, TX11, 31)]
end
section
/-! WX: a small machine over pictures of the heap. A picture: a list of cells (kind, length, references) and what their numbers are. Kinds: below 100 an object of that class of vwCl; 100 int[], 101 boolean[], 102 long[], 103 Program[], 104 int[][]; 110 the script, 111 the table MOST, 112 a String constant, 113 its bytes. -/
abbrev xEn : Type := Nat × Instr × Nat × Nat × Nat × Nat
abbrev xM : Type := Nat × Nat × List xEn × List (Nat × List (Nat × Nat) × Nat)
abbrev xLc : Type := Nat × Nat × List (Option Nat)
abbrev xLa : Type := List xLc
abbrev xS : Type := (Nat → Nat → Int32) × (Nat → Nat → Int64)
abbrev xQ : Type := Option Value → xS → Prop
abbrev xLs : Type := List (Option Value)
def xfd : List xEn → Nat → Option xEn
  | [], _ => none
  | e :: r, pc => bif Nat.beq e.1 pc then some e else xfd r pc
def xfs : List (Nat × List (Nat × Nat) × Nat) → Nat → List (Nat × Nat) × Nat
  | [], _ => ([], 0)
  | e :: r, pc => bif Nat.beq e.1 pc then e.2 else xfs r pc
def xnth {α : Type} : List α → Nat → Option α
  | [], _ => none
  | c :: _, 0 => some c
  | _ :: r, k + 1 => xnth r k
def xro (k : Nat) : xLc := match k with
  | 900 => (110, 0, [])
  | 902 => (111, 4, [])
  | 903 => (112, 0, [some 905])
  | 904 => (112, 1, [some 906])
  | 905 => (113, 86, [])
  | 906 => (113, 13, [])
  | _ => (199, 0, [])
def xlk (L : xLa) (k : Nat) : xLc := match xnth L k with
  | some c => c
  | none => xro k
/-- what a field is: 0 int, 1 long, 2 a reference, 3 boolean, 4 a String's coder -/
def xfkL : List (List Nat) := [[0, 0, 2, 2, 2, 2, 2, 2, 2, 2, 2, 2, 0, 0, 0, 0, 0], [2, 2, 0], [2, 2, 2, 2], [2, 2, 2, 0], [2, 0, 0, 2, 0, 0, 0, 0], [2, 2, 0, 2, 2, 2], [2, 0], [2, 2, 2, 2, 0, 0], [2, 2, 2, 2, 2, 2, 2], [2, 2, 0, 0, 2, 2, 0, 0, 0, 0, 0, 0, 0, 1, 0, 0, 0, 0, 2, 0, 0, 3, 0, 0, 2, 2, 2, 2, 1, 2, 2]]
def xfk (c b : Nat) : Nat := match xnth xfkL c with
  | some l => (match xnth l b with
    | some k => k
    | none => 9)
  | none => (match c, b with
    | 112, 0 => 2
    | 112, 1 => 4
    | _, _ => 9)
def xmost (i : Nat) : Int32 := match i with
  | 0 => nI 99
  | 1 => nI 9
  | 2 => nI 9
  | _ => nI 999
def xtxt (n : Nat) : List Nat := match n with
  | 86 => [112, 114, 105, 111, 114, 32, 115, 101, 101, 115, 32, 115, 108, 105, 112, 32, 99, 111, 115, 116, 32, 105, 102, 32, 101, 110, 100, 32, 111, 114, 32, 97, 110, 100, 32, 110, 111, 116, 32, 120, 32, 121, 32, 115, 105, 122, 101, 32, 112, 97, 105, 110, 116, 115, 32, 104, 105, 108, 108, 32, 104, 111, 117, 114, 32, 115, 99, 111, 112, 101, 32, 116, 117, 114, 110, 101, 100, 32, 102, 97, 114, 32, 97, 99, 116, 32]
  | _ => [60, 62, 61, 35, 43, 45, 42, 47, 40, 41, 59, 63, 58]
-- the stack
def xi1 (st : List Value) (k : Int32 → List Value → Prop) : Prop := match st with
  | .int x :: r => k x r
  | _ => False
def xi2 (st : List Value) (k : Int32 → Int32 → List Value → Prop) : Prop := match st with
  | .int y :: .int x :: r => k x y r
  | _ => False
def xl1 (st : List Value) (k : Int64 → List Value → Prop) : Prop := match st with
  | .long x :: r => k x r
  | _ => False
def xl2 (st : List Value) (k : Int64 → Int64 → List Value → Prop) : Prop := match st with
  | .long y :: .long x :: r => k x y r
  | _ => False
def xli (st : List Value) (k : Int64 → Int32 → List Value → Prop) : Prop := match st with
  | .int y :: .long x :: r => k x y r
  | _ => False
def xr1 (st : List Value) (k : Nat → List Value → Prop) : Prop := match st with
  | .ref a :: r => k a r
  | _ => False
def xri (st : List Value) (k : Nat → Int32 → List Value → Prop) : Prop := match st with
  | .int i :: .ref a :: r => k a i r
  | _ => False
def xrii (st : List Value) (k : Nat → Int32 → Int32 → List Value → Prop) : Prop := match st with
  | .int x :: .int i :: .ref a :: r => k a i x r
  | _ => False
def xrli (st : List Value) (k : Nat → Int32 → Int64 → List Value → Prop) : Prop := match st with
  | .long x :: .int i :: .ref a :: r => k a i x r
  | _ => False
def xv1 (st : List Value) (k : Value → List Value → Prop) : Prop := match st with
  | .int x :: r => k (.int x) r
  | .ref a :: r => k (.ref a) r
  | _ => False
def xpi (st : List Value) (k : Nat → Int32 → List Value → Prop) : Prop := match st with
  | .int x :: .ref a :: r => k a x r
  | _ => False
def xpl (st : List Value) (k : Nat → Int64 → List Value → Prop) : Prop := match st with
  | .long x :: .ref a :: r => k a x r
  | _ => False
def xcp (st : List Value) (k : Nat → Int32 → Nat → Int32 → Int32 → List Value → Prop) : Prop := match st with
  | .int n :: .int dp :: .ref b :: .int sp :: .ref a :: r => k a sp b dp n r
  | _ => False
def xpop : Nat → List Value → List Value → (List Value → List Value → Prop) → Prop
  | 0, st, acc, k => k acc st
  | n + 1, v :: st, acc, k => xpop n st (v :: acc) k
  | _ + 1, [], _, _ => False
def xfit : List Value → Nat → Bool
  | [], _ => true
  | v :: r, n => (match v with
    | .long _ => (match n with
      | m + 2 => xfit r m
      | _ => false)
    | .double _ => false
    | _ => (match n with
      | m + 1 => xfit r m
      | _ => false))
-- the locals
def xlv : xLs → Nat → Option Value
  | [], _ => none
  | v :: _, 0 => v
  | _ :: r, i + 1 => xlv r i
def xldi (ls : xLs) (i : Nat) (k : Int32 → Prop) : Prop := match xlv ls i with
  | some (.int x) => k x
  | _ => False
def xldl (ls : xLs) (i : Nat) (k : Int64 → Prop) : Prop := match xlv ls i with
  | some (.long x) => k x
  | _ => False
def xldr (ls : xLs) (i : Nat) (k : Nat → Prop) : Prop := match xlv ls i with
  | some (.ref x) => k x
  | _ => False
/-- the list with v at i; a long that ends at i is gone -/
def xse (v : Option Value) : Nat → xLs → (xLs → Prop) → Prop
  | _, [], _ => False
  | 0, _ :: r, k => k (v :: r)
  | i + 1, u :: r, k => xse v i r (fun r' => k (u :: r'))
def xkl (i : Nat) (ls : xLs) (k : xLs → Prop) : Prop := match i with
  | 0 => k ls
  | j + 1 => (match xlv ls j with
    | some (.long _) => xse none j ls k
    | some (.double _) => False
    | _ => k ls)
def xs1 (ls : xLs) (i : Nat) (v : Value) (k : xLs → Prop) : Prop := xkl i ls (fun l1 => xse (some v) i l1 k)
def xs2 (ls : xLs) (i : Nat) (v : Value) (k : xLs → Prop) : Prop := xkl i ls (fun l1 => xse none (i + 1) l1 (fun l2 => xse (some v) i l2 k))
def xkr (K : List Value → xS → Prop) (r : List Value) : xQ := fun o g => match o with
  | none => K r g
  | some v => K (v :: r) g
def xbr (c A B : Prop) : Prop := (c → A) ∧ (¬ c → B)
def xsw (x : Int32) (ps : List (Nat × Nat)) (d : Nat) (K : Nat → Prop) : Prop := match ps with
  | [] => K d
  | q :: r => xbr (x = nI q.1) (K q.2) (xsw x r d K)
def xcst (a b : Nat) (k : Int32 → Prop) : Prop := match b with
  | 0 => k (nI a)
  | _ => k (-(nI a))
def xcsl (a b : Nat) (k : Int64 → Prop) : Prop := match b with
  | 0 => k (lN a)
  | _ => k (-(lN a))
def xinc (x : Int32) (a b : Nat) (k : Int32 → Prop) : Prop := match b with
  | 0 => k (x + nI a)
  | _ => k (x - nI a)
def xcond (c : Jvm.ClassFile.Cond) (x y : Int32) (T F : Prop) : Prop := match c with
  | .eq => xbr (x = y) T F
  | .ne => xbr (x = y) F T
  | .lt => xbr (x < y) T F
  | .ge => xbr (x < y) F T
  | .gt => xbr (y < x) T F
  | .le => xbr (y < x) F T
def xif (b : Bool) (P : Prop) : Prop := match b with
  | true => P
  | false => False
def xopt {α : Type} (o : Option α) (k : α → Prop) : Prop := match o with
  | some a => k a
  | none => False
def xgf (L : xLa) (a b : Nat) (st : List Value) (s : xS) (K : List Value → Prop) : Prop :=
  xr1 st fun k r => match xlk L k with
    | (kd, _, ps) => xif (Nat.beq kd a) (match xfk a b with
      | 0 => K (.int (s.1 k b) :: r)
      | 1 => K (.long (s.2 k b) :: r)
      | 2 => xopt (xnth ps b) fun o => xopt o fun q => K (.ref q :: r)
      | 3 => K (.int (s.1 k b) :: r)
      | 4 => K (.int (nI 0) :: r)
      | _ => False)
def xpf (L : xLa) (a b : Nat) (st : List Value) (s : xS) (K : List Value → xS → Prop) : Prop :=
  match xfk a b with
  | 0 => xpi st fun k x r => xopt (xnth L k) fun c => xif (Nat.beq c.1 a) (K r (va_up s.1 k (upd (s.1 k) b x), s.2))
  | 1 => xpl st fun k x r => xopt (xnth L k) fun c => xif (Nat.beq c.1 a) (K r (s.1, va_up s.2 k (vp_updL (s.2 k) b x)))
  | 3 => xpi st fun k x r => xopt (xnth L k) fun c => xif (Nat.beq c.1 a) ((x = nI 0 ∨ x = nI 1) ∧ K r (va_up s.1 k (upd (s.1 k) b x), s.2))
  | _ => False
def xial (L : xLa) (st : List Value) (s : xS) (K : List Value → Prop) : Prop :=
  xri st fun k i r => match xlk L k with
    | (kd, n, _) => (match kd with
      | 100 => ∃ j : Nat, (j < n ∧ i = nI j) ∧ K (.int (s.1 k j) :: r)
      | 110 => ∃ j : Nat, (nI j < s.1 901 0 ∧ j < 2 ^ 31 ∧ i = nI j) ∧ K (.int (s.1 900 j) :: r)
      | 111 => ∃ j : Nat, (j < 4 ∧ i = nI j) ∧ K (.int (xmost j) :: r)
      | _ => False)
def xbal (L : xLa) (st : List Value) (s : xS) (K : List Value → Prop) : Prop :=
  xri st fun k i r => match xlk L k with
    | (kd, n, _) => (match kd with
      | 101 => ∃ j : Nat, (j < n ∧ i = nI j) ∧ K (.int (s.1 k j) :: r)
      | 113 => ∃ j : Nat, (j < n ∧ i = nI j) ∧ K (.int (nI ((xtxt n).getD j 0)) :: r)
      | _ => False)
def xaln (L : xLa) (st : List Value) (s : xS) (K : List Value → Prop) : Prop :=
  xr1 st fun k r => match xlk L k with
    | (kd, n, _) => (match kd with
      | 110 => K (.int (s.1 901 0) :: r)
      | 100 => K (.int (nI n) :: r)
      | 101 => K (.int (nI n) :: r)
      | 113 => K (.int (nI n) :: r)
      | _ => False)
def xret (c : Nat) (v : Int32) (P : Prop) : Prop := match c with
  | 0 => P
  | 1 => (v = nI 0 ∨ v = nI 1) ∧ P
  | _ => (∃ n : Nat, n < 128 ∧ v = nI n) ∧ P
def xrti (c : Nat) (st : List Value) (k : Int32 → Prop) : Prop := match st with
  | [.int v] => xret c v (k v)
  | _ => False
def xrtl (st : List Value) (k : Int64 → Prop) : Prop := match st with
  | [.long v] => k v
  | _ => False
def xrtv (st : List Value) (P : Prop) : Prop := match st with
  | [] => P
  | _ => False
def xinv (L : xLa) (c : Nat) (As r : List Value) (P : Prop) : Prop := match As with
  | .ref k :: _ => xif (Nat.beq (xlk L k).1 c && xfit r 8) P
  | _ => False
/-- one instruction: what must hold for it to be done, and for what comes behind it -/
def xex (C : Nat → List Value → xS → xQ → Prop) (Q : xQ) (K : Nat → xLs → List Value → xS → Prop) (L : xLa) (M : xM) (pc : Nat) (i : Instr) (nx a b c : Nat) (ls : xLs) (st : List Value) (s : xS) : Prop := match i with
  | .aload_n k => xldr ls k.val fun x => K nx ls (.ref x :: st) s
  | .aload k => xldr ls k fun x => K nx ls (.ref x :: st) s
  | .iload_n k => xldi ls k.val fun x => K nx ls (.int x :: st) s
  | .iload k => xldi ls k fun x => K nx ls (.int x :: st) s
  | .lload_n k => xldl ls k.val fun x => K nx ls (.long x :: st) s
  | .lload k => xldl ls k fun x => K nx ls (.long x :: st) s
  | .istore_n k => xi1 st fun x r => xs1 ls k.val (.int x) fun ls => K nx ls r s
  | .istore k => xi1 st fun x r => xs1 ls k (.int x) fun ls => K nx ls r s
  | .astore_n k => xr1 st fun x r => xs1 ls k.val (.ref x) fun ls => K nx ls r s
  | .astore k => xr1 st fun x r => xs1 ls k (.ref x) fun ls => K nx ls r s
  | .lstore_n k => xl1 st fun x r => xs2 ls k.val (.long x) fun ls => K nx ls r s
  | .lstore k => xl1 st fun x r => xs2 ls k (.long x) fun ls => K nx ls r s
  | .iinc k _ => xldi ls k fun x => xinc x a b fun y => xs1 ls k (.int y) fun ls => K nx ls st s
  | .iconst _ => xcst a b fun v => K nx ls (.int v :: st) s
  | .bipush _ => xcst a b fun v => K nx ls (.int v :: st) s
  | .sipush _ => xcst a b fun v => K nx ls (.int v :: st) s
  | .lconst _ => xcsl a b fun v => K nx ls (.long v :: st) s
  | .ldc _ => (match c with
    | 0 => xcst a b fun v => K nx ls (.int v :: st) s
    | 1 => K nx ls (.ref 903 :: st) s
    | _ => K nx ls (.ref 904 :: st) s)
  | .ldc2_w _ => xcsl a b fun v => K nx ls (.long v :: st) s
  | .iadd => xi2 st fun x y r => K nx ls (.int (x + y) :: r) s
  | .isub => xi2 st fun x y r => K nx ls (.int (x - y) :: r) s
  | .imul => xi2 st fun x y r => K nx ls (.int (x * y) :: r) s
  | .idiv => xi2 st fun x y r => ¬ y = nI 0 ∧ K nx ls (.int (x / y) :: r) s
  | .irem => xi2 st fun x y r => ¬ y = nI 0 ∧ K nx ls (.int (x - x / y * y) :: r) s
  | .ineg => xi1 st fun x r => K nx ls (.int (-x) :: r) s
  | .iand => xi2 st fun x y r => K nx ls (.int (x &&& y) :: r) s
  | .ior => xi2 st fun x y r => K nx ls (.int (x ||| y) :: r) s
  | .ishl => xi2 st fun x y r => K nx ls (.int (x <<< (y &&& 31)) :: r) s
  | .ishr => xi2 st fun x y r => K nx ls (.int (x >>> (y &&& 31)) :: r) s
  | .iushr => xi2 st fun x y r => K nx ls (.int ((x.toUInt32 >>> (y.toUInt32 &&& Int32.toUInt32 31)).toInt32) :: r) s
  | .ladd => xl2 st fun x y r => K nx ls (.long (x + y) :: r) s
  | .lsub => xl2 st fun x y r => K nx ls (.long (x - y) :: r) s
  | .lmul => xl2 st fun x y r => K nx ls (.long (x * y) :: r) s
  | .ldiv => xl2 st fun x y r => ¬ y = 0 ∧ K nx ls (.long (x / y) :: r) s
  | .lrem => xl2 st fun x y r => ¬ y = 0 ∧ K nx ls (.long (x - x / y * y) :: r) s
  | .lneg => xl1 st fun x r => K nx ls (.long (-x) :: r) s
  | .lor => xl2 st fun x y r => K nx ls (.long (x ||| y) :: r) s
  | .lshl => xli st fun x y r => K nx ls (.long (x <<< (y.toInt64 &&& 63)) :: r) s
  | .lcmp => xl2 st fun x y r => K nx ls (.int (lg_cmp x y) :: r) s
  | .i2l => xi1 st fun x r => K nx ls (.long x.toInt64 :: r) s
  | .l2i => xl1 st fun x r => K nx ls (.int x.toInt32 :: r) s
  | .i2c => xi1 st fun x r => K nx ls (.int (x.toUInt32 % 65536).toInt32 :: r) s
  | .i2b => xi1 st fun x r => K nx ls (.int x.toInt8.toInt32 :: r) s
  | .dup => xv1 st fun v r => K nx ls (v :: v :: r) s
  | .dup2 => xri st fun k j r => K nx ls (.int j :: .ref k :: .int j :: .ref k :: r) s
  | .pop => xv1 st fun _ r => K nx ls r s
  | .pop2 => xl1 st fun _ r => K nx ls r s
  | .getfield _ => xgf L a b st s fun st => K nx ls st s
  | .putfield _ => xpf L a b st s fun st s => K nx ls st s
  | .getstatic _ => (match a with
    | 0 => K nx ls (.ref 902 :: st) s
    | _ => K nx ls (.int (nI 1) :: st) s)
  | .iaload => xial L st s fun st => K nx ls st s
  | .baload => xbal L st s fun st => K nx ls st s
  | .laload => xri st fun k j r => (match xlk L k with
    | (kd, n, _) => xif (Nat.beq kd 102) (∃ q : Nat, (q < n ∧ j = nI q) ∧ K nx ls (.long (s.2 k q) :: r) s))
  | .aaload => xri st fun k j r => (match xlk L k with
    | (kd, n, ps) => (match kd with
      | 103 => ∃ z : Nat, (z < n ∧ j = nI z) ∧ xopt (xnth ps z) fun o => xopt o fun q => K nx ls (.ref q :: r) s
      | 104 => ∃ z : Nat, (z < n ∧ j = nI z) ∧ xopt (xnth ps z) fun o => xopt o fun q => K nx ls (.ref q :: r) s
      | _ => False))
  | .iastore => xrii st fun k j x r => xopt (xnth L k) fun q => xif (Nat.beq q.1 100) (∃ z : Nat, (z < q.2.1 ∧ j = nI z) ∧ K nx ls r (va_up s.1 k (upd (s.1 k) z x), s.2))
  | .bastore => xrii st fun k j x r => xopt (xnth L k) fun q => xif (Nat.beq q.1 101) (∃ z : Nat, (z < q.2.1 ∧ j = nI z ∧ (x = nI 0 ∨ x = nI 1)) ∧ K nx ls r (va_up s.1 k (upd (s.1 k) z x), s.2))
  | .lastore => xrli st fun k j x r => xopt (xnth L k) fun q => xif (Nat.beq q.1 102) (∃ z : Nat, (z < q.2.1 ∧ j = nI z) ∧ K nx ls r (s.1, va_up s.2 k (vp_updL (s.2 k) z x)))
  | .arraylength => xaln L st s fun st => K nx ls st s
  | .if_icmp q _ => xi2 st fun x y r => xcond q x y (K a ls r s) (K nx ls r s)
  | .ifCond q _ => xi1 st fun x r => xcond q x (nI 0) (K a ls r s) (K nx ls r s)
  | .goto _ => K a ls st s
  | .tableswitch _ _ _ _ => xi1 st fun x r => xsw x (xfs M.2.2.2 pc).1 (xfs M.2.2.2 pc).2 fun t => K t ls r s
  | .lookupswitch _ _ => xi1 st fun x r => xsw x (xfs M.2.2.2 pc).1 (xfs M.2.2.2 pc).2 fun t => K t ls r s
  | .invokevirtual _ => xpop (a + 1) st [] fun As r => xinv L c As r (C b As s (xkr (fun st s => K nx ls st s) r))
  | .invokestatic _ => (match c with
    | 2 => xcp st fun k sp k2 dp n r => xopt (xnth L k) fun q => xopt (xnth L k2) fun q2 => xif (Nat.beq q.1 100 && Nat.beq q2.1 100 && xfit r 8) (∃ x y z : Nat, (sp = nI x ∧ dp = nI y ∧ n = nI z ∧ x + z ≤ q.2.1 ∧ y + z ≤ q2.2.1) ∧ K nx ls r (va_up s.1 k2 (va_cpy (s.1 k) (s.1 k2) x y z), s.2))
    | _ => xpop a st [] fun As r => xif (xfit r 8) (C b As s (xkr (fun st s => K nx ls st s) r)))
  | .ireturn => xrti c st fun v => Q (some (.int v)) s
  | .lreturn => xrtl st fun v => Q (some (.long v)) s
  | .return_ => xrtv st (Q none s)
  | _ => False
def xst (C : Nat → List Value → xS → xQ → Prop) (Q : xQ) (K : Nat → xLs → List Value → xS → Prop) (L : xLa) (M : xM) (pc : Nat) (ls : xLs) (st : List Value) (s : xS) : Prop :=
  match xfd M.2.2.1 pc with
  | some (_, i, nx, a, b, c) => xex C Q K L M pc i nx a b c ls st s
  | none => False
/-- many instructions, up to a place of 'stops' -/
def xrn (C : Nat → List Value → xS → xQ → Prop) (Q : xQ) (K : Nat → xLs → List Value → xS → Prop) (L : xLa) (M : xM) (stops : Nat → Bool) : Nat → Nat → xLs → List Value → xS → Prop
  | 0, pc, ls, st, s => K pc ls st s
  | n + 1, pc, ls, st, s => bif stops pc then K pc ls st s else xst C Q (xrn C Q K L M stops n) L M pc ls st s
def xin (l : List Nat) (pc : Nat) : Bool := match l with
  | [] => false
  | q :: r => bif Nat.beq q pc then true else xin r pc
end
section
/-! the methods by number, and the words that the tables have of them (by program) -/
abbrev xSg : Type := MethodName × ByteArray × Nat × Option FieldType
def xnmL : List String := ["WrongEnd$Fort", "WrongEnd$Machine", "WrongEnd$Optics", "WrongEnd$Program", "WrongEnd$Reader", "WrongEnd$Scales", "WrongEnd$Tape", "WrongEnd$Tokens", "WrongEnd", "WrongEndModel", "WrongEnd$Name", "WrongEndLaw", "java/lang/Math", "java/lang/String", "java/lang/StringLatin1"]
def xnm (k : Nat) : String := xnmL.getD k ""
def xsg_0 : List xSg := [(yX0_init, cX0_init, 3, none), (yX0_hasCell, cX0_hasCell, 2, some .boolean), (yX0_hasScope, cX0_hasScope, 2, some .boolean), (yX0_isFree, cX0_isFree, 2, some .boolean), (yX0_hasState, cX0_hasState, 2, some .boolean), (yX0_hasReports, cX0_hasReports, 2, some .boolean), (yX0_hasText, cX0_hasText, 2, some .boolean), (yX0_countCells, cX0_countCells, 1, some .int), (yX0_countStates, cX0_countStates, 1, some .int), (yX0_countFree, cX0_countFree, 3, some .int), (yX0_freeScope, cX0_freeScope, 4, some .int), (yX0_place, cX0_place, 2, some .int), (yX0_change, cX0_change, 5, some .boolean), (yX0_addStep, cX0_addStep, 3, none), (yX0_dropOldestStep, cX0_dropOldestStep, 2, none), (yX0_stepBack, cX0_stepBack, 3, some .int), (yX0_write, cX0_write, 4, some .int), (yX0_tellOne, cX0_tellOne, 3, some .int), (yX0_copy, cX0_copy, 2, none), (yX0_copyRow, cX0_copyRow, 3, none), (yX1_init, cX1_init, 1, none), (yX1_work, cX1_work, 7, some .int), (yX1_push, cX1_push, 2, none), (yX1_pop, cX1_pop, 1, some .int)]
def xsg_1 : List xSg := [(yX1_join, cX1_join, 4, none), (yX1_reckoned, cX1_reckoned, 5, some .int), (yX1_holds, cX1_holds, 3, some .boolean), (yX3_init, cX3_init, 3, none), (yX3_face, cX3_face, 4, none), (yX3_aim, cX3_aim, 6, none), (yX3_choose, cX3_choose, 2, none), (yX3_tell, cX3_tell, 3, some .int), (yX3_without, cX3_without, 2, some .int), (yX4_init, cX4_init, 2, none), (yX4_clear, cX4_clear, 2, none), (yX4_has, cX4_has, 2, some .boolean), (yX4_open, cX4_open, 2, none), (yX4_close, cX4_close, 2, none), (yX4_add, cX4_add, 3, some .int), (yX4_landHere, cX4_landHere, 2, none), (yX4_start, cX4_start, 2, some .int), (yX4_stop, cX4_stop, 2, some .int), (yX4_orderAt, cX4_orderAt, 2, some .int), (yX4_copy, cX4_copy, 3, none), (yX5_init, cX5_init, 2, none), (yX5_read, cX5_read, 2, some .boolean), (yX5_readClause, cX5_readClause, 1, none), (yX5_readSum, cX5_readSum, 4, none)]
def xsg_2 : List xSg := [(yX5_readProduct, cX5_readProduct, 4, none), (yX5_readOne, cX5_readOne, 2, none), (yX5_takeNumber, cX5_takeNumber, 1, none), (yX5_takeName, cX5_takeName, 1, none), (yX5_enters, cX5_enters, 2, some .boolean), (yX5_readChoice, cX5_readChoice, 4, none), (yX5_readEither, cX5_readEither, 3, none), (yX5_readBoth, cX5_readBoth, 3, none), (yX5_readAsk, cX5_readAsk, 3, none), (yX5_expect, cX5_expect, 2, none), (yX5_refuse, cX5_refuse, 2, none), (yX5_advance, cX5_advance, 1, none), (yX6_init, cX6_init, 3, none), (yX6_weightAsOf, cX6_weightAsOf, 6, some .long), (yX6_share, cX6_share, 5, some .int), (yX6_weigh, cX6_weigh, 5, some .long), (yX6_weightOf, cX6_weightOf, 8, some .long), (yX6_heaviest, cX6_heaviest, 3, some .int), (yX6_cheapest, cX6_cheapest, 8, some .int), (yX6_costOf, cX6_costOf, 5, some .long), (yX6_lookAll, cX6_lookAll, 3, none), (yX6_look, cX6_look, 5, none), (yX6_sureByOne, cX6_sureByOne, 3, some .long), (yX6_sureByTwo, cX6_sureByTwo, 6, some .long)]
def xsg_3 : List xSg := [(yX6_raise, cX6_raise, 8, none), (yX6_clearGreatest, cX6_clearGreatest, 3, none), (yX6_sumGreatest, cX6_sumGreatest, 5, some .long), (yX6_bestOfOne, cX6_bestOfOne, 7, some .int), (yX6_bestOfTwo, cX6_bestOfTwo, 10, some .int), (yX6_bestNewCell, cX6_bestNewCell, 9, some .int), (yX8_init, cX8_init, 1, none), (yX8_hasRoom, cX8_hasRoom, 2, some .boolean), (yX8_put, cX8_put, 3, none), (yX8_at, cX8_at, 2, some .int), (yX9_init, cX9_init, 2, none), (yX9_kindAt, cX9_kindAt, 2, some .int), (yX9_valueAt, cX9_valueAt, 2, some .int), (yX9_placeAt, cX9_placeAt, 2, some .int), (yX9_split, cX9_split, 3, none), (yX9_add, cX9_add, 4, none), (yX9_splitWord, cX9_splitWord, 3, none), (yX9_wordNumber, cX9_wordNumber, 7, some .int), (yX9_splitNumber, cX9_splitNumber, 4, none), (yX9_splitMark, cX9_splitMark, 4, none), (yX9_isBlank, cX9_isBlank, 1, some .boolean), (yX9_isLetter, cX9_isLetter, 1, some .boolean), (yX9_isFigure, cX9_isFigure, 1, some .boolean), (yX10_init, cX10_init, 6, none)]
def xsg_4 : List xSg := [(yX10_hill, cX10_hill, 3, some .boolean), (yX10_scope, cX10_scope, 2, some .int), (yX10_turn, cX10_turn, 3, some .boolean), (yX10_lend, cX10_lend, 3, some .boolean), (yX10_undo, cX10_undo, 1, some .int), (yX10_feed, cX10_feed, 6, some .int), (yX10_end, cX10_end, 2, some .int), (yX10_text, cX10_text, 2, some .int), (yX10_fault, cX10_fault, 2, some .int), (yX10_by, cX10_by, 2, some .boolean), (yX10_prior, cX10_prior, 2, some .int), (yX10_sees, cX10_sees, 6, some .int), (yX10_report, cX10_report, 4, some .int), (yX10_forget, cX10_forget, 2, some .int), (yX10_weight, cX10_weight, 3, some .long), (yX10_odds, cX10_odds, 11, some .long), (yX10_likely, cX10_likely, 2, some .int), (yX10_sure, cX10_sure, 5, some .long), (yX10_ask, cX10_ask, 4, some .int), (yX10_eighth, cX10_eighth, 2, some .int), (yX10_does, cX10_does, 8, some .long), (yX10_spied, cX10_spied, 10, some .int), (yX10_image, cX10_image, 1, some .int), (yX10_back, cX10_back, 1, some .int)]
def xsg_5 : List xSg := [(yX10_about, cX10_about, 2, some .int), (yX10_isFreeHold, cX10_isFreeHold, 2, some .boolean), (yX10_isHour, cX10_isHour, 1, some .boolean), (yX10_isDigit, cX10_isDigit, 1, some .boolean), (yX10_oneMore, cX10_oneMore, 1, some .int), (yX10_inLowestTerms, cX10_inLowestTerms, 13, some .long), (yX11_init, cX11_init, 3, none), (yX11_copy, cX11_copy, 3, none), (yX11_isIn, cX11_isIn, 3, some .boolean), (yX11_held, cX11_held, 4, some .int), (yX11_states, cX11_states, 1, some .int), (yX11_isCell, cX11_isCell, 2, some .boolean), (yX11_isState, cX11_isState, 2, some .boolean), (yX11_isScope, cX11_isScope, 2, some .boolean), (yX11_scopeAt, cX11_scopeAt, 1, some .int), (yX11_isHour, cX11_isHour, 1, some .boolean), (yX11_hill, cX11_hill, 3, some .boolean), (yX11_scope, cX11_scope, 2, some .int), (yX11_make, cX11_make, 6, some .boolean), (yX11_turn, cX11_turn, 3, some .boolean), (yX11_lend, cX11_lend, 3, some .boolean), (yX11_undo, cX11_undo, 3, some .int), (yX11_four, cX11_four, 3, none), (yX11_feed, cX11_feed, 6, some .int)]
def xsg_6 : List xSg := [(yX11_end, cX11_end, 2, some .int), (yX11_byteAt, cX11_byteAt, 2, some .int), (yX11_isLetter, cX11_isLetter, 1, some .boolean), (yX11_isDigit, cX11_isDigit, 1, some .boolean), (yX11_nextToken, cX11_nextToken, 3, none), (yX11_w3, cX11_w3, 3, some .long), (yX11_w5, cX11_w5, 5, some .long), (yX11_w4, cX11_w4, 4, some .long), (yX11_w6, cX11_w6, 6, some .long), (yX11_isWord, cX11_isWord, 3, some .boolean), (yX11_emit, cX11_emit, 3, none), (yX11_push, cX11_push, 2, none), (yX11_rank, cX11_rank, 1, some .int), (yX11_settle, cX11_settle, 2, none), (yX11_whole, cX11_whole, 1, none), (yX11_marker, cX11_marker, 2, some .int), (yX11_kindOpen, cX11_kindOpen, 3, some .int), (yX11_isCompared, cX11_isCompared, 2, some .boolean), (yX11_isAskAhead, cX11_isAskAhead, 2, some .boolean), (yX11_opensBy, cX11_opensBy, 2, some .int), (yX11_beginOne, cX11_beginOne, 3, some .int), (yX11_compareOf, cX11_compareOf, 1, some .int), (yX11_betweenOf, cX11_betweenOf, 2, some .int), (yX11_behindOne, cX11_behindOne, 5, some .boolean)]
def xsg_7 : List xSg := [(yX11_parsed, cX11_parsed, 4, some .int), (yX11_nameOf, cX11_nameOf, 1, some .int), (yX11_isOf, cX11_isOf, 2, some .boolean), (yX11_sortOf, cX11_sortOf, 1, some .int), (yX11_clause, cX11_clause, 4, some .int), (yX11_readText, cX11_readText, 2, some .int), (yX11_text, cX11_text, 1, some .int), (yX11_fault, cX11_fault, 2, some .int), (yX11_by, cX11_by, 2, some .boolean), (yX11_clip, cX11_clip, 2, some .long), (yX11_two, cX11_two, 5, some .long), (yX11_isAsked, cX11_isAsked, 5, some .boolean), (yX11_work, cX11_work, 9, none), (yX11_sumOf, cX11_sumOf, 5, some .int), (yX11_sizeOf, cX11_sizeOf, 1, some .int), (yX11_name, cX11_name, 3, none), (yX11_apart, cX11_apart, 2, some .int), (yX11_nameBy, cX11_nameBy, 6, none), (yX11_seenBy, cX11_seenBy, 2, some .int), (yX11_priorOf, cX11_priorOf, 2, some .int), (yX11_prior, cX11_prior, 2, some .int), (yX11_sees, cX11_sees, 6, some .int), (yX11_report, cX11_report, 5, some .int), (yX11_forget, cX11_forget, 2, some .int)]
def xsg_8 : List xSg := [(yX11_often, cX11_often, 3, some .int), (yX11_weightOf, cX11_weightOf, 8, some .long), (yX11_weight, cX11_weight, 3, some .long), (yX11_findWeights, cX11_findWeights, 3, none), (yX11_common, cX11_common, 10, some .long), (yX11_odds, cX11_odds, 9, some .long), (yX11_likely, cX11_likely, 4, some .int), (yX11_lay, cX11_lay, 5, none), (yX11_oftenBy, cX11_oftenBy, 4, some .int), (yX11_sureBy, cX11_sureBy, 10, some .long), (yX11_sureByTwo, cX11_sureByTwo, 12, some .long), (yX11_canAsk, cX11_canAsk, 2, some .boolean), (yX11_layAll, cX11_layAll, 3, none), (yX11_sure, cX11_sure, 4, some .long), (yX11_askOne, cX11_askOne, 7, some .int), (yX11_askTwo, cX11_askTwo, 8, some .int), (yX11_ask, cX11_ask, 5, some .int), (yX11_eighth, cX11_eighth, 8, some .int), (yX11_does, cX11_does, 10, some .long), (yX11_spied, cX11_spied, 11, some .int), (yX11_image, cX11_image, 1, some .int), (yX11_back, cX11_back, 1, some .int), (yX11_about, cX11_about, 3, some .int), (yX2_isOf, cX2_isOf, 2, some .boolean)]
def xsg_9 : List xSg := [(yL_cell, cL_cell, 2, some .int), (yJ9_abs_0f7a4, cJ9_abs_0f7a4, 1, some .int), (yJ9_max_7cf53, cJ9_max_7cf53, 2, some .int), (yJ9_max_f86c9, cJ9_max_f86c9, 4, some .long), (yJ9_min_7cf53, cJ9_min_7cf53, 2, some .int), (yJ9_min_f86c9, cJ9_min_f86c9, 4, some .long), (yJ0_length_8abf5, cJ0_length_8abf5, 1, some .int), (yJ0_charAt_5068e, cJ0_charAt_5068e, 2, some .char), (yJ0_indexOf_0f7a4, cJ0_indexOf_0f7a4, 2, some .int), (yJ0_indexOf_7cf53, cJ0_indexOf_7cf53, 3, some .int), (yJ0_coder_7d493, cJ0_coder_7d493, 1, some .byte), (yJ0_isLatin1_aae02, cJ0_isLatin1_aae02, 1, some .boolean), (yJ0_checkIndex_df160, cJ0_checkIndex_df160, 2, none), (yJ1_charAt_3b067, cJ1_charAt_3b067, 2, some .char), (yJ1_canEncode_9a6ad, cJ1_canEncode_9a6ad, 1, some .boolean), (yJ1_indexOf_4cfef, cJ1_indexOf_4cfef, 4, some .int), (yJ1_indexOfChar_4cfef, cJ1_indexOfChar_4cfef, 6, some .int)]
def xsgA : List xSg := xsg_0 ++ xsg_1 ++ xsg_2 ++ xsg_3 ++ xsg_4 ++ xsg_5 ++ xsg_6 ++ xsg_7 ++ xsg_8 ++ xsg_9 ++ [(yL_law, cL_law, 4, some .boolean)]
def xsg (n : Nat) : xSg := xsgA.getD n (yL_law, cL_law, 4, some .boolean)
def xmkL : List Nat := [2, 0, 0, 0, 0, 0, 0, 0, 0, 0, 0, 0, 0, 0, 0, 0, 0, 0, 0, 1, 2, 0, 0, 0, 0, 1, 1, 2, 0, 0, 0, 0, 0, 2, 0, 0, 0, 0, 0, 0, 0, 0, 0, 0, 2, 0, 0, 0, 0, 0, 0, 0, 0, 0, 0, 0, 0, 0, 0, 0, 2, 0, 0, 0, 0, 0, 0, 0, 0, 0, 0, 0, 0, 0, 0, 0, 0, 0, 2, 0, 0, 0, 2, 0, 0, 0, 0, 0, 0, 0, 0, 0, 1, 1, 1, 2, 0, 0, 0, 0, 0, 0, 0, 0, 0, 0, 0, 0, 0, 0, 0, 0, 0, 0, 0, 0, 0, 0, 0, 0, 0, 0, 1, 1, 1, 1, 2, 1, 1, 1, 0, 0, 0, 0, 1, 1, 0, 0, 0, 0, 0, 0, 0, 0, 0, 0, 1, 1, 0, 1, 1, 1, 1, 0, 0, 0, 1, 0, 0, 0, 0, 0, 0, 0, 0, 0, 0, 0, 0, 0, 0, 0, 0, 0, 0, 0, 0, 1, 1, 1, 0, 0, 1, 0, 1, 0, 0, 0, 0, 0, 0, 0, 1, 0, 0, 0, 1, 0, 0, 0, 0, 0, 0, 0, 0, 0, 0, 0, 0, 0, 0, 0, 0, 0, 0, 1, 1, 1, 1, 1, 1, 1, 0, 0, 0, 0, 0, 0, 1, 1, 1, 1, 1, 1]
def xmk (n : Nat) : Nat := xmkL.getD n 9
def xmcL : List Nat := [0, 0, 0, 0, 0, 0, 0, 0, 0, 0, 0, 0, 0, 0, 0, 0, 0, 0, 0, 0, 1, 1, 1, 1, 1, 1, 1, 2, 2, 2, 2, 2, 2, 3, 3, 3, 3, 3, 3, 3, 3, 3, 3, 3, 4, 4, 4, 4, 4, 4, 4, 4, 4, 4, 4, 4, 4, 4, 4, 4, 5, 5, 5, 5, 5, 5, 5, 5, 5, 5, 5, 5, 5, 5, 5, 5, 5, 5, 6, 6, 6, 6, 7, 7, 7, 7, 7, 7, 7, 7, 7, 7, 7, 7, 7, 8, 8, 8, 8, 8, 8, 8, 8, 8, 8, 8, 8, 8, 8, 8, 8, 8, 8, 8, 8, 8, 8, 8, 8, 8, 8, 8, 8, 8, 8, 8, 9, 9, 9, 9, 9, 9, 9, 9, 9, 9, 9, 9, 9, 9, 9, 9, 9, 9, 9, 9, 9, 9, 9, 9, 9, 9, 9, 9, 9, 9, 9, 9, 9, 9, 9, 9, 9, 9, 9, 9, 9, 9, 9, 9, 9, 9, 9, 9, 9, 9, 9, 9, 9, 9, 9, 9, 9, 9, 9, 9, 9, 9, 9, 9, 9, 9, 9, 9, 9, 9, 9, 9, 9, 9, 9, 9, 9, 9, 9, 9, 9, 9, 9, 9, 9, 9, 9, 9, 9, 10, 11, 12, 12, 12, 12, 12, 13, 13, 13, 13, 13, 13, 13, 14, 14, 14, 14, 11]
def xmc (n : Nat) : Nat := xmcL.getD n 99
def xnaL : List Nat := [2, 1, 1, 1, 1, 1, 1, 0, 0, 0, 1, 1, 3, 2, 0, 0, 3, 1, 1, 2, 0, 2, 1, 0, 1, 3, 3, 2, 1, 4, 1, 1, 1, 1, 0, 1, 1, 1, 2, 1, 1, 1, 1, 1, 1, 0, 0, 1, 1, 1, 0, 0, 1, 1, 1, 1, 1, 1, 1, 0, 2, 2, 1, 1, 3, 0, 1, 1, 1, 3, 1, 2, 3, 1, 1, 0, 1, 1, 0, 1, 1, 1, 1, 1, 1, 1, 0, 3, 0, 2, 0, 1, 1, 1, 1, 2, 2, 1, 2, 2, 0, 5, 1, 0, 1, 1, 1, 5, 3, 0, 2, 5, 1, 3, 3, 1, 2, 5, 0, 0, 1, 1, 1, 1, 1, 3, 2, 2, 3, 3, 0, 1, 1, 1, 1, 1, 2, 1, 3, 2, 2, 0, 1, 5, 1, 1, 1, 1, 0, 3, 5, 4, 6, 1, 2, 1, 1, 1, 0, 0, 1, 0, 1, 1, 1, 0, 1, 1, 1, 0, 1, 0, 0, 0, 0, 1, 1, 1, 3, 3, 1, 3, 1, 1, 2, 5, 1, 1, 1, 5, 3, 0, 3, 2, 2, 1, 2, 5, 1, 3, 3, 1, 2, 1, 1, 3, 0, 0, 3, 1, 2, 5, 0, 0, 1, 2, 2, 1, 2, 2, 2, 2, 0, 1, 1, 2, 0, 0, 2, 2, 1, 4, 4, 1]
def xna (n : Nat) : Nat := xnaL.getD n 99
def xT (k : Nat) : List Cond := match k with
  | 0 => k2_sels lw_privs
  | 1 => tables_1_1
  | 2 => tables_1_2
  | 3 => tables_1_3
  | 4 => tables_1_4
  | 5 => tables_1_5
  | _ => tables_1_6
theorem xT_in (k : Nat) : ∀ w ∈ xT k, w ∈ lw_tbl := by
  intro w h
  show w ∈ k2_sels lw_privs ++ (tables_1_1 ++ (tables_1_2 ++ (tables_1_3 ++ (tables_1_4 ++ (tables_1_5 ++ tables_1_6)))))
  simp only [List.mem_append]
  match k, h with
  | 0, h => exact Or.inl h
  | 1, h => exact Or.inr (Or.inl h)
  | 2, h => exact Or.inr (Or.inr (Or.inl h))
  | 3, h => exact Or.inr (Or.inr (Or.inr (Or.inl h)))
  | 4, h => exact Or.inr (Or.inr (Or.inr (Or.inr (Or.inl h))))
  | 5, h => exact Or.inr (Or.inr (Or.inr (Or.inr (Or.inr (Or.inl h)))))
  | n + 6, h => exact Or.inr (Or.inr (Or.inr (Or.inr (Or.inr (Or.inr h)))))
def xWs : List Cond := lw_tbl.filter goodWord
theorem xWs_of {ws : List Cond} (ps : List (Nat × Nat)) (h : ws = ps.filterMap (fun q => (xT q.1)[q.2]?)) (hg : ws.all goodWord = true) : ∀ w ∈ ws, w ∈ xWs := by
  intro w hw
  refine List.mem_filter.mpr ⟨?_, List.all_eq_true.mp hg w hw⟩
  rw [h] at hw
  obtain ⟨q, -, hq⟩ := List.mem_filterMap.mp hw
  exact xT_in q.1 w (List.mem_of_getElem? hq)
def xmw (n : Nat) : List Cond := .code (xsg n).1 (xsg n).2.1 (xsg n).2.2.1 (xsg n).2.2.2 :: .initialized (xsg n).1.cls :: (match xmk n with
  | 0 => [.instanceMethod (xsg n).1, .selects (xsg n).1.cls (xsg n).1 (xsg n).1]
  | 1 => [.static (xsg n).1]
  | _ => [.instanceMethod (xsg n).1])
set_option maxRecDepth 100000 in
theorem xmw_0 : ∀ w ∈ (List.range' 0 24).flatMap xmw, w ∈ xWs := xWs_of [(1, 37), (1, 3), (1, 36), (2, 76), (1, 3), (2, 74), (2, 75), (2, 100), (1, 3), (2, 98), (2, 99), (4, 20), (1, 3), (4, 18), (4, 19), (3, 170), (1, 3), (3, 168), (3, 169), (4, 34), (1, 3), (4, 32), (4, 33), (3, 162), (1, 3), (3, 160), (3, 161), (2, 24), (1, 3), (2, 22), (2, 23), (2, 20), (1, 3), (2, 18), (2, 19), (4, 115), (1, 3), (4, 113), (4, 114), (4, 166), (1, 3), (4, 164), (4, 165), (2, 87), (1, 3), (2, 85), (2, 86), (2, 96), (1, 3), (2, 94), (2, 95), (2, 104), (1, 3), (2, 103), (0, 0), (2, 108), (1, 3), (2, 107), (0, 1), (2, 120), (1, 3), (2, 118), (2, 119), (4, 16), (1, 3), (4, 14), (4, 15), (4, 191), (1, 3), (4, 189), (4, 190), (4, 175), (1, 3), (4, 173), (4, 174), (4, 179), (1, 3), (4, 178), (1, 225), (1, 9), (1, 224), (3, 192), (1, 9), (3, 190), (3, 191), (3, 208), (1, 9), (3, 207), (0, 22), (3, 212), (1, 9), (3, 211), (0, 23)] rfl rfl
set_option maxRecDepth 100000 in
theorem xmw_1 : ∀ w ∈ (List.range' 24 24).flatMap xmw, w ∈ xWs := xWs_of [(3, 217), (1, 9), (3, 216), (0, 24), (3, 220), (1, 9), (3, 219), (3, 231), (1, 9), (3, 230), (1, 217), (1, 8), (1, 216), (3, 175), (1, 8), (3, 173), (3, 174), (4, 5), (1, 8), (4, 3), (4, 4), (4, 157), (1, 8), (4, 155), (4, 156), (3, 180), (1, 8), (3, 178), (3, 179), (3, 186), (1, 8), (3, 185), (0, 21), (1, 137), (1, 6), (1, 136), (1, 143), (1, 6), (1, 141), (1, 142), (3, 69), (1, 6), (3, 67), (3, 68), (3, 81), (1, 6), (3, 79), (3, 80), (3, 140), (1, 6), (3, 138), (3, 139), (3, 101), (1, 6), (3, 99), (3, 100), (3, 136), (1, 6), (3, 134), (3, 135), (3, 200), (1, 6), (3, 198), (3, 199), (3, 196), (1, 6), (3, 194), (3, 195), (3, 204), (1, 6), (3, 202), (3, 203), (3, 145), (1, 6), (3, 143), (3, 144), (1, 131), (1, 5), (1, 130), (2, 145), (1, 5), (2, 143), (2, 144), (3, 65), (1, 5), (3, 64), (0, 8), (3, 85), (1, 5), (3, 84), (0, 10)] rfl rfl
set_option maxRecDepth 100000 in
theorem xmw_2 : ∀ w ∈ (List.range' 48 24).flatMap xmw, w ∈ xWs := xWs_of [(3, 89), (1, 5), (3, 88), (0, 11), (3, 93), (1, 5), (3, 92), (0, 12), (3, 97), (1, 5), (3, 96), (0, 13), (3, 105), (1, 5), (3, 104), (0, 14), (3, 112), (1, 5), (3, 111), (0, 15), (3, 120), (1, 5), (3, 119), (0, 17), (3, 124), (1, 5), (3, 123), (0, 18), (3, 128), (1, 5), (3, 127), (0, 19), (3, 132), (1, 5), (3, 131), (0, 20), (3, 116), (1, 5), (3, 115), (0, 16), (3, 73), (1, 5), (3, 72), (0, 9), (3, 53), (1, 5), (3, 52), (0, 7), (2, 15), (1, 10), (2, 14), (4, 39), (1, 10), (4, 37), (4, 38), (4, 45), (1, 10), (4, 44), (0, 25), (4, 57), (1, 10), (4, 55), (4, 56), (4, 62), (1, 10), (4, 60), (4, 61), (4, 73), (1, 10), (4, 71), (4, 72), (4, 149), (1, 10), (4, 147), (4, 148), (4, 153), (1, 10), (4, 151), (4, 152), (4, 119), (1, 10), (4, 117), (4, 118), (4, 86), (1, 10), (4, 84), (4, 85), (4, 90), (1, 10), (4, 88), (4, 89), (4, 107), (1, 10), (4, 105), (4, 106)] rfl rfl
set_option maxRecDepth 100000 in
theorem xmw_3 : ∀ w ∈ (List.range' 72 24).flatMap xmw, w ∈ xWs := xWs_of [(4, 98), (1, 10), (4, 97), (0, 28), (4, 94), (1, 10), (4, 93), (0, 27), (4, 103), (1, 10), (4, 102), (0, 29), (4, 131), (1, 10), (4, 129), (4, 130), (4, 125), (1, 10), (4, 123), (4, 124), (4, 140), (1, 10), (4, 138), (4, 139), (1, 116), (1, 4), (1, 115), (2, 128), (1, 4), (2, 126), (2, 127), (2, 132), (1, 4), (2, 130), (2, 131), (2, 154), (1, 4), (2, 152), (2, 153), (1, 161), (1, 7), (1, 160), (3, 57), (1, 7), (3, 55), (3, 56), (3, 61), (1, 7), (3, 59), (3, 60), (3, 77), (1, 7), (3, 75), (3, 76), (2, 150), (1, 7), (2, 148), (2, 149), (2, 221), (1, 7), (2, 220), (0, 4), (2, 164), (1, 7), (2, 163), (0, 2), (2, 168), (1, 7), (2, 167), (0, 3), (2, 228), (1, 7), (2, 227), (0, 5), (2, 233), (1, 7), (2, 232), (0, 6), (2, 157), (1, 7), (2, 156), (2, 160), (1, 7), (2, 159), (2, 224), (1, 7), (2, 223), (1, 23), (1, 1), (1, 22)] rfl rfl
set_option maxRecDepth 100000 in
theorem xmw_4 : ∀ w ∈ (List.range' 96 24).flatMap xmw, w ∈ xWs := xWs_of [(2, 72), (1, 1), (2, 70), (2, 71), (2, 83), (1, 1), (2, 81), (2, 82), (2, 92), (1, 1), (2, 90), (2, 91), (2, 112), (1, 1), (2, 110), (2, 111), (2, 116), (1, 1), (2, 114), (2, 115), (2, 124), (1, 1), (2, 122), (2, 123), (2, 137), (1, 1), (2, 135), (2, 136), (2, 141), (1, 1), (2, 139), (2, 140), (3, 154), (1, 1), (3, 152), (3, 153), (3, 158), (1, 1), (3, 156), (3, 157), (3, 166), (1, 1), (3, 164), (3, 165), (3, 237), (1, 1), (3, 235), (3, 236), (4, 12), (1, 1), (4, 10), (4, 11), (4, 26), (1, 1), (4, 24), (4, 25), (4, 30), (1, 1), (4, 28), (4, 29), (4, 53), (1, 1), (4, 51), (4, 52), (4, 69), (1, 1), (4, 67), (4, 68), (4, 77), (1, 1), (4, 75), (4, 76), (4, 111), (1, 1), (4, 109), (4, 110), (4, 136), (1, 1), (4, 134), (4, 135), (4, 145), (1, 1), (4, 143), (4, 144), (4, 162), (1, 1), (4, 160), (4, 161), (4, 171), (1, 1), (4, 169), (4, 170), (4, 183), (1, 1), (4, 181), (4, 182)] rfl rfl
set_option maxRecDepth 100000 in
theorem xmw_5 : ∀ w ∈ (List.range' 120 24).flatMap xmw, w ∈ xWs := xWs_of [(4, 187), (1, 1), (4, 185), (4, 186), (4, 81), (1, 1), (4, 80), (0, 26), (4, 1), (1, 1), (4, 0), (2, 79), (1, 1), (2, 78), (4, 49), (1, 1), (4, 48), (4, 65), (1, 1), (4, 64), (4, 199), (1, 11), (4, 198), (4, 203), (1, 11), (4, 202), (5, 66), (1, 11), (5, 65), (6, 36), (1, 11), (6, 35), (6, 3), (1, 11), (6, 2), (0, 57), (5, 63), (1, 11), (5, 62), (0, 30), (5, 239), (1, 11), (5, 238), (0, 56), (5, 85), (1, 11), (5, 84), (0, 32), (5, 73), (1, 11), (5, 72), (6, 43), (1, 11), (6, 42), (5, 59), (1, 11), (5, 57), (5, 58), (5, 70), (1, 11), (5, 68), (5, 69), (5, 81), (1, 11), (5, 80), (0, 31), (5, 77), (1, 11), (5, 75), (5, 76), (5, 89), (1, 11), (5, 87), (5, 88), (5, 93), (1, 11), (5, 91), (5, 92), (5, 101), (1, 11), (5, 100), (0, 33), (5, 97), (1, 11), (5, 95), (5, 96)] rfl rfl
set_option maxRecDepth 100000 in
theorem xmw_6 : ∀ w ∈ (List.range' 144 24).flatMap xmw, w ∈ xWs := xWs_of [(5, 105), (1, 11), (5, 103), (5, 104), (5, 121), (1, 11), (5, 120), (0, 36), (5, 128), (1, 11), (5, 127), (5, 124), (1, 11), (5, 123), (5, 117), (1, 11), (5, 116), (0, 35), (5, 142), (1, 11), (5, 141), (5, 139), (1, 11), (5, 138), (5, 149), (1, 11), (5, 148), (5, 210), (1, 11), (5, 209), (5, 146), (1, 11), (5, 145), (0, 39), (5, 189), (1, 11), (5, 188), (0, 48), (5, 193), (1, 11), (5, 192), (0, 49), (5, 176), (1, 11), (5, 175), (5, 185), (1, 11), (5, 184), (0, 47), (5, 197), (1, 11), (5, 196), (0, 50), (5, 169), (1, 11), (5, 168), (0, 44), (5, 165), (1, 11), (5, 164), (0, 43), (5, 173), (1, 11), (5, 172), (0, 45), (5, 223), (1, 11), (5, 222), (0, 55), (5, 218), (1, 11), (5, 217), (0, 54), (5, 201), (1, 11), (5, 200), (0, 51), (5, 180), (1, 11), (5, 179), (0, 46), (5, 161), (1, 11), (5, 160), (0, 42), (5, 157), (1, 11), (5, 156), (0, 41)] rfl rfl
set_option maxRecDepth 100000 in
theorem xmw_7 : ∀ w ∈ (List.range' 168 24).flatMap xmw, w ∈ xWs := xWs_of [(5, 153), (1, 11), (5, 152), (0, 40), (5, 205), (1, 11), (5, 204), (0, 52), (5, 214), (1, 11), (5, 213), (0, 53), (5, 136), (1, 11), (5, 135), (0, 38), (5, 132), (1, 11), (5, 131), (0, 37), (5, 113), (1, 11), (5, 112), (0, 34), (5, 109), (1, 11), (5, 107), (5, 108), (5, 227), (1, 11), (5, 225), (5, 226), (5, 231), (1, 11), (5, 229), (5, 230), (6, 28), (1, 11), (6, 27), (6, 25), (1, 11), (6, 24), (6, 33), (1, 11), (6, 32), (6, 22), (1, 11), (6, 21), (0, 61), (6, 18), (1, 11), (6, 17), (0, 60), (6, 14), (1, 11), (6, 13), (6, 11), (1, 11), (6, 10), (0, 59), (6, 50), (1, 11), (6, 49), (6, 47), (1, 11), (6, 46), (0, 62), (6, 54), (1, 11), (6, 53), (0, 63), (6, 7), (1, 11), (6, 6), (0, 58), (5, 235), (1, 11), (5, 233), (5, 234), (6, 40), (1, 11), (6, 38), (6, 39), (6, 58), (1, 11), (6, 56), (6, 57), (6, 62), (1, 11), (6, 60), (6, 61)] rfl rfl
set_option maxRecDepth 100000 in
theorem xmw_8 : ∀ w ∈ (List.range' 192 24).flatMap xmw, w ∈ xWs := xWs_of [(6, 73), (1, 11), (6, 72), (6, 70), (1, 11), (6, 69), (0, 64), (6, 66), (1, 11), (6, 64), (6, 65), (6, 82), (1, 11), (6, 81), (0, 65), (6, 85), (1, 11), (6, 84), (6, 78), (1, 11), (6, 76), (6, 77), (6, 89), (1, 11), (6, 87), (6, 88), (6, 105), (1, 11), (6, 104), (0, 68), (6, 113), (1, 11), (6, 112), (0, 70), (6, 109), (1, 11), (6, 108), (0, 69), (6, 117), (1, 11), (6, 116), (0, 71), (6, 97), (1, 11), (6, 96), (0, 66), (6, 101), (1, 11), (6, 100), (0, 67), (6, 93), (1, 11), (6, 91), (6, 92), (6, 125), (1, 11), (6, 124), (0, 72), (6, 129), (1, 11), (6, 128), (0, 73), (6, 121), (1, 11), (6, 119), (6, 120), (6, 133), (1, 11), (6, 131), (6, 132), (6, 137), (1, 11), (6, 135), (6, 136), (6, 141), (1, 11), (6, 139), (6, 140), (6, 145), (1, 11), (6, 143), (6, 144), (6, 149), (1, 11), (6, 147), (6, 148), (6, 153), (1, 11), (6, 151), (6, 152), (3, 108), (1, 17), (3, 107)] rfl rfl
set_option maxRecDepth 100000 in
theorem xmw_9 : ∀ w ∈ (List.range' 216 17).flatMap xmw, w ∈ xWs := xWs_of [(4, 194), (1, 0), (4, 193), (4, 8), (1, 2), (4, 7), (1, 32), (1, 2), (1, 31), (3, 228), (1, 2), (3, 227), (1, 29), (1, 2), (1, 28), (3, 225), (1, 2), (3, 224), (2, 173), (1, 12), (2, 171), (2, 172), (2, 183), (1, 12), (2, 181), (2, 182), (2, 238), (1, 12), (2, 236), (2, 237), (3, 2), (1, 12), (3, 0), (3, 1), (2, 177), (1, 12), (2, 175), (2, 176), (2, 187), (1, 12), (2, 185), (2, 186), (2, 193), (1, 12), (2, 192), (2, 190), (1, 13), (2, 189), (3, 9), (1, 13), (3, 8), (3, 6), (1, 13), (3, 5), (3, 14), (1, 13), (3, 13)] rfl rfl
theorem xmw_in {n : Nat} (h : n < 233) : ∀ w ∈ xmw n, w ∈ xWs := by
  intro w hw
  by_cases h0 : n < 24
  · exact xmw_0 w (List.mem_flatMap.mpr ⟨n, List.mem_range'.mpr ⟨n - 0, by omega, by omega⟩, hw⟩)
  by_cases h1 : n < 48
  · exact xmw_1 w (List.mem_flatMap.mpr ⟨n, List.mem_range'.mpr ⟨n - 24, by omega, by omega⟩, hw⟩)
  by_cases h2 : n < 72
  · exact xmw_2 w (List.mem_flatMap.mpr ⟨n, List.mem_range'.mpr ⟨n - 48, by omega, by omega⟩, hw⟩)
  by_cases h3 : n < 96
  · exact xmw_3 w (List.mem_flatMap.mpr ⟨n, List.mem_range'.mpr ⟨n - 72, by omega, by omega⟩, hw⟩)
  by_cases h4 : n < 120
  · exact xmw_4 w (List.mem_flatMap.mpr ⟨n, List.mem_range'.mpr ⟨n - 96, by omega, by omega⟩, hw⟩)
  by_cases h5 : n < 144
  · exact xmw_5 w (List.mem_flatMap.mpr ⟨n, List.mem_range'.mpr ⟨n - 120, by omega, by omega⟩, hw⟩)
  by_cases h6 : n < 168
  · exact xmw_6 w (List.mem_flatMap.mpr ⟨n, List.mem_range'.mpr ⟨n - 144, by omega, by omega⟩, hw⟩)
  by_cases h7 : n < 192
  · exact xmw_7 w (List.mem_flatMap.mpr ⟨n, List.mem_range'.mpr ⟨n - 168, by omega, by omega⟩, hw⟩)
  by_cases h8 : n < 216
  · exact xmw_8 w (List.mem_flatMap.mpr ⟨n, List.mem_range'.mpr ⟨n - 192, by omega, by omega⟩, hw⟩)
  by_cases h9 : n < 233
  · exact xmw_9 w (List.mem_flatMap.mpr ⟨n, List.mem_range'.mpr ⟨n - 216, by omega, by omega⟩, hw⟩)
  · omega
def xC (k : Nat) : String := (vwCl.getD k ("", TX7, 0)).1
def xTb (k : Nat) : u_T := (vwCl.getD k ("", TX7, 0)).2.1
def xN (k : Nat) : Nat := (vwCl.getD k ("", TX7, 0)).2.2
def xfl : List (Nat × Nat × Nat × Nat) := [(0, 9, 0, 2), (0, 15, 0, 3), (0, 18, 0, 4), (0, 22, 0, 5), (0, 25, 0, 6), (0, 28, 0, 7), (0, 31, 0, 8), (0, 34, 0, 9), (0, 37, 0, 10), (0, 40, 0, 11), (0, 43, 0, 12), (0, 47, 0, 13), (0, 50, 0, 14), (0, 53, 0, 15), (0, 56, 0, 16), (0, 59, 0, 0), (0, 62, 0, 1), (1, 9, 1, 0), (1, 15, 1, 1), (1, 18, 1, 2), (2, 12, 2, 2), (2, 21, 2, 3), (2, 25, 2, 0), (2, 29, 2, 1), (2, 33, 1, 0), (2, 39, 0, 0), (2, 49, 0, 2), (2, 58, 0, 16), (3, 11, 3, 1), (3, 17, 3, 2), (3, 20, 3, 3), (3, 30, 3, 0), (4, 14, 4, 0), (4, 20, 4, 1), (4, 24, 4, 2), (4, 27, 4, 4), (4, 32, 4, 5), (4, 35, 4, 6), (4, 38, 4, 7), (4, 46, 4, 3), (5, 9, 5, 5), (5, 15, 5, 0), (5, 19, 5, 1), (5, 29, 5, 2), (5, 33, 5, 3), (5, 38, 5, 4), (5, 56, 0, 6), (5, 60, 0, 3), (5, 63, 0, 7), (5, 67, 0, 8), (5, 74, 0, 9), (5, 123, 0, 12), (6, 9, 6, 0), (6, 15, 6, 1), (7, 9, 7, 1), (7, 15, 7, 2), (7, 18, 7, 3), (7, 21, 7, 4), (7, 25, 7, 5), (7, 28, 7, 0), (7, 34, 6, 1), (8, 21, 8, 0), (8, 27, 8, 1), (8, 33, 8, 2), (8, 42, 8, 3), (8, 48, 8, 4), (8, 60, 8, 5), (8, 69, 8, 6), (8, 80, 0, 2), (8, 102, 6, 1), (8, 106, 0, 15), (8, 112, 4, 0), (8, 120, 4, 1), (8, 123, 4, 2), (8, 129, 0, 16), (8, 149, 0, 3), (8, 160, 0, 13), (8, 212, 0, 12), (8, 227, 0, 4), (8, 237, 0, 0), (8, 240, 0, 1), (8, 243, 0, 14), (9, 7, 9, 0), (9, 13, 9, 1), (9, 16, 9, 4), (9, 19, 9, 5), (9, 22, 9, 7), (9, 26, 9, 8), (9, 29, 9, 18), (9, 32, 9, 24), (9, 35, 9, 25), (9, 39, 9, 26), (9, 43, 9, 27), (9, 46, 9, 29), (9, 49, 9, 30), (9, 52, 9, 2), (9, 55, 9, 3), (9, 85, 9, 6), (9, 92, 9, 9), (9, 98, 9, 10), (9, 101, 9, 11), (9, 107, 9, 12), (9, 114, 9, 13), (9, 126, 9, 14), (9, 129, 9, 16), (9, 132, 9, 19), (9, 142, 9, 20), (9, 145, 9, 21), (9, 217, 9, 22), (9, 223, 9, 23), (9, 297, 9, 28)]
def xfw (q : Nat × Nat × Nat × Nat) : Cond := .fieldLink (xnm q.1) q.2.1 (xC q.2.2.1) (xTb q.2.2.1 q.2.2.2).2.1 (xTb q.2.2.1 q.2.2.2).2.2.1
set_option maxRecDepth 100000 in
theorem xfw_in : ∀ w ∈ xfl.map xfw, w ∈ xWs := xWs_of [(1, 44), (1, 47), (1, 50), (1, 52), (1, 53), (1, 55), (1, 57), (1, 59), (1, 61), (1, 62), (1, 63), (1, 66), (1, 68), (1, 70), (1, 72), (1, 39), (1, 42), (1, 227), (1, 229), (1, 230), (2, 0), (2, 1), (1, 238), (1, 239), (1, 228), (1, 40), (1, 46), (1, 73), (1, 145), (1, 146), (1, 147), (1, 144), (1, 182), (1, 184), (1, 186), (1, 189), (1, 190), (1, 191), (1, 192), (1, 188), (2, 32), (2, 27), (2, 28), (2, 29), (2, 30), (2, 31), (1, 54), (1, 48), (1, 56), (1, 58), (1, 60), (1, 64), (1, 118), (1, 119), (1, 164), (1, 165), (1, 166), (1, 167), (1, 168), (1, 163), (1, 120), (2, 47), (2, 48), (2, 49), (2, 50), (2, 51), (2, 52), (2, 53), (1, 45), (1, 121), (1, 71), (1, 183), (1, 185), (1, 187), (1, 74), (1, 49), (1, 67), (1, 65), (1, 51), (1, 41), (1, 43), (1, 69), (4, 204), (4, 205), (4, 208), (4, 209), (4, 211), (4, 212), (4, 220), (4, 226), (4, 227), (4, 228), (4, 229), (4, 231), (4, 232), (4, 206), (4, 207), (4, 210), (4, 213), (4, 214), (4, 215), (4, 216), (4, 217), (4, 218), (4, 219), (4, 221), (4, 222), (4, 223), (4, 224), (4, 225), (4, 230)] rfl rfl
theorem xfl_N : ∀ q ∈ xfl, q.2.2.2 < xN q.2.2.1 := by decide +kernel
def xml : List (Nat × Nat × Nat) := [(0, 65, 7), (0, 69, 2), (0, 73, 8), (0, 76, 1), (0, 79, 13), (0, 83, 14), (0, 86, 3), (0, 101, 19), (1, 22, 41), (1, 28, 40), (1, 31, 42), (1, 36, 22), (1, 40, 23), (1, 44, 218), (1, 50, 24), (1, 53, 25), (1, 57, 26), (1, 65, 221), (1, 69, 219), (2, 9, 33), (2, 45, 1), (2, 52, 217), (2, 61, 6), (2, 64, 35), (2, 67, 32), (2, 73, 21), (2, 77, 220), (2, 81, 218), (3, 24, 218), (3, 33, 34), (3, 36, 35), (3, 42, 220), (4, 11, 33), (4, 43, 82), (4, 50, 34), (4, 53, 86), (4, 56, 59), (4, 59, 46), (4, 62, 58), (4, 65, 35), (4, 69, 36), (4, 72, 47), (4, 75, 57), (4, 78, 37), (4, 81, 48), (4, 84, 38), (4, 88, 49), (4, 91, 50), (4, 94, 51), (4, 97, 52), (4, 100, 53), (4, 103, 215), (4, 109, 54), (4, 112, 39), (4, 115, 55), (4, 118, 56), (4, 121, 85), (4, 125, 83), (4, 128, 84), (5, 23, 8), (5, 41, 28), (5, 49, 31), (5, 53, 62), (5, 70, 29), (5, 80, 61), (5, 84, 67), (5, 88, 30), (5, 91, 3), (5, 95, 69), (5, 99, 73), (5, 102, 72), (5, 106, 74), (5, 109, 219), (5, 117, 70), (5, 120, 71), (5, 126, 7), (6, 19, 79), (7, 39, 81), (7, 43, 92), (7, 47, 93), (7, 50, 88), (7, 53, 94), (7, 56, 90), (7, 59, 91), (7, 63, 89), (7, 67, 87), (7, 73, 222), (7, 78, 223), (7, 82, 220), (7, 89, 224), (8, 7, 220), (8, 13, 218), (8, 18, 0), (8, 39, 44), (8, 52, 33), (8, 57, 27), (8, 66, 60), (8, 73, 1), (8, 77, 123), (8, 84, 11), (8, 88, 12), (8, 92, 15), (8, 96, 79), (8, 99, 80), (8, 108, 45), (8, 116, 43), (8, 126, 6), (8, 132, 4), (8, 135, 28), (8, 140, 31), (8, 143, 2), (8, 146, 122), (8, 152, 29), (8, 156, 16), (8, 163, 5), (8, 168, 61), (8, 172, 63), (8, 176, 64), (8, 180, 125), (8, 184, 65), (8, 187, 121), (8, 190, 69), (8, 194, 70), (8, 197, 71), (8, 200, 9), (8, 203, 68), (8, 206, 76), (8, 209, 75), (8, 215, 77), (8, 218, 66), (8, 221, 67), (8, 224, 10), (8, 231, 124), (8, 234, 18), (8, 246, 17), (8, 249, 3), (9, 58, 127), (9, 62, 128), (9, 66, 130), (9, 70, 131), (9, 74, 134), (9, 78, 133), (9, 81, 138), (9, 88, 142), (9, 95, 145), (9, 104, 147), (9, 111, 146), (9, 118, 149), (9, 122, 150), (9, 135, 156), (9, 138, 154), (9, 149, 157), (9, 152, 159), (9, 155, 160), (9, 159, 155), (9, 162, 148), (9, 165, 169), (9, 168, 170), (9, 171, 158), (9, 174, 163), (9, 179, 153), (9, 183, 162), (9, 187, 161), (9, 191, 165), (9, 196, 166), (9, 199, 167), (9, 202, 164), (9, 209, 151), (9, 213, 152), (9, 220, 171), (9, 226, 168), (9, 229, 172), (9, 232, 173), (9, 239, 177), (9, 243, 178), (9, 247, 179), (9, 251, 180), (9, 254, 129), (9, 258, 182), (9, 261, 183), (9, 264, 184), (9, 268, 181), (9, 272, 132), (9, 275, 187), (9, 278, 135), (9, 281, 185), (9, 285, 186), (9, 288, 192), (9, 291, 193), (9, 300, 195), (9, 303, 196), (9, 307, 200), (9, 310, 199), (9, 314, 203), (9, 317, 204), (9, 320, 201), (9, 324, 202), (9, 327, 206), (9, 330, 207), (11, 9, 216), (11, 15, 95), (11, 20, 126), (11, 21, 96), (11, 25, 136), (11, 26, 97), (11, 30, 137), (11, 31, 98), (11, 35, 139), (11, 36, 99), (11, 39, 140), (11, 40, 100), (11, 44, 141), (11, 45, 101), (11, 49, 143), (11, 50, 102), (11, 53, 144), (11, 54, 103), (11, 57, 174), (11, 58, 104), (11, 61, 175), (11, 62, 105), (11, 66, 176), (11, 67, 106), (11, 70, 188), (11, 71, 107), (11, 75, 189), (11, 76, 108), (11, 80, 190), (11, 81, 109), (11, 84, 191), (11, 85, 110), (11, 89, 194), (11, 90, 111), (11, 94, 197), (11, 95, 112), (11, 98, 198), (11, 99, 113), (11, 103, 205), (11, 104, 114), (11, 108, 208), (11, 109, 115), (11, 112, 209), (11, 113, 116), (11, 116, 210), (11, 117, 117), (11, 120, 211), (11, 121, 118), (11, 124, 212), (11, 125, 119), (11, 128, 213), (11, 129, 120), (11, 132, 214), (13, 335, 226), (13, 492, 227), (13, 495, 229), (13, 505, 222), (13, 633, 225), (13, 637, 231), (14, 9, 228), (14, 38, 220), (14, 88, 230), (14, 92, 218), (14, 95, 232)]
def xmlw (q : Nat × Nat × Nat) : Cond := .methodLink (xnm q.1) q.2.1 (xsg q.2.2).1
set_option maxRecDepth 100000 in
theorem xmlw_in : ∀ w ∈ xml.map xmlw, w ∈ xWs := xWs_of [(2, 21), (2, 97), (3, 171), (2, 88), (2, 101), (2, 105), (4, 17), (4, 177), (3, 193), (3, 197), (3, 201), (3, 205), (3, 209), (3, 213), (3, 214), (3, 218), (3, 229), (3, 223), (3, 226), (1, 220), (3, 176), (4, 6), (3, 181), (3, 182), (3, 183), (3, 189), (3, 232), (3, 233), (1, 139), (1, 140), (3, 141), (3, 146), (1, 135), (1, 159), (2, 146), (2, 147), (3, 50), (3, 62), (3, 70), (3, 66), (3, 78), (3, 82), (3, 113), (3, 137), (3, 86), (3, 98), (3, 90), (3, 94), (3, 102), (3, 109), (3, 117), (3, 106), (3, 121), (3, 133), (3, 125), (3, 129), (3, 74), (3, 54), (3, 58), (2, 17), (4, 40), (4, 41), (4, 42), (4, 46), (4, 58), (4, 150), (4, 154), (4, 120), (4, 121), (4, 91), (4, 95), (4, 100), (4, 99), (4, 132), (4, 127), (4, 141), (2, 133), (2, 151), (2, 155), (2, 158), (2, 161), (2, 222), (2, 225), (2, 230), (2, 165), (2, 218), (2, 170), (2, 180), (2, 229), (2, 235), (1, 27), (1, 30), (1, 35), (1, 129), (1, 212), (1, 215), (2, 13), (2, 73), (2, 77), (2, 84), (2, 93), (2, 117), (2, 125), (2, 129), (2, 142), (3, 142), (3, 159), (3, 167), (3, 172), (3, 177), (3, 238), (3, 239), (4, 2), (4, 13), (4, 31), (4, 36), (4, 54), (4, 59), (4, 63), (4, 70), (4, 78), (4, 83), (4, 87), (4, 104), (4, 112), (4, 116), (4, 122), (4, 128), (4, 137), (4, 146), (4, 158), (4, 163), (4, 167), (4, 172), (4, 188), (4, 82), (4, 201), (5, 64), (6, 0), (5, 60), (5, 71), (5, 82), (5, 78), (5, 98), (5, 118), (5, 122), (5, 126), (5, 140), (5, 137), (5, 174), (5, 186), (5, 182), (5, 166), (5, 162), (5, 190), (5, 114), (5, 202), (5, 211), (5, 194), (5, 215), (5, 143), (5, 220), (5, 170), (5, 177), (5, 158), (5, 154), (5, 198), (5, 147), (5, 208), (5, 133), (5, 150), (5, 129), (5, 110), (6, 26), (6, 23), (6, 31), (6, 19), (6, 34), (6, 12), (6, 8), (6, 48), (6, 15), (5, 236), (6, 4), (6, 41), (6, 44), (6, 51), (6, 71), (6, 67), (6, 79), (6, 83), (6, 110), (6, 102), (6, 94), (6, 98), (6, 106), (6, 114), (6, 122), (6, 126), (4, 192), (1, 21), (4, 197), (2, 69), (5, 56), (2, 80), (5, 67), (2, 89), (5, 74), (2, 109), (5, 86), (2, 113), (5, 90), (2, 121), (5, 94), (2, 134), (5, 102), (2, 138), (5, 106), (3, 151), (5, 224), (3, 155), (5, 228), (3, 163), (5, 232), (3, 234), (6, 37), (4, 9), (6, 55), (4, 23), (6, 59), (4, 27), (6, 63), (4, 50), (6, 75), (4, 66), (6, 86), (4, 74), (6, 90), (4, 108), (6, 118), (4, 133), (6, 130), (4, 142), (6, 134), (4, 159), (6, 138), (4, 168), (6, 142), (4, 180), (6, 146), (4, 184), (6, 150), (2, 174), (2, 184), (2, 188), (3, 3), (2, 239), (3, 4), (2, 191), (3, 11), (3, 7), (3, 10), (3, 12)] rfl rfl
def xmf (n : Nat) : Bool := decide ((xsg n).1.cls = xnm (xmc n)) && decide ((xsg n).1.cls ≠ "java/lang/invoke/MethodHandle") && decide ((xsg n).1.cls ≠ "java/lang/invoke/VarHandle") && decide ((parseMethodDescriptor (xsg n).1.desc).map (fun d => d.parameters.length) = some (xna n)) && plainFor (xsg n).1 && decide ((xsg n).2.2.1 ≤ 40)
theorem xmf_0 : ((List.range' 0 24).all xmf) = true := by decide +kernel
theorem xmf_1 : ((List.range' 24 24).all xmf) = true := by decide +kernel
theorem xmf_2 : ((List.range' 48 24).all xmf) = true := by decide +kernel
theorem xmf_3 : ((List.range' 72 24).all xmf) = true := by decide +kernel
theorem xmf_4 : ((List.range' 96 24).all xmf) = true := by decide +kernel
theorem xmf_5 : ((List.range' 120 24).all xmf) = true := by decide +kernel
theorem xmf_6 : ((List.range' 144 24).all xmf) = true := by decide +kernel
theorem xmf_7 : ((List.range' 168 24).all xmf) = true := by decide +kernel
theorem xmf_8 : ((List.range' 192 24).all xmf) = true := by decide +kernel
theorem xmf_9 : ((List.range' 216 17).all xmf) = true := by decide +kernel
theorem xmf_in {n : Nat} (h : n < 233) : xmf n = true := by
  by_cases h0 : n < 24
  · exact List.all_eq_true.mp xmf_0 n (List.mem_range'.mpr ⟨n - 0, by omega, by omega⟩)
  by_cases h1 : n < 48
  · exact List.all_eq_true.mp xmf_1 n (List.mem_range'.mpr ⟨n - 24, by omega, by omega⟩)
  by_cases h2 : n < 72
  · exact List.all_eq_true.mp xmf_2 n (List.mem_range'.mpr ⟨n - 48, by omega, by omega⟩)
  by_cases h3 : n < 96
  · exact List.all_eq_true.mp xmf_3 n (List.mem_range'.mpr ⟨n - 72, by omega, by omega⟩)
  by_cases h4 : n < 120
  · exact List.all_eq_true.mp xmf_4 n (List.mem_range'.mpr ⟨n - 96, by omega, by omega⟩)
  by_cases h5 : n < 144
  · exact List.all_eq_true.mp xmf_5 n (List.mem_range'.mpr ⟨n - 120, by omega, by omega⟩)
  by_cases h6 : n < 168
  · exact List.all_eq_true.mp xmf_6 n (List.mem_range'.mpr ⟨n - 144, by omega, by omega⟩)
  by_cases h7 : n < 192
  · exact List.all_eq_true.mp xmf_7 n (List.mem_range'.mpr ⟨n - 168, by omega, by omega⟩)
  by_cases h8 : n < 216
  · exact List.all_eq_true.mp xmf_8 n (List.mem_range'.mpr ⟨n - 192, by omega, by omega⟩)
  by_cases h9 : n < 233
  · exact List.all_eq_true.mp xmf_9 n (List.mem_range'.mpr ⟨n - 216, by omega, by omega⟩)
  · omega
end
section
/-! the pictures and the heap -/
abbrev xE : Type := (Nat → ClassId) × (Nat → Nat → Nat) × (Nat → ClassId) × Nat × (Nat → Int32)
def xcv (ad : Nat → Nat) (v : Value) : Value := match v with
  | .ref k => .ref (ad k)
  | v => v
def xfv (ad : Nat → Nat) (s : xS) (k : Nat) (c : xLc) (j : Nat) : Value := match xfk c.1 j with
  | 0 => .int (s.1 k j)
  | 1 => .long (s.2 k j)
  | 3 => .int (s.1 k j)
  | _ => va_rf ((c.2.2.getD j none).map ad)
def xce (cA : Nat → ClassId) (ad : Nat → Nat) (s : xS) (k : Nat) (c : xLc) : va_E :=
  if c.1 < 100 then .inr (c.1, (List.range (xN c.1)).map (fun j => xfv ad s k c j))
  else if c.1 = 102 then .inl (cA c.1, c.2.1, .inr (.inl (s.2 k)))
  else if c.1 = 100 ∨ c.1 = 101 then .inl (cA c.1, c.2.1, .inl (s.1 k))
  else .inl (cA c.1, c.2.1, .inr (.inr (.inr (.inr (fun i => (c.2.2.getD i none).map ad)))))
def xwo (cA : Nat → ClassId) (ad : Nat → Nat) (L : xLa) (s : xS) : va_W := L.mapIdx (fun k c => (ad k, xce cA ad s k c))
theorem xnth_get {α : Type} : ∀ (l : List α) (k : Nat), xnth l k = l[k]?
  | [], k => by simp [xnth]
  | c :: r, 0 => by simp [xnth]
  | c :: r, k + 1 => by simp [xnth, xnth_get r k]
theorem xwo_get (cA : Nat → ClassId) (ad : Nat → Nat) (L : xLa) (s : xS) (k : Nat) : (xwo cA ad L s)[k]? = (L[k]?).map (fun c => (ad k, xce cA ad s k c)) := by
  unfold xwo
  rw [List.getElem?_mapIdx]
theorem xwo_at {cA : Nat → ClassId} {ad : Nat → Nat} {L : xLa} {s : xS} {k : Nat} {c : xLc} (h : xnth L k = some c) : (xwo cA ad L s)[k]? = some (ad k, xce cA ad s k c) := by
  rw [xwo_get, ← xnth_get, h]
  rfl
theorem xwo_set {cA : Nat → ClassId} {ad : Nat → Nat} {L : xLa} {s s' : xS} {k : Nat} {c : xLc} {e : va_E} (h : xnth L k = some c) (he : e = xce cA ad s' k c) (h1 : ∀ j, j ≠ k → s'.1 j = s.1 j) (h2 : ∀ j, j ≠ k → s'.2 j = s.2 j) : (xwo cA ad L s).set k (ad k, e) = xwo cA ad L s' := by
  apply List.ext_getElem?
  intro j
  rw [xwo_get, List.getElem?_set]
  by_cases hj : k = j
  · subst hj
    have hl : k < (xwo cA ad L s).length := (List.getElem?_eq_some_iff.mp (xwo_at h)).1
    rw [if_pos rfl, if_pos hl, ← xnth_get, h, he]
    rfl
  · rw [if_neg hj, xwo_get]
    cases hc : L[j]? with
    | none => rfl
    | some c2 =>
      show some (ad j, xce cA ad s j c2) = some (ad j, xce cA ad s' j c2)
      have e1 := h1 j (fun q => hj q.symm)
      have e2 := h2 j (fun q => hj q.symm)
      unfold xce xfv
      rw [e1, e2]
/-- the addresses are apart, and of a kind -/
def xD (A : Nat → Prop) (ad : Nat → Nat) (n : Nat) : Prop := (∀ i j, i < n → j < n → ad i = ad j → i = j) ∧ ∀ k, k < n → A (ad k)
theorem xwo_key {cA : Nat → ClassId} {ad : Nat → Nat} {L : xLa} {s : xS} {k : Nat} {q : Nat × va_E} (h : (xwo cA ad L s)[k]? = some q) : k < L.length ∧ q.1 = ad k := by
  rw [xwo_get] at h
  cases hc : L[k]? with
  | none => rw [hc] at h; cases h
  | some c =>
    rw [hc] at h
    cases h
    exact ⟨(List.getElem?_eq_some_iff.mp hc).1, rfl⟩
theorem xD.va {A : Nat → Prop} {ad : Nat → Nat} {L : xLa} (h : xD A ad L.length) (cA : Nat → ClassId) (s : xS) : va_D A (xwo cA ad L s) := by
  refine ⟨fun i j p q hi hj e => ?_, fun k q hk => ?_⟩
  · obtain ⟨a1, a2⟩ := xwo_key hi
    obtain ⟨b1, b2⟩ := xwo_key hj
    exact h.1 i j a1 b1 (by rw [← a2, ← b2]; exact e)
  · obtain ⟨a1, a2⟩ := xwo_key hk
    rw [a2]
    exact h.2 k a1
theorem xD.weaken {A B : Nat → Prop} {ad : Nat → Nat} {n : Nat} (h : xD A ad n) (hB : ∀ k, k < n → B (ad k)) : xD B ad n := ⟨h.1, hB⟩
def xty (cA : Nat → ClassId) : List (ClassId × FieldType) := [(cA 100, .int), (cA 101, .boolean), (cA 102, .long), (cA 103, .object "WrongEnd$Program"), (cA 104, .array .int)]
def xwords : String := "prior sees slip cost if end or and not x y size paints hill hour scope turned far act "
def xmarks : String := "<>=#+-*/();?:"
def xby : List (List Int32) := [(xtxt 86).map nI, (xtxt 13).map nI]
def xNw (U : State) : Prop := va_Nw (.methodLinkNest "WrongEnd" 32 yX8_init "WrongEnd") U ∧ va_Nw (.methodLinkNest "WrongEnd$Optics" 20 yX1_init "WrongEnd") U ∧ va_Nw (.methodLinkNest "WrongEnd$Fort" 89 yX10_isHour "WrongEnd") U ∧ va_Nw (.methodLinkNest "WrongEnd$Fort" 92 yX10_isDigit "WrongEnd") U ∧ va_Nw (.methodLinkNest "WrongEnd$Scales" 77 yX10_oneMore "WrongEnd") U ∧ va_AO "WrongEnd$Program" U ∧ va_AOA .int U
/-- what stays as it is from the start on: the classes, the script, the statics, the String constants, the nest's words -/
def xKs (E : xE) (ad : Nat → Nat) (A : Nat → Prop) (U : State) (H : Heap) : Prop :=
  va_K (E.1, E.2.1) vwCl (xty E.2.2.1) U ∧ (va_X (ad 900) E.2.2.2.1 E.2.2.2.2 U H ∧ ad 900 < H.size ∧ ¬ A (ad 900) ∧ E.2.2.2.1 < 2 ^ 31) ∧
  (va_Z "WrongEnd$Optics" "MOST" "[I" (.ref (ad 902)) A U H ∧ va_T .int (ad 902) 4 (fun j => .int (xmost j)) A U H) ∧
  va_Z "java/lang/String" "COMPACT_STRINGS" "Z" (.int 1) A U H ∧
  va_Zq "jdk/internal/util/Preconditions" "SIOOBE_FORMATTER" "Ljava/util/function/BiFunction;" A U H ∧
  (vk_R "WrongEnd$Tokens" 71 xwords (ad 903) U ∧ vk_R "WrongEnd$Tokens" 87 xmarks (ad 904) U) ∧
  vk_S 2 [86, 13] xby (fun i => ad (903 + i)) (fun i => ad (905 + i)) A U H ∧ xNw U
theorem xAOA_spec {u : State} (h : va_AOA .int u) : ∃ comp c k, u.vm.findClass (FieldType.array .int).toString = some comp ∧ (u.vm.classes.findIdx? fun (x : Class) => match x.kind with | .array component _ => component == comp | _ => false) = some c ∧ u.vm.classes[c]? = some k ∧ k.kind = .array comp (.array .int) ∧ u.vm.findClass ("[" ++ (FieldType.array .int).toString) = some c := by
  unfold va_AOA Cond.before at h
  simp only [Cond.holds, Cond.value, beq_iff_eq] at h
  cases hc : u.vm.findClass (FieldType.array .int).toString with
  | none => simp [hc] at h
  | some comp =>
    simp only [hc, Option.bind_some, Option.bind_eq_some_iff, Option.map_eq_some_iff] at h
    obtain ⟨c, hi, k, hk, hb⟩ := h
    obtain ⟨hlt, hp, -⟩ := Array.findIdx?_eq_some_iff_getElem.mp hi
    have hkk : u.vm.classes[c] = k := (Array.getElem?_eq_some_iff.mp hk).2
    rw [hkk] at hp
    cases hkind : k.kind with
    | array component ty =>
      rw [hkind] at hb hp
      simp at hb hp
      exact ⟨comp, c, k, rfl, hi, hk, by rw [hkind, hp, hb.1], hb.2⟩
    | _ => rw [hkind] at hb; simp at hb
theorem xAOA_moved {u U : State} (hvm : u.vm.Alike U.vm) (h : va_AOA .int u) : va_AOA .int U := by
  obtain ⟨comp, c, k, h1, h2, h3, h4, h5⟩ := xAOA_spec h
  obtain ⟨k', hk', he⟩ := hvm.2.2 _ _ h3
  have e1 := va_idx_bare U.vm comp
  have e2 := va_idx_bare u.vm comp
  have e3 : U.vm.bare = u.vm.bare := by first | exact hvm.bare_eq | exact hvm.bare_eq.symm
  rw [e3] at e1
  have hi : (U.vm.classes.findIdx? fun (x : Class) => match x.kind with | .array component _ => component == comp | _ => false) = some c := (e1.symm.trans e2).trans h2
  have hkind : k'.kind = .array comp (.array .int) := by rw [he]; exact h4
  rw [← hvm.findClass] at h1 h5
  unfold va_AOA Cond.before Cond.holds
  simp only [Cond.value]
  rw [h1, Option.bind_some]
  refine (congrArg (fun o : Option Nat => (o.bind (fun c => (U.vm.classes[c]?).map fun (k : Class) => match k.kind with | .array _ ty => decide (ty = FieldType.array .int) && decide (U.vm.findClass ("[" ++ (FieldType.array .int).toString) = some c) | _ => false) == some true)) hi).trans ?_
  simp [hk', hkind, h5]
theorem xNw.warm {s U : State} (hW : s.WarmedH U.vm) (h : xNw s) : xNw U := by
  obtain ⟨h1, h2, h3, h4, h5, h6, h7⟩ := h
  refine ⟨h1.warmM hW, h2.warmM hW, h3.warmM hW, h4.warmM hW, h5.warmM hW, va_AO.moved hW.alike h6, ?_⟩
  exact xAOA_moved hW.alike h7
theorem xNw.same {u U : State} (h : u.vm = U.vm) (h0 : xNw u) : xNw U := by
  obtain ⟨h1, h2, h3, h4, h5, h6, h7⟩ := h0
  refine ⟨h1.same rfl h, h2.same rfl h, h3.same rfl h, h4.same rfl h, h5.same rfl h, va_AO.moved (by rw [h]; exact Vm.Alike.refl _) h6, ?_⟩
  exact xAOA_moved (by rw [h]; exact Vm.Alike.refl _) h7
theorem xKs.to {E : xE} {ad : Nat → Nat} {A B : Nat → Prop} {s U : State} {H H1 : Heap} (hW : s.WarmedH U.vm) (hq : ∀ a : Nat, a < H.size → ¬ A a → H1[a]? = H[a]?) (hz : H.size ≤ H1.size) (hAB : ∀ q, B q → A q) (h : xKs E ad A s H) : xKs E ad B U H1 := by
  obtain ⟨h1, ⟨h2, h3, h4, h5⟩, ⟨h6, h7⟩, h8, h9, ⟨h10, h11⟩, h12, h13⟩ := h
  exact ⟨h1.moved hW.alike, ⟨(h2.kept (hq _ h3 h4)).moved hW.alike, Nat.lt_of_lt_of_le h3 hz, fun q => h4 (hAB _ q), h5⟩, ⟨((h6.kept hq).narrow hAB).moved hW.alike, ((h7.kept hq).narrow hAB).moved hW.alike⟩, ((h8.kept hq).narrow hAB).moved hW.alike, ((h9.kept hq).narrow hAB).moved hW.alike, ⟨h10.warm hW, h11.warm hW⟩, ((h12.kept hq).narrow hAB).moved hW.alike, h13.warm hW⟩
theorem xKs.same {E : xE} {ad : Nat → Nat} {A : Nat → Prop} {u U : State} {H : Heap} (hv : u.vm = U.vm) (h : xKs E ad A u H) : xKs E ad A U H := by
  obtain ⟨h1, ⟨h2, h3, h4, h5⟩, ⟨h6, h7⟩, h8, h9, ⟨h10, h11⟩, h12, h13⟩ := h
  have ha : u.vm.Alike U.vm := by rw [hv]; exact Vm.Alike.refl _
  exact ⟨h1.moved ha, ⟨h2.moved ha, h3, h4, h5⟩, ⟨h6.moved ha, h7.moved ha⟩, h8.moved ha, h9.moved ha, ⟨h10.same hv.symm, h11.same hv.symm⟩, h12.moved ha, h13.same hv⟩
/-- which cells a method may change -/
def xFr (ad : Nat → Nat) (n sz : Nat) : Nat → Prop := fun q => (∃ k, k < n ∧ q = ad k) ∨ sz ≤ q
def xSc (E : xE) (s : xS) : Prop := s.1 900 = E.2.2.2.2 ∧ s.1 901 0 = nI E.2.2.2.1
def xPc (E : xE) (ad : Nat → Nat) (L : xLa) (s : xS) (As : List Value) (sz : Nat) : Array Value → State → Prop := fun v U => v = (As.map (xcv ad)).toArray ∧ U.heap.size = sz ∧ xKs E ad (xFr ad L.length sz) U U.heap ∧ va_P (E.1, E.2.1) vwCl (xwo E.2.2.1 ad L s) U.heap ∧ xD (xFr ad L.length sz) ad L.length ∧ xSc E s
def xQc (E : xE) (ad : Nat → Nat) (L : xLa) (sz : Nat) (Q : xQ) : Array Value → State → Outcome → State → Prop := fun _ st oc t => (∃ (r : Option Value) (s' : xS), oc = .returned (r.map (xcv ad)) ∧ Q r s' ∧ va_P (E.1, E.2.1) vwCl (xwo E.2.2.1 ad L s') t.heap ∧ xSc E s') ∧ va_F (xFr ad L.length sz) st t
def xws (n : Nat) : List Cond := .code (xsg n).1 (xsg n).2.1 (xsg n).2.2.1 (xsg n).2.2.2 :: xWs
def xrm (d : Nat) : Room := { frames := d, cells := 0, slots := 0, locals := 64 * d }
/-- method n at depth d: from the picture s, with these arguments, it returns, and Q holds of its answer and of the picture then -/
def xP (d : Nat) (L : xLa) (n : Nat) (As : List Value) (s : xS) (Q : xQ) : Prop :=
  ∀ (l : Launch) (E : xE) (ad : Nat → Nat) (sz : Nat), Met l (xsg n).1 (xws n) (xrm d) (xPc E ad L s As sz) (xQc E ad L sz Q) 0 0 (xFr ad L.length sz)
theorem xPc_blind (E : xE) (ad : Nat → Nat) (L : xLa) (s : xS) (As : List Value) (sz : Nat) : FrameBlind (xPc E ad L s As sz) := by
  intro a U g mk h
  obtain ⟨h1, h2, h3, h4⟩ := h
  exact ⟨h1, h2, h3.same rfl, h4⟩
/-- the locals -/
def xLv (LS : Array Slot) (mL : Nat) (ad : Nat → Nat) (ls : xLs) : Prop := ∃ l : List (Nat × Value), lv_has LS mL l ∧ ∀ i v, xlv ls i = some v → (i, xcv ad v) ∈ l
theorem xLv.at {LS : Array Slot} {mL : Nat} {ad : Nat → Nat} {ls : xLs} (h : xLv LS mL ad ls) {i : Nat} {v : Value} (hv : xlv ls i = some v) : LS[i]? = some (.val (xcv ad v)) := by
  obtain ⟨l, h1, h2⟩ := h
  exact h1.2.2 _ (h2 i v hv)
theorem xLv.size {LS : Array Slot} {mL : Nat} {ad : Nat → Nat} {ls : xLs} (h : xLv LS mL ad ls) : LS.size = mL := by
  obtain ⟨l, h1, -⟩ := h
  exact h1.1
theorem xse_e {v : Option Value} : ∀ {i : Nat} {ls : xLs} {k : xLs → Prop}, xse v i ls k → ∃ ls', k ls' ∧ ∀ j, xlv ls' j = if j = i then v else xlv ls j
  | _, [], _, h => by unfold xse at h; exact h.elim
  | 0, u :: r, k, h => by
    refine ⟨v :: r, h, fun j => ?_⟩
    cases j with
    | zero => simp [xlv]
    | succ j => simp [xlv]
  | i + 1, u :: r, k, h => by
    obtain ⟨r', h1, h2⟩ := xse_e (i := i) (ls := r) h
    refine ⟨u :: r', h1, fun j => ?_⟩
    cases j with
    | zero => simp [xlv]
    | succ j => simp [xlv, h2 j]
theorem xkl_e {i : Nat} {ls : xLs} {k : xLs → Prop} (h : xkl i ls k) : ∃ ls', k ls' ∧ ∀ j w, xlv ls' j = some w → xlv ls j = some w ∧ ¬ (j + 1 = i ∧ w.category = 2) := by
  unfold xkl at h
  split at h
  · exact ⟨ls, h, fun j w hw => ⟨hw, fun q => by omega⟩⟩
  · rename_i j0
    split at h
    · rename_i x hx
      obtain ⟨ls', h1, h2⟩ := xse_e h
      refine ⟨ls', h1, fun j w hw => ?_⟩
      rw [h2 j] at hw
      by_cases e : j = j0
      · rw [if_pos e] at hw; cases hw
      · rw [if_neg e] at hw
        exact ⟨hw, fun q => e (by omega)⟩
    · exact h.elim
    · rename_i n1 n2
      refine ⟨ls, h, fun j w hw => ⟨hw, fun q => ?_⟩⟩
      have e : j = j0 := by omega
      subst e
      cases w with
      | long x => exact n1 x hw
      | double x => exact n2 x hw
      | _ => simp [Value.category] at q
theorem xLv.st1 {LS : Array Slot} {mL : Nat} {ad : Nat → Nat} {ls : xLs} (h : xLv LS mL ad ls) {i : Nat} {v : Value} {k : xLs → Prop} (hk : xs1 ls i v k) : ∃ (ls' : xLs) (l : List (Nat × Value)), k ls' ∧ lv_has LS mL l ∧ (∀ j w, xlv ls j = some w → (j, xcv ad w) ∈ l) ∧ ∀ LS', lv_has LS' mL ((i, xcv ad v) :: l.filter (fun q => !(q.1 == i) && !(q.1 + 1 == i && q.2.category == 2))) → xLv LS' mL ad ls' := by
  obtain ⟨l, h1, h2⟩ := h
  obtain ⟨l1, a1, a2⟩ := xkl_e hk
  obtain ⟨l2, b1, b2⟩ := xse_e a1
  refine ⟨l2, l, b1, h1, h2, fun LS' hl => ⟨_, hl, fun j w hw => ?_⟩⟩
  rw [b2 j] at hw
  by_cases e : j = i
  · subst e
    rw [if_pos rfl] at hw
    cases hw
    exact List.mem_cons_self
  · rw [if_neg e] at hw
    obtain ⟨c1, c2⟩ := a2 j w hw
    refine List.mem_cons_of_mem _ (List.mem_filter.mpr ⟨h2 j w c1, ?_⟩)
    have hc : (xcv ad w).category = w.category := by cases w <;> rfl
    simp only [hc, Bool.and_eq_true, Bool.not_eq_true', beq_eq_false_iff_ne, ne_eq, Bool.and_eq_false_iff]
    refine ⟨e, ?_⟩
    by_cases f : j + 1 = i
    · exact Or.inr (fun q => c2 ⟨f, q⟩)
    · exact Or.inl f
theorem xLv.st2 {LS : Array Slot} {mL : Nat} {ad : Nat → Nat} {ls : xLs} (h : xLv LS mL ad ls) {i : Nat} {v : Value} {k : xLs → Prop} (hk : xs2 ls i v k) : ∃ (ls' : xLs) (l : List (Nat × Value)), k ls' ∧ lv_has LS mL l ∧ ∀ LS', lv_has LS' mL ((i, xcv ad v) :: l.filter (fun q => !(q.1 == i) && (!(q.1 == i + 1) && !(q.1 + 1 == i && q.2.category == 2)))) → xLv LS' mL ad ls' := by
  obtain ⟨l, h1, h2⟩ := h
  obtain ⟨l1, a1, a2⟩ := xkl_e hk
  obtain ⟨l2, b1, b2⟩ := xse_e a1
  obtain ⟨l3, d1, d2⟩ := xse_e b1
  refine ⟨l3, l, d1, h1, fun LS' hl => ⟨_, hl, fun j w hw => ?_⟩⟩
  rw [d2 j, b2 j] at hw
  by_cases e : j = i
  · subst e
    rw [if_pos rfl] at hw
    cases hw
    exact List.mem_cons_self
  · rw [if_neg e] at hw
    by_cases e1 : j = i + 1
    · rw [if_pos e1] at hw; cases hw
    · rw [if_neg e1] at hw
      obtain ⟨c1, c2⟩ := a2 j w hw
      refine List.mem_cons_of_mem _ (List.mem_filter.mpr ⟨h2 j w c1, ?_⟩)
      have hc : (xcv ad w).category = w.category := by cases w <;> rfl
      simp only [hc, Bool.and_eq_true, Bool.not_eq_true', beq_eq_false_iff_ne, ne_eq, Bool.and_eq_false_iff]
      refine ⟨e, e1, ?_⟩
      by_cases f : j + 1 = i
      · exact Or.inr (fun q => c2 ⟨f, q⟩)
      · exact Or.inl f
-- what the small words of the machine give
theorem xi1_e {st : List Value} {k : Int32 → List Value → Prop} (h : xi1 st k) : ∃ x r, st = .int x :: r ∧ k x r := by
  unfold xi1 at h
  split at h
  · exact ⟨_, _, rfl, h⟩
  · exact h.elim
theorem xi2_e {st : List Value} {k : Int32 → Int32 → List Value → Prop} (h : xi2 st k) : ∃ x y r, st = .int y :: .int x :: r ∧ k x y r := by
  unfold xi2 at h
  split at h
  · exact ⟨_, _, _, rfl, h⟩
  · exact h.elim
theorem xl1_e {st : List Value} {k : Int64 → List Value → Prop} (h : xl1 st k) : ∃ x r, st = .long x :: r ∧ k x r := by
  unfold xl1 at h
  split at h
  · exact ⟨_, _, rfl, h⟩
  · exact h.elim
theorem xl2_e {st : List Value} {k : Int64 → Int64 → List Value → Prop} (h : xl2 st k) : ∃ x y r, st = .long y :: .long x :: r ∧ k x y r := by
  unfold xl2 at h
  split at h
  · exact ⟨_, _, _, rfl, h⟩
  · exact h.elim
theorem xli_e {st : List Value} {k : Int64 → Int32 → List Value → Prop} (h : xli st k) : ∃ x y r, st = .int y :: .long x :: r ∧ k x y r := by
  unfold xli at h
  split at h
  · exact ⟨_, _, _, rfl, h⟩
  · exact h.elim
theorem xr1_e {st : List Value} {k : Nat → List Value → Prop} (h : xr1 st k) : ∃ (x : Nat) (r : List Value), st = .ref x :: r ∧ k x r := by
  unfold xr1 at h
  split at h
  · exact ⟨_, _, rfl, h⟩
  · exact h.elim
theorem xri_e {st : List Value} {k : Nat → Int32 → List Value → Prop} (h : xri st k) : ∃ (a : Nat) (i : Int32) (r : List Value), st = .int i :: .ref a :: r ∧ k a i r := by
  unfold xri at h
  split at h
  · exact ⟨_, _, _, rfl, h⟩
  · exact h.elim
theorem xrii_e {st : List Value} {k : Nat → Int32 → Int32 → List Value → Prop} (h : xrii st k) : ∃ (a : Nat) (i x : Int32) (r : List Value), st = .int x :: .int i :: .ref a :: r ∧ k a i x r := by
  unfold xrii at h
  split at h
  · exact ⟨_, _, _, _, rfl, h⟩
  · exact h.elim
theorem xrli_e {st : List Value} {k : Nat → Int32 → Int64 → List Value → Prop} (h : xrli st k) : ∃ (a : Nat) (i : Int32) (x : Int64) (r : List Value), st = .long x :: .int i :: .ref a :: r ∧ k a i x r := by
  unfold xrli at h
  split at h
  · exact ⟨_, _, _, _, rfl, h⟩
  · exact h.elim
theorem xv1_e {st : List Value} {k : Value → List Value → Prop} (h : xv1 st k) : ∃ v r, st = v :: r ∧ (∀ ad, (xcv ad v).category = 1) ∧ k v r := by
  unfold xv1 at h
  split at h
  · exact ⟨_, _, rfl, fun _ => rfl, h⟩
  · exact ⟨_, _, rfl, fun _ => rfl, h⟩
  · exact h.elim
theorem xpi_e {st : List Value} {k : Nat → Int32 → List Value → Prop} (h : xpi st k) : ∃ (a : Nat) (x : Int32) (r : List Value), st = .int x :: .ref a :: r ∧ k a x r := by
  unfold xpi at h
  split at h
  · exact ⟨_, _, _, rfl, h⟩
  · exact h.elim
theorem xpl_e {st : List Value} {k : Nat → Int64 → List Value → Prop} (h : xpl st k) : ∃ (a : Nat) (x : Int64) (r : List Value), st = .long x :: .ref a :: r ∧ k a x r := by
  unfold xpl at h
  split at h
  · exact ⟨_, _, _, rfl, h⟩
  · exact h.elim
theorem xcp_e {st : List Value} {k : Nat → Int32 → Nat → Int32 → Int32 → List Value → Prop} (h : xcp st k) : ∃ (a : Nat) (sp : Int32) (b : Nat) (dp n : Int32) (r : List Value), st = .int n :: .int dp :: .ref b :: .int sp :: .ref a :: r ∧ k a sp b dp n r := by
  unfold xcp at h
  split at h
  · exact ⟨_, _, _, _, _, _, rfl, h⟩
  · exact h.elim
theorem xldi_e {ls : xLs} {i : Nat} {k : Int32 → Prop} (h : xldi ls i k) : ∃ x, xlv ls i = some (.int x) ∧ k x := by
  unfold xldi at h
  split at h
  · rename_i x hx; exact ⟨x, hx, h⟩
  · exact h.elim
theorem xldl_e {ls : xLs} {i : Nat} {k : Int64 → Prop} (h : xldl ls i k) : ∃ x, xlv ls i = some (.long x) ∧ k x := by
  unfold xldl at h
  split at h
  · rename_i x hx; exact ⟨x, hx, h⟩
  · exact h.elim
theorem xldr_e {ls : xLs} {i : Nat} {k : Nat → Prop} (h : xldr ls i k) : ∃ x : Nat, xlv ls i = some (.ref x) ∧ k x := by
  unfold xldr at h
  split at h
  · rename_i x hx; exact ⟨x, hx, h⟩
  · exact h.elim
theorem xopt_e {α : Type} {o : Option α} {k : α → Prop} (h : xopt o k) : ∃ a, o = some a ∧ k a := by
  unfold xopt at h
  split at h
  · exact ⟨_, rfl, h⟩
  · exact h.elim
theorem xif_e {b : Bool} {P : Prop} (h : xif b P) : b = true ∧ P := by
  unfold xif at h
  split at h
  · exact ⟨rfl, h⟩
  · exact h.elim
theorem xpop_e : ∀ {n : Nat} {st acc : List Value} {k : List Value → List Value → Prop}, xpop n st acc k → ∃ As r, As.length = n ∧ st = As ++ r ∧ k (As.reverse ++ acc) r
  | 0, st, acc, k, h => ⟨[], st, rfl, rfl, h⟩
  | n + 1, v :: st, acc, k, h => by
    obtain ⟨As, r, h1, h2, h3⟩ := xpop_e (n := n) (st := st) (acc := v :: acc) h
    exact ⟨v :: As, r, by simp [h1], by rw [h2]; rfl, by simpa using h3⟩
  | n + 1, [], _, _, h => h.elim
theorem xcat1 (v : Value) (h1 : ∀ x, v ≠ .long x) (h2 : ∀ x, v ≠ .double x) : v.category = 1 := by
  cases v with
  | long x => exact absurd rfl (h1 x)
  | double x => exact absurd rfl (h2 x)
  | _ => rfl
theorem xfit_e : ∀ {st : List Value} {n : Nat} (ad : Nat → Nat), xfit st n = true → ((st.map (xcv ad)).map fun v => v.category).sum ≤ n
  | [], n, ad, _ => Nat.zero_le n
  | v :: r, n, ad, h => by
    have hc : (xcv ad v).category = v.category := by cases v <;> rfl
    rw [List.map_cons, List.map_cons, List.sum_cons, hc]
    cases v with
    | long x =>
      match n, h with
      | m + 2, h =>
        have := xfit_e (st := r) (n := m) ad h
        have e : (Value.long x).category = 2 := rfl
        omega
      | 0, h => cases h
      | 1, h => cases h
    | double x => cases h
    | int x =>
      match n, h with
      | m + 1, h =>
        have := xfit_e (st := r) (n := m) ad h
        have e : (Value.int x).category = 1 := rfl
        omega
      | 0, h => cases h
    | float x =>
      match n, h with
      | m + 1, h =>
        have := xfit_e (st := r) (n := m) ad h
        have e : (Value.float x).category = 1 := rfl
        omega
      | 0, h => cases h
    | null =>
      match n, h with
      | m + 1, h =>
        have := xfit_e (st := r) (n := m) ad h
        have e : (Value.null).category = 1 := rfl
        omega
      | 0, h => cases h
    | ref x =>
      match n, h with
      | m + 1, h =>
        have := xfit_e (st := r) (n := m) ad h
        have e : (Value.ref x).category = 1 := rfl
        omega
      | 0, h => cases h
    | retAddr x =>
      match n, h with
      | m + 1, h =>
        have := xfit_e (st := r) (n := m) ad h
        have e : (Value.retAddr x).category = 1 := rfl
        omega
      | 0, h => cases h
end
section
/-! tables of constants; what a row of code must be (by program) -/
def xcon (a b : Nat) : Int32 := if b = 0 then nI a else -(nI a)
def xcol (a b : Nat) : Int64 := if b = 0 then lN a else -(lN a)
def xcwL : List (Nat × Nat × Nat × Nat) := [(9, 110, 100000, 0)]
def xclL : List (Nat × Nat × Nat × Nat) := [(1, 61, 1000000, 1), (1, 63, 1000000, 0), (8, 166, 1, 1), (5, 115, 1, 1), (9, 194, 28530, 0), (9, 205, 120, 0), (9, 207, 121, 0), (9, 177, 26982, 0), (9, 235, 1000000, 0), (9, 237, 1000000, 1), (9, 295, 1, 1)]
def xacL : List (Nat × Nat) := [(3, 45), (0, 95)]
def xnsL : List (Nat × Nat × Nat) := [(0, 89, 122), (0, 92, 123), (5, 77, 124)]
theorem xcw_in : ∀ q ∈ xcwL, Cond.constant (xnm q.1) q.2.1 (xcon q.2.2.1 q.2.2.2) ∈ xWs := by
  intro q hq
  refine xWs_of (ws := xcwL.map fun q => Cond.constant (xnm q.1) q.2.1 (xcon q.2.2.1 q.2.2.2)) [(5, 125)] (by decide +kernel) (by decide +kernel) _ (List.mem_map.mpr ⟨q, hq, rfl⟩)
theorem xcl_in : ∀ q ∈ xclL, Cond.constantLong (xnm q.1) q.2.1 (xcol q.2.2.1 q.2.2.2) ∈ xWs := by
  intro q hq
  refine xWs_of (ws := xclL.map fun q => Cond.constantLong (xnm q.1) q.2.1 (xcol q.2.2.1 q.2.2.2)) [(3, 221), (3, 222), (4, 35), (4, 126), (5, 181), (5, 206), (5, 207), (5, 219), (6, 29), (6, 30), (6, 74)] (by decide +kernel) (by decide +kernel) _ (List.mem_map.mpr ⟨q, hq, rfl⟩)
theorem xac_in : ∀ q ∈ xacL, Cond.methodLink (xnm q.1) q.2 arraycopyName ∈ xWs := by
  intro q hq
  refine xWs_of (ws := xacL.map fun q => Cond.methodLink (xnm q.1) q.2 arraycopyName) [(3, 147), (4, 176)] rfl rfl _ (List.mem_map.mpr ⟨q, hq, rfl⟩)
theorem xac_w : ∀ w ∈ [Cond.native arraycopyName, Cond.static arraycopyName, Cond.initialized "java/lang/System"], w ∈ xWs := xWs_of [(3, 149), (3, 148), (1, 18)] rfl rfl
theorem xst_w : ∀ w ∈ [Cond.fieldLink (xnm 2) 70 "WrongEnd$Optics" "MOST" "[I", Cond.fieldLink (xnm 13) 38 "java/lang/String" "COMPACT_STRINGS" "Z", Cond.fieldLink (xnm 13) 9 "java/lang/String" "value" "[B", Cond.fieldLink (xnm 13) 15 "java/lang/String" "coder" "B"], w ∈ xWs := xWs_of [(3, 187), (2, 178), (6, 154), (6, 155)] rfl rfl
def xlen (i : Instr) : Nat := match i with
  | .aload _ => 2
  | .iload _ => 2
  | .lload _ => 2
  | .istore _ => 2
  | .astore _ => 2
  | .lstore _ => 2
  | .bipush _ => 2
  | .ldc _ => 2
  | .newarray _ => 2
  | .sipush _ => 3
  | .ldc2_w _ => 3
  | .iinc _ _ => 3
  | .getfield _ => 3
  | .putfield _ => 3
  | .getstatic _ => 3
  | .if_icmp _ _ => 3
  | .ifCond _ _ => 3
  | .goto _ => 3
  | .invokevirtual _ => 3
  | .invokestatic _ => 3
  | .invokespecial _ => 3
  | .new _ => 3
  | .anewarray _ => 3
  | .multianewarray _ _ => 4
  | _ => 1
def xlook (x : Int32) (ps : List (Nat × Nat)) (d : Nat) : Nat := match ps with
  | [] => d
  | q :: r => if x = nI q.1 then q.2 else xlook x r d
def xrk (own : Nat) : Nat := if own < 10 then own else if own = 13 then 112 else 199
def xokx (own mL : Nat) (rt : Option FieldType) (sws : List (Nat × List (Nat × Nat) × Nat)) (pc a b c : Nat) (i : Instr) : Bool := match i with
  | .istore_n k => Nat.blt k.val mL
  | .istore k => Nat.blt k mL
  | .astore_n k => Nat.blt k.val mL
  | .astore k => Nat.blt k mL
  | .lstore_n k => Nat.blt (k.val + 1) mL
  | .lstore k => Nat.blt (k + 1) mL
  | .iinc k n => Nat.blt k mL && decide (Int32.ofInt n = xcon a b)
  | .iconst n => decide (Int32.ofInt n = xcon a b)
  | .bipush n => decide ((Int8.ofInt n).toInt32 = xcon a b)
  | .sipush n => decide ((Int16.ofInt n).toInt32 = xcon a b)
  | .lconst n => decide (Int64.ofNat (n : Nat) = xcol a b)
  | .ldc idx => (match c with
    | 0 => decide ((own, idx, a, b) ∈ xcwL)
    | 1 => Nat.beq own 7 && Nat.beq idx 71
    | _ => Nat.beq own 7 && Nat.beq idx 87)
  | .ldc2_w idx => decide ((own, idx, a, b) ∈ xclL)
  | .getfield idx => decide ((own, idx, a, b) ∈ xfl) || (Nat.beq own 13 && Nat.beq a 112 && ((Nat.beq idx 9 && Nat.beq b 0) || (Nat.beq idx 15 && Nat.beq b 1)))
  | .putfield idx => decide ((own, idx, a, b) ∈ xfl) && !(xTb a b).2.2.2
  | .getstatic idx => (Nat.beq a 0 && Nat.beq own 2 && Nat.beq idx 70) || (Nat.beq a 1 && Nat.beq own 13 && Nat.beq idx 38)
  | .if_icmp _ off => decide ((pc : Int) + off = (a : Int))
  | .ifCond _ off => decide ((pc : Int) + off = (a : Int))
  | .goto off => decide ((pc : Int) + off = (a : Int))
  | .tableswitch df lo hi offs => decide ((pc : Int) + df = ((xfs sws pc).2 : Int)) && decide (hi - lo + 1 = (offs.size : Int)) && (xfs sws pc).1.all (fun q => decide (lo ≤ (q.1 : Int)) && decide ((q.1 : Int) ≤ hi)) && decide (hi < 1000) && decide (0 ≤ lo) && (List.range offs.size).all (fun j => decide ((offs[j]?).map (fun o => (pc : Int) + o) = some (xlook (nI (lo.toNat + j)) (xfs sws pc).1 (xfs sws pc).2 : Int)))
  | .lookupswitch df ps => decide ((pc : Int) + df = ((xfs sws pc).2 : Int)) && (ps.toList.zip (ps.toList.drop 1)).all (fun (a, next) => a.1 < next.1) && decide (ps.toList = (xfs sws pc).1.map (fun q => ((q.1 : Int), (q.2 : Int) - (pc : Int)))) && (xfs sws pc).1.all (fun q => decide (q.1 < 1000))
  | .invokevirtual idx => decide ((own, idx, b) ∈ xml) && Nat.beq (xmk b) 0 && Nat.beq c (xrk (xmc b)) && Nat.beq a (xna b) && Nat.blt b 233
  | .invokestatic idx => (match c with
    | 0 => decide ((own, idx, b) ∈ xml) && Nat.beq (xmk b) 1 && Nat.beq a (xna b) && Nat.blt b 233
    | 1 => decide ((own, idx, b) ∈ xnsL) && Nat.beq (xmk b) 1 && Nat.beq a (xna b) && Nat.blt b 233
    | 2 => decide ((own, idx) ∈ xacL)
    | _ => false)
  | .ireturn => (match c with
    | 0 => decide (rt = some .int)
    | 1 => decide (rt = some .boolean)
    | _ => decide (rt = some .char) || decide (rt = some .byte))
  | .lreturn => decide (rt = some .long)
  | .return_ => decide (rt = none)
  | _ => true
def xissw (i : Instr) : Bool := match i with
  | .tableswitch .. => true
  | .lookupswitch .. => true
  | _ => false
/-- a row of code is what the method's bytes say there -/
def xoke (own : Nat) (g : xSg) (sws : List (Nat × List (Nat × Nat) × Nat)) (q : xEn) : Bool :=
  decide (decode g.2.1 q.1 = .ok (q.2.1, bif xissw q.2.1 then q.2.2.1 - q.1 else xlen q.2.1)) && (xissw q.2.1 || Nat.beq q.2.2.1 (q.1 + xlen q.2.1)) && xokx own g.2.2.1 g.2.2.2 sws q.1 q.2.2.2.1 q.2.2.2.2.1 q.2.2.2.2.2 q.2.1
def xok (M : xM) : Bool := M.2.2.1.all (xoke M.2.1 (xsg M.1) M.2.2.2)
end
section
/-! the small machine is the machine: one instruction -/
def xCx (p : Program) (R : Room) (s0 : State) (m : MethodId) (args : Array Value) (c : Code) (cells slots : Nat) (E : xE) (ad : Nat → Nat) (A : Nat → Prop) (d : Nat) (M : xM) : Prop :=
  (p.tables.exec = Jvm.exec ∧ c.code = (xsg M.1).2.1 ∧ c.maxLocals = (xsg M.1).2.2.1 ∧ s0.vm.findClass (xnm M.2.1) = some m.cls) ∧ (∀ w ∈ xWs, w.before args s0 = true) ∧ xKs E ad A s0 s0.heap ∧ (d + 1 ≤ R.frames ∧ 64 * (d + 1) ≤ R.locals ∧ cells ≤ R.cells ∧ slots ≤ R.slots) ∧ (∀ q, s0.heap.size ≤ q → A q) ∧ xok M = true
def xLok (L : xLa) : Prop := L.length ≤ 900 ∧ ∀ k c, xnth L k = some c → c.1 < 105 ∧ c.2.1 < 2 ^ 31
def xI (E : xE) (ad : Nat → Nat) (A : Nat → Prop) (L : xLa) (s : xS) (s0 : State) (H : Heap) (locs : List Loc) (mL : Nat) (LS : Array Slot) (ls : xLs) : Prop :=
  va_P (E.1, E.2.1) vwCl (xwo E.2.2.1 ad L s) H ∧ xD A ad L.length ∧ va_S A s0.heap H locs ∧ xLv LS mL ad ls ∧ xSc E s ∧ xLok L
def xretd (M : xM) (pc : Nat) (r : Option Value) : Prop := match r with
  | none => decode (xsg M.1).2.1 pc = .ok (.return_, 1) ∧ (xsg M.1).2.2.2 = none
  | some (.int v) => decode (xsg M.1).2.1 pc = .ok (.ireturn, 1) ∧ ∃ ty, (xsg M.1).2.2.2 = some ty ∧ narrow ty (.int v) = .int v
  | some (.long _) => decode (xsg M.1).2.1 pc = .ok (.lreturn, 1) ∧ (xsg M.1).2.2.2 = some .long
  | _ => False
def xRet (p : Program) (l : Launch) (e : Env) (R : Room) (s0 : State) (m : MethodId) (args : Array Value) (below : List Frame) (meth : Method) (c : Code) (cells slots : Nat) (Qf : State → Prop) (E : xE) (ad : Nat → Nat) (A : Nat → Prop) (L : xLa) (M : xM) (Q : xQ) : Prop :=
  ∀ (r : Option Value) (s : xS) (H : Heap) (locs : List Loc) (pc : Nat) (LS : Array Slot), Q r s → va_P (E.1, E.2.1) vwCl (xwo E.2.2.1 ad L s) H → va_S A s0.heap H locs → xSc E s → xretd M pc r → W p l e R s0 m args below meth c H locs cells slots Qf (F0 m pc LS (r.toList.map (xcv ad)))
/-- method M at depth d + 1 stands at pc, with these locals, this stack, this picture: it will return, and Q holds then -/
def xX (d : Nat) (M : xM) (Q : xQ) (L : xLa) (pc : Nat) (ls : xLs) (st : List Value) (s : xS) : Prop :=
  ∀ (p : Program) (l : Launch) (e : Env) (R : Room) (s0 : State) (m : MethodId) (args : Array Value) (below : List Frame) (meth : Method) (c : Code) (cells slots : Nat) (Qf : State → Prop) (E : xE) (ad : Nat → Nat) (A : Nat → Prop), xCx p R s0 m args c cells slots E ad A d M → xRet p l e R s0 m args below meth c cells slots Qf E ad A L M Q → ∀ (H : Heap) (locs : List Loc) (LS : Array Slot), xI E ad A L s s0 H locs (xsg M.1).2.2.1 LS ls → W p l e R s0 m args below meth c H locs cells slots Qf (F0 m pc LS (st.map (xcv ad)))
theorem xfd_e : ∀ {l : List xEn} {pc : Nat} {q : xEn}, xfd l pc = some q → q ∈ l ∧ q.1 = pc
  | [], _, _, h => by cases h
  | e :: r, pc, q, h => by
    unfold xfd at h
    cases hb : Nat.beq e.1 pc with
    | true =>
      rw [hb] at h
      cases h
      exact ⟨List.mem_cons_self, Nat.eq_of_beq_eq_true hb⟩
    | false =>
      rw [hb] at h
      obtain ⟨h1, h2⟩ := xfd_e (l := r) h
      exact ⟨List.mem_cons_of_mem _ h1, h2⟩
theorem xN_cl : ∀ a, a < 10 → vwCl[a]? = some (xC a, xTb a, xN a) := by
  intro a ha
  match a, ha with
  | 0, _ => rfl
  | 1, _ => rfl
  | 2, _ => rfl
  | 3, _ => rfl
  | 4, _ => rfl
  | 5, _ => rfl
  | 6, _ => rfl
  | 7, _ => rfl
  | 8, _ => rfl
  | 9, _ => rfl
  | n + 10, h => omega
theorem xnm_C : ∀ a, a < 10 → xnm a = xC a := by decide +kernel
def xlayL : List Cond := vwCl.flatMap (fun q => u_ws q.1 q.2.1 q.2.2)
def xtyf (a : Nat) : Nat → FieldType := match a with
  | 0 => tyX0
  | 1 => tyX1
  | 2 => tyX3
  | 3 => tyX4
  | 4 => tyX5
  | 5 => tyX6
  | 6 => tyX8
  | 7 => tyX9
  | 8 => tyX10
  | _ => tyX11
theorem xty_ok : ∀ a, a < 10 → ∀ k, k < xN a → parseFieldDescriptor (xTb a k).2.2.1 = some (xtyf a k) := by
  intro a ha
  match a, ha with
  | 0, _ => exact tyX0_ok
  | 1, _ => exact tyX1_ok
  | 2, _ => exact tyX3_ok
  | 3, _ => exact tyX4_ok
  | 4, _ => exact tyX5_ok
  | 5, _ => exact tyX6_ok
  | 6, _ => exact tyX8_ok
  | 7, _ => exact tyX9_ok
  | 8, _ => exact tyX10_ok
  | 9, _ => exact tyX11_ok
  | n + 10, h => omega
theorem xnm_ok : ∀ a, a < 10 → ∀ x, x < xN a → ∀ y, y < xN a → x ≠ y → (xTb a x).2.1 ≠ (xTb a y).2.1 := by
  intro a ha
  match a, ha with
  | 0, _ => exact nmX0
  | 1, _ => exact nmX1
  | 2, _ => exact nmX3
  | 3, _ => exact nmX4
  | 4, _ => exact nmX5
  | 5, _ => exact nmX6
  | 6, _ => exact nmX8
  | 7, _ => exact nmX9
  | 8, _ => exact nmX10
  | 9, _ => exact nmX11
  | n + 10, h => omega
theorem xfk_ty : ∀ a, a < 10 → ∀ b, b < xN a → (xfk a b = 0 → xtyf a b = .int) ∧ (xfk a b = 1 → xtyf a b = .long) ∧ (xfk a b = 3 → xtyf a b = .boolean) := by decide +kernel
theorem xfk_lt : ∀ a, a < 10 → ∀ b, b < xN a → xfk a b < 4 := by decide +kernel
theorem xfl_a : ∀ q ∈ xfl, q.2.2.1 < 10 := by decide +kernel
set_option maxRecDepth 100000 in
theorem xlay_in : ∀ w ∈ xlayL, w ∈ xWs := xWs_of [(1, 75), (1, 77), (1, 79), (1, 81), (1, 83), (1, 85), (1, 87), (1, 89), (1, 91), (1, 93), (1, 95), (1, 97), (1, 99), (1, 101), (1, 103), (1, 105), (1, 107), (1, 231), (1, 233), (1, 235), (2, 2), (2, 4), (2, 6), (2, 8), (1, 148), (1, 150), (1, 152), (1, 154), (1, 193), (1, 195), (1, 197), (1, 199), (1, 201), (1, 203), (1, 205), (1, 207), (2, 33), (2, 35), (2, 37), (2, 39), (2, 41), (2, 43), (1, 122), (1, 124), (1, 169), (1, 171), (1, 173), (1, 175), (1, 177), (1, 179), (2, 54), (2, 56), (2, 58), (2, 60), (2, 62), (2, 64), (2, 66), (4, 233), (4, 235), (4, 237), (4, 239), (5, 1), (5, 3), (5, 5), (5, 7), (5, 9), (5, 11), (5, 13), (5, 15), (5, 17), (5, 19), (5, 21), (5, 23), (5, 25), (5, 27), (5, 29), (5, 31), (5, 33), (5, 35), (5, 37), (5, 39), (5, 41), (5, 43), (5, 45), (5, 47), (5, 49), (5, 51), (5, 53)] rfl rfl
theorem xlay_of {a : Nat} (ha : a < 10) : ∀ w ∈ u_ws (xC a) (xTb a) (xN a), w ∈ xWs := fun w hw => xlay_in w (List.mem_flatMap.mpr ⟨_, List.mem_of_getElem? (xN_cl a ha), hw⟩)
end
section
theorem xro_k (k : Nat) : 110 ≤ (xro k).1 := by
  unfold xro
  split <;> decide
theorem xlk_w {L : xLa} {k : Nat} {c : xLc} (h : xlk L k = c) (hc : c.1 < 110) : xnth L k = some c := by
  unfold xlk at h
  split at h
  · rename_i c2 h2
    rw [h2, h]
  · have := xro_k k
    rw [h] at this
    omega
theorem xlk_r {L : xLa} (hL : xLok L) {k : Nat} {c : xLc} (h : xlk L k = c) (hc : 105 ≤ c.1) : xro k = c := by
  unfold xlk at h
  split at h
  · rename_i c2 h2
    have := (hL.2 k c2 h2).1
    rw [h] at this
    omega
  · exact h
theorem xro_c {k : Nat} {c : xLc} (h : xro k = c) (hc : c.1 < 199) : (k = 900 ∧ c = (110, 0, [])) ∨ (k = 902 ∧ c = (111, 4, [])) ∨ (k = 903 ∧ c = (112, 0, [some 905])) ∨ (k = 904 ∧ c = (112, 1, [some 906])) ∨ (k = 905 ∧ c = (113, 86, [])) ∨ (k = 906 ∧ c = (113, 13, [])) := by
  unfold xro at h
  split at h
  · exact Or.inl ⟨rfl, h.symm⟩
  · exact Or.inr (Or.inl ⟨rfl, h.symm⟩)
  · exact Or.inr (Or.inr (Or.inl ⟨rfl, h.symm⟩))
  · exact Or.inr (Or.inr (Or.inr (Or.inl ⟨rfl, h.symm⟩)))
  · exact Or.inr (Or.inr (Or.inr (Or.inr (Or.inl ⟨rfl, h.symm⟩))))
  · exact Or.inr (Or.inr (Or.inr (Or.inr (Or.inr ⟨rfl, h.symm⟩))))
  · rw [← h] at hc
    exact absurd hc (by decide)
theorem xlen_w {L : xLa} (hL : xLok L) {k : Nat} {c : xLc} (h : xnth L k = some c) {j : Nat} (hj : j < c.2.1) : j < 2 ^ 31 ∧ vp_in (nI j) c.2.1 ∧ (nI j).toNatClampNeg = j := by
  have h1 := (hL.2 k c h).2
  have h2 : j < 2 ^ 31 := by omega
  exact ⟨h2, vp_in_nI hj h1, nI_clamp h2⟩
theorem xce_o {cA : Nat → ClassId} {ad : Nat → Nat} {s : xS} {k : Nat} {c : xLc} (h : c.1 < 100) : xce cA ad s k c = .inr (c.1, (List.range (xN c.1)).map (fun j => xfv ad s k c j)) := if_pos h
theorem xce_i {cA : Nat → ClassId} {ad : Nat → Nat} {s : xS} {k : Nat} {c : xLc} (h : c.1 = 100) : xce cA ad s k c = .inl (cA 100, c.2.1, .inl (s.1 k)) := by
  unfold xce
  rw [h]
  rfl
theorem xce_z {cA : Nat → ClassId} {ad : Nat → Nat} {s : xS} {k : Nat} {c : xLc} (h : c.1 = 101) : xce cA ad s k c = .inl (cA 101, c.2.1, .inl (s.1 k)) := by
  unfold xce
  rw [h]
  rfl
theorem xce_l {cA : Nat → ClassId} {ad : Nat → Nat} {s : xS} {k : Nat} {c : xLc} (h : c.1 = 102) : xce cA ad s k c = .inl (cA 102, c.2.1, .inr (.inl (s.2 k))) := by
  unfold xce
  rw [h]
  rfl
theorem xce_p {cA : Nat → ClassId} {ad : Nat → Nat} {s : xS} {k : Nat} {c : xLc} (h : c.1 = 103) : xce cA ad s k c = .inl (cA 103, c.2.1, .inr (.inr (.inr (.inr (fun i => (c.2.2.getD i none).map ad))))) := by
  unfold xce
  rw [h]
  rfl
theorem xce_q {cA : Nat → ClassId} {ad : Nat → Nat} {s : xS} {k : Nat} {c : xLc} (h : c.1 = 104) : xce cA ad s k c = .inl (cA 104, c.2.1, .inr (.inr (.inr (.inr (fun i => (c.2.2.getD i none).map ad))))) := by
  unfold xce
  rw [h]
  rfl
theorem xgetD {α : Type} {l : List (Option α)} {i : Nat} {o : Option α} (h : xnth l i = some o) : l.getD i none = o := by
  rw [xnth_get] at h
  rw [List.getD_eq_getElem?_getD, h]
  rfl
theorem xfs_get {cA : Nat → ClassId} {ad : Nat → Nat} {s : xS} {k : Nat} {c : xLc} {b n : Nat} (hb : b < n) : ((List.range n).map (fun j => xfv ad s k c j))[b]? = some (xfv ad s k c b) := by
  rw [List.getElem?_map, List.getElem?_range hb]
  rfl
theorem xgf_a {a b k : Nat} {ps : List (Option Nat)} {s : xS} {r : List Value} {K : List Value → Prop} (h : match xfk a b with
      | 0 => K (.int (s.1 k b) :: r)
      | 1 => K (.long (s.2 k b) :: r)
      | 2 => xopt (xnth ps b) fun o => xopt o fun q => K (.ref q :: r)
      | 3 => K (.int (s.1 k b) :: r)
      | 4 => K (.int (nI 0) :: r)
      | _ => False) : (xfk a b = 0 ∧ K (.int (s.1 k b) :: r)) ∨ (xfk a b = 1 ∧ K (.long (s.2 k b) :: r)) ∨ (xfk a b = 2 ∧ ∃ q, xnth ps b = some (some q) ∧ K (.ref q :: r)) ∨ (xfk a b = 3 ∧ K (.int (s.1 k b) :: r)) ∨ (xfk a b = 4 ∧ K (.int (nI 0) :: r)) := by
  split at h
  · rename_i hf; exact Or.inl ⟨hf, h⟩
  · rename_i hf; exact Or.inr (Or.inl ⟨hf, h⟩)
  · rename_i hf
    obtain ⟨o, g1, h⟩ := xopt_e h
    obtain ⟨q, g2, h⟩ := xopt_e h
    exact Or.inr (Or.inr (Or.inl ⟨hf, q, by rw [g1, g2], h⟩))
  · rename_i hf; exact Or.inr (Or.inr (Or.inr (Or.inl ⟨hf, h⟩)))
  · rename_i hf; exact Or.inr (Or.inr (Or.inr (Or.inr ⟨hf, h⟩)))
  · exact h.elim
theorem xgf_e {L : xLa} {a b : Nat} {st : List Value} {s : xS} {K : List Value → Prop} (h : xgf L a b st s K) : ∃ (k : Nat) (r : List Value) (c : xLc), st = .ref k :: r ∧ xlk L k = c ∧ c.1 = a ∧ ((xfk a b = 0 ∧ K (.int (s.1 k b) :: r)) ∨ (xfk a b = 1 ∧ K (.long (s.2 k b) :: r)) ∨ (xfk a b = 2 ∧ ∃ q, xnth c.2.2 b = some (some q) ∧ K (.ref q :: r)) ∨ (xfk a b = 3 ∧ K (.int (s.1 k b) :: r)) ∨ (xfk a b = 4 ∧ K (.int (nI 0) :: r))) := by
  unfold xgf xr1 at h
  split at h
  · rename_i k r
    refine ⟨k, r, xlk L k, rfl, rfl, ?_⟩
    generalize xlk L k = c at h ⊢
    obtain ⟨kd, n, ps⟩ := c
    dsimp only at h ⊢
    obtain ⟨h1, h⟩ := xif_e h
    refine ⟨Nat.eq_of_beq_eq_true h1, ?_⟩
    exact xgf_a h
  · exact h.elim
theorem xpf_e {L : xLa} {a b : Nat} {st : List Value} {s : xS} {K : List Value → xS → Prop} (h : xpf L a b st s K) : ∃ (k : Nat) (r : List Value) (c : xLc), xnth L k = some c ∧ c.1 = a ∧ ((xfk a b = 0 ∧ ∃ x, st = .int x :: .ref k :: r ∧ K r (va_up s.1 k (upd (s.1 k) b x), s.2)) ∨ (xfk a b = 1 ∧ ∃ x, st = .long x :: .ref k :: r ∧ K r (s.1, va_up s.2 k (vp_updL (s.2 k) b x))) ∨ (xfk a b = 3 ∧ ∃ x, st = .int x :: .ref k :: r ∧ (x = nI 0 ∨ x = nI 1) ∧ K r (va_up s.1 k (upd (s.1 k) b x), s.2))) := by
  unfold xpf at h
  split at h
  · rename_i hf
    obtain ⟨k, x, r, rfl, h⟩ := xpi_e h
    obtain ⟨c, h1, h⟩ := xopt_e h
    obtain ⟨h2, h⟩ := xif_e h
    exact ⟨k, r, c, h1, Nat.eq_of_beq_eq_true h2, Or.inl ⟨hf, x, rfl, h⟩⟩
  · rename_i hf
    obtain ⟨k, x, r, rfl, h⟩ := xpl_e h
    obtain ⟨c, h1, h⟩ := xopt_e h
    obtain ⟨h2, h⟩ := xif_e h
    exact ⟨k, r, c, h1, Nat.eq_of_beq_eq_true h2, Or.inr (Or.inl ⟨hf, x, rfl, h⟩)⟩
  · rename_i hf
    obtain ⟨k, x, r, rfl, h⟩ := xpi_e h
    obtain ⟨c, h1, h⟩ := xopt_e h
    obtain ⟨h2, h⟩ := xif_e h
    exact ⟨k, r, c, h1, Nat.eq_of_beq_eq_true h2, Or.inr (Or.inr ⟨hf, x, rfl, h⟩)⟩
  · exact h.elim
theorem xial_e {L : xLa} {st : List Value} {s : xS} {K : List Value → Prop} (h : xial L st s K) : ∃ (k : Nat) (i : Int32) (r : List Value) (c : xLc), st = .int i :: .ref k :: r ∧ xlk L k = c ∧ ((c.1 = 100 ∧ ∃ j : Nat, (j < c.2.1 ∧ i = nI j) ∧ K (.int (s.1 k j) :: r)) ∨ (c.1 = 110 ∧ ∃ j : Nat, (nI j < s.1 901 0 ∧ j < 2 ^ 31 ∧ i = nI j) ∧ K (.int (s.1 900 j) :: r)) ∨ (c.1 = 111 ∧ ∃ j : Nat, (j < 4 ∧ i = nI j) ∧ K (.int (xmost j) :: r))) := by
  unfold xial xri at h
  split at h
  · rename_i i k r
    refine ⟨k, i, r, xlk L k, rfl, rfl, ?_⟩
    generalize xlk L k = c at h ⊢
    obtain ⟨kd, n, ps⟩ := c
    dsimp only at h ⊢
    split at h
    · exact Or.inl ⟨rfl, h⟩
    · exact Or.inr (Or.inl ⟨rfl, h⟩)
    · exact Or.inr (Or.inr ⟨rfl, h⟩)
    · exact h.elim
  · exact h.elim
theorem xbal_e {L : xLa} {st : List Value} {s : xS} {K : List Value → Prop} (h : xbal L st s K) : ∃ (k : Nat) (i : Int32) (r : List Value) (c : xLc), st = .int i :: .ref k :: r ∧ xlk L k = c ∧ ((c.1 = 101 ∧ ∃ j : Nat, (j < c.2.1 ∧ i = nI j) ∧ K (.int (s.1 k j) :: r)) ∨ (c.1 = 113 ∧ ∃ j : Nat, (j < c.2.1 ∧ i = nI j) ∧ K (.int (nI ((xtxt c.2.1).getD j 0)) :: r))) := by
  unfold xbal xri at h
  split at h
  · rename_i i k r
    refine ⟨k, i, r, xlk L k, rfl, rfl, ?_⟩
    generalize xlk L k = c at h ⊢
    obtain ⟨kd, n, ps⟩ := c
    dsimp only at h ⊢
    split at h
    · exact Or.inl ⟨rfl, h⟩
    · exact Or.inr ⟨rfl, h⟩
    · exact h.elim
  · exact h.elim
theorem xaln_e {L : xLa} {st : List Value} {s : xS} {K : List Value → Prop} (h : xaln L st s K) : ∃ (k : Nat) (r : List Value) (c : xLc), st = .ref k :: r ∧ xlk L k = c ∧ ((c.1 = 110 ∧ K (.int (s.1 901 0) :: r)) ∨ (c.1 = 100 ∧ K (.int (nI c.2.1) :: r)) ∨ (c.1 = 101 ∧ K (.int (nI c.2.1) :: r)) ∨ (c.1 = 113 ∧ K (.int (nI c.2.1) :: r))) := by
  unfold xaln xr1 at h
  split at h
  · rename_i k r
    refine ⟨k, r, xlk L k, rfl, rfl, ?_⟩
    generalize xlk L k = c at h ⊢
    obtain ⟨kd, n, ps⟩ := c
    dsimp only at h ⊢
    split at h
    · exact Or.inl ⟨rfl, h⟩
    · exact Or.inr (Or.inl ⟨rfl, h⟩)
    · exact Or.inr (Or.inr (Or.inl ⟨rfl, h⟩))
    · exact Or.inr (Or.inr (Or.inr ⟨rfl, h⟩))
    · exact h.elim
  · exact h.elim
theorem xcst_e {a b : Nat} {k : Int32 → Prop} (h : xcst a b k) : k (xcon a b) := by
  unfold xcst at h
  unfold xcon
  split at h
  · exact h
  · rename_i hb
    rw [if_neg hb]
    exact h
theorem xcsl_e {a b : Nat} {k : Int64 → Prop} (h : xcsl a b k) : k (xcol a b) := by
  unfold xcsl at h
  unfold xcol
  split at h
  · exact h
  · rename_i hb
    rw [if_neg hb]
    exact h
theorem xinc_e {x : Int32} {a b : Nat} {k : Int32 → Prop} (h : xinc x a b k) : k (x + xcon a b) := by
  unfold xinc at h
  unfold xcon
  split at h
  · exact h
  · rename_i hb
    rw [if_neg hb, ← Int32.sub_eq_add_neg]
    exact h
theorem xsw_e {x : Int32} {d : Nat} {K : Nat → Prop} : ∀ {ps : List (Nat × Nat)}, xsw x ps d K → K (xlook x ps d)
  | [], h => h
  | q :: r, h => by
    unfold xlook
    by_cases e : x = nI q.1
    · rw [if_pos e]
      exact h.1 e
    · rw [if_neg e]
      exact xsw_e (ps := r) (h.2 e)
theorem xlook_d {x : Int32} {d : Nat} : ∀ {ps : List (Nat × Nat)}, (∀ q ∈ ps, x ≠ nI q.1) → xlook x ps d = d
  | [], _ => rfl
  | q :: r, h => by
    unfold xlook
    rw [if_neg (h q List.mem_cons_self)]
    exact xlook_d (ps := r) (fun z hz => h z (List.mem_cons_of_mem _ hz))
theorem xoff {x : Int32} {d pc : Nat} {df : Int} (hd : (pc : Int) + df = (d : Int)) : ∀ {ps : List (Nat × Nat)}, (∀ q ∈ ps, q.1 < 1000) → (pc : Int) + Op.lookupswitch.offset (ps.map (fun q => ((q.1 : Int), (q.2 : Int) - (pc : Int)))) df x.toInt = (xlook x ps d : Int)
  | [], _ => hd
  | q :: r, h => by
    unfold xlook
    rw [List.map_cons, Op.lookupswitch.offset_cons]
    have hq := h q List.mem_cons_self
    have hi : (nI q.1).toInt = (q.1 : Int) := nI_toInt (by omega)
    by_cases e : x = nI q.1
    · rw [if_pos e, if_pos (by rw [e, hi])]
      omega
    · rw [if_neg e, if_neg (fun z => e (Int32.toInt_inj.mp (by rw [hi]; first | exact z | exact z.symm)))]
      exact xoff hd (ps := r) (fun z hz => h z (List.mem_cons_of_mem _ hz))
theorem xgood {w : Cond} (h : w ∈ xWs) : w ∈ xWs ∧ ((w.onTables && w.keeps) = true ∨ ∃ ty, w = .arrayClass ty) := ⟨h, good_of_word (List.mem_filter.mp h).2⟩
theorem xws_good {n : Nat} (h : n < 233) : GoodIn xWs (xws n) := by
  intro w hw
  rcases List.mem_cons.mp hw with rfl | hw
  · exact xgood (xmw_in h _ List.mem_cons_self)
  · exact xgood hw
theorem xmf_e {n : Nat} (h : n < 233) : (xsg n).1.cls = xnm (xmc n) ∧ (xsg n).1.cls ≠ "java/lang/invoke/MethodHandle" ∧ (xsg n).1.cls ≠ "java/lang/invoke/VarHandle" ∧ (parseMethodDescriptor (xsg n).1.desc).map (fun d => d.parameters.length) = some (xna n) ∧ plainFor (xsg n).1 = true ∧ (xsg n).2.2.1 ≤ 40 := by
  have := xmf_in h
  unfold xmf at this
  simp only [Bool.and_eq_true, decide_eq_true_eq] at this
  exact ⟨this.1.1.1.1.1, this.1.1.1.1.2, this.1.1.1.2, this.1.1.2, this.1.2, this.2⟩
theorem xfl_T : ∀ q ∈ xfl, (xTb q.2.2.1 q.2.2.2).1 = xC q.2.2.1 := by decide +kernel
theorem xvz : ∀ x, (x = nI 0 ∨ x = nI 1) → narrow .boolean (.int x) = .int x ∧ fits .boolean (.int x) = true ∧ vp_nar .boolean x = x := by
  intro x h
  rcases h with rfl | rfl
  · exact ⟨by decide +kernel, by decide +kernel, by decide +kernel⟩
  · exact ⟨by decide +kernel, by decide +kernel, by decide +kernel⟩
theorem xvb : ∀ n, n < 128 → narrow .byte (.int (nI n)) = .int (nI n) := by decide +kernel
theorem xbyD (i j : Nat) (hi : i < 2) : (xby.getD i []).getD j 0 = nI ((xtxt ([86, 13].getD i 0)).getD j 0) := by
  have key : ∀ l : List Nat, (l.map nI).getD j 0 = nI (l.getD j 0) := by
    intro l
    rw [List.getD_eq_getElem?_getD, List.getD_eq_getElem?_getD, List.getElem?_map]
    cases l[j]? with
    | none => exact nI_0.symm
    | some v => rfl
  match i, hi with
  | 0, _ => exact key _
  | 1, _ => exact key _
section XGO
variable {p : Program} {l : Launch} {e : Env} {R : Room} {s0 : State} {m : MethodId} {args : Array Value} {below : List Frame} {meth : Method} {c : Code} {H : Heap} {locs : List Loc} {cells slots : Nat} {Qf : State → Prop}
/-- behind a call -/
theorem xgo {E : xE} {ad : Nat → Nat} {A : Nat → Prop} {L : xLa} {pc : Nat} {LS : Array Slot} {st0 rest : List Value} {a : Array Value} {Q' : xQ} (hr : va_Run p l e R s0 m args below meth c H locs cells slots 0 0 (F0 m pc LS st0) rest (xQc E ad L H.size Q' a) (xFr ad L.length H.size)) (hS : va_S A s0.heap H locs) (hF : ∀ q, xFr ad L.length H.size q → A q)
    (kk : ∀ (r : Option Value) (s' : xS) (H1 : Heap) (locs1 : List Loc), Q' r s' → va_P (E.1, E.2.1) vwCl (xwo E.2.2.1 ad L s') H1 → xSc E s' → va_S A s0.heap H1 locs1 → W p l e R s0 m args below meth c H1 locs1 cells slots Qf (F0 m (pc + 3) LS ((r.map (xcv ad)).toList ++ rest))) : W p l e R s0 m args below meth c H locs cells slots Qf (F0 m pc LS st0) := by
  intro T hT X
  obtain ⟨v, st₀, t, T', L1, h0, X', hL1, e1, e2, ⟨⟨r, s', hv, hq, hP, hSc⟩, hz, hk⟩, st⟩ := hr T hT X
  cases hv
  rw [h0] at hz hk
  obtain ⟨t2, a1, b1⟩ := kk r s' T'.heap (locs ++ L1) hq (by rw [e1]; exact hP) hSc ⟨Nat.le_trans hS.1 (by rw [e1]; exact hz), fun q h1 h2 => by rw [e1, hk q (Nat.lt_of_lt_of_le h1 hS.1) (fun z => h2 (hF q z))]; exact hS.2.1 q h1 h2, fun q hq => by
      rcases List.mem_append.mp hq with h | h
      · exact hS.2.2 q h
      · exact hF _ (hL1 q h)⟩ T' rfl X'
  exact ⟨t2, st t2 a1, b1⟩
end XGO
end
section
theorem xlal_e {L : xLa} {st : List Value} {s : xS} {K : List Value → Prop} (h : xri st fun k j r => (match xlk L k with
    | (kd, n, _) => xif (Nat.beq kd 102) (∃ q : Nat, (q < n ∧ j = nI q) ∧ K (.long (s.2 k q) :: r)))) : ∃ (k : Nat) (i : Int32) (r : List Value) (c : xLc), st = .int i :: .ref k :: r ∧ xlk L k = c ∧ c.1 = 102 ∧ ∃ q : Nat, (q < c.2.1 ∧ i = nI q) ∧ K (.long (s.2 k q) :: r) := by
  unfold xri at h
  split at h
  · rename_i i k r
    refine ⟨k, i, r, xlk L k, rfl, rfl, ?_⟩
    generalize xlk L k = c at h ⊢
    obtain ⟨kd, n, ps⟩ := c
    dsimp only at h ⊢
    obtain ⟨h1, h⟩ := xif_e h
    exact ⟨Nat.eq_of_beq_eq_true h1, h⟩
  · exact h.elim
theorem xaal_e {L : xLa} {st : List Value} {K : List Value → Prop} (h : xri st fun k j r => (match xlk L k with
    | (kd, n, ps) => (match kd with
      | 103 => ∃ z : Nat, (z < n ∧ j = nI z) ∧ xopt (xnth ps z) fun o => xopt o fun q => K (.ref q :: r)
      | 104 => ∃ z : Nat, (z < n ∧ j = nI z) ∧ xopt (xnth ps z) fun o => xopt o fun q => K (.ref q :: r)
      | _ => False))) : ∃ (k : Nat) (z : Nat) (r : List Value) (c : xLc) (q : Nat), st = .int (nI z) :: .ref k :: r ∧ xlk L k = c ∧ (c.1 = 103 ∨ c.1 = 104) ∧ z < c.2.1 ∧ xnth c.2.2 z = some (some q) ∧ K (.ref q :: r) := by
  unfold xri at h
  split at h
  · rename_i i k r
    generalize hc : xlk L k = c at h
    obtain ⟨kd, n, ps⟩ := c
    dsimp only at h
    split at h
    · obtain ⟨z, ⟨h1, rfl⟩, h⟩ := h
      obtain ⟨o, g1, h⟩ := xopt_e h
      obtain ⟨q, rfl, h⟩ := xopt_e h
      exact ⟨k, z, r, _, q, rfl, hc, Or.inl rfl, h1, g1, h⟩
    · obtain ⟨z, ⟨h1, rfl⟩, h⟩ := h
      obtain ⟨o, g1, h⟩ := xopt_e h
      obtain ⟨q, rfl, h⟩ := xopt_e h
      exact ⟨k, z, r, _, q, rfl, hc, Or.inr rfl, h1, g1, h⟩
    · exact h.elim
  · exact h.elim
theorem xnest {U : State} (h : xNw U) {own idx b : Nat} (hm : (own, idx, b) ∈ xnsL) : va_Nw (.methodLinkNest (xnm own) idx (xsg b).1 "WrongEnd") U := by
  obtain ⟨h1, h2, h3, h4, h5, -⟩ := h
  simp only [xnsL, List.mem_cons, List.not_mem_nil, or_false, Prod.mk.injEq] at hm
  rcases hm with ⟨rfl, rfl, rfl⟩ | ⟨rfl, rfl, rfl⟩ | ⟨rfl, rfl, rfl⟩
  · exact h3
  · exact h4
  · exact h5
/-! one instruction of the small machine is one of the machine -/
set_option maxHeartbeats 8000000 in
set_option maxRecDepth 100000 in
theorem xst_sound {d : Nat} {M : xM} {Q : xQ} {L : xLa} {K : Nat → xLs → List Value → xS → Prop} {pc : Nat} {ls : xLs} {st : List Value} {s : xS} (hK : ∀ pc ls st s, K pc ls st s → xX d M Q L pc ls st s) (h : xst (xP d L) Q K L M pc ls st s) : xX d M Q L pc ls st s := by
  intro p l e R s0 m args below meth c cells slots Qf E ad A CX RT H locs LS hI
  have go : ∀ (nx : Nat) (ls : xLs) (st : List Value) (s : xS) (H : Heap) (locs : List Loc) (LS : Array Slot), K nx ls st s → xI E ad A L s s0 H locs (xsg M.1).2.2.1 LS ls → W p l e R s0 m args below meth c H locs cells slots Qf (F0 m nx LS (st.map (xcv ad))) := fun nx ls st s H locs LS hk hi => hK nx ls st s hk p l e R s0 m args below meth c cells slots Qf E ad A CX RT H locs LS hi
  obtain ⟨⟨hx, hb, hml, hown⟩, hts, hKs, ⟨hfr, hlo, hce, hsl⟩, hA, hok⟩ := CX
  have hI' := hI
  obtain ⟨hP, hD, hS, hL, hSc, hLk⟩ := hI
  obtain ⟨mn, own, code, sws⟩ := M
  unfold xst at h
  dsimp only at h
  cases hfd : xfd code pc with
  | none => rw [hfd] at h; exact h.elim
  | some q =>
  obtain ⟨pc0, i, nx, a, b, c0⟩ := q
  rw [hfd] at h
  dsimp only at h
  obtain ⟨hmem, hpc⟩ := xfd_e hfd
  have hpc : pc0 = pc := hpc
  subst hpc
  have hq : xoke own (xsg mn) sws (pc0, i, nx, a, b, c0) = true := List.all_eq_true.mp hok _ hmem
  unfold xoke at hq
  rw [Bool.and_eq_true, Bool.and_eq_true, decide_eq_true_eq] at hq
  obtain ⟨⟨hdec, hnx⟩, hox⟩ := hq
  clear hmem hfd hok
  cases i with
  | aload_n k =>
    obtain rfl : nx = pc0 + 1 := Nat.eq_of_beq_eq_true hnx
    obtain ⟨x, h1, h⟩ := xldr_e h
    exact lv_aload_n hx hb hdec rfl (hL.at h1) (go _ _ _ _ _ _ _ h hI')
  | iload_n k =>
    obtain rfl : nx = pc0 + 1 := Nat.eq_of_beq_eq_true hnx
    obtain ⟨x, h1, h⟩ := xldi_e h
    exact lv_iload_n hx hb hdec rfl (hL.at h1) (go _ _ _ _ _ _ _ h hI')
  | lload_n k =>
    obtain rfl : nx = pc0 + 1 := Nat.eq_of_beq_eq_true hnx
    obtain ⟨x, h1, h⟩ := xldl_e h
    exact lv_lload_n hx hb hdec rfl (hL.at h1) (go _ _ _ _ _ _ _ h hI')
  | aload k =>
    obtain rfl : nx = pc0 + 2 := Nat.eq_of_beq_eq_true hnx
    obtain ⟨x, h1, h⟩ := xldr_e h
    exact lv_aload hx hb hdec (hL.at h1) (go _ _ _ _ _ _ _ h hI')
  | iload k =>
    obtain rfl : nx = pc0 + 2 := Nat.eq_of_beq_eq_true hnx
    obtain ⟨x, h1, h⟩ := xldi_e h
    exact lv_iload hx hb hdec (hL.at h1) (go _ _ _ _ _ _ _ h hI')
  | lload k =>
    obtain rfl : nx = pc0 + 2 := Nat.eq_of_beq_eq_true hnx
    obtain ⟨x, h1, h⟩ := xldl_e h
    exact lv_lload hx hb hdec (hL.at h1) (go _ _ _ _ _ _ _ h hI')
  | istore_n k =>
    obtain rfl : nx = pc0 + 1 := Nat.eq_of_beq_eq_true hnx
    obtain ⟨x, r, rfl, h⟩ := xi1_e h
    obtain ⟨ls', lv, h, g1, g2, g3⟩ := hL.st1 h
    exact lv_istore_n hx hb hdec rfl g1 (Nat.le_of_ble_eq_true hox) rfl (fun LS' hl => go _ _ _ _ _ _ _ h ⟨hP, hD, hS, g3 LS' hl, hSc, hLk⟩)
  | astore_n k =>
    obtain rfl : nx = pc0 + 1 := Nat.eq_of_beq_eq_true hnx
    obtain ⟨x, r, rfl, h⟩ := xr1_e h
    obtain ⟨ls', lv, h, g1, g2, g3⟩ := hL.st1 h
    exact lv_astore_n hx hb hdec rfl g1 (Nat.le_of_ble_eq_true hox) rfl (fun LS' hl => go _ _ _ _ _ _ _ h ⟨hP, hD, hS, g3 LS' hl, hSc, hLk⟩)
  | istore k =>
    obtain rfl : nx = pc0 + 2 := Nat.eq_of_beq_eq_true hnx
    obtain ⟨x, r, rfl, h⟩ := xi1_e h
    obtain ⟨ls', lv, h, g1, g2, g3⟩ := hL.st1 h
    exact lv_istore hx hb hdec g1 (Nat.le_of_ble_eq_true hox) rfl (fun LS' hl => go _ _ _ _ _ _ _ h ⟨hP, hD, hS, g3 LS' hl, hSc, hLk⟩)
  | astore k =>
    obtain rfl : nx = pc0 + 2 := Nat.eq_of_beq_eq_true hnx
    obtain ⟨x, r, rfl, h⟩ := xr1_e h
    obtain ⟨ls', lv, h, g1, g2, g3⟩ := hL.st1 h
    exact lv_astore hx hb hdec g1 (Nat.le_of_ble_eq_true hox) rfl (fun LS' hl => go _ _ _ _ _ _ _ h ⟨hP, hD, hS, g3 LS' hl, hSc, hLk⟩)
  | lstore_n k =>
    obtain rfl : nx = pc0 + 1 := Nat.eq_of_beq_eq_true hnx
    obtain ⟨x, r, rfl, h⟩ := xl1_e h
    obtain ⟨ls', lv, h, g1, g3⟩ := hL.st2 h
    exact lv_lstore_n hx hb hdec rfl g1 (Nat.le_of_ble_eq_true hox) rfl (fun LS' hl => go _ _ _ _ _ _ _ h ⟨hP, hD, hS, g3 LS' hl, hSc, hLk⟩)
  | lstore k =>
    obtain rfl : nx = pc0 + 2 := Nat.eq_of_beq_eq_true hnx
    obtain ⟨x, r, rfl, h⟩ := xl1_e h
    obtain ⟨ls', lv, h, g1, g3⟩ := hL.st2 h
    exact lv_lstore hx hb hdec g1 (Nat.le_of_ble_eq_true hox) rfl (fun LS' hl => go _ _ _ _ _ _ _ h ⟨hP, hD, hS, g3 LS' hl, hSc, hLk⟩)
  | iinc k n =>
    obtain rfl : nx = pc0 + 3 := Nat.eq_of_beq_eq_true hnx
    obtain ⟨x, h1, h⟩ := xldi_e h
    have h := xinc_e h
    have hox : (Nat.blt k (xsg mn).2.2.1 && decide (Int32.ofInt n = xcon a b)) = true := hox
    rw [Bool.and_eq_true, decide_eq_true_eq] at hox
    obtain ⟨ls', lv, h, g1, g2, g3⟩ := hL.st1 h
    obtain ⟨kk, hkk⟩ := List.getElem?_of_mem (g2 k (.int x) h1)
    exact lv_iinc (v := x + xcon a b) hx hb hdec g1 hkk (by rw [hox.2]) (Nat.le_of_ble_eq_true hox.1) rfl (fun LS' hl => go _ _ _ _ _ _ _ h ⟨hP, hD, hS, g3 LS' hl, hSc, hLk⟩)
  | iconst n =>
    obtain rfl : nx = pc0 + 1 := Nat.eq_of_beq_eq_true hnx
    have h : xcst a b fun v => K (pc0 + 1) ls (.int v :: st) s := h
    have h := xcst_e h
    exact lv_iconst hx hb hdec (of_decide_eq_true hox) (go _ _ _ _ _ _ _ h hI')
  | bipush n =>
    obtain rfl : nx = pc0 + 2 := Nat.eq_of_beq_eq_true hnx
    have h : xcst a b fun v => K (pc0 + 2) ls (.int v :: st) s := h
    have h := xcst_e h
    exact lv_bipush hx hb hdec (of_decide_eq_true hox) (go _ _ _ _ _ _ _ h hI')
  | sipush n =>
    obtain rfl : nx = pc0 + 3 := Nat.eq_of_beq_eq_true hnx
    have h : xcst a b fun v => K (pc0 + 3) ls (.int v :: st) s := h
    have h := xcst_e h
    exact lv_sipush hx hb hdec (of_decide_eq_true hox) (go _ _ _ _ _ _ _ h hI')
  | lconst n =>
    obtain rfl : nx = pc0 + 1 := Nat.eq_of_beq_eq_true hnx
    have h : xcsl a b fun v => K (pc0 + 1) ls (.long v :: st) s := h
    have h := xcsl_e h
    exact lv_lconst hx hb hdec (of_decide_eq_true hox) (go _ _ _ _ _ _ _ h hI')
  | ldc idx =>
    obtain rfl : nx = pc0 + 2 := Nat.eq_of_beq_eq_true hnx
    match c0, h, hox with
    | 0, h, hox =>
      have h : xcst a b fun v => K (pc0 + 2) ls (.int v :: st) s := h
      have h := xcst_e h
      exact lv_ldc hx hb hown (hts _ (xcw_in (own, idx, a, b) (of_decide_eq_true hox))) hdec (go _ _ _ _ _ _ _ h hI')
    | 1, h, hox =>
      have hox : (Nat.beq own 7 && Nat.beq idx 71) = true := hox
      rw [Bool.and_eq_true] at hox
      obtain rfl : own = 7 := Nat.eq_of_beq_eq_true hox.1
      obtain rfl : idx = 71 := Nat.eq_of_beq_eq_true hox.2
      exact va_ldcS hx hb hown hKs.2.2.2.2.2.1.1 hdec (go _ _ _ _ _ _ _ h hI')
    | n + 2, h, hox =>
      have hox : (Nat.beq own 7 && Nat.beq idx 87) = true := hox
      rw [Bool.and_eq_true] at hox
      obtain rfl : own = 7 := Nat.eq_of_beq_eq_true hox.1
      obtain rfl : idx = 87 := Nat.eq_of_beq_eq_true hox.2
      exact va_ldcS hx hb hown hKs.2.2.2.2.2.1.2 hdec (go _ _ _ _ _ _ _ h hI')
  | ldc2_w idx =>
    obtain rfl : nx = pc0 + 3 := Nat.eq_of_beq_eq_true hnx
    have h : xcsl a b fun v => K (pc0 + 3) ls (.long v :: st) s := h
    have h := xcsl_e h
    exact lv_ldc2 hx hb hown (hts _ (xcl_in (own, idx, a, b) (of_decide_eq_true hox))) hdec (go _ _ _ _ _ _ _ h hI')
  | iadd =>
    obtain rfl : nx = pc0 + 1 := Nat.eq_of_beq_eq_true hnx
    obtain ⟨x, y, r, rfl, h⟩ := xi2_e h
    exact lv_iadd hx hb hdec (go _ _ _ _ _ _ _ h hI')
  | isub =>
    obtain rfl : nx = pc0 + 1 := Nat.eq_of_beq_eq_true hnx
    obtain ⟨x, y, r, rfl, h⟩ := xi2_e h
    exact lv_isub hx hb hdec (go _ _ _ _ _ _ _ h hI')
  | imul =>
    obtain rfl : nx = pc0 + 1 := Nat.eq_of_beq_eq_true hnx
    obtain ⟨x, y, r, rfl, h⟩ := xi2_e h
    exact lv_imul hx hb hdec (go _ _ _ _ _ _ _ h hI')
  | iand =>
    obtain rfl : nx = pc0 + 1 := Nat.eq_of_beq_eq_true hnx
    obtain ⟨x, y, r, rfl, h⟩ := xi2_e h
    exact lv_iand hx hb hdec (go _ _ _ _ _ _ _ h hI')
  | ior =>
    obtain rfl : nx = pc0 + 1 := Nat.eq_of_beq_eq_true hnx
    obtain ⟨x, y, r, rfl, h⟩ := xi2_e h
    exact lv_ior hx hb hdec (go _ _ _ _ _ _ _ h hI')
  | ishl =>
    obtain rfl : nx = pc0 + 1 := Nat.eq_of_beq_eq_true hnx
    obtain ⟨x, y, r, rfl, h⟩ := xi2_e h
    exact lv_ishl hx hb hdec (go _ _ _ _ _ _ _ h hI')
  | ishr =>
    obtain rfl : nx = pc0 + 1 := Nat.eq_of_beq_eq_true hnx
    obtain ⟨x, y, r, rfl, h⟩ := xi2_e h
    exact lv_ishr hx hb hdec (go _ _ _ _ _ _ _ h hI')
  | iushr =>
    obtain rfl : nx = pc0 + 1 := Nat.eq_of_beq_eq_true hnx
    obtain ⟨x, y, r, rfl, h⟩ := xi2_e h
    exact lv_iushr hx hb hdec rfl (go _ _ _ _ _ _ _ h hI')
  | idiv =>
    obtain rfl : nx = pc0 + 1 := Nat.eq_of_beq_eq_true hnx
    obtain ⟨x, y, r, rfl, h0, h⟩ := xi2_e h
    exact lv_idiv hx hb hdec (by rw [← nI_0]; exact h0) (go _ _ _ _ _ _ _ h hI')
  | irem =>
    obtain rfl : nx = pc0 + 1 := Nat.eq_of_beq_eq_true hnx
    obtain ⟨x, y, r, rfl, h0, h⟩ := xi2_e h
    exact lv_irem hx hb hdec (by rw [← nI_0]; exact h0) (go _ _ _ _ _ _ _ h hI')
  | ineg =>
    obtain rfl : nx = pc0 + 1 := Nat.eq_of_beq_eq_true hnx
    obtain ⟨x, r, rfl, h⟩ := xi1_e h
    exact lv_ineg hx hb hdec (go _ _ _ _ _ _ _ h hI')
  | ladd =>
    obtain rfl : nx = pc0 + 1 := Nat.eq_of_beq_eq_true hnx
    obtain ⟨x, y, r, rfl, h⟩ := xl2_e h
    exact lv_ladd hx hb hdec (go _ _ _ _ _ _ _ h hI')
  | lsub =>
    obtain rfl : nx = pc0 + 1 := Nat.eq_of_beq_eq_true hnx
    obtain ⟨x, y, r, rfl, h⟩ := xl2_e h
    exact lv_lsub hx hb hdec (go _ _ _ _ _ _ _ h hI')
  | lmul =>
    obtain rfl : nx = pc0 + 1 := Nat.eq_of_beq_eq_true hnx
    obtain ⟨x, y, r, rfl, h⟩ := xl2_e h
    exact lv_lmul hx hb hdec (go _ _ _ _ _ _ _ h hI')
  | lor =>
    obtain rfl : nx = pc0 + 1 := Nat.eq_of_beq_eq_true hnx
    obtain ⟨x, y, r, rfl, h⟩ := xl2_e h
    exact lv_lor hx hb hdec (go _ _ _ _ _ _ _ h hI')
  | ldiv =>
    obtain rfl : nx = pc0 + 1 := Nat.eq_of_beq_eq_true hnx
    obtain ⟨x, y, r, rfl, h0, h⟩ := xl2_e h
    exact lv_ldiv hx hb hdec h0 (go _ _ _ _ _ _ _ h hI')
  | lrem =>
    obtain rfl : nx = pc0 + 1 := Nat.eq_of_beq_eq_true hnx
    obtain ⟨x, y, r, rfl, h0, h⟩ := xl2_e h
    exact lv_lrem hx hb hdec h0 (go _ _ _ _ _ _ _ h hI')
  | lneg =>
    obtain rfl : nx = pc0 + 1 := Nat.eq_of_beq_eq_true hnx
    obtain ⟨x, r, rfl, h⟩ := xl1_e h
    exact lv_lneg hx hb hdec (go _ _ _ _ _ _ _ h hI')
  | lshl =>
    obtain rfl : nx = pc0 + 1 := Nat.eq_of_beq_eq_true hnx
    obtain ⟨x, y, r, rfl, h⟩ := xli_e h
    exact lv_lshl hx hb hdec rfl (go _ _ _ _ _ _ _ h hI')
  | lcmp =>
    obtain rfl : nx = pc0 + 1 := Nat.eq_of_beq_eq_true hnx
    obtain ⟨x, y, r, rfl, h⟩ := xl2_e h
    exact W.lcmp hx hb hdec (go _ _ _ _ _ _ _ h hI')
  | i2l =>
    obtain rfl : nx = pc0 + 1 := Nat.eq_of_beq_eq_true hnx
    obtain ⟨x, r, rfl, h⟩ := xi1_e h
    exact lv_i2l hx hb hdec rfl (go _ _ _ _ _ _ _ h hI')
  | l2i =>
    obtain rfl : nx = pc0 + 1 := Nat.eq_of_beq_eq_true hnx
    obtain ⟨x, r, rfl, h⟩ := xl1_e h
    exact lv_l2i hx hb hdec rfl (go _ _ _ _ _ _ _ h hI')
  | i2c =>
    obtain rfl : nx = pc0 + 1 := Nat.eq_of_beq_eq_true hnx
    obtain ⟨x, r, rfl, h⟩ := xi1_e h
    exact lv_i2c hx hb hdec rfl (go _ _ _ _ _ _ _ h hI')
  | i2b =>
    obtain rfl : nx = pc0 + 1 := Nat.eq_of_beq_eq_true hnx
    obtain ⟨x, r, rfl, h⟩ := xi1_e h
    exact lv_i2b hx hb hdec rfl (go _ _ _ _ _ _ _ h hI')
  | dup =>
    obtain rfl : nx = pc0 + 1 := Nat.eq_of_beq_eq_true hnx
    have h : xv1 st fun v r => K (pc0 + 1) ls (v :: v :: r) s := h
    obtain ⟨v, r, rfl, hc, h⟩ := xv1_e h
    exact lv_dup hx hb hdec (hc ad) (go _ _ _ _ _ _ _ h hI')
  | pop =>
    obtain rfl : nx = pc0 + 1 := Nat.eq_of_beq_eq_true hnx
    have h : xv1 st fun _ r => K (pc0 + 1) ls r s := h
    obtain ⟨v, r, rfl, hc, h⟩ := xv1_e h
    exact lv_pop hx hb hdec (hc ad) (go _ _ _ _ _ _ _ h hI')
  | dup2 =>
    obtain rfl : nx = pc0 + 1 := Nat.eq_of_beq_eq_true hnx
    obtain ⟨k, j, r, rfl, h⟩ := xri_e h
    exact lv_dup2_11 hx hb hdec rfl rfl (go _ _ _ _ _ _ _ h hI')
  | pop2 =>
    obtain rfl : nx = pc0 + 1 := Nat.eq_of_beq_eq_true hnx
    obtain ⟨x, r, rfl, h⟩ := xl1_e h
    exact lv_pop2_2 hx hb hdec rfl (go _ _ _ _ _ _ _ h hI')
  | getfield idx =>
    obtain rfl : nx = pc0 + 3 := Nat.eq_of_beq_eq_true hnx
    have h9 : xgf L a b st s fun st => K (pc0 + 3) ls st s := h
    clear h
    obtain ⟨k, r, cc, rfl, hlk, hca, h⟩ := xgf_e h9
    clear h9
    have hox : (decide ((own, idx, a, b) ∈ xfl) || (Nat.beq own 13 && Nat.beq a 112 && ((Nat.beq idx 9 && Nat.beq b 0) || (Nat.beq idx 15 && Nat.beq b 1)))) = true := hox
    rw [Bool.or_eq_true, decide_eq_true_eq] at hox
    rcases hox with hox | hox
    · have ha := xfl_a _ hox
      have hbn := xfl_N _ hox
      have hT := xfl_T _ hox
      dsimp only at ha hbn hT
      have hw := xlk_w hlk (by omega)
      have he := xwo_at (cA := E.2.2.1) (ad := ad) (s := s) hw
      rw [xce_o (by omega)] at he
      subst hca
      have hf := xfk_lt _ ha _ hbn
      have hlink := hts _ (xfw_in _ (List.mem_map.mpr ⟨_, hox, rfl⟩))
      have hv := xfs_get (cA := E.2.2.1) (ad := ad) (s := s) (k := k) (c := cc) hbn
      have row : ∀ v : Value, xfv ad s k cc b = v → W p l e R s0 m args below meth c H locs cells slots Qf (F0 m (pc0 + 3) LS (v :: r.map (xcv ad))) → W p l e R s0 m args below meth c H locs cells slots Qf (F0 m pc0 LS (.ref (ad k) :: r.map (xcv ad))) := fun v hv1 kk => va_get hx hb hts (xlay_of ha) hown hKs.1 hP k he (xN_cl _ ha) b hbn hlink (fun z hz => by rw [hT] at hz; exact hz) (v := v) (by rw [hv, hv1]) hdec kk
      rcases h with ⟨hk, h⟩ | ⟨hk, h⟩ | ⟨hk, q, hq, h⟩ | ⟨hk, h⟩ | ⟨hk, h⟩
      · exact row (.int (s.1 k b)) (by unfold xfv; rw [hk]; rfl) (go _ _ _ _ _ _ _ h hI')
      · exact row (.long (s.2 k b)) (by unfold xfv; rw [hk]; rfl) (go _ _ _ _ _ _ _ h hI')
      · exact row (.ref (ad q)) (by unfold xfv; rw [hk]; show va_rf ((cc.2.2.getD b none).map ad) = _; rw [xgetD hq]; rfl) (go _ _ _ _ _ _ _ h hI')
      · exact row (.int (s.1 k b)) (by unfold xfv; rw [hk]; rfl) (go _ _ _ _ _ _ _ h hI')
      · omega
    · rw [Bool.and_eq_true, Bool.and_eq_true, Bool.or_eq_true, Bool.and_eq_true, Bool.and_eq_true] at hox
      obtain ⟨⟨ho, ha⟩, hob⟩ := hox
      obtain rfl : own = 13 := Nat.eq_of_beq_eq_true ho
      obtain rfl : a = 112 := Nat.eq_of_beq_eq_true ha
      have hro := xro_c (xlk_r hLk hlk (by omega)) (by omega)
      have hSt := hKs.2.2.2.2.2.2.1
      have hi : ∃ i, i < 2 ∧ k = 903 + i ∧ cc.2.2 = [some (905 + i)] := by
        rcases hro with ⟨-, q⟩ | ⟨-, q⟩ | ⟨q1, q⟩ | ⟨q1, q⟩ | ⟨-, q⟩ | ⟨-, q⟩
        · rw [q] at hca; exact absurd hca (by decide)
        · rw [q] at hca; exact absurd hca (by decide)
        · exact ⟨0, by decide, q1, by rw [q]⟩
        · exact ⟨1, by decide, q1, by rw [q]⟩
        · rw [q] at hca; exact absurd hca (by decide)
        · rw [q] at hca; exact absurd hca (by decide)
      obtain ⟨i, hi2, rfl, hps⟩ := hi
      rcases hob with hob | hob
      · obtain rfl : idx = 9 := Nat.eq_of_beq_eq_true hob.1
        obtain rfl : b = 0 := Nat.eq_of_beq_eq_true hob.2
        have hk2 : xfk 112 0 = 2 := by decide
        rcases h with ⟨hk, -⟩ | ⟨hk, -⟩ | ⟨hk, q, hq, h⟩ | ⟨hk, -⟩ | ⟨hk, -⟩
        · rw [hk2] at hk; cases hk
        · rw [hk2] at hk; cases hk
        · rw [hps] at hq
          cases hq
          exact vk_getf hx hb (hSt.1 i hi2).2.2.1 hS hown (hts (.fieldLink (xnm 13) 9 "java/lang/String" "value" "[B") (xst_w _ (by simp))) (fun _ h => h) hdec (go _ _ _ _ _ _ _ h hI')
        · rw [hk2] at hk; cases hk
        · rw [hk2] at hk; cases hk
      · obtain rfl : idx = 15 := Nat.eq_of_beq_eq_true hob.1
        obtain rfl : b = 1 := Nat.eq_of_beq_eq_true hob.2
        have hk2 : xfk 112 1 = 4 := by decide
        rcases h with ⟨hk, -⟩ | ⟨hk, -⟩ | ⟨hk, -⟩ | ⟨hk, -⟩ | ⟨hk, h⟩
        · rw [hk2] at hk; cases hk
        · rw [hk2] at hk; cases hk
        · rw [hk2] at hk; cases hk
        · rw [hk2] at hk; cases hk
        · rw [nI_0] at h
          exact vk_getf hx hb (hSt.1 i hi2).2.1 hS hown (hts (.fieldLink (xnm 13) 15 "java/lang/String" "coder" "B") (xst_w _ (by simp))) (fun _ h => h) hdec (go _ _ _ _ _ _ _ h hI')
  | putfield idx =>
    obtain rfl : nx = pc0 + 3 := Nat.eq_of_beq_eq_true hnx
    have h9 : xpf L a b st s fun st s => K (pc0 + 3) ls st s := h
    clear h
    obtain ⟨k, r, cc, hw, hca, h⟩ := xpf_e h9
    clear h9
    have hox : (decide ((own, idx, a, b) ∈ xfl) && !(xTb a b).2.2.2) = true := hox
    rw [Bool.and_eq_true, decide_eq_true_eq, Bool.not_eq_true'] at hox
    obtain ⟨hox, hfin⟩ := hox
    have ha := xfl_a _ hox
    have hbn := xfl_N _ hox
    have hT := xfl_T _ hox
    dsimp only at ha hbn hT
    have he := xwo_at (cA := E.2.2.1) (ad := ad) (s := s) hw
    rw [xce_o (by omega)] at he
    subst hca
    have hlink := hts _ (xfw_in _ (List.mem_map.mpr ⟨_, hox, rfl⟩))
    have hft := xfk_ty _ ha _ hbn
    have hlen : b < ((List.range (xN cc.1)).map (fun j => xfv ad s k cc j)).length := by simpa using hbn
    have row : ∀ (v w : Value) (ty : FieldType) (s' : xS), xtyf cc.1 b = ty → narrow ty v = v → fits ty v = true → (∀ j, xfv ad s' k cc j = if j = b then v else xfv ad s k cc j) → (∀ j, j ≠ k → s'.1 j = s.1 j) → (∀ j, j ≠ k → s'.2 j = s.2 j) → xSc E s' → K (pc0 + 3) ls r s' → W p l e R s0 m args below meth c H locs cells slots Qf (F0 m pc0 LS (v :: .ref (ad k) :: r.map (xcv ad))) := by
      intro v w ty s' hty hna hfi hxf h1 h2 hsc hk
      refine va_put hx hb hts (xlay_of ha) (xtyf cc.1) (xty_ok _ ha) (xnm_ok _ ha) hown hKs.1 hP (hD.va _ _) hS k he (xN_cl _ ha) b hbn hlink (fun z hz => by rw [hT] at hz; exact hz) hfin (ty := ty) (by rw [← hty]; exact xty_ok _ ha _ hbn) hna hfi hlen hdec (fun H1 locs1 g1 g2 g3 => ?_)
      have hset : (xwo E.2.2.1 ad L s).set k (ad k, .inr (cc.1, ((List.range (xN cc.1)).map (fun j => xfv ad s k cc j)).set b v)) = xwo E.2.2.1 ad L s' := by
        refine xwo_set hw ?_ h1 h2
        rw [xce_o (by omega)]
        congr 2
        apply List.ext_getElem?
        intro j
        rw [List.getElem?_set, List.getElem?_map]
        by_cases hj : j < xN cc.1
        · rw [List.getElem?_map, List.getElem?_range hj]
          show _ = some (xfv ad s' k cc j)
          rw [hxf j]
          by_cases e : b = j
          · rw [if_pos e, if_pos hlen, if_pos e.symm]
          · rw [if_neg e, if_neg (fun z => e z.symm)]
            rfl
        · have hr0 : (List.range (xN cc.1))[j]? = none := List.getElem?_eq_none (by rw [List.length_range]; omega)
          rw [List.getElem?_map, hr0]
          have e : b ≠ j := by omega
          rw [if_neg e]
          rfl
      rw [hset] at g1
      exact go _ _ _ _ _ _ _ hk ⟨g1, hD, g3, hL, hsc, hLk⟩
    have hkl : k < 900 := by
      have := hLk.1
      rw [xnth_get] at hw
      have := (List.getElem?_eq_some_iff.mp hw).1
      omega
    rcases h with ⟨hk, x, rfl, h⟩ | ⟨hk, x, rfl, h⟩ | ⟨hk, x, rfl, hx01, h⟩
    · refine row (.int x) (.int x) .int (va_up s.1 k (upd (s.1 k) b x), s.2) (hft.1 hk) rfl rfl (fun j => ?_) (fun j hj => va_up_ne _ _ hj) (fun j hj => rfl) ⟨by rw [← hSc.1]; exact va_up_ne _ _ (by omega), by rw [← hSc.2]; exact congrFun (va_up_ne _ _ (by omega)) 0⟩ h
      unfold xfv
      by_cases e : j = b
      · subst e
        rw [if_pos rfl, hk]
        show Value.int (va_up s.1 k (upd (s.1 k) j x) k j) = _
        rw [va_up_self, pk_us]
      · rw [if_neg e]
        show (match xfk cc.1 j with | 0 => Value.int (va_up s.1 k (upd (s.1 k) b x) k j) | 1 => _ | 3 => Value.int (va_up s.1 k (upd (s.1 k) b x) k j) | _ => _) = _
        rw [va_up_self, pk_un e]
        rfl
    · refine row (.long x) (.long x) .long (s.1, va_up s.2 k (vp_updL (s.2 k) b x)) (hft.2.1 hk) rfl rfl (fun j => ?_) (fun j hj => rfl) (fun j hj => va_up_ne _ _ hj) hSc h
      unfold xfv
      by_cases e : j = b
      · subst e
        rw [if_pos rfl, hk]
        show Value.long (va_up s.2 k (vp_updL (s.2 k) j x) k j) = _
        rw [va_up_self, pk_uLs]
      · rw [if_neg e]
        show (match xfk cc.1 j with | 0 => _ | 1 => Value.long (va_up s.2 k (vp_updL (s.2 k) b x) k j) | 3 => _ | _ => _) = _
        rw [va_up_self, pk_uLn e]
        rfl
    · obtain ⟨z1, z2, -⟩ := xvz x hx01
      refine row (.int x) (.int x) .boolean (va_up s.1 k (upd (s.1 k) b x), s.2) (hft.2.2 hk) z1 z2 (fun j => ?_) (fun j hj => va_up_ne _ _ hj) (fun j hj => rfl) ⟨by rw [← hSc.1]; exact va_up_ne _ _ (by omega), by rw [← hSc.2]; exact congrFun (va_up_ne _ _ (by omega)) 0⟩ h
      unfold xfv
      by_cases e : j = b
      · subst e
        rw [if_pos rfl, hk]
        show Value.int (va_up s.1 k (upd (s.1 k) j x) k j) = _
        rw [va_up_self, pk_us]
      · rw [if_neg e]
        show (match xfk cc.1 j with | 0 => Value.int (va_up s.1 k (upd (s.1 k) b x) k j) | 1 => _ | 3 => Value.int (va_up s.1 k (upd (s.1 k) b x) k j) | _ => _) = _
        rw [va_up_self, pk_un e]
        rfl
  | getstatic idx =>
    obtain rfl : nx = pc0 + 3 := Nat.eq_of_beq_eq_true hnx
    have hox : ((Nat.beq a 0 && Nat.beq own 2 && Nat.beq idx 70) || (Nat.beq a 1 && Nat.beq own 13 && Nat.beq idx 38)) = true := hox
    rw [Bool.or_eq_true, Bool.and_eq_true, Bool.and_eq_true, Bool.and_eq_true, Bool.and_eq_true] at hox
    rcases hox with ⟨⟨q1, q2⟩, q3⟩ | ⟨⟨q1, q2⟩, q3⟩
    · obtain rfl : a = 0 := Nat.eq_of_beq_eq_true q1
      obtain rfl : own = 2 := Nat.eq_of_beq_eq_true q2
      obtain rfl : idx = 70 := Nat.eq_of_beq_eq_true q3
      exact va_gets hx hb hKs.2.2.1.1 hS hown (hts (.fieldLink (xnm 2) 70 "WrongEnd$Optics" "MOST" "[I") (xst_w _ (by simp))) (fun _ h => h) hdec (go _ _ _ _ _ _ _ h hI')
    · obtain rfl : a = 1 := Nat.eq_of_beq_eq_true q1
      obtain rfl : own = 13 := Nat.eq_of_beq_eq_true q2
      obtain rfl : idx = 38 := Nat.eq_of_beq_eq_true q3
      exact va_gets hx hb hKs.2.2.2.1 hS hown (hts (.fieldLink (xnm 13) 38 "java/lang/String" "COMPACT_STRINGS" "Z") (xst_w _ (by simp))) (fun _ h => h) hdec (go _ _ _ _ _ _ _ h hI')
  | iaload =>
    obtain rfl : nx = pc0 + 1 := Nat.eq_of_beq_eq_true hnx
    have h9 : xial L st s fun st => K (pc0 + 1) ls st s := h
    clear h
    obtain ⟨k, j, r, cc, rfl, hlk, h⟩ := xial_e h9
    clear h9
    rcases h with ⟨hc, z, ⟨hz, rfl⟩, h⟩ | ⟨hc, z, ⟨hz, hz2, rfl⟩, h⟩ | ⟨hc, z, ⟨hz, rfl⟩, h⟩
    · have he := xwo_at (cA := E.2.2.1) (ad := ad) (s := s) (xlk_w hlk (by omega))
      rw [xce_i hc] at he
      obtain ⟨-, hin, hcl⟩ := xlen_w hLk (xlk_w hlk (by omega)) hz
      exact va_iald hx hb hKs.1 hP k 0 he rfl hin hdec (by rw [hcl]; exact go _ _ _ _ _ _ _ h hI')
    · have hro := xro_c (xlk_r hLk hlk (by omega)) (by omega)
      have hk : k = 900 := by
        rcases hro with ⟨q1, q⟩ | ⟨-, q⟩ | ⟨q1, q⟩ | ⟨q1, q⟩ | ⟨-, q⟩ | ⟨-, q⟩
        · exact q1
        all_goals (rw [q] at hc; exact absurd hc (by decide))
      subst hk
      obtain ⟨hX, hbl, hbA, hN⟩ := hKs.2.1
      rw [hSc.2] at hz
      have hz3 : z < E.2.2.2.1 := (nI_ltI hz2 hN).mp hz
      rw [hSc.1] at h
      exact va_sld hx hb hX hbl hbA hS (vp_in_nI hz3 hN) hdec (by rw [nI_clamp hz2]; exact go _ _ _ _ _ _ _ h hI')
    · have hro := xro_c (xlk_r hLk hlk (by omega)) (by omega)
      have hk : k = 902 := by
        rcases hro with ⟨-, q⟩ | ⟨q1, q⟩ | ⟨-, q⟩ | ⟨-, q⟩ | ⟨-, q⟩ | ⟨-, q⟩
        · rw [q] at hc; exact absurd hc (by decide)
        · exact q1
        all_goals (rw [q] at hc; exact absurd hc (by decide))
      subst hk
      exact va_ti hx hb hKs.2.2.1.2 hS (vp_in_nI hz (by decide)) (v := .int (xmost z)) (by rw [nI_clamp (by omega)]) hdec (go _ _ _ _ _ _ _ h hI')
  | baload =>
    obtain rfl : nx = pc0 + 1 := Nat.eq_of_beq_eq_true hnx
    have h9 : xbal L st s fun st => K (pc0 + 1) ls st s := h
    clear h
    obtain ⟨k, j, r, cc, rfl, hlk, h⟩ := xbal_e h9
    clear h9
    rcases h with ⟨hc, z, ⟨hz, rfl⟩, h⟩ | ⟨hc, z, ⟨hz, rfl⟩, h⟩
    · have he := xwo_at (cA := E.2.2.1) (ad := ad) (s := s) (xlk_w hlk (by omega))
      rw [xce_z hc] at he
      obtain ⟨-, hin, hcl⟩ := xlen_w hLk (xlk_w hlk (by omega)) hz
      exact va_zald hx hb hKs.1 hP k 1 he rfl hin hdec (by rw [hcl]; exact go _ _ _ _ _ _ _ h hI')
    · have hro := xro_c (xlk_r hLk hlk (by omega)) (by omega)
      have hi : ∃ i, i < 2 ∧ k = 905 + i ∧ cc.2.1 = [86, 13].getD i 0 := by
        rcases hro with ⟨-, q⟩ | ⟨-, q⟩ | ⟨-, q⟩ | ⟨-, q⟩ | ⟨q1, q⟩ | ⟨q1, q⟩
        · rw [q] at hc; exact absurd hc (by decide)
        · rw [q] at hc; exact absurd hc (by decide)
        · rw [q] at hc; exact absurd hc (by decide)
        · rw [q] at hc; exact absurd hc (by decide)
        · exact ⟨0, by decide, q1, by rw [q]; rfl⟩
        · exact ⟨1, by decide, q1, by rw [q]; rfl⟩
      obtain ⟨i, hi2, rfl, hn⟩ := hi
      rw [hn] at hz h
      have hz2 : z < 2 ^ 31 := by
        rcases (show i = 0 ∨ i = 1 by omega) with rfl | rfl
        · exact Nat.lt_trans hz (by decide)
        · exact Nat.lt_trans hz (by decide)
      have hz3 : [86, 13].getD i 0 < 2 ^ 31 := by
        rcases (show i = 0 ∨ i = 1 by omega) with rfl | rfl
        · decide
        · decide
      exact va_tb hx hb (hKs.2.2.2.2.2.2.1.1 i hi2).2.2.2 hS (vp_in_nI hz hz3) (v := .int (nI ((xtxt ([86, 13].getD i 0)).getD z 0))) (by rw [nI_clamp hz2]; exact congrArg Value.int (xbyD i _ hi2)) hdec (go _ _ _ _ _ _ _ h hI')
  | arraylength =>
    obtain rfl : nx = pc0 + 1 := Nat.eq_of_beq_eq_true hnx
    have h9 : xaln L st s fun st => K (pc0 + 1) ls st s := h
    clear h
    obtain ⟨k, r, cc, rfl, hlk, h⟩ := xaln_e h9
    clear h9
    rcases h with ⟨hc, h⟩ | ⟨hc, h⟩ | ⟨hc, h⟩ | ⟨hc, h⟩
    · have hro := xro_c (xlk_r hLk hlk (by omega)) (by omega)
      have hk : k = 900 := by
        rcases hro with ⟨q1, q⟩ | ⟨-, q⟩ | ⟨q1, q⟩ | ⟨q1, q⟩ | ⟨-, q⟩ | ⟨-, q⟩
        · exact q1
        all_goals (rw [q] at hc; exact absurd hc (by decide))
      subst hk
      obtain ⟨hX, hbl, hbA, hN⟩ := hKs.2.1
      rw [hSc.2] at h
      exact va_slen hx hb hX hbl hbA hS hdec (go _ _ _ _ _ _ _ h hI')
    · have he := xwo_at (cA := E.2.2.1) (ad := ad) (s := s) (xlk_w hlk (by omega))
      rw [xce_i hc] at he
      exact va_alen hx hb hKs.1 hP k 0 he (ty := .int) rfl rfl hdec (go _ _ _ _ _ _ _ h hI')
    · have he := xwo_at (cA := E.2.2.1) (ad := ad) (s := s) (xlk_w hlk (by omega))
      rw [xce_z hc] at he
      exact va_alen hx hb hKs.1 hP k 1 he (ty := .boolean) rfl rfl hdec (go _ _ _ _ _ _ _ h hI')
    · have hro := xro_c (xlk_r hLk hlk (by omega)) (by omega)
      have hi : ∃ i, i < 2 ∧ k = 905 + i ∧ cc.2.1 = [86, 13].getD i 0 := by
        rcases hro with ⟨-, q⟩ | ⟨-, q⟩ | ⟨-, q⟩ | ⟨-, q⟩ | ⟨q1, q⟩ | ⟨q1, q⟩
        · rw [q] at hc; exact absurd hc (by decide)
        · rw [q] at hc; exact absurd hc (by decide)
        · rw [q] at hc; exact absurd hc (by decide)
        · rw [q] at hc; exact absurd hc (by decide)
        · exact ⟨0, by decide, q1, by rw [q]; rfl⟩
        · exact ⟨1, by decide, q1, by rw [q]; rfl⟩
      obtain ⟨i, hi2, rfl, hn⟩ := hi
      rw [hn] at h
      exact va_tlen hx hb (hKs.2.2.2.2.2.2.1.1 i hi2).2.2.2 hS rfl hdec (go _ _ _ _ _ _ _ h hI')
  | laload =>
    obtain rfl : nx = pc0 + 1 := Nat.eq_of_beq_eq_true hnx
    obtain ⟨k, j, r, cc, rfl, hlk, hc, z, ⟨hz, rfl⟩, hh⟩ := xlal_e (K := fun st => K (pc0 + 1) ls st s) h
    have he := xwo_at (cA := E.2.2.1) (ad := ad) (s := s) (xlk_w hlk (by omega))
    rw [xce_l hc] at he
    obtain ⟨-, hin, hcl⟩ := xlen_w hLk (xlk_w hlk (by omega)) hz
    exact va_lald hx hb hKs.1 hP k 2 he rfl hin hdec (by rw [hcl]; exact go _ _ _ _ _ _ _ hh hI')
  | aaload =>
    obtain rfl : nx = pc0 + 1 := Nat.eq_of_beq_eq_true hnx
    obtain ⟨k, z, r, cc, q, rfl, hlk, hc, hz, hps, h⟩ := xaal_e (K := fun st => K (pc0 + 1) ls st s) h
    obtain ⟨-, hin, hcl⟩ := xlen_w hLk (xlk_w hlk (by omega)) hz
    have hv : va_rf ((cc.2.2.getD (nI z).toNatClampNeg none).map ad) = .ref (ad q) := by rw [hcl, xgetD hps]; rfl
    have hlt : (nI z).toNatClampNeg < cc.2.1 := Nat.not_le.mp fun q => hin (Or.inr q)
    rcases hc with hc | hc
    · have he := xwo_at (cA := E.2.2.1) (ad := ad) (s := s) (xlk_w hlk (by omega))
      rw [xce_p hc] at he
      exact va_aldq hx hb hKs.1 hP k 3 he (C := "WrongEnd$Program") rfl hin hdec (by rw [hv]; exact go _ _ _ _ _ _ _ h hI')
    · have he := xwo_at (cA := E.2.2.1) (ad := ad) (s := s) (xlk_w hlk (by omega))
      rw [xce_q hc] at he
      exact W.aald (v := .ref (ad q)) (ty := .array .int) hx hb (hP k _ he) ((hKs.1.2 4 _ rfl).1 cc.2.1 (fun z => va_rf ((cc.2.2.getD z none).map ad))) rfl (fun q => by cases q) (by show ¬ (nI z < 0 ∨ (arrV _ _ _).slots.size ≤ _); rw [arrV_size]; exact hin) (by show (arrV _ _ _).slots[_]? = _; rw [arrV_read _ _ hlt, hv]) rfl rfl hdec (go _ _ _ _ _ _ _ h hI')
  | iastore =>
    obtain rfl : nx = pc0 + 1 := Nat.eq_of_beq_eq_true hnx
    obtain ⟨k, j, x, r, rfl, h⟩ := xrii_e h
    obtain ⟨cc, hw, h⟩ := xopt_e h
    obtain ⟨hc, z, ⟨hz, rfl⟩, hh⟩ := xif_e h
    obtain ⟨-, hin, hcl⟩ := xlen_w hLk hw hz
    have hc := Nat.eq_of_beq_eq_true hc
    have he := xwo_at (cA := E.2.2.1) (ad := ad) (s := s) hw
    rw [xce_i hc] at he
    have hkl : k < 900 := by
      have := hLk.1
      rw [xnth_get] at hw
      have := (List.getElem?_eq_some_iff.mp hw).1
      omega
    refine va_iast hx hb hKs.1 hP (hD.va _ _) hS k 0 he rfl hin hdec (fun H1 locs1 g1 g2 g3 => ?_)
    rw [hcl, xwo_set (s' := (va_up s.1 k (upd (s.1 k) z x), s.2)) hw (by rw [xce_i hc]; show _ = Sum.inl (_, _, Sum.inl (va_up s.1 k _ k)); rw [va_up_self]) (fun i hi => va_up_ne _ _ hi) (fun i hi => rfl)] at g1
    exact go _ _ _ _ _ _ _ hh ⟨g1, hD, g3, hL, ⟨by rw [← hSc.1]; exact va_up_ne _ _ (by omega), by rw [← hSc.2]; exact congrFun (va_up_ne _ _ (by omega)) 0⟩, hLk⟩
  | bastore =>
    obtain rfl : nx = pc0 + 1 := Nat.eq_of_beq_eq_true hnx
    obtain ⟨k, j, x, r, rfl, h⟩ := xrii_e h
    obtain ⟨cc, hw, h⟩ := xopt_e h
    obtain ⟨hc, z, ⟨hz, rfl, hx01⟩, hh⟩ := xif_e h
    obtain ⟨-, hin, hcl⟩ := xlen_w hLk hw hz
    obtain ⟨-, -, z3⟩ := xvz x hx01
    have hc := Nat.eq_of_beq_eq_true hc
    have he := xwo_at (cA := E.2.2.1) (ad := ad) (s := s) hw
    rw [xce_z hc] at he
    have hkl : k < 900 := by
      have := hLk.1
      rw [xnth_get] at hw
      have := (List.getElem?_eq_some_iff.mp hw).1
      omega
    refine va_zast hx hb hKs.1 hP (hD.va _ _) hS k 1 he rfl hin hdec (fun H1 locs1 g1 g2 g3 => ?_)
    rw [z3, hcl, xwo_set (s' := (va_up s.1 k (upd (s.1 k) z x), s.2)) hw (by rw [xce_z hc]; show _ = Sum.inl (_, _, Sum.inl (va_up s.1 k _ k)); rw [va_up_self]) (fun i hi => va_up_ne _ _ hi) (fun i hi => rfl)] at g1
    exact go _ _ _ _ _ _ _ hh ⟨g1, hD, g3, hL, ⟨by rw [← hSc.1]; exact va_up_ne _ _ (by omega), by rw [← hSc.2]; exact congrFun (va_up_ne _ _ (by omega)) 0⟩, hLk⟩
  | lastore =>
    obtain rfl : nx = pc0 + 1 := Nat.eq_of_beq_eq_true hnx
    obtain ⟨k, j, x, r, rfl, h⟩ := xrli_e h
    obtain ⟨cc, hw, h⟩ := xopt_e h
    obtain ⟨hc, z, ⟨hz, rfl⟩, hh⟩ := xif_e h
    obtain ⟨-, hin, hcl⟩ := xlen_w hLk hw hz
    have hc := Nat.eq_of_beq_eq_true hc
    have he := xwo_at (cA := E.2.2.1) (ad := ad) (s := s) hw
    rw [xce_l hc] at he
    refine va_last hx hb hKs.1 hP (hD.va _ _) hS k 2 he rfl hin hdec (fun H1 locs1 g1 g2 g3 => ?_)
    rw [hcl, xwo_set (s := s) (s' := (s.1, va_up s.2 k (vp_updL (s.2 k) z x))) hw (by rw [xce_l hc]; exact congrArg (fun z => (Sum.inl (E.2.2.1 102, cc.2.1, Sum.inr (Sum.inl z)) : va_E)) (va_up_self _ _ _).symm) (fun i hi => rfl) (fun i hi => va_up_ne _ _ hi)] at g1
    exact go _ _ _ _ _ _ _ hh ⟨g1, hD, g3, hL, hSc, hLk⟩
  | if_icmp q off =>
    obtain rfl : nx = pc0 + 3 := Nat.eq_of_beq_eq_true hnx
    have ht := of_decide_eq_true hox
    obtain ⟨x, y, r, rfl, h⟩ := xi2_e h
    cases q with
    | eq =>
      exact lv_icmp_eq hx hb hdec ht (fun hc => go _ _ _ _ _ _ _ (h.1 hc) hI') (fun hc => go _ _ _ _ _ _ _ (h.2 hc) hI')
    | ne =>
      exact lv_icmp_ne hx hb hdec ht (fun hc => go _ _ _ _ _ _ _ (h.2 hc) hI') (fun hc => go _ _ _ _ _ _ _ (h.1 hc) hI')
    | lt =>
      exact lv_icmp_lt hx hb hdec ht (fun hc => go _ _ _ _ _ _ _ (h.1 hc) hI') (fun hc => go _ _ _ _ _ _ _ (h.2 hc) hI')
    | ge =>
      exact lv_icmp_ge hx hb hdec ht (fun hc => go _ _ _ _ _ _ _ (h.2 (Int32.not_lt.mpr hc)) hI') (fun hc => go _ _ _ _ _ _ _ (h.1 (Int32.not_le.mp hc)) hI')
    | gt =>
      exact lv_icmp_gt hx hb hdec ht (fun hc => go _ _ _ _ _ _ _ (h.1 hc) hI') (fun hc => go _ _ _ _ _ _ _ (h.2 hc) hI')
    | le =>
      exact lv_icmp_le hx hb hdec ht (fun hc => go _ _ _ _ _ _ _ (h.2 (Int32.not_lt.mpr hc)) hI') (fun hc => go _ _ _ _ _ _ _ (h.1 (Int32.not_le.mp hc)) hI')
  | ifCond q off =>
    obtain rfl : nx = pc0 + 3 := Nat.eq_of_beq_eq_true hnx
    have ht := of_decide_eq_true hox
    obtain ⟨x, r, rfl, h⟩ := xi1_e h
    cases q with
    | eq =>
      exact lv_if_eq hx hb hdec ht (fun hc => go _ _ _ _ _ _ _ (by rw [← nI_0] at hc; exact h.1 hc) hI') (fun hc => go _ _ _ _ _ _ _ (by rw [← nI_0] at hc; exact h.2 hc) hI')
    | ne =>
      exact lv_if_ne hx hb hdec ht (fun hc => go _ _ _ _ _ _ _ (by rw [← nI_0] at hc; exact h.2 hc) hI') (fun hc => go _ _ _ _ _ _ _ (by rw [← nI_0] at hc; exact h.1 hc) hI')
    | lt =>
      exact lv_if_lt hx hb hdec ht (fun hc => go _ _ _ _ _ _ _ (by rw [← nI_0] at hc; exact h.1 hc) hI') (fun hc => go _ _ _ _ _ _ _ (by rw [← nI_0] at hc; exact h.2 hc) hI')
    | ge =>
      exact lv_if_ge hx hb hdec ht (fun hc => go _ _ _ _ _ _ _ (by rw [← nI_0] at hc; exact h.2 (Int32.not_lt.mpr hc)) hI') (fun hc => go _ _ _ _ _ _ _ (by rw [← nI_0] at hc; exact h.1 (Int32.not_le.mp hc)) hI')
    | gt =>
      exact lv_if_gt hx hb hdec ht (fun hc => go _ _ _ _ _ _ _ (by rw [← nI_0] at hc; exact h.1 hc) hI') (fun hc => go _ _ _ _ _ _ _ (by rw [← nI_0] at hc; exact h.2 hc) hI')
    | le =>
      exact lv_if_le hx hb hdec ht (fun hc => go _ _ _ _ _ _ _ (by rw [← nI_0] at hc; exact h.2 (Int32.not_lt.mpr hc)) hI') (fun hc => go _ _ _ _ _ _ _ (by rw [← nI_0] at hc; exact h.1 (Int32.not_le.mp hc)) hI')
  | goto off =>
    have ht := of_decide_eq_true hox
    exact lv_goto hx hb hdec ht (go _ _ _ _ _ _ _ h hI')
  | tableswitch df lo hi offs =>
    obtain ⟨x, r, rfl, h⟩ := xi1_e h
    have h := xsw_e h
    simp only [xokx, Bool.and_eq_true, decide_eq_true_eq, List.all_eq_true] at hox
    obtain ⟨⟨⟨⟨⟨hdf, hsz⟩, hall⟩, h1k⟩, hl0⟩, hjs⟩ := hox
    by_cases hr : x.toInt < lo ∨ hi < x.toInt
    · rw [xlook_d (fun q hq z => by
        have hq2 := hall q hq
        rw [z, nI_toInt (by omega)] at hr
        omega)] at h
      exact lv_tableOut hx hb hdec hr hdf (go _ _ _ _ _ _ _ h hI')
    · have hj : (x.toInt - lo).toNat < offs.size := by omega
      have hjx : nI (lo.toNat + (x.toInt - lo).toNat) = x := by
        apply Int32.toInt_inj.mp
        rw [nI_toInt (by omega)]
        omega
      have ho := hjs (x.toInt - lo).toNat (List.mem_range.mpr hj)
      rw [hjx] at ho
      rw [Array.getElem?_eq_getElem hj] at ho
      exact lv_tableIn (off := offs[(x.toInt - lo).toNat]) hx hb hdec (by omega) (by omega) (Array.getElem?_eq_getElem hj) (Option.some.inj ho) (go _ _ _ _ _ _ _ h hI')
  | lookupswitch df ps =>
    obtain ⟨x, r, rfl, h⟩ := xi1_e h
    have h := xsw_e h
    have hox : (decide ((pc0 : Int) + df = ((xfs sws pc0).2 : Int)) && (ps.toList.zip (ps.toList.drop 1)).all (fun (a, next) => a.1 < next.1) && decide (ps.toList = (xfs sws pc0).1.map (fun q => ((q.1 : Int), (q.2 : Int) - (pc0 : Int)))) && (xfs sws pc0).1.all (fun q => decide (q.1 < 1000))) = true := hox
    rw [Bool.and_eq_true, Bool.and_eq_true, Bool.and_eq_true, decide_eq_true_eq, decide_eq_true_eq] at hox
    obtain ⟨⟨⟨hdf, hso⟩, hps⟩, hall⟩ := hox
    have hall := List.all_eq_true.mp hall
    have ht := xoff (x := x) hdf (ps := (xfs sws pc0).1) (fun q hq => of_decide_eq_true (hall q hq))
    rw [← hps] at ht
    exact lv_lookup hx hb hdec hso rfl ht (go _ _ _ _ _ _ _ h hI')
  | invokevirtual idx =>
    obtain rfl : nx = pc0 + 3 := Nat.eq_of_beq_eq_true hnx
    have h9 : xpop (a + 1) st [] fun As r => xinv L c0 As r (xP d L b As s (xkr (fun st s => K (pc0 + 3) ls st s) r)) := h
    clear h
    obtain ⟨As0, r, hlen, rfl, h⟩ := xpop_e h9
    clear h9
    rw [List.append_nil] at h
    have hox : (decide ((own, idx, b) ∈ xml) && Nat.beq (xmk b) 0 && Nat.beq c0 (xrk (xmc b)) && Nat.beq a (xna b) && Nat.blt b 233) = true := hox
    rw [Bool.and_eq_true, Bool.and_eq_true, Bool.and_eq_true, Bool.and_eq_true, decide_eq_true_eq] at hox
    obtain ⟨⟨⟨⟨ho1, ho2⟩, ho3⟩, ho4⟩, ho5⟩ := hox
    have ho2 := Nat.eq_of_beq_eq_true ho2
    have ho3 := Nat.eq_of_beq_eq_true ho3
    have ho4 := Nat.eq_of_beq_eq_true ho4
    have ho5 : b < 233 := Nat.le_of_ble_eq_true ho5
    cases hAs : As0.reverse with
    | nil => rw [hAs] at h; exact h.elim
    | cons v As' =>
      rw [hAs] at h
      cases v with
      | ref k =>
        obtain ⟨hc, h⟩ := xif_e h
        rw [Bool.and_eq_true] at hc
        have hck := Nat.eq_of_beq_eq_true hc.1
        obtain ⟨f1, f2, f3, f4, f5, f6⟩ := xmf_e ho5
        have hA0 : As0 = As'.reverse ++ [.ref k] := by rw [← List.reverse_reverse As0, hAs, List.reverse_cons]
        have hl2 : As'.length = a := by rw [hA0] at hlen; simp at hlen; exact hlen
        have hst : (As0 ++ r).map (xcv ad) = (As'.map (xcv ad)).reverse ++ .ref (ad k) :: r.map (xcv ad) := by rw [hA0]; simp [xcv]
        have hF : ∀ q, xFr ad L.length H.size q → A q := fun q hq => by
          rcases hq with ⟨k, hk, rfl⟩ | hq
          · exact hD.2 k hk
          · exact hA q (Nat.le_trans hS.1 hq)
        have hrec : ∃ cell : Cell, H[ad k]? = some cell ∧ cell.vm.isStatics = false ∧ s0.vm.findClass (xsg b).1.cls = some cell.cls := by
          rw [f1]
          by_cases hm : xmc b < 10
          · have hk0 : (xlk L k).1 = xmc b := by rw [hck, ho3]; unfold xrk; rw [if_pos hm]
            have hw := xlk_w (L := L) (k := k) rfl (by omega)
            have he := xwo_at (cA := E.2.2.1) (ad := ad) (s := s) hw
            rw [xce_o (by omega), hk0] at he
            have := va_recv hKs.1 hP (xN_cl _ hm) he
            rw [← xnm_C _ hm] at this
            exact this
          · have hk0 : (xlk L k).1 = if xmc b = 13 then 112 else 199 := by rw [hck, ho3]; unfold xrk; rw [if_neg hm]
            by_cases hm3 : xmc b = 13
            · rw [if_pos hm3] at hk0
              have hro := xro_c (xlk_r (c := xlk L k) hLk rfl (by omega)) (by omega)
              have hi : ∃ i, i < 2 ∧ k = 903 + i := by
                rcases hro with ⟨-, q⟩ | ⟨-, q⟩ | ⟨q1, q⟩ | ⟨q1, q⟩ | ⟨-, q⟩ | ⟨-, q⟩
                · rw [q] at hk0; exact absurd hk0 (by decide)
                · rw [q] at hk0; exact absurd hk0 (by decide)
                · exact ⟨0, by decide, q1⟩
                · exact ⟨1, by decide, q1⟩
                · rw [q] at hk0; exact absurd hk0 (by decide)
                · rw [q] at hk0; exact absurd hk0 (by decide)
              obtain ⟨i, hi2, rfl⟩ := hi
              rw [hm3]
              exact vk_recv (i := i) (adK := fun i => ad (903 + i)) hKs.2.2.2.2.2.2.1 hi2 hS
            · exfalso
              have hne : ∀ n, n < 233 → xmk n = 0 → 10 ≤ xmc n → xmc n = 13 := by decide +kernel
              exact hm3 (hne b ho5 ho2 (by omega))
        have hmw : xmw b = .code (xsg b).1 (xsg b).2.1 (xsg b).2.2.1 (xsg b).2.2.2 :: .initialized (xsg b).1.cls :: [.instanceMethod (xsg b).1, .selects (xsg b).1.cls (xsg b).1 (xsg b).1] := by unfold xmw; rw [ho2]; rfl
        have hin := xmw_in ho5
        rw [hmw] at hin
        have hG : GoodIn xWs (wsV (xnm own) idx (xsg b).1.cls (xsg b).1 (xws b)) := by
          intro w hw
          unfold wsV at hw
          rcases List.mem_append.mp hw with hw | hw
          · simp only [List.mem_cons, List.not_mem_nil, or_false] at hw
            rcases hw with rfl | rfl | rfl | rfl
            · exact xgood (xmlw_in _ (List.mem_map.mpr ⟨_, ho1, rfl⟩))
            · exact xgood (hin _ (by simp))
            · exact xgood (hin _ (by simp))
            · exact xgood (hin _ (by simp))
          · exact xws_good ho5 w hw
        show W p l e R s0 m args below meth c H locs cells slots Qf (F0 m pc0 LS ((As0 ++ r).map (xcv ad)))
        rw [hst]
        refine xgo (va_runV (As := As'.map (xcv ad)) (rest := r.map (xcv ad)) ⟨hx, hb, hml, hown, hts⟩ (h l E ad H.size) (cwV (xna b) hts hG rfl rfl rfl ⟨rfl, f2, f3, f4⟩ ⟨by show d + 1 ≤ _; exact hfr, by show 8 + (_ + 11) + 64 * d ≤ _; omega⟩) ⟨xPc_blind _ _ _ _ _ _, hrec, fun U hU hW => ⟨rfl, by rw [hU], by rw [hU]; exact hKs.to hW hS.2.1 hS.1 hF, by rw [hU]; exact hP, hD.weaken (fun k hk => Or.inl ⟨k, hk, rfl⟩), hSc⟩⟩ rfl (by rw [List.length_map, hl2, ho4]) hL.size rfl (lv_room (xfit_e ad hc.2)) hdec ⟨hce, hsl⟩) hS hF (fun r1 s' H1 locs1 hq g1 g2 g3 => ?_)
        cases r1 with
        | none => exact go _ _ _ _ _ _ _ hq ⟨g1, hD, g3, hL, g2, hLk⟩
        | some v => exact go _ _ _ _ _ _ _ hq ⟨g1, hD, g3, hL, g2, hLk⟩
      | _ => exact False.elim h
  | invokestatic idx =>
    obtain rfl : nx = pc0 + 3 := Nat.eq_of_beq_eq_true hnx
    rcases c0 with _ | _ | _ | n
    · skip
      have hox : (decide ((own, idx, b) ∈ xml) && Nat.beq (xmk b) 1 && Nat.beq a (xna b) && Nat.blt b 233) = true := hox
      rw [Bool.and_eq_true, Bool.and_eq_true, Bool.and_eq_true, decide_eq_true_eq] at hox
      obtain ⟨⟨⟨ho1, ho2⟩, ho4⟩, ho5⟩ := hox
      have ho2 := Nat.eq_of_beq_eq_true ho2
      have ho4 := Nat.eq_of_beq_eq_true ho4
      have ho5 : b < 233 := Nat.le_of_ble_eq_true ho5
      have h9 : xpop a st [] fun As r => xif (xfit r 8) (xP d L b As s (xkr (fun st s => K (pc0 + 3) ls st s) r)) := h
      clear h
      obtain ⟨As0, r, hlen, rfl, h⟩ := xpop_e h9
      clear h9
      rw [List.append_nil] at h
      obtain ⟨hc, h⟩ := xif_e h
      obtain ⟨f1, f2, f3, f4, f5, f6⟩ := xmf_e ho5
      have hst : (As0 ++ r).map (xcv ad) = (As0.reverse.map (xcv ad)).reverse ++ r.map (xcv ad) := by simp
      have hF : ∀ q, xFr ad L.length H.size q → A q := fun q hq => by
        rcases hq with ⟨k, hk, rfl⟩ | hq
        · exact hD.2 k hk
        · exact hA q (Nat.le_trans hS.1 hq)
      have hmw : xmw b = .code (xsg b).1 (xsg b).2.1 (xsg b).2.2.1 (xsg b).2.2.2 :: .initialized (xsg b).1.cls :: [.static (xsg b).1] := by unfold xmw; rw [ho2]; rfl
      have hin := xmw_in ho5
      rw [hmw] at hin
      have hG : GoodIn xWs (va_wsS (xnm own) idx (xsg b).1 (xws b)) := by
        intro w hw
        unfold va_wsS at hw
        rcases List.mem_append.mp hw with hw | hw
        · simp only [List.mem_cons, List.not_mem_nil, or_false] at hw
          rcases hw with rfl | rfl | rfl
          · exact xgood (xmlw_in _ (List.mem_map.mpr ⟨_, ho1, rfl⟩))
          · exact xgood (hin _ (by simp))
          · exact xgood (hin _ (by simp))
        · exact xws_good ho5 w hw
      show W p l e R s0 m args below meth c H locs cells slots Qf (F0 m pc0 LS ((As0 ++ r).map (xcv ad)))
      rw [hst]
      refine xgo (va_runS (As := As0.reverse.map (xcv ad)) (rest := r.map (xcv ad)) ⟨hx, hb, hml, hown, hts⟩ (h l E ad H.size) (va_cwS (xna b) hts hG rfl rfl rfl ⟨f2, f3, f4⟩ ⟨by show d + 1 ≤ _; exact hfr, by show 8 + (_ + 11) + 64 * d ≤ _; omega⟩) ⟨xPc_blind _ _ _ _ _ _, fun U hU hW => ⟨rfl, by rw [hU], by rw [hU]; exact hKs.to hW hS.2.1 hS.1 hF, by rw [hU]; exact hP, hD.weaken (fun k hk => Or.inl ⟨k, hk, rfl⟩), hSc⟩⟩ rfl (by rw [List.length_map, List.length_reverse, hlen, ho4]) hL.size rfl (lv_room (xfit_e ad hc)) hdec ⟨hce, hsl⟩) hS hF (fun r1 s' H1 locs1 hq g1 g2 g3 => ?_)
      cases r1 with
      | none => exact go _ _ _ _ _ _ _ hq ⟨g1, hD, g3, hL, g2, hLk⟩
      | some v => exact go _ _ _ _ _ _ _ hq ⟨g1, hD, g3, hL, g2, hLk⟩
    · skip
      have hox : (decide ((own, idx, b) ∈ xnsL) && Nat.beq (xmk b) 1 && Nat.beq a (xna b) && Nat.blt b 233) = true := hox
      rw [Bool.and_eq_true, Bool.and_eq_true, Bool.and_eq_true, decide_eq_true_eq] at hox
      obtain ⟨⟨⟨ho1, ho2⟩, ho4⟩, ho5⟩ := hox
      have ho2 := Nat.eq_of_beq_eq_true ho2
      have ho4 := Nat.eq_of_beq_eq_true ho4
      have ho5 : b < 233 := Nat.le_of_ble_eq_true ho5
      have h9 : xpop a st [] fun As r => xif (xfit r 8) (xP d L b As s (xkr (fun st s => K (pc0 + 3) ls st s) r)) := h
      clear h
      obtain ⟨As0, r, hlen, rfl, h⟩ := xpop_e h9
      clear h9
      rw [List.append_nil] at h
      obtain ⟨hc, h⟩ := xif_e h
      obtain ⟨f1, f2, f3, f4, f5, f6⟩ := xmf_e ho5
      have hst : (As0 ++ r).map (xcv ad) = (As0.reverse.map (xcv ad)).reverse ++ r.map (xcv ad) := by simp
      have hF : ∀ q, xFr ad L.length H.size q → A q := fun q hq => by
        rcases hq with ⟨k, hk, rfl⟩ | hq
        · exact hD.2 k hk
        · exact hA q (Nat.le_trans hS.1 hq)
      have hmw : xmw b = .code (xsg b).1 (xsg b).2.1 (xsg b).2.2.1 (xsg b).2.2.2 :: .initialized (xsg b).1.cls :: [.static (xsg b).1] := by unfold xmw; rw [ho2]; rfl
      have hin := xmw_in ho5
      rw [hmw] at hin
      have hnl : va_Nw (.methodLinkNest (xnm own) idx (xsg b).1 "WrongEnd") s0 := xnest hKs.2.2.2.2.2.2.2 ho1
      show W p l e R s0 m args below meth c H locs cells slots Qf (F0 m pc0 LS ((As0 ++ r).map (xcv ad)))
      rw [hst]
      refine xgo (va_runSN (As := As0.reverse.map (xcv ad)) (rest := r.map (xcv ad)) ⟨hx, hb, hml, hown, hts⟩ (h l E ad H.size) (⟨va_cnB (xna b) hts (xws_good ho5) rfl rfl rfl hnl (hts _ (hin _ (by simp))) ⟨f2, f3, f4⟩ ⟨by show d + 1 ≤ _; exact hfr, by show 8 + (_ + 11) + 64 * d ≤ _; omega⟩, hts _ (hin _ (by simp)), trivial⟩) ⟨xPc_blind _ _ _ _ _ _, fun U hU hW => ⟨rfl, by rw [hU], by rw [hU]; exact hKs.to hW hS.2.1 hS.1 hF, by rw [hU]; exact hP, hD.weaken (fun k hk => Or.inl ⟨k, hk, rfl⟩), hSc⟩⟩ rfl (by rw [List.length_map, List.length_reverse, hlen, ho4]) hL.size rfl (lv_room (xfit_e ad hc)) hdec ⟨hce, hsl⟩) hS hF (fun r1 s' H1 locs1 hq g1 g2 g3 => ?_)
      cases r1 with
      | none => exact go _ _ _ _ _ _ _ hq ⟨g1, hD, g3, hL, g2, hLk⟩
      | some v => exact go _ _ _ _ _ _ _ hq ⟨g1, hD, g3, hL, g2, hLk⟩
    · skip
      obtain ⟨k, sp, k2, dp, n, r, rfl, h⟩ := xcp_e h
      obtain ⟨q1, hw1, h⟩ := xopt_e h
      obtain ⟨q2, hw, h⟩ := xopt_e h
      obtain ⟨hcc, x, y, z, ⟨rfl, rfl, rfl, n4, n5⟩, hh⟩ := xif_e h
      have b1 := (hLk.2 _ _ hw1).2
      have b2 := (hLk.2 _ _ hw).2
      have c1 : (nI x).toNatClampNeg = x := nI_clamp (by omega)
      have c2 : (nI y).toNatClampNeg = y := nI_clamp (by omega)
      have c3 : (nI z).toNatClampNeg = z := nI_clamp (by omega)
      rw [Bool.and_eq_true, Bool.and_eq_true] at hcc
      have hc1 := Nat.eq_of_beq_eq_true hcc.1.1
      have hc2 := Nat.eq_of_beq_eq_true hcc.1.2
      have he1 := xwo_at (cA := E.2.2.1) (ad := ad) (s := s) hw1
      rw [xce_i hc1] at he1
      have he2 := xwo_at (cA := E.2.2.1) (ad := ad) (s := s) hw
      rw [xce_i hc2] at he2
      have hkl : k2 < 900 := by
        have := hLk.1
        rw [xnth_get] at hw
        have := (List.getElem?_eq_some_iff.mp hw).1
        omega
      have hcat := xfit_e ad hcc.2
      have hnf : nativeFrameWords "java/lang/System" "arraycopy" 5 = 7 := by decide +kernel
      refine va_copyi hx hb (by rw [hml, hL.size]) hown (hts _ (xac_in (own, idx) (of_decide_eq_true hox))) (hts _ (xac_w _ (by simp))) (hts _ (xac_w _ (by simp))) (hts _ (xac_w _ (by simp))) hKs.1 hP (hD.va _ _) hS k k2 0 0 he1 he2 (ty := .int) rfl rfl rfl (nI_pos (by omega)) (nI_pos (by omega)) (nI_pos (by omega)) (by rw [c1, c3]; exact n4) (by rw [c2, c3]; exact n5) (fun _ _ => rfl) (by omega) (by rw [hnf]; omega) hdec (fun H1 locs1 g1 g2 g3 => ?_)
      rw [c1, c2, c3, xwo_set (s' := (va_up s.1 k2 (va_cpy (s.1 k) (s.1 k2) x y z), s.2)) hw (by rw [xce_i hc2]; show _ = Sum.inl (_, _, Sum.inl (va_up s.1 k2 _ k2)); rw [va_up_self]) (fun i hi => va_up_ne _ _ hi) (fun i hi => rfl)] at g1
      exact go _ _ _ _ _ _ _ hh ⟨g1, hD, g3, hL, ⟨by rw [← hSc.1]; exact va_up_ne _ _ (by omega), by rw [← hSc.2]; exact congrFun (va_up_ne _ _ (by omega)) 0⟩, hLk⟩
    · cases hox
  | ireturn =>
    obtain rfl : nx = pc0 + 1 := Nat.eq_of_beq_eq_true hnx
    have h9 : xrti c0 st fun v => Q (some (.int v)) s := h
    clear h
    unfold xrti at h9
    split at h9
    · rename_i v
      match c0, h9, hox with
      | 0, h, hox => exact RT _ _ _ _ _ _ h hP hS hSc ⟨hdec, .int, of_decide_eq_true hox, rfl⟩
      | 1, h, hox => exact RT _ _ _ _ _ _ h.2 hP hS hSc ⟨hdec, .boolean, of_decide_eq_true hox, (xvz v h.1).1⟩
      | n + 2, h, hox =>
        obtain ⟨⟨n1, hn1, rfl⟩, h⟩ := h
        have hox : (decide ((xsg mn).2.2.2 = some .char) || decide ((xsg mn).2.2.2 = some .byte)) = true := hox
        rw [Bool.or_eq_true, decide_eq_true_eq, decide_eq_true_eq] at hox
        rcases hox with hox | hox
        · exact RT _ _ _ _ _ _ h hP hS hSc ⟨hdec, .char, hox, (pk_charN (by omega)).1⟩
        · exact RT _ _ _ _ _ _ h hP hS hSc ⟨hdec, .byte, hox, xvb n1 hn1⟩
    · exact h9.elim
  | lreturn =>
    obtain rfl : nx = pc0 + 1 := Nat.eq_of_beq_eq_true hnx
    have h9 : xrtl st fun v => Q (some (.long v)) s := h
    clear h
    unfold xrtl at h9
    split at h9
    · exact RT _ _ _ _ _ _ h9 hP hS hSc ⟨hdec, of_decide_eq_true hox⟩
    · exact h9.elim
  | return_ =>
    obtain rfl : nx = pc0 + 1 := Nat.eq_of_beq_eq_true hnx
    have h9 : xrtv st (Q none s) := h
    clear h
    unfold xrtv at h9
    split at h9
    · exact RT _ _ _ _ _ _ h9 hP hS hSc ⟨hdec, of_decide_eq_true hox⟩
    · exact h9.elim
  | _ => exact False.elim h
end
section
/-! the rules of the small machine, proved of the machine: a run of instructions; a method from its entry -/
/-- the locals at a method's entry -/
def xenk : Nat → List Value → (xLs → Prop) → Prop
  | 0, [], k => k []
  | 0, _ :: _, _ => False
  | n + 1, [], k => xenk n [] (fun r => k (none :: r))
  | n + 1, v :: As, k => (match v with
    | .long x => (match n with
      | m + 1 => xenk m As (fun r => k (some (.long x) :: none :: r))
      | 0 => False)
    | .int x => xenk n As (fun r => k (some (.int x) :: r))
    | .ref x => xenk n As (fun r => k (some (.ref x) :: r))
    | _ => False)
theorem xlv_none (n : Nat) (i : Nat) : xlv (List.replicate n none) i = none := by
  induction n generalizing i with
  | zero => rfl
  | succ n ih =>
    cases i with
    | zero => rfl
    | succ i => exact ih i
theorem xenk_e : ∀ {n : Nat} {As : List Value} {k : xLs → Prop} (ad : Nat → Nat) (j : Nat), xenk n As k → ∃ ls, k ls ∧ (lg_sl (As.map (xcv ad))).length ≤ n ∧ ∀ i v, xlv ls i = some v → (j + i, xcv ad v) ∈ lv_args j (As.map (xcv ad))
  | 0, [], k, ad, j, h => ⟨[], h, Nat.le_refl _, fun i v hv => by cases hv⟩
  | 0, _ :: _, _, ad, j, h => h.elim
  | n + 1, [], k, ad, j, h => by
    obtain ⟨r, h1, h2, h3⟩ := xenk_e (n := n) (As := []) ad (j + 1) h
    refine ⟨none :: r, h1, Nat.zero_le _, fun i v hv => ?_⟩
    cases i with
    | zero => cases hv
    | succ i =>
      have := h3 i v hv
      cases this
  | n + 1, .int x :: As, k, ad, j, h => by
    obtain ⟨r, h1, h2, h3⟩ := xenk_e (n := n) (As := As) ad (j + 1) h
    refine ⟨_, h1, ?_, fun i v hv => ?_⟩
    · show (lg_sl (Value.int x :: As.map (xcv ad))).length ≤ _
      have : lg_sl (Value.int x :: As.map (xcv ad)) = .val (.int x) :: lg_sl (As.map (xcv ad)) := rfl
      rw [this, List.length_cons]
      omega
    · show _ ∈ lv_args j (Value.int x :: As.map (xcv ad))
      cases i with
      | zero => cases hv; exact List.mem_cons_self
      | succ i =>
        refine List.mem_cons_of_mem _ ?_
        have := h3 i v hv
        rw [show j + 1 + i = j + (i + 1) by omega] at this
        exact this
  | n + 1, .ref x :: As, k, ad, j, h => by
    obtain ⟨r, h1, h2, h3⟩ := xenk_e (n := n) (As := As) ad (j + 1) h
    refine ⟨_, h1, ?_, fun i v hv => ?_⟩
    · show (lg_sl (Value.ref (ad x) :: As.map (xcv ad))).length ≤ _
      have : lg_sl (Value.ref (ad x) :: As.map (xcv ad)) = .val (.ref (ad x)) :: lg_sl (As.map (xcv ad)) := rfl
      rw [this, List.length_cons]
      omega
    · show _ ∈ lv_args j (Value.ref (ad x) :: As.map (xcv ad))
      cases i with
      | zero => cases hv; exact List.mem_cons_self
      | succ i =>
        refine List.mem_cons_of_mem _ ?_
        have := h3 i v hv
        rw [show j + 1 + i = j + (i + 1) by omega] at this
        exact this
  | 1, .long x :: As, k, ad, j, h => h.elim
  | n + 2, .long x :: As, k, ad, j, h => by
    obtain ⟨r, h1, h2, h3⟩ := xenk_e (n := n) (As := As) ad (j + 2) h
    refine ⟨_, h1, ?_, fun i v hv => ?_⟩
    · show (lg_sl (Value.long x :: As.map (xcv ad))).length ≤ _
      have : lg_sl (Value.long x :: As.map (xcv ad)) = .val (.long x) :: .second :: lg_sl (As.map (xcv ad)) := rfl
      rw [this, List.length_cons, List.length_cons]
      omega
    · show _ ∈ lv_args j (Value.long x :: As.map (xcv ad))
      match i, hv with
      | 0, hv => cases hv; exact List.mem_cons_self
      | 1, hv => cases hv
      | i + 2, hv =>
        refine List.mem_cons_of_mem _ ?_
        have := h3 i v hv
        rw [show j + 2 + i = j + (i + 2) by omega] at this
        exact this
  | n + 1, .float x :: As, k, ad, j, h => h.elim
  | n + 1, .double x :: As, k, ad, j, h => h.elim
  | n + 1, .null :: As, k, ad, j, h => h.elim
  | n + 1, .retAddr x :: As, k, ad, j, h => h.elim
theorem xrn_sound {d : Nat} {M : xM} {Q : xQ} {L : xLa} (stops : Nat → Bool) : ∀ (n : Nat) (pc : Nat) (ls : xLs) (st : List Value) (s : xS), xrn (xP d L) Q (xX d M Q L) L M stops n pc ls st s → xX d M Q L pc ls st s
  | 0, _, _, _, _, h => h
  | n + 1, pc, ls, st, s, h => by
    unfold xrn at h
    cases hb : stops pc with
    | true => rw [hb] at h; exact h
    | false =>
      rw [hb] at h
      exact xst_sound (xrn_sound stops n) h
section XMF
variable {l : Launch}
theorem xMetF {y : MethodName} {ws ws' : List Cond} {rm : Room} {Pc : Array Value → State → Prop} {Qc : Array Value → State → Outcome → State → Prop} {mc ms : Nat} {free : Addr → Prop} {cc : ByteArray} {maxL : Nat} {ret : Option FieldType}
    (hy : plainFor y = true) (hw : ws = Cond.code y cc maxL ret :: ws')
    (body : ∀ p e s m args below meth c s₁, BodyLoose p l y (headSpec ws rm) cc maxL ret e s m args below meth c s₁ → c.maxLocals = maxL → Pc args s →
      W p l e (headSpec ws rm).room s m args below meth c s.heap [] 0 0 (MQ below Qc args s mc ms free) (entryFrame m args maxL)) : Met l y ws rm Pc Qc mc ms free := by
  refine MetFree.of_bodySF (code := cc) (maxLocals := maxL) (ret := ret) hy ?_ ?_
  · intro args s m h hn
    obtain ⟨meth, c, h1, h2, h3, h4, h5, h6, -, -⟩ := Cond.code_spec hn (atoms_spec (ws := ws) h _ (by rw [hw]; exact List.mem_cons_self))
    exact ⟨meth, c, h1, h2, h3, h4, h5, h6⟩
  · intro p e s m args below meth c s₁ B hml hP _
    have hh0 : s₁.heap = s.heap := by rw [B.state]; rfl
    obtain ⟨t, a1, o, b1, b2, b3⟩ := body p e s m args below meth c s₁ B hml hP s₁ hh0 (Stand.of_body B)
    exact ⟨t, o, a1, b1, b2, ⟨b3.1, b3.2⟩⟩
end XMF
set_option maxHeartbeats 4000000 in
theorem xP_in {d : Nat} {M : xM} {Q : xQ} {L : xLa} {As : List Value} {s : xS} (hok : xok M = true) (hM : M.1 < 233) (hmc : xmc M.1 = M.2.1) (hLk : xLok L) (h : xenk (xsg M.1).2.2.1 As fun ls => xX d M Q L 0 ls [] s) : xP (d + 1) L M.1 As s Q := by
  intro l E ad sz
  obtain ⟨f1, f2, f3, f4, f5, f6⟩ := xmf_e hM
  refine xMetF (cc := (xsg M.1).2.1) (maxL := (xsg M.1).2.2.1) (ret := (xsg M.1).2.2.2) f5 rfl ?_
  intro p e s0 m args below meth c s₁ B hml hv
  obtain ⟨rfl, hsz, hKs, hP, hD, hSc⟩ := hv
  have hts : ∀ w ∈ xws M.1, w.before ((As.map (xcv ad)).toArray) s0 = true := atoms_spec (ws := xws M.1) B.pre
  have hown : s0.vm.findClass (xnm M.2.1) = some m.cls := by
    rw [← hmc, ← f1]
    exact findClass_of_methodNamed B.named
  obtain ⟨ls, hX, hle, hin⟩ := xenk_e ad 0 h
  rw [lg_entry_eq]
  have hl := lv_entry (As.map (xcv ad)) hle
  subst hsz
  refine hX p l e _ s0 m _ below meth c 0 0 _ E ad (xFr ad L.length s0.heap.size) ⟨⟨B.exec, B.bytes, hml, hown⟩, fun w hw => hts w (List.mem_cons_of_mem _ hw), hKs, ⟨Nat.le_refl _, Nat.le_refl _, Nat.zero_le _, Nat.zero_le _⟩, fun q hq => Or.inr hq, hok⟩ ?_ s0.heap [] _ ⟨hP, hD, va_S.rf, ⟨_, hl, fun i v hv => by have := hin i v hv; rw [Nat.zero_add] at this; exact this⟩, hSc, hLk⟩
  intro r s' H locs pc LS hQ hP' hS' hSc' hr
  have hlocks := B.notSynchronized
  have hret := B.returns
  have hq : ∀ t : State, t.heap = H → s0.WarmedH t.vm → xQc E ad L s0.heap.size Q ((As.map (xcv ad)).toArray) s0 (.returned (r.map (xcv ad))) t := fun t ht hW => ⟨⟨r, s', rfl, hQ, by rw [ht]; exact hP', hSc'⟩, hS'.F ht⟩
  cases r with
  | none =>
    obtain ⟨h1, h2⟩ := hr
    exact W.vret B.exec B.bytes (by rw [hret, h2]) hq (fun q hq => hS'.2.2 q hq) h1
  | some v =>
    cases v with
    | int v =>
      obtain ⟨h1, ty, h2, h3⟩ := hr
      exact W.zret B.exec B.bytes (by rw [hret, h2]) h3 hq (fun q hq => hS'.2.2 q hq) h1
    | long v =>
      obtain ⟨h1, h2⟩ := hr
      exact W.lret B.exec B.bytes (by rw [hret, h2]) hq (fun q hq => hS'.2.2 q hq) h1
    | _ => exact hr.elim
abbrev xXT : Type := Nat → xM → xQ → xLa → Nat → xLs → List Value → xS → Prop
abbrev xPT : Type := Nat → xLa → Nat → List Value → xS → xQ → Prop
/-- the rules: what the methods' proofs use, and nothing else of the machine -/
def xRl (X : xXT) (P : xPT) : Prop :=
  (∀ (d : Nat) (M : xM) (Q : xQ) (L : xLa) (pc : Nat) (ls : xLs) (st : List Value) (s : xS) (stops : List Nat) (n : Nat), xst (P d L) Q (xrn (P d L) Q (X d M Q L) L M (xin stops) n) L M pc ls st s → X d M Q L pc ls st s) ∧
  (∀ (d : Nat) (M : xM) (Q : xQ) (L : xLa) (As : List Value) (s : xS) (mL : Nat), xok M = true → M.1 < 233 → xmc M.1 = M.2.1 → (xsg M.1).2.2.1 = mL → xLok L → (xenk mL As fun ls => X d M Q L 0 ls [] s) → P (d + 1) L M.1 As s Q)
theorem xrules : xRl xX xP := by
  refine ⟨fun d M Q L pc ls st s stops n h => xst_sound (xrn_sound (xin stops) n) h, fun d M Q L As s mL h1 h2 h3 h4 h5 h6 => ?_⟩
  subst h4
  exact xP_in h1 h2 h3 h5 h6
end
